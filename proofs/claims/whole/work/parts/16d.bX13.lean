theorem dX13_book_0 : decode cX13_book 0 = .ok (.aload_n 0, 1) := by decide +kernel
theorem dX13_book_1 : decode cX13_book 1 = .ok (.iconst 0, 1) := by decide +kernel
theorem dX13_book_2 : decode cX13_book 2 = .ok (.putfield 85, 3) := by decide +kernel
theorem dX13_book_5 : decode cX13_book 5 = .ok (.iload_n 1, 1) := by decide +kernel
theorem dX13_book_6 : decode cX13_book 6 = .ok (.iconst 0, 1) := by decide +kernel
theorem dX13_book_7 : decode cX13_book 7 = .ok (.iconst 1, 1) := by decide +kernel
theorem dX13_book_8 : decode cX13_book 8 = .ok (.invokestatic 152, 3) := by decide +kernel
theorem dX13_book_11 : decode cX13_book 11 = .ok (.ifCond .ne 7, 3) := by decide +kernel
theorem dX13_book_14 : decode cX13_book 14 = .ok (.sipush (-1000), 3) := by decide +kernel
theorem dX13_book_17 : decode cX13_book 17 = .ok (.ireturn, 1) := by decide +kernel
theorem dX13_book_18 : decode cX13_book 18 = .ok (.aload_n 0, 1) := by decide +kernel
theorem dX13_book_19 : decode cX13_book 19 = .ok (.sipush 400, 3) := by decide +kernel
theorem dX13_book_22 : decode cX13_book 22 = .ok (.invokevirtual 225, 3) := by decide +kernel
theorem dX13_book_25 : decode cX13_book 25 = .ok (.aload_n 0, 1) := by decide +kernel
theorem dX13_book_26 : decode cX13_book 26 = .ok (.iconst 0, 1) := by decide +kernel
theorem dX13_book_27 : decode cX13_book 27 = .ok (.putfield 415, 3) := by decide +kernel
theorem dX13_book_30 : decode cX13_book 30 = .ok (.aload_n 0, 1) := by decide +kernel
theorem dX13_book_31 : decode cX13_book 31 = .ok (.getfield 107, 3) := by decide +kernel
theorem dX13_book_34 : decode cX13_book 34 = .ok (.ifCond .eq 31, 3) := by decide +kernel
theorem dX13_book_37 : decode cX13_book 37 = .ok (.aload_n 0, 1) := by decide +kernel
theorem dX13_book_38 : decode cX13_book 38 = .ok (.invokevirtual 421, 3) := by decide +kernel
theorem dX13_book_41 : decode cX13_book 41 = .ok (.ifCond .ne 11, 3) := by decide +kernel
theorem dX13_book_44 : decode cX13_book 44 = .ok (.bipush (-2), 2) := by decide +kernel
theorem dX13_book_46 : decode cX13_book 46 = .ok (.aload_n 0, 1) := by decide +kernel
theorem dX13_book_47 : decode cX13_book 47 = .ok (.getfield 146, 3) := by decide +kernel
theorem dX13_book_50 : decode cX13_book 50 = .ok (.isub, 1) := by decide +kernel
theorem dX13_book_51 : decode cX13_book 51 = .ok (.ireturn, 1) := by decide +kernel
theorem dX13_book_52 : decode cX13_book 52 = .ok (.aload_n 0, 1) := by decide +kernel
theorem dX13_book_53 : decode cX13_book 53 = .ok (.dup, 1) := by decide +kernel
theorem dX13_book_54 : decode cX13_book 54 = .ok (.getfield 415, 3) := by decide +kernel
theorem dX13_book_57 : decode cX13_book 57 = .ok (.iconst 1, 1) := by decide +kernel
theorem dX13_book_58 : decode cX13_book 58 = .ok (.iadd, 1) := by decide +kernel
theorem dX13_book_59 : decode cX13_book 59 = .ok (.putfield 415, 3) := by decide +kernel
theorem dX13_book_62 : decode cX13_book 62 = .ok (.goto (-32), 3) := by decide +kernel
theorem dX13_book_65 : decode cX13_book 65 = .ok (.aload_n 0, 1) := by decide +kernel
theorem dX13_book_66 : decode cX13_book 66 = .ok (.invokevirtual 332, 3) := by decide +kernel
theorem dX13_book_69 : decode cX13_book 69 = .ok (.iconst 0, 1) := by decide +kernel
theorem dX13_book_70 : decode cX13_book 70 = .ok (.istore_n 2, 1) := by decide +kernel
theorem dX13_book_71 : decode cX13_book 71 = .ok (.iconst 0, 1) := by decide +kernel
theorem dX13_book_72 : decode cX13_book 72 = .ok (.istore_n 3, 1) := by decide +kernel
theorem dX13_book_73 : decode cX13_book 73 = .ok (.iload_n 2, 1) := by decide +kernel
theorem dX13_book_74 : decode cX13_book 74 = .ok (.aload_n 0, 1) := by decide +kernel
theorem dX13_book_75 : decode cX13_book 75 = .ok (.getfield 415, 3) := by decide +kernel
theorem dX13_book_78 : decode cX13_book 78 = .ok (.if_icmp .ge 25, 3) := by decide +kernel
theorem dX13_book_81 : decode cX13_book 81 = .ok (.iload_n 3, 1) := by decide +kernel
theorem dX13_book_82 : decode cX13_book 82 = .ok (.ifCond .ne 21, 3) := by decide +kernel
theorem dX13_book_85 : decode cX13_book 85 = .ok (.aload_n 0, 1) := by decide +kernel
theorem dX13_book_86 : decode cX13_book 86 = .ok (.iconst 5, 1) := by decide +kernel
theorem dX13_book_87 : decode cX13_book 87 = .ok (.iload_n 2, 1) := by decide +kernel
theorem dX13_book_88 : decode cX13_book 88 = .ok (.imul, 1) := by decide +kernel
theorem dX13_book_89 : decode cX13_book 89 = .ok (.invokevirtual 424, 3) := by decide +kernel
theorem dX13_book_92 : decode cX13_book 92 = .ok (.istore_n 3, 1) := by decide +kernel
theorem dX13_book_93 : decode cX13_book 93 = .ok (.iload_n 3, 1) := by decide +kernel
theorem dX13_book_94 : decode cX13_book 94 = .ok (.ifCond .ne (-21), 3) := by decide +kernel
theorem dX13_book_97 : decode cX13_book 97 = .ok (.iinc 2 1, 3) := by decide +kernel
theorem dX13_book_100 : decode cX13_book 100 = .ok (.goto (-27), 3) := by decide +kernel
theorem dX13_book_103 : decode cX13_book 103 = .ok (.aload_n 0, 1) := by decide +kernel
theorem dX13_book_104 : decode cX13_book 104 = .ok (.getfield 79, 3) := by decide +kernel
theorem dX13_book_107 : decode cX13_book 107 = .ok (.iconst 0, 1) := by decide +kernel
theorem dX13_book_108 : decode cX13_book 108 = .ok (.iload_n 3, 1) := by decide +kernel
theorem dX13_book_109 : decode cX13_book 109 = .ok (.iastore, 1) := by decide +kernel
theorem dX13_book_110 : decode cX13_book 110 = .ok (.aload_n 0, 1) := by decide +kernel
theorem dX13_book_111 : decode cX13_book 111 = .ok (.getfield 79, 3) := by decide +kernel
theorem dX13_book_114 : decode cX13_book 114 = .ok (.iconst 1, 1) := by decide +kernel
theorem dX13_book_115 : decode cX13_book 115 = .ok (.iload_n 2, 1) := by decide +kernel
theorem dX13_book_116 : decode cX13_book 116 = .ok (.iastore, 1) := by decide +kernel
theorem dX13_book_117 : decode cX13_book 117 = .ok (.aload_n 0, 1) := by decide +kernel
theorem dX13_book_118 : decode cX13_book 118 = .ok (.getfield 79, 3) := by decide +kernel
theorem dX13_book_121 : decode cX13_book 121 = .ok (.iconst 2, 1) := by decide +kernel
theorem dX13_book_122 : decode cX13_book 122 = .ok (.aload_n 0, 1) := by decide +kernel
theorem dX13_book_123 : decode cX13_book 123 = .ok (.getfield 13, 3) := by decide +kernel
theorem dX13_book_126 : decode cX13_book 126 = .ok (.bipush 98, 2) := by decide +kernel
theorem dX13_book_128 : decode cX13_book 128 = .ok (.iaload, 1) := by decide +kernel
theorem dX13_book_129 : decode cX13_book 129 = .ok (.iastore, 1) := by decide +kernel
theorem dX13_book_130 : decode cX13_book 130 = .ok (.aload_n 0, 1) := by decide +kernel
theorem dX13_book_131 : decode cX13_book 131 = .ok (.getfield 79, 3) := by decide +kernel
theorem dX13_book_134 : decode cX13_book 134 = .ok (.iconst 3, 1) := by decide +kernel
theorem dX13_book_135 : decode cX13_book 135 = .ok (.aload_n 0, 1) := by decide +kernel
theorem dX13_book_136 : decode cX13_book 136 = .ok (.invokevirtual 271, 3) := by decide +kernel
theorem dX13_book_139 : decode cX13_book 139 = .ok (.iastore, 1) := by decide +kernel
theorem dX13_book_140 : decode cX13_book 140 = .ok (.aload_n 0, 1) := by decide +kernel
theorem dX13_book_141 : decode cX13_book 141 = .ok (.iconst 1, 1) := by decide +kernel
theorem dX13_book_142 : decode cX13_book 142 = .ok (.putfield 427, 3) := by decide +kernel
theorem dX13_book_145 : decode cX13_book 145 = .ok (.aload_n 0, 1) := by decide +kernel
theorem dX13_book_146 : decode cX13_book 146 = .ok (.iload_n 1, 1) := by decide +kernel
theorem dX13_book_147 : decode cX13_book 147 = .ok (.iconst 1, 1) := by decide +kernel
theorem dX13_book_148 : decode cX13_book 148 = .ok (.if_icmp .ne 11, 3) := by decide +kernel
theorem dX13_book_151 : decode cX13_book 151 = .ok (.iload_n 2, 1) := by decide +kernel
theorem dX13_book_152 : decode cX13_book 152 = .ok (.ifCond .le 7, 3) := by decide +kernel
theorem dX13_book_155 : decode cX13_book 155 = .ok (.iconst 1, 1) := by decide +kernel
theorem dX13_book_156 : decode cX13_book 156 = .ok (.goto 4, 3) := by decide +kernel
theorem dX13_book_159 : decode cX13_book 159 = .ok (.iconst 0, 1) := by decide +kernel
theorem dX13_book_160 : decode cX13_book 160 = .ok (.invokevirtual 430, 3) := by decide +kernel
theorem dX13_book_163 : decode cX13_book 163 = .ok (.iload_n 3, 1) := by decide +kernel
theorem dX13_book_164 : decode cX13_book 164 = .ok (.ifCond .ne 7, 3) := by decide +kernel
theorem dX13_book_167 : decode cX13_book 167 = .ok (.iconst (-1), 1) := by decide +kernel
theorem dX13_book_168 : decode cX13_book 168 = .ok (.goto 4, 3) := by decide +kernel
theorem dX13_book_171 : decode cX13_book 171 = .ok (.iload_n 2, 1) := by decide +kernel
theorem dX13_book_172 : decode cX13_book 172 = .ok (.ireturn, 1) := by decide +kernel
theorem bX13_book_0 {G : Gt} {d bc bs : Nat} {Q : QT} {l : Ls} {z : List Value} {h : Hp} (k : (tAld 0 (tPush (.int 0) (tPutf isI 11 0 (tIld 1 (tPush (.int 0) (tPush (.int 1) (tCS3 G d 0 0 mX13_isIn (fun l z h => T G d bc bs mX13_book 11 l z h Q)))))))) l z h) : T G d bc bs mX13_book 0 l z h Q := by
  refine R_aload_n dX13_book_0 rfl (fun l z h k => ?_) k
  refine R_iconst dX13_book_1 (by decide) (fun l z h k => ?_) k
  refine R_putf (ci := 11) (f := 0) (C := RX13) (N := 49) (Tt := TX13) tyX13 tyX13_ok nmX13 dX13_book_2 rfl i_X13 (by decide) w_1467 rfl (tyX13_ok 0 (by decide)) p_int (fun l z h k => ?_) k
  refine R_iload_n dX13_book_5 rfl (fun l z h k => ?_) k
  refine R_iconst dX13_book_6 (by decide) (fun l z h k => ?_) k
  refine R_iconst dX13_book_7 (by decide) (fun l z h k => ?_) k
  exact R_cs3 (M := mX13_book) (pc := 8) (bc := bc) (bs := bs) (cb := 0) (cs := 0) (M' := mX13_isIn) dX13_book_8 (by decide) w_1711 w_144 w_1709 w_1710 (by decide +kernel) (fun _ _ _ k => k) k
theorem bX13_book_11 {G : Gt} {d bc bs : Nat} {Q : QT} {l : Ls} {z : List Value} {h : Hp} (k : (tIf (fun x => x = 0) (fun l z h => T G d bc bs mX13_book 14 l z h Q) (fun l z h => T G d bc bs mX13_book 18 l z h Q)) l z h) : T G d bc bs mX13_book 11 l z h Q := by
  exact R_if_ne dX13_book_11 (by decide) (fun _ _ _ k => k) (fun _ _ _ k => k) k
theorem bX13_book_14 {G : Gt} {d bc bs : Nat} {Q : QT} {l : Ls} {z : List Value} {h : Hp} (k : (tPush (.int (-1000)) (tRetI Q)) l z h) : T G d bc bs mX13_book 14 l z h Q := by
  refine R_sipush dX13_book_14 (by decide) (fun l z h k => ?_) k
  exact R_iret dX13_book_17 rfl k
theorem bX13_book_18 {G : Gt} {d bc bs : Nat} {Q : QT} {l : Ls} {z : List Value} {h : Hp} (k : (tAld 0 (tPush (.int 400) (tCV1 G d 0 0 11 mX13_begin (fun l z h => T G d bc bs mX13_book 25 l z h Q)))) l z h) : T G d bc bs mX13_book 18 l z h Q := by
  refine R_aload_n dX13_book_18 rfl (fun l z h k => ?_) k
  refine R_sipush dX13_book_19 (by decide) (fun l z h k => ?_) k
  exact R_cv1 (M := mX13_book) (pc := 22) (bc := bc) (bs := bs) (cb := 0) (cs := 0) (M' := mX13_begin) dX13_book_22 rfl (by decide) w_1639 w_144 w_1636 w_1638 w_45 (by decide +kernel) (fun _ _ _ k => k) k
theorem bX13_book_25 {G : Gt} {d bc bs : Nat} {Q : QT} {l : Ls} {z : List Value} {h : Hp} (k : (tAld 0 (tPush (.int 0) (tPutf isI 11 42 ((fun l z h => T G d bc bs mX13_book 30 l z h Q))))) l z h) : T G d bc bs mX13_book 25 l z h Q := by
  refine R_aload_n dX13_book_25 rfl (fun l z h k => ?_) k
  refine R_iconst dX13_book_26 (by decide) (fun l z h k => ?_) k
  refine R_putf (ci := 11) (f := 42) (C := RX13) (N := 49) (Tt := TX13) tyX13 tyX13_ok nmX13 dX13_book_27 rfl i_X13 (by decide) w_1509 rfl (tyX13_ok 42 (by decide)) p_int (fun l z h k => ?_) k
  exact k
theorem bX13_book_30 {G : Gt} {d bc bs : Nat} {Q : QT} {l : Ls} {z : List Value} {h : Hp} (k : (tAld 0 (tGetf 11 7 (tIf (fun x => x = 0) (fun l z h => T G d bc bs mX13_book 65 l z h Q) (fun l z h => T G d bc bs mX13_book 37 l z h Q)))) l z h) : T G d bc bs mX13_book 30 l z h Q := by
  refine R_aload_n dX13_book_30 rfl (fun l z h k => ?_) k
  refine R_getf (ci := 11) (f := 7) (C := RX13) (N := 49) (Tt := TX13) dX13_book_31 rfl i_X13 (by decide) w_1474 (fun l z h k => ?_) k
  exact R_if_eq dX13_book_34 (by decide) (fun _ _ _ k => k) (fun _ _ _ k => k) k
theorem bX13_book_37 {G : Gt} {d bc bs : Nat} {Q : QT} {l : Ls} {z : List Value} {h : Hp} (k : (tAld 0 (tCV0 G d 0 0 11 mX13_readBookLine (fun l z h => T G d bc bs mX13_book 41 l z h Q))) l z h) : T G d bc bs mX13_book 37 l z h Q := by
  refine R_aload_n dX13_book_37 rfl (fun l z h k => ?_) k
  exact R_cv0 (M := mX13_book) (pc := 38) (bc := bc) (bs := bs) (cb := 0) (cs := 0) (M' := mX13_readBookLine) dX13_book_38 rfl (by decide) w_2064 w_144 w_2061 w_2063 w_112 (by decide +kernel) (fun _ _ _ k => k) k
theorem bX13_book_41 {G : Gt} {d bc bs : Nat} {Q : QT} {l : Ls} {z : List Value} {h : Hp} (k : (tIf (fun x => x = 0) (fun l z h => T G d bc bs mX13_book 44 l z h Q) (fun l z h => T G d bc bs mX13_book 52 l z h Q)) l z h) : T G d bc bs mX13_book 41 l z h Q := by
  exact R_if_ne dX13_book_41 (by decide) (fun _ _ _ k => k) (fun _ _ _ k => k) k
theorem bX13_book_44 {G : Gt} {d bc bs : Nat} {Q : QT} {l : Ls} {z : List Value} {h : Hp} (k : (tPush (.int (-2)) (tAld 0 (tGetf 11 11 (tB (fun x y => x - y) (tRetI Q))))) l z h) : T G d bc bs mX13_book 44 l z h Q := by
  refine R_bipush dX13_book_44 (by decide) (fun l z h k => ?_) k
  refine R_aload_n dX13_book_46 rfl (fun l z h k => ?_) k
  refine R_getf (ci := 11) (f := 11) (C := RX13) (N := 49) (Tt := TX13) dX13_book_47 rfl i_X13 (by decide) w_1478 (fun l z h k => ?_) k
  refine R_isub dX13_book_50 (fun l z h k => ?_) k
  exact R_iret dX13_book_51 rfl k
theorem bX13_book_52 {G : Gt} {d bc bs : Nat} {Q : QT} {l : Ls} {z : List Value} {h : Hp} (k : (tAld 0 (tDup (tGetf 11 42 (tPush (.int 1) (tB (fun x y => x + y) (tPutf isI 11 42 ((fun l z h => T G d bc bs mX13_book 30 l z h Q)))))))) l z h) : T G d bc bs mX13_book 52 l z h Q := by
  refine R_aload_n dX13_book_52 rfl (fun l z h k => ?_) k
  refine R_dup dX13_book_53 (fun l z h k => ?_) k
  refine R_getf (ci := 11) (f := 42) (C := RX13) (N := 49) (Tt := TX13) dX13_book_54 rfl i_X13 (by decide) w_1509 (fun l z h k => ?_) k
  refine R_iconst dX13_book_57 (by decide) (fun l z h k => ?_) k
  refine R_iadd dX13_book_58 (fun l z h k => ?_) k
  refine R_putf (ci := 11) (f := 42) (C := RX13) (N := 49) (Tt := TX13) tyX13 tyX13_ok nmX13 dX13_book_59 rfl i_X13 (by decide) w_1509 rfl (tyX13_ok 42 (by decide)) p_int (fun l z h k => ?_) k
  exact R_goto dX13_book_62 (by decide) (fun _ _ _ k => k) k
theorem bX13_book_65 {G : Gt} {d bc bs : Nat} {Q : QT} {l : Ls} {z : List Value} {h : Hp} (k : (tAld 0 (tCV0 G d 0 0 11 mX13_layAside (fun l z h => T G d bc bs mX13_book 69 l z h Q))) l z h) : T G d bc bs mX13_book 65 l z h Q := by
  refine R_aload_n dX13_book_65 rfl (fun l z h k => ?_) k
  exact R_cv0 (M := mX13_book) (pc := 66) (bc := bc) (bs := bs) (cb := 0) (cs := 0) (M' := mX13_layAside) dX13_book_66 rfl (by decide) w_1937 w_144 w_1934 w_1936 w_97 (by decide +kernel) (fun _ _ _ k => k) k
theorem bX13_book_69 {G : Gt} {d bc bs : Nat} {Q : QT} {l : Ls} {z : List Value} {h : Hp} (k : (tPush (.int 0) (tIst 2 (tPush (.int 0) (tIst 3 ((fun l z h => T G d bc bs mX13_book 73 l z h Q)))))) l z h) : T G d bc bs mX13_book 69 l z h Q := by
  refine R_iconst dX13_book_69 (by decide) (fun l z h k => ?_) k
  refine R_istore_n dX13_book_70 rfl (by decide) (fun l z h k => ?_) k
  refine R_iconst dX13_book_71 (by decide) (fun l z h k => ?_) k
  refine R_istore_n dX13_book_72 rfl (by decide) (fun l z h k => ?_) k
  exact k
theorem bX13_book_73 {G : Gt} {d bc bs : Nat} {Q : QT} {l : Ls} {z : List Value} {h : Hp} (k : (tIld 2 (tAld 0 (tGetf 11 42 (tIf2 (fun x y => y ≤ x) (fun l z h => T G d bc bs mX13_book 103 l z h Q) (fun l z h => T G d bc bs mX13_book 81 l z h Q))))) l z h) : T G d bc bs mX13_book 73 l z h Q := by
  refine R_iload_n dX13_book_73 rfl (fun l z h k => ?_) k
  refine R_aload_n dX13_book_74 rfl (fun l z h k => ?_) k
  refine R_getf (ci := 11) (f := 42) (C := RX13) (N := 49) (Tt := TX13) dX13_book_75 rfl i_X13 (by decide) w_1509 (fun l z h k => ?_) k
  exact R_icmp_ge dX13_book_78 (by decide) (fun _ _ _ k => k) (fun _ _ _ k => k) k
theorem bX13_book_81 {G : Gt} {d bc bs : Nat} {Q : QT} {l : Ls} {z : List Value} {h : Hp} (k : (tIld 3 (tIf (fun x => x = 0) (fun l z h => T G d bc bs mX13_book 85 l z h Q) (fun l z h => T G d bc bs mX13_book 103 l z h Q))) l z h) : T G d bc bs mX13_book 81 l z h Q := by
  refine R_iload_n dX13_book_81 rfl (fun l z h k => ?_) k
  exact R_if_ne dX13_book_82 (by decide) (fun _ _ _ k => k) (fun _ _ _ k => k) k
theorem bX13_book_85 {G : Gt} {d bc bs : Nat} {Q : QT} {l : Ls} {z : List Value} {h : Hp} (k : (tAld 0 (tPush (.int 5) (tIld 2 (tB (fun x y => x * y) (tCV1 G d 0 0 11 mX13_goBy (fun l z h => T G d bc bs mX13_book 92 l z h Q)))))) l z h) : T G d bc bs mX13_book 85 l z h Q := by
  refine R_aload_n dX13_book_85 rfl (fun l z h k => ?_) k
  refine R_iconst dX13_book_86 (by decide) (fun l z h k => ?_) k
  refine R_iload_n dX13_book_87 rfl (fun l z h k => ?_) k
  refine R_imul dX13_book_88 (fun l z h k => ?_) k
  exact R_cv1 (M := mX13_book) (pc := 89) (bc := bc) (bs := bs) (cb := 0) (cs := 0) (M' := mX13_goBy) dX13_book_89 rfl (by decide) w_2088 w_144 w_2085 w_2087 w_118 (by decide +kernel) (fun _ _ _ k => k) k
theorem bX13_book_92 {G : Gt} {d bc bs : Nat} {Q : QT} {l : Ls} {z : List Value} {h : Hp} (k : (tIst 3 (tIld 3 (tIf (fun x => x = 0) (fun l z h => T G d bc bs mX13_book 97 l z h Q) (fun l z h => T G d bc bs mX13_book 73 l z h Q)))) l z h) : T G d bc bs mX13_book 92 l z h Q := by
  refine R_istore_n dX13_book_92 rfl (by decide) (fun l z h k => ?_) k
  refine R_iload_n dX13_book_93 rfl (fun l z h k => ?_) k
  exact R_if_ne dX13_book_94 (by decide) (fun _ _ _ k => k) (fun _ _ _ k => k) k
theorem bX13_book_97 {G : Gt} {d bc bs : Nat} {Q : QT} {l : Ls} {z : List Value} {h : Hp} (k : (tInc 2 1 ((fun l z h => T G d bc bs mX13_book 73 l z h Q))) l z h) : T G d bc bs mX13_book 97 l z h Q := by
  refine R_iinc dX13_book_97 (by decide) (by decide) (fun l z h k => ?_) k
  exact R_goto dX13_book_100 (by decide) (fun _ _ _ k => k) k
theorem bX13_book_103 {G : Gt} {d bc bs : Nat} {Q : QT} {l : Ls} {z : List Value} {h : Hp} (k : (tAld 0 (tGetf 11 41 (tPush (.int 0) (tIld 3 (tXast 0 (tAld 0 (tGetf 11 41 (tPush (.int 1) (tIld 2 (tXast 0 (tAld 0 (tGetf 11 41 (tPush (.int 2) (tAld 0 (tGetf 11 14 (tPush (.int 98) (tXald 0 (tXast 0 (tAld 0 (tGetf 11 41 (tPush (.int 3) (tAld 0 (tCV0 G d 0 0 11 mX13_payers (fun l z h => T G d bc bs mX13_book 139 l z h Q)))))))))))))))))))))))) l z h) : T G d bc bs mX13_book 103 l z h Q := by
  refine R_aload_n dX13_book_103 rfl (fun l z h k => ?_) k
  refine R_getf (ci := 11) (f := 41) (C := RX13) (N := 49) (Tt := TX13) dX13_book_104 rfl i_X13 (by decide) w_1508 (fun l z h k => ?_) k
  refine R_iconst dX13_book_107 (by decide) (fun l z h k => ?_) k
  refine R_iload_n dX13_book_108 rfl (fun l z h k => ?_) k
  refine R_iastore dX13_book_109 (fun l z h k => ?_) k
  refine R_aload_n dX13_book_110 rfl (fun l z h k => ?_) k
  refine R_getf (ci := 11) (f := 41) (C := RX13) (N := 49) (Tt := TX13) dX13_book_111 rfl i_X13 (by decide) w_1508 (fun l z h k => ?_) k
  refine R_iconst dX13_book_114 (by decide) (fun l z h k => ?_) k
  refine R_iload_n dX13_book_115 rfl (fun l z h k => ?_) k
  refine R_iastore dX13_book_116 (fun l z h k => ?_) k
  refine R_aload_n dX13_book_117 rfl (fun l z h k => ?_) k
  refine R_getf (ci := 11) (f := 41) (C := RX13) (N := 49) (Tt := TX13) dX13_book_118 rfl i_X13 (by decide) w_1508 (fun l z h k => ?_) k
  refine R_iconst dX13_book_121 (by decide) (fun l z h k => ?_) k
  refine R_aload_n dX13_book_122 rfl (fun l z h k => ?_) k
  refine R_getf (ci := 11) (f := 14) (C := RX13) (N := 49) (Tt := TX13) dX13_book_123 rfl i_X13 (by decide) w_1481 (fun l z h k => ?_) k
  refine R_bipush dX13_book_126 (by decide) (fun l z h k => ?_) k
  refine R_iaload dX13_book_128 (fun l z h k => ?_) k
  refine R_iastore dX13_book_129 (fun l z h k => ?_) k
  refine R_aload_n dX13_book_130 rfl (fun l z h k => ?_) k
  refine R_getf (ci := 11) (f := 41) (C := RX13) (N := 49) (Tt := TX13) dX13_book_131 rfl i_X13 (by decide) w_1508 (fun l z h k => ?_) k
  refine R_iconst dX13_book_134 (by decide) (fun l z h k => ?_) k
  refine R_aload_n dX13_book_135 rfl (fun l z h k => ?_) k
  exact R_cv0 (M := mX13_book) (pc := 136) (bc := bc) (bs := bs) (cb := 0) (cs := 0) (M' := mX13_payers) dX13_book_136 rfl (by decide) w_1811 w_144 w_1808 w_1810 w_77 (by decide +kernel) (fun _ _ _ k => k) k
theorem bX13_book_139 {G : Gt} {d bc bs : Nat} {Q : QT} {l : Ls} {z : List Value} {h : Hp} (k : (tXast 0 (tAld 0 (tPush (.int 1) (tPutf isZ 11 43 (tAld 0 (tIld 1 (tPush (.int 1) (tIf2 (fun x y => x = y) (fun l z h => T G d bc bs mX13_book 151 l z h Q) (fun l z h => T G d bc bs mX13_book 159 l z h Q))))))))) l z h) : T G d bc bs mX13_book 139 l z h Q := by
  refine R_iastore dX13_book_139 (fun l z h k => ?_) k
  refine R_aload_n dX13_book_140 rfl (fun l z h k => ?_) k
  refine R_iconst dX13_book_141 (by decide) (fun l z h k => ?_) k
  refine R_putf (ci := 11) (f := 43) (C := RX13) (N := 49) (Tt := TX13) tyX13 tyX13_ok nmX13 dX13_book_142 rfl i_X13 (by decide) w_1510 rfl (tyX13_ok 43 (by decide)) p_bool (fun l z h k => ?_) k
  refine R_aload_n dX13_book_145 rfl (fun l z h k => ?_) k
  refine R_iload_n dX13_book_146 rfl (fun l z h k => ?_) k
  refine R_iconst dX13_book_147 (by decide) (fun l z h k => ?_) k
  exact R_icmp_ne dX13_book_148 (by decide) (fun _ _ _ k => k) (fun _ _ _ k => k) k
theorem bX13_book_151 {G : Gt} {d bc bs : Nat} {Q : QT} {l : Ls} {z : List Value} {h : Hp} (k : (tIld 2 (tIf (fun x => x ≤ 0) (fun l z h => T G d bc bs mX13_book 159 l z h Q) (fun l z h => T G d bc bs mX13_book 155 l z h Q))) l z h) : T G d bc bs mX13_book 151 l z h Q := by
  refine R_iload_n dX13_book_151 rfl (fun l z h k => ?_) k
  exact R_if_le dX13_book_152 (by decide) (fun _ _ _ k => k) (fun _ _ _ k => k) k
theorem bX13_book_155 {G : Gt} {d bc bs : Nat} {Q : QT} {l : Ls} {z : List Value} {h : Hp} (k : (tPush (.int 1) ((fun l z h => T G d bc bs mX13_book 160 l z h Q))) l z h) : T G d bc bs mX13_book 155 l z h Q := by
  refine R_iconst dX13_book_155 (by decide) (fun l z h k => ?_) k
  exact R_goto dX13_book_156 (by decide) (fun _ _ _ k => k) k
theorem bX13_book_159 {G : Gt} {d bc bs : Nat} {Q : QT} {l : Ls} {z : List Value} {h : Hp} (k : (tPush (.int 0) ((fun l z h => T G d bc bs mX13_book 160 l z h Q))) l z h) : T G d bc bs mX13_book 159 l z h Q := by
  refine R_iconst dX13_book_159 (by decide) (fun l z h k => ?_) k
  exact k
theorem bX13_book_160 {G : Gt} {d bc bs : Nat} {Q : QT} {l : Ls} {z : List Value} {h : Hp} (k : (tCV1 G d 0 0 11 mX13_stay (fun l z h => T G d bc bs mX13_book 163 l z h Q)) l z h) : T G d bc bs mX13_book 160 l z h Q := by
  exact R_cv1 (M := mX13_book) (pc := 160) (bc := bc) (bs := bs) (cb := 0) (cs := 0) (M' := mX13_stay) dX13_book_160 rfl (by decide) w_2092 w_144 w_2089 w_2091 w_119 (by decide +kernel) (fun _ _ _ k => k) k
theorem bX13_book_163 {G : Gt} {d bc bs : Nat} {Q : QT} {l : Ls} {z : List Value} {h : Hp} (k : (tIld 3 (tIf (fun x => x = 0) (fun l z h => T G d bc bs mX13_book 167 l z h Q) (fun l z h => T G d bc bs mX13_book 171 l z h Q))) l z h) : T G d bc bs mX13_book 163 l z h Q := by
  refine R_iload_n dX13_book_163 rfl (fun l z h k => ?_) k
  exact R_if_ne dX13_book_164 (by decide) (fun _ _ _ k => k) (fun _ _ _ k => k) k
theorem bX13_book_167 {G : Gt} {d bc bs : Nat} {Q : QT} {l : Ls} {z : List Value} {h : Hp} (k : (tPush (.int (-1)) ((fun l z h => T G d bc bs mX13_book 172 l z h Q))) l z h) : T G d bc bs mX13_book 167 l z h Q := by
  refine R_iconst dX13_book_167 (by decide) (fun l z h k => ?_) k
  exact R_goto dX13_book_168 (by decide) (fun _ _ _ k => k) k
theorem bX13_book_171 {G : Gt} {d bc bs : Nat} {Q : QT} {l : Ls} {z : List Value} {h : Hp} (k : (tIld 2 ((fun l z h => T G d bc bs mX13_book 172 l z h Q))) l z h) : T G d bc bs mX13_book 171 l z h Q := by
  refine R_iload_n dX13_book_171 rfl (fun l z h k => ?_) k
  exact k
theorem bX13_book_172 {G : Gt} {d bc bs : Nat} {Q : QT} {l : Ls} {z : List Value} {h : Hp} (k : (tRetI Q) l z h) : T G d bc bs mX13_book 172 l z h Q := by
  exact R_iret dX13_book_172 rfl k
theorem dX13_stay_0 : decode cX13_stay 0 = .ok (.iconst 0, 1) := by decide +kernel
theorem dX13_stay_1 : decode cX13_stay 1 = .ok (.istore_n 2, 1) := by decide +kernel
theorem dX13_stay_2 : decode cX13_stay 2 = .ok (.iload_n 2, 1) := by decide +kernel
theorem dX13_stay_3 : decode cX13_stay 3 = .ok (.bipush 93, 2) := by decide +kernel
theorem dX13_stay_5 : decode cX13_stay 5 = .ok (.if_icmp .ge 41, 3) := by decide +kernel
theorem dX13_stay_8 : decode cX13_stay 8 = .ok (.aload_n 0, 1) := by decide +kernel
theorem dX13_stay_9 : decode cX13_stay 9 = .ok (.getfield 13, 3) := by decide +kernel
theorem dX13_stay_12 : decode cX13_stay 12 = .ok (.bipush 98, 2) := by decide +kernel
theorem dX13_stay_14 : decode cX13_stay 14 = .ok (.iload_n 2, 1) := by decide +kernel
theorem dX13_stay_15 : decode cX13_stay 15 = .ok (.iadd, 1) := by decide +kernel
theorem dX13_stay_16 : decode cX13_stay 16 = .ok (.iaload, 1) := by decide +kernel
theorem dX13_stay_17 : decode cX13_stay 17 = .ok (.istore_n 3, 1) := by decide +kernel
theorem dX13_stay_18 : decode cX13_stay 18 = .ok (.aload_n 0, 1) := by decide +kernel
theorem dX13_stay_19 : decode cX13_stay 19 = .ok (.getfield 13, 3) := by decide +kernel
theorem dX13_stay_22 : decode cX13_stay 22 = .ok (.bipush 98, 2) := by decide +kernel
theorem dX13_stay_24 : decode cX13_stay 24 = .ok (.iload_n 2, 1) := by decide +kernel
theorem dX13_stay_25 : decode cX13_stay 25 = .ok (.iadd, 1) := by decide +kernel
theorem dX13_stay_26 : decode cX13_stay 26 = .ok (.aload_n 0, 1) := by decide +kernel
theorem dX13_stay_27 : decode cX13_stay 27 = .ok (.getfield 25, 3) := by decide +kernel
theorem dX13_stay_30 : decode cX13_stay 30 = .ok (.iload_n 2, 1) := by decide +kernel
theorem dX13_stay_31 : decode cX13_stay 31 = .ok (.iaload, 1) := by decide +kernel
theorem dX13_stay_32 : decode cX13_stay 32 = .ok (.iastore, 1) := by decide +kernel
theorem dX13_stay_33 : decode cX13_stay 33 = .ok (.aload_n 0, 1) := by decide +kernel
theorem dX13_stay_34 : decode cX13_stay 34 = .ok (.getfield 25, 3) := by decide +kernel
theorem dX13_stay_37 : decode cX13_stay 37 = .ok (.iload_n 2, 1) := by decide +kernel
theorem dX13_stay_38 : decode cX13_stay 38 = .ok (.iload_n 3, 1) := by decide +kernel
theorem dX13_stay_39 : decode cX13_stay 39 = .ok (.iastore, 1) := by decide +kernel
theorem dX13_stay_40 : decode cX13_stay 40 = .ok (.iinc 2 1, 3) := by decide +kernel
theorem dX13_stay_43 : decode cX13_stay 43 = .ok (.goto (-41), 3) := by decide +kernel
theorem dX13_stay_46 : decode cX13_stay 46 = .ok (.iload_n 1, 1) := by decide +kernel
theorem dX13_stay_47 : decode cX13_stay 47 = .ok (.ifCond .ne 4, 3) := by decide +kernel
theorem dX13_stay_50 : decode cX13_stay 50 = .ok (.return_, 1) := by decide +kernel
theorem dX13_stay_51 : decode cX13_stay 51 = .ok (.aload_n 0, 1) := by decide +kernel
theorem dX13_stay_52 : decode cX13_stay 52 = .ok (.invokevirtual 301, 3) := by decide +kernel
theorem dX13_stay_55 : decode cX13_stay 55 = .ok (.aload_n 0, 1) := by decide +kernel
theorem dX13_stay_56 : decode cX13_stay 56 = .ok (.invokevirtual 335, 3) := by decide +kernel
theorem dX13_stay_59 : decode cX13_stay 59 = .ok (.return_, 1) := by decide +kernel
theorem bX13_stay_0 {G : Gt} {d bc bs : Nat} {Q : QT} {l : Ls} {z : List Value} {h : Hp} (k : (tPush (.int 0) (tIst 2 ((fun l z h => T G d bc bs mX13_stay 2 l z h Q)))) l z h) : T G d bc bs mX13_stay 0 l z h Q := by
  refine R_iconst dX13_stay_0 (by decide) (fun l z h k => ?_) k
  refine R_istore_n dX13_stay_1 rfl (by decide) (fun l z h k => ?_) k
  exact k
theorem bX13_stay_2 {G : Gt} {d bc bs : Nat} {Q : QT} {l : Ls} {z : List Value} {h : Hp} (k : (tIld 2 (tPush (.int 93) (tIf2 (fun x y => y ≤ x) (fun l z h => T G d bc bs mX13_stay 46 l z h Q) (fun l z h => T G d bc bs mX13_stay 8 l z h Q)))) l z h) : T G d bc bs mX13_stay 2 l z h Q := by
  refine R_iload_n dX13_stay_2 rfl (fun l z h k => ?_) k
  refine R_bipush dX13_stay_3 (by decide) (fun l z h k => ?_) k
  exact R_icmp_ge dX13_stay_5 (by decide) (fun _ _ _ k => k) (fun _ _ _ k => k) k
theorem bX13_stay_8 {G : Gt} {d bc bs : Nat} {Q : QT} {l : Ls} {z : List Value} {h : Hp} (k : (tAld 0 (tGetf 11 14 (tPush (.int 98) (tIld 2 (tB (fun x y => x + y) (tXald 0 (tIst 3 (tAld 0 (tGetf 11 14 (tPush (.int 98) (tIld 2 (tB (fun x y => x + y) (tAld 0 (tGetf 11 18 (tIld 2 (tXald 0 (tXast 0 (tAld 0 (tGetf 11 18 (tIld 2 (tIld 3 (tXast 0 (tInc 2 1 ((fun l z h => T G d bc bs mX13_stay 2 l z h Q))))))))))))))))))))))))) l z h) : T G d bc bs mX13_stay 8 l z h Q := by
  refine R_aload_n dX13_stay_8 rfl (fun l z h k => ?_) k
  refine R_getf (ci := 11) (f := 14) (C := RX13) (N := 49) (Tt := TX13) dX13_stay_9 rfl i_X13 (by decide) w_1481 (fun l z h k => ?_) k
  refine R_bipush dX13_stay_12 (by decide) (fun l z h k => ?_) k
  refine R_iload_n dX13_stay_14 rfl (fun l z h k => ?_) k
  refine R_iadd dX13_stay_15 (fun l z h k => ?_) k
  refine R_iaload dX13_stay_16 (fun l z h k => ?_) k
  refine R_istore_n dX13_stay_17 rfl (by decide) (fun l z h k => ?_) k
  refine R_aload_n dX13_stay_18 rfl (fun l z h k => ?_) k
  refine R_getf (ci := 11) (f := 14) (C := RX13) (N := 49) (Tt := TX13) dX13_stay_19 rfl i_X13 (by decide) w_1481 (fun l z h k => ?_) k
  refine R_bipush dX13_stay_22 (by decide) (fun l z h k => ?_) k
  refine R_iload_n dX13_stay_24 rfl (fun l z h k => ?_) k
  refine R_iadd dX13_stay_25 (fun l z h k => ?_) k
  refine R_aload_n dX13_stay_26 rfl (fun l z h k => ?_) k
  refine R_getf (ci := 11) (f := 18) (C := RX13) (N := 49) (Tt := TX13) dX13_stay_27 rfl i_X13 (by decide) w_1485 (fun l z h k => ?_) k
  refine R_iload_n dX13_stay_30 rfl (fun l z h k => ?_) k
  refine R_iaload dX13_stay_31 (fun l z h k => ?_) k
  refine R_iastore dX13_stay_32 (fun l z h k => ?_) k
  refine R_aload_n dX13_stay_33 rfl (fun l z h k => ?_) k
  refine R_getf (ci := 11) (f := 18) (C := RX13) (N := 49) (Tt := TX13) dX13_stay_34 rfl i_X13 (by decide) w_1485 (fun l z h k => ?_) k
  refine R_iload_n dX13_stay_37 rfl (fun l z h k => ?_) k
  refine R_iload_n dX13_stay_38 rfl (fun l z h k => ?_) k
  refine R_iastore dX13_stay_39 (fun l z h k => ?_) k
  refine R_iinc dX13_stay_40 (by decide) (by decide) (fun l z h k => ?_) k
  exact R_goto dX13_stay_43 (by decide) (fun _ _ _ k => k) k
theorem bX13_stay_46 {G : Gt} {d bc bs : Nat} {Q : QT} {l : Ls} {z : List Value} {h : Hp} (k : (tIld 1 (tIf (fun x => x = 0) (fun l z h => T G d bc bs mX13_stay 50 l z h Q) (fun l z h => T G d bc bs mX13_stay 51 l z h Q))) l z h) : T G d bc bs mX13_stay 46 l z h Q := by
  refine R_iload_n dX13_stay_46 rfl (fun l z h k => ?_) k
  exact R_if_ne dX13_stay_47 (by decide) (fun _ _ _ k => k) (fun _ _ _ k => k) k
theorem bX13_stay_50 {G : Gt} {d bc bs : Nat} {Q : QT} {l : Ls} {z : List Value} {h : Hp} (k : (tRetV Q) l z h) : T G d bc bs mX13_stay 50 l z h Q := by
  exact R_vret dX13_stay_50 rfl k
theorem bX13_stay_51 {G : Gt} {d bc bs : Nat} {Q : QT} {l : Ls} {z : List Value} {h : Hp} (k : (tAld 0 (tCV0 G d 0 0 11 mX13_snap (fun l z h => T G d bc bs mX13_stay 55 l z h Q))) l z h) : T G d bc bs mX13_stay 51 l z h Q := by
  refine R_aload_n dX13_stay_51 rfl (fun l z h k => ?_) k
  exact R_cv0 (M := mX13_stay) (pc := 52) (bc := bc) (bs := bs) (cb := 0) (cs := 0) (M' := mX13_snap) dX13_stay_52 rfl (by decide) w_1850 w_144 w_1847 w_1849 w_85 (by decide +kernel) (fun _ _ _ k => k) k
theorem bX13_stay_55 {G : Gt} {d bc bs : Nat} {Q : QT} {l : Ls} {z : List Value} {h : Hp} (k : (tAld 0 (tCV0 G d 0 0 11 mX13_takeBack (fun l z h => T G d bc bs mX13_stay 59 l z h Q))) l z h) : T G d bc bs mX13_stay 55 l z h Q := by
  refine R_aload_n dX13_stay_55 rfl (fun l z h k => ?_) k
  exact R_cv0 (M := mX13_stay) (pc := 56) (bc := bc) (bs := bs) (cb := 0) (cs := 0) (M' := mX13_takeBack) dX13_stay_56 rfl (by decide) w_1941 w_144 w_1938 w_1940 w_98 (by decide +kernel) (fun _ _ _ k => k) k
theorem bX13_stay_59 {G : Gt} {d bc bs : Nat} {Q : QT} {l : Ls} {z : List Value} {h : Hp} (k : (tRetV Q) l z h) : T G d bc bs mX13_stay 59 l z h Q := by
  exact R_vret dX13_stay_59 rfl k
theorem dX13_told_0 : decode cX13_told 0 = .ok (.aload_n 0, 1) := by decide +kernel
theorem dX13_told_1 : decode cX13_told 1 = .ok (.iconst 0, 1) := by decide +kernel
theorem dX13_told_2 : decode cX13_told 2 = .ok (.putfield 85, 3) := by decide +kernel
theorem dX13_told_5 : decode cX13_told 5 = .ok (.aload_n 0, 1) := by decide +kernel
theorem dX13_told_6 : decode cX13_told 6 = .ok (.getfield 427, 3) := by decide +kernel
theorem dX13_told_9 : decode cX13_told 9 = .ok (.ifCond .eq 21, 3) := by decide +kernel
theorem dX13_told_12 : decode cX13_told 12 = .ok (.iload_n 1, 1) := by decide +kernel
theorem dX13_told_13 : decode cX13_told 13 = .ok (.iconst 0, 1) := by decide +kernel
theorem dX13_told_14 : decode cX13_told 14 = .ok (.iconst 3, 1) := by decide +kernel
theorem dX13_told_15 : decode cX13_told 15 = .ok (.invokestatic 152, 3) := by decide +kernel
theorem dX13_told_18 : decode cX13_told 18 = .ok (.ifCond .eq 12, 3) := by decide +kernel
theorem dX13_told_21 : decode cX13_told 21 = .ok (.aload_n 0, 1) := by decide +kernel
theorem dX13_told_22 : decode cX13_told 22 = .ok (.getfield 79, 3) := by decide +kernel
theorem dX13_told_25 : decode cX13_told 25 = .ok (.iload_n 1, 1) := by decide +kernel
theorem dX13_told_26 : decode cX13_told 26 = .ok (.iaload, 1) := by decide +kernel
theorem dX13_told_27 : decode cX13_told 27 = .ok (.goto 4, 3) := by decide +kernel
theorem dX13_told_30 : decode cX13_told 30 = .ok (.iconst (-1), 1) := by decide +kernel
theorem dX13_told_31 : decode cX13_told 31 = .ok (.ireturn, 1) := by decide +kernel
theorem bX13_told_0 {G : Gt} {d bc bs : Nat} {Q : QT} {l : Ls} {z : List Value} {h : Hp} (k : (tAld 0 (tPush (.int 0) (tPutf isI 11 0 (tAld 0 (tGetf 11 43 (tIf (fun x => x = 0) (fun l z h => T G d bc bs mX13_told 30 l z h Q) (fun l z h => T G d bc bs mX13_told 12 l z h Q))))))) l z h) : T G d bc bs mX13_told 0 l z h Q := by
  refine R_aload_n dX13_told_0 rfl (fun l z h k => ?_) k
  refine R_iconst dX13_told_1 (by decide) (fun l z h k => ?_) k
  refine R_putf (ci := 11) (f := 0) (C := RX13) (N := 49) (Tt := TX13) tyX13 tyX13_ok nmX13 dX13_told_2 rfl i_X13 (by decide) w_1467 rfl (tyX13_ok 0 (by decide)) p_int (fun l z h k => ?_) k
  refine R_aload_n dX13_told_5 rfl (fun l z h k => ?_) k
  refine R_getf (ci := 11) (f := 43) (C := RX13) (N := 49) (Tt := TX13) dX13_told_6 rfl i_X13 (by decide) w_1510 (fun l z h k => ?_) k
  exact R_if_eq dX13_told_9 (by decide) (fun _ _ _ k => k) (fun _ _ _ k => k) k
theorem bX13_told_12 {G : Gt} {d bc bs : Nat} {Q : QT} {l : Ls} {z : List Value} {h : Hp} (k : (tIld 1 (tPush (.int 0) (tPush (.int 3) (tCS3 G d 0 0 mX13_isIn (fun l z h => T G d bc bs mX13_told 18 l z h Q))))) l z h) : T G d bc bs mX13_told 12 l z h Q := by
  refine R_iload_n dX13_told_12 rfl (fun l z h k => ?_) k
  refine R_iconst dX13_told_13 (by decide) (fun l z h k => ?_) k
  refine R_iconst dX13_told_14 (by decide) (fun l z h k => ?_) k
  exact R_cs3 (M := mX13_told) (pc := 15) (bc := bc) (bs := bs) (cb := 0) (cs := 0) (M' := mX13_isIn) dX13_told_15 (by decide) w_1711 w_144 w_1709 w_1710 (by decide +kernel) (fun _ _ _ k => k) k
theorem bX13_told_18 {G : Gt} {d bc bs : Nat} {Q : QT} {l : Ls} {z : List Value} {h : Hp} (k : (tIf (fun x => x = 0) (fun l z h => T G d bc bs mX13_told 30 l z h Q) (fun l z h => T G d bc bs mX13_told 21 l z h Q)) l z h) : T G d bc bs mX13_told 18 l z h Q := by
  exact R_if_eq dX13_told_18 (by decide) (fun _ _ _ k => k) (fun _ _ _ k => k) k
theorem bX13_told_21 {G : Gt} {d bc bs : Nat} {Q : QT} {l : Ls} {z : List Value} {h : Hp} (k : (tAld 0 (tGetf 11 41 (tIld 1 (tXald 0 ((fun l z h => T G d bc bs mX13_told 31 l z h Q)))))) l z h) : T G d bc bs mX13_told 21 l z h Q := by
  refine R_aload_n dX13_told_21 rfl (fun l z h k => ?_) k
  refine R_getf (ci := 11) (f := 41) (C := RX13) (N := 49) (Tt := TX13) dX13_told_22 rfl i_X13 (by decide) w_1508 (fun l z h k => ?_) k
  refine R_iload_n dX13_told_25 rfl (fun l z h k => ?_) k
  refine R_iaload dX13_told_26 (fun l z h k => ?_) k
  exact R_goto dX13_told_27 (by decide) (fun _ _ _ k => k) k
theorem bX13_told_30 {G : Gt} {d bc bs : Nat} {Q : QT} {l : Ls} {z : List Value} {h : Hp} (k : (tPush (.int (-1)) ((fun l z h => T G d bc bs mX13_told 31 l z h Q))) l z h) : T G d bc bs mX13_told 30 l z h Q := by
  refine R_iconst dX13_told_30 (by decide) (fun l z h k => ?_) k
  exact k
theorem bX13_told_31 {G : Gt} {d bc bs : Nat} {Q : QT} {l : Ls} {z : List Value} {h : Hp} (k : (tRetI Q) l z h) : T G d bc bs mX13_told 31 l z h Q := by
  exact R_iret dX13_told_31 rfl k
theorem dX13_saysOne_0 : decode cX13_saysOne 0 = .ok (.iconst 4, 1) := by decide +kernel
theorem dX13_saysOne_1 : decode cX13_saysOne 1 = .ok (.aload_n 0, 1) := by decide +kernel
theorem dX13_saysOne_2 : decode cX13_saysOne 2 = .ok (.getfield 434, 3) := by decide +kernel
theorem dX13_saysOne_5 : decode cX13_saysOne 5 = .ok (.imul, 1) := by decide +kernel
theorem dX13_saysOne_6 : decode cX13_saysOne 6 = .ok (.istore 5, 2) := by decide +kernel
theorem dX13_saysOne_8 : decode cX13_saysOne 8 = .ok (.aload_n 0, 1) := by decide +kernel
theorem dX13_saysOne_9 : decode cX13_saysOne 9 = .ok (.getfield 82, 3) := by decide +kernel
theorem dX13_saysOne_12 : decode cX13_saysOne 12 = .ok (.iload 5, 2) := by decide +kernel
theorem dX13_saysOne_14 : decode cX13_saysOne 14 = .ok (.iload_n 1, 1) := by decide +kernel
theorem dX13_saysOne_15 : decode cX13_saysOne 15 = .ok (.iastore, 1) := by decide +kernel
theorem dX13_saysOne_16 : decode cX13_saysOne 16 = .ok (.aload_n 0, 1) := by decide +kernel
theorem dX13_saysOne_17 : decode cX13_saysOne 17 = .ok (.getfield 82, 3) := by decide +kernel
theorem dX13_saysOne_20 : decode cX13_saysOne 20 = .ok (.iload 5, 2) := by decide +kernel
theorem dX13_saysOne_22 : decode cX13_saysOne 22 = .ok (.iconst 1, 1) := by decide +kernel
theorem dX13_saysOne_23 : decode cX13_saysOne 23 = .ok (.iadd, 1) := by decide +kernel
theorem dX13_saysOne_24 : decode cX13_saysOne 24 = .ok (.iload_n 2, 1) := by decide +kernel
theorem dX13_saysOne_25 : decode cX13_saysOne 25 = .ok (.iastore, 1) := by decide +kernel
theorem dX13_saysOne_26 : decode cX13_saysOne 26 = .ok (.aload_n 0, 1) := by decide +kernel
theorem dX13_saysOne_27 : decode cX13_saysOne 27 = .ok (.getfield 82, 3) := by decide +kernel
theorem dX13_saysOne_30 : decode cX13_saysOne 30 = .ok (.iload 5, 2) := by decide +kernel
theorem dX13_saysOne_32 : decode cX13_saysOne 32 = .ok (.iconst 2, 1) := by decide +kernel
theorem dX13_saysOne_33 : decode cX13_saysOne 33 = .ok (.iadd, 1) := by decide +kernel
theorem dX13_saysOne_34 : decode cX13_saysOne 34 = .ok (.iload_n 3, 1) := by decide +kernel
theorem dX13_saysOne_35 : decode cX13_saysOne 35 = .ok (.iastore, 1) := by decide +kernel
theorem dX13_saysOne_36 : decode cX13_saysOne 36 = .ok (.aload_n 0, 1) := by decide +kernel
theorem dX13_saysOne_37 : decode cX13_saysOne 37 = .ok (.getfield 82, 3) := by decide +kernel
theorem dX13_saysOne_40 : decode cX13_saysOne 40 = .ok (.iload 5, 2) := by decide +kernel
theorem dX13_saysOne_42 : decode cX13_saysOne 42 = .ok (.iconst 3, 1) := by decide +kernel
theorem dX13_saysOne_43 : decode cX13_saysOne 43 = .ok (.iadd, 1) := by decide +kernel
theorem dX13_saysOne_44 : decode cX13_saysOne 44 = .ok (.iload 4, 2) := by decide +kernel
theorem dX13_saysOne_46 : decode cX13_saysOne 46 = .ok (.iastore, 1) := by decide +kernel
theorem dX13_saysOne_47 : decode cX13_saysOne 47 = .ok (.aload_n 0, 1) := by decide +kernel
theorem dX13_saysOne_48 : decode cX13_saysOne 48 = .ok (.dup, 1) := by decide +kernel
theorem dX13_saysOne_49 : decode cX13_saysOne 49 = .ok (.getfield 434, 3) := by decide +kernel
theorem dX13_saysOne_52 : decode cX13_saysOne 52 = .ok (.iconst 1, 1) := by decide +kernel
theorem dX13_saysOne_53 : decode cX13_saysOne 53 = .ok (.iadd, 1) := by decide +kernel
theorem dX13_saysOne_54 : decode cX13_saysOne 54 = .ok (.putfield 434, 3) := by decide +kernel
theorem dX13_saysOne_57 : decode cX13_saysOne 57 = .ok (.aload_n 0, 1) := by decide +kernel
theorem dX13_saysOne_58 : decode cX13_saysOne 58 = .ok (.getfield 434, 3) := by decide +kernel
theorem dX13_saysOne_61 : decode cX13_saysOne 61 = .ok (.iconst 1, 1) := by decide +kernel
theorem dX13_saysOne_62 : decode cX13_saysOne 62 = .ok (.isub, 1) := by decide +kernel
theorem dX13_saysOne_63 : decode cX13_saysOne 63 = .ok (.ireturn, 1) := by decide +kernel
theorem bX13_saysOne_0 {G : Gt} {d bc bs : Nat} {Q : QT} {l : Ls} {z : List Value} {h : Hp} (k : (tPush (.int 4) (tAld 0 (tGetf 11 45 (tB (fun x y => x * y) (tIst 5 (tAld 0 (tGetf 11 44 (tIld 5 (tIld 1 (tXast 0 (tAld 0 (tGetf 11 44 (tIld 5 (tPush (.int 1) (tB (fun x y => x + y) (tIld 2 (tXast 0 (tAld 0 (tGetf 11 44 (tIld 5 (tPush (.int 2) (tB (fun x y => x + y) (tIld 3 (tXast 0 (tAld 0 (tGetf 11 44 (tIld 5 (tPush (.int 3) (tB (fun x y => x + y) (tIld 4 (tXast 0 (tAld 0 (tDup (tGetf 11 45 (tPush (.int 1) (tB (fun x y => x + y) (tPutf isI 11 45 (tAld 0 (tGetf 11 45 (tPush (.int 1) (tB (fun x y => x - y) (tRetI Q)))))))))))))))))))))))))))))))))))))))))) l z h) : T G d bc bs mX13_saysOne 0 l z h Q := by
  refine R_iconst dX13_saysOne_0 (by decide) (fun l z h k => ?_) k
  refine R_aload_n dX13_saysOne_1 rfl (fun l z h k => ?_) k
  refine R_getf (ci := 11) (f := 45) (C := RX13) (N := 49) (Tt := TX13) dX13_saysOne_2 rfl i_X13 (by decide) w_1512 (fun l z h k => ?_) k
  refine R_imul dX13_saysOne_5 (fun l z h k => ?_) k
  refine R_istore dX13_saysOne_6 (by decide) (fun l z h k => ?_) k
  refine R_aload_n dX13_saysOne_8 rfl (fun l z h k => ?_) k
  refine R_getf (ci := 11) (f := 44) (C := RX13) (N := 49) (Tt := TX13) dX13_saysOne_9 rfl i_X13 (by decide) w_1511 (fun l z h k => ?_) k
  refine R_iload dX13_saysOne_12 (fun l z h k => ?_) k
  refine R_iload_n dX13_saysOne_14 rfl (fun l z h k => ?_) k
  refine R_iastore dX13_saysOne_15 (fun l z h k => ?_) k
  refine R_aload_n dX13_saysOne_16 rfl (fun l z h k => ?_) k
  refine R_getf (ci := 11) (f := 44) (C := RX13) (N := 49) (Tt := TX13) dX13_saysOne_17 rfl i_X13 (by decide) w_1511 (fun l z h k => ?_) k
  refine R_iload dX13_saysOne_20 (fun l z h k => ?_) k
  refine R_iconst dX13_saysOne_22 (by decide) (fun l z h k => ?_) k
  refine R_iadd dX13_saysOne_23 (fun l z h k => ?_) k
  refine R_iload_n dX13_saysOne_24 rfl (fun l z h k => ?_) k
  refine R_iastore dX13_saysOne_25 (fun l z h k => ?_) k
  refine R_aload_n dX13_saysOne_26 rfl (fun l z h k => ?_) k
  refine R_getf (ci := 11) (f := 44) (C := RX13) (N := 49) (Tt := TX13) dX13_saysOne_27 rfl i_X13 (by decide) w_1511 (fun l z h k => ?_) k
  refine R_iload dX13_saysOne_30 (fun l z h k => ?_) k
  refine R_iconst dX13_saysOne_32 (by decide) (fun l z h k => ?_) k
  refine R_iadd dX13_saysOne_33 (fun l z h k => ?_) k
  refine R_iload_n dX13_saysOne_34 rfl (fun l z h k => ?_) k
  refine R_iastore dX13_saysOne_35 (fun l z h k => ?_) k
  refine R_aload_n dX13_saysOne_36 rfl (fun l z h k => ?_) k
  refine R_getf (ci := 11) (f := 44) (C := RX13) (N := 49) (Tt := TX13) dX13_saysOne_37 rfl i_X13 (by decide) w_1511 (fun l z h k => ?_) k
  refine R_iload dX13_saysOne_40 (fun l z h k => ?_) k
  refine R_iconst dX13_saysOne_42 (by decide) (fun l z h k => ?_) k
  refine R_iadd dX13_saysOne_43 (fun l z h k => ?_) k
  refine R_iload dX13_saysOne_44 (fun l z h k => ?_) k
  refine R_iastore dX13_saysOne_46 (fun l z h k => ?_) k
  refine R_aload_n dX13_saysOne_47 rfl (fun l z h k => ?_) k
  refine R_dup dX13_saysOne_48 (fun l z h k => ?_) k
  refine R_getf (ci := 11) (f := 45) (C := RX13) (N := 49) (Tt := TX13) dX13_saysOne_49 rfl i_X13 (by decide) w_1512 (fun l z h k => ?_) k
  refine R_iconst dX13_saysOne_52 (by decide) (fun l z h k => ?_) k
  refine R_iadd dX13_saysOne_53 (fun l z h k => ?_) k
  refine R_putf (ci := 11) (f := 45) (C := RX13) (N := 49) (Tt := TX13) tyX13 tyX13_ok nmX13 dX13_saysOne_54 rfl i_X13 (by decide) w_1512 rfl (tyX13_ok 45 (by decide)) p_int (fun l z h k => ?_) k
  refine R_aload_n dX13_saysOne_57 rfl (fun l z h k => ?_) k
  refine R_getf (ci := 11) (f := 45) (C := RX13) (N := 49) (Tt := TX13) dX13_saysOne_58 rfl i_X13 (by decide) w_1512 (fun l z h k => ?_) k
  refine R_iconst dX13_saysOne_61 (by decide) (fun l z h k => ?_) k
  refine R_isub dX13_saysOne_62 (fun l z h k => ?_) k
  exact R_iret dX13_saysOne_63 rfl k
theorem dX13_readOr_0 : decode cX13_readOr 0 = .ok (.aload_n 0, 1) := by decide +kernel
theorem dX13_readOr_1 : decode cX13_readOr 1 = .ok (.invokevirtual 437, 3) := by decide +kernel
theorem dX13_readOr_4 : decode cX13_readOr 4 = .ok (.ifCond .ne 5, 3) := by decide +kernel
theorem dX13_readOr_7 : decode cX13_readOr 7 = .ok (.iconst 0, 1) := by decide +kernel
theorem dX13_readOr_8 : decode cX13_readOr 8 = .ok (.ireturn, 1) := by decide +kernel
theorem dX13_readOr_9 : decode cX13_readOr 9 = .ok (.aload_n 0, 1) := by decide +kernel
theorem dX13_readOr_10 : decode cX13_readOr 10 = .ok (.getfield 440, 3) := by decide +kernel
theorem dX13_readOr_13 : decode cX13_readOr 13 = .ok (.istore_n 1, 1) := by decide +kernel
theorem dX13_readOr_14 : decode cX13_readOr 14 = .ok (.aload_n 0, 1) := by decide +kernel
theorem dX13_readOr_15 : decode cX13_readOr 15 = .ok (.bipush 11, 2) := by decide +kernel
theorem dX13_readOr_17 : decode cX13_readOr 17 = .ok (.invokevirtual 177, 3) := by decide +kernel
theorem dX13_readOr_20 : decode cX13_readOr 20 = .ok (.ifCond .eq 31, 3) := by decide +kernel
theorem dX13_readOr_23 : decode cX13_readOr 23 = .ok (.aload_n 0, 1) := by decide +kernel
theorem dX13_readOr_24 : decode cX13_readOr 24 = .ok (.invokevirtual 159, 3) := by decide +kernel
theorem dX13_readOr_27 : decode cX13_readOr 27 = .ok (.aload_n 0, 1) := by decide +kernel
theorem dX13_readOr_28 : decode cX13_readOr 28 = .ok (.invokevirtual 437, 3) := by decide +kernel
theorem dX13_readOr_31 : decode cX13_readOr 31 = .ok (.ifCond .ne 5, 3) := by decide +kernel
theorem dX13_readOr_34 : decode cX13_readOr 34 = .ok (.iconst 0, 1) := by decide +kernel
theorem dX13_readOr_35 : decode cX13_readOr 35 = .ok (.ireturn, 1) := by decide +kernel
theorem dX13_readOr_36 : decode cX13_readOr 36 = .ok (.aload_n 0, 1) := by decide +kernel
theorem dX13_readOr_37 : decode cX13_readOr 37 = .ok (.iconst 3, 1) := by decide +kernel
theorem dX13_readOr_38 : decode cX13_readOr 38 = .ok (.iload_n 1, 1) := by decide +kernel
theorem dX13_readOr_39 : decode cX13_readOr 39 = .ok (.aload_n 0, 1) := by decide +kernel
theorem dX13_readOr_40 : decode cX13_readOr 40 = .ok (.getfield 440, 3) := by decide +kernel
theorem dX13_readOr_43 : decode cX13_readOr 43 = .ok (.iconst 0, 1) := by decide +kernel
theorem dX13_readOr_44 : decode cX13_readOr 44 = .ok (.invokevirtual 443, 3) := by decide +kernel
theorem dX13_readOr_47 : decode cX13_readOr 47 = .ok (.istore_n 1, 1) := by decide +kernel
theorem dX13_readOr_48 : decode cX13_readOr 48 = .ok (.goto (-34), 3) := by decide +kernel
theorem dX13_readOr_51 : decode cX13_readOr 51 = .ok (.aload_n 0, 1) := by decide +kernel
theorem dX13_readOr_52 : decode cX13_readOr 52 = .ok (.iload_n 1, 1) := by decide +kernel
theorem dX13_readOr_53 : decode cX13_readOr 53 = .ok (.putfield 440, 3) := by decide +kernel
theorem dX13_readOr_56 : decode cX13_readOr 56 = .ok (.iconst 1, 1) := by decide +kernel
theorem dX13_readOr_57 : decode cX13_readOr 57 = .ok (.ireturn, 1) := by decide +kernel
theorem bX13_readOr_0 {G : Gt} {d bc bs : Nat} {Q : QT} {l : Ls} {z : List Value} {h : Hp} (k : (tAld 0 (tCV0 G d 0 0 11 mX13_readAnd (fun l z h => T G d bc bs mX13_readOr 4 l z h Q))) l z h) : T G d bc bs mX13_readOr 0 l z h Q := by
  refine R_aload_n dX13_readOr_0 rfl (fun l z h k => ?_) k
  exact R_cv0 (M := mX13_readOr) (pc := 1) (bc := bc) (bs := bs) (cb := 0) (cs := 0) (M' := mX13_readAnd) dX13_readOr_1 rfl (by decide) w_2108 w_144 w_2105 w_2107 w_121 (by decide +kernel) (fun _ _ _ k => k) k
theorem bX13_readOr_4 {G : Gt} {d bc bs : Nat} {Q : QT} {l : Ls} {z : List Value} {h : Hp} (k : (tIf (fun x => x = 0) (fun l z h => T G d bc bs mX13_readOr 7 l z h Q) (fun l z h => T G d bc bs mX13_readOr 9 l z h Q)) l z h) : T G d bc bs mX13_readOr 4 l z h Q := by
  exact R_if_ne dX13_readOr_4 (by decide) (fun _ _ _ k => k) (fun _ _ _ k => k) k
theorem bX13_readOr_7 {G : Gt} {d bc bs : Nat} {Q : QT} {l : Ls} {z : List Value} {h : Hp} (k : (tPush (.int 0) (tRetZ Q)) l z h) : T G d bc bs mX13_readOr 7 l z h Q := by
  refine R_iconst dX13_readOr_7 (by decide) (fun l z h k => ?_) k
  exact R_zret dX13_readOr_8 rfl k
theorem bX13_readOr_9 {G : Gt} {d bc bs : Nat} {Q : QT} {l : Ls} {z : List Value} {h : Hp} (k : (tAld 0 (tGetf 11 48 (tIst 1 ((fun l z h => T G d bc bs mX13_readOr 14 l z h Q))))) l z h) : T G d bc bs mX13_readOr 9 l z h Q := by
  refine R_aload_n dX13_readOr_9 rfl (fun l z h k => ?_) k
  refine R_getf (ci := 11) (f := 48) (C := RX13) (N := 49) (Tt := TX13) dX13_readOr_10 rfl i_X13 (by decide) w_1515 (fun l z h k => ?_) k
  refine R_istore_n dX13_readOr_13 rfl (by decide) (fun l z h k => ?_) k
  exact k
theorem bX13_readOr_14 {G : Gt} {d bc bs : Nat} {Q : QT} {l : Ls} {z : List Value} {h : Hp} (k : (tAld 0 (tPush (.int 11) (tCV1 G d 0 0 11 mX13_isWord (fun l z h => T G d bc bs mX13_readOr 20 l z h Q)))) l z h) : T G d bc bs mX13_readOr 14 l z h Q := by
  refine R_aload_n dX13_readOr_14 rfl (fun l z h k => ?_) k
  refine R_bipush dX13_readOr_15 (by decide) (fun l z h k => ?_) k
  exact R_cv1 (M := mX13_readOr) (pc := 17) (bc := bc) (bs := bs) (cb := 0) (cs := 0) (M' := mX13_isWord) dX13_readOr_17 rfl (by decide) w_1667 w_144 w_1664 w_1666 w_50 (by decide +kernel) (fun _ _ _ k => k) k
theorem bX13_readOr_20 {G : Gt} {d bc bs : Nat} {Q : QT} {l : Ls} {z : List Value} {h : Hp} (k : (tIf (fun x => x = 0) (fun l z h => T G d bc bs mX13_readOr 51 l z h Q) (fun l z h => T G d bc bs mX13_readOr 23 l z h Q)) l z h) : T G d bc bs mX13_readOr 20 l z h Q := by
  exact R_if_eq dX13_readOr_20 (by decide) (fun _ _ _ k => k) (fun _ _ _ k => k) k
theorem bX13_readOr_23 {G : Gt} {d bc bs : Nat} {Q : QT} {l : Ls} {z : List Value} {h : Hp} (k : (tAld 0 (tCV0 G d 0 0 11 mX13_go (fun l z h => T G d bc bs mX13_readOr 27 l z h Q))) l z h) : T G d bc bs mX13_readOr 23 l z h Q := by
  refine R_aload_n dX13_readOr_23 rfl (fun l z h k => ?_) k
  exact R_cv0 (M := mX13_readOr) (pc := 24) (bc := bc) (bs := bs) (cb := 0) (cs := 0) (M' := mX13_go) dX13_readOr_24 rfl (by decide) w_1647 w_144 w_1644 w_1646 w_47 (by decide +kernel) (fun _ _ _ k => k) k
theorem bX13_readOr_27 {G : Gt} {d bc bs : Nat} {Q : QT} {l : Ls} {z : List Value} {h : Hp} (k : (tAld 0 (tCV0 G d 0 0 11 mX13_readAnd (fun l z h => T G d bc bs mX13_readOr 31 l z h Q))) l z h) : T G d bc bs mX13_readOr 27 l z h Q := by
  refine R_aload_n dX13_readOr_27 rfl (fun l z h k => ?_) k
  exact R_cv0 (M := mX13_readOr) (pc := 28) (bc := bc) (bs := bs) (cb := 0) (cs := 0) (M' := mX13_readAnd) dX13_readOr_28 rfl (by decide) w_2108 w_144 w_2105 w_2107 w_121 (by decide +kernel) (fun _ _ _ k => k) k
theorem bX13_readOr_31 {G : Gt} {d bc bs : Nat} {Q : QT} {l : Ls} {z : List Value} {h : Hp} (k : (tIf (fun x => x = 0) (fun l z h => T G d bc bs mX13_readOr 34 l z h Q) (fun l z h => T G d bc bs mX13_readOr 36 l z h Q)) l z h) : T G d bc bs mX13_readOr 31 l z h Q := by
  exact R_if_ne dX13_readOr_31 (by decide) (fun _ _ _ k => k) (fun _ _ _ k => k) k
theorem bX13_readOr_34 {G : Gt} {d bc bs : Nat} {Q : QT} {l : Ls} {z : List Value} {h : Hp} (k : (tPush (.int 0) (tRetZ Q)) l z h) : T G d bc bs mX13_readOr 34 l z h Q := by
  refine R_iconst dX13_readOr_34 (by decide) (fun l z h k => ?_) k
  exact R_zret dX13_readOr_35 rfl k
theorem bX13_readOr_36 {G : Gt} {d bc bs : Nat} {Q : QT} {l : Ls} {z : List Value} {h : Hp} (k : (tAld 0 (tPush (.int 3) (tIld 1 (tAld 0 (tGetf 11 48 (tPush (.int 0) (tCV4 G d 0 0 11 mX13_saysOne (fun l z h => T G d bc bs mX13_readOr 47 l z h Q)))))))) l z h) : T G d bc bs mX13_readOr 36 l z h Q := by
  refine R_aload_n dX13_readOr_36 rfl (fun l z h k => ?_) k
  refine R_iconst dX13_readOr_37 (by decide) (fun l z h k => ?_) k
  refine R_iload_n dX13_readOr_38 rfl (fun l z h k => ?_) k
  refine R_aload_n dX13_readOr_39 rfl (fun l z h k => ?_) k
  refine R_getf (ci := 11) (f := 48) (C := RX13) (N := 49) (Tt := TX13) dX13_readOr_40 rfl i_X13 (by decide) w_1515 (fun l z h k => ?_) k
  refine R_iconst dX13_readOr_43 (by decide) (fun l z h k => ?_) k
  exact R_cv4 (M := mX13_readOr) (pc := 44) (bc := bc) (bs := bs) (cb := 0) (cs := 0) (M' := mX13_saysOne) dX13_readOr_44 rfl (by decide) w_2124 w_144 w_2121 w_2123 w_125 (by decide +kernel) (fun _ _ _ k => k) k
theorem bX13_readOr_47 {G : Gt} {d bc bs : Nat} {Q : QT} {l : Ls} {z : List Value} {h : Hp} (k : (tIst 1 ((fun l z h => T G d bc bs mX13_readOr 14 l z h Q))) l z h) : T G d bc bs mX13_readOr 47 l z h Q := by
  refine R_istore_n dX13_readOr_47 rfl (by decide) (fun l z h k => ?_) k
  exact R_goto dX13_readOr_48 (by decide) (fun _ _ _ k => k) k
theorem bX13_readOr_51 {G : Gt} {d bc bs : Nat} {Q : QT} {l : Ls} {z : List Value} {h : Hp} (k : (tAld 0 (tIld 1 (tPutf isI 11 48 (tPush (.int 1) (tRetZ Q))))) l z h) : T G d bc bs mX13_readOr 51 l z h Q := by
  refine R_aload_n dX13_readOr_51 rfl (fun l z h k => ?_) k
  refine R_iload_n dX13_readOr_52 rfl (fun l z h k => ?_) k
  refine R_putf (ci := 11) (f := 48) (C := RX13) (N := 49) (Tt := TX13) tyX13 tyX13_ok nmX13 dX13_readOr_53 rfl i_X13 (by decide) w_1515 rfl (tyX13_ok 48 (by decide)) p_int (fun l z h k => ?_) k
  refine R_iconst dX13_readOr_56 (by decide) (fun l z h k => ?_) k
  exact R_zret dX13_readOr_57 rfl k
theorem dX13_readAnd_0 : decode cX13_readAnd 0 = .ok (.aload_n 0, 1) := by decide +kernel
theorem dX13_readAnd_1 : decode cX13_readAnd 1 = .ok (.invokevirtual 446, 3) := by decide +kernel
theorem dX13_readAnd_4 : decode cX13_readAnd 4 = .ok (.ifCond .ne 5, 3) := by decide +kernel
theorem dX13_readAnd_7 : decode cX13_readAnd 7 = .ok (.iconst 0, 1) := by decide +kernel
theorem dX13_readAnd_8 : decode cX13_readAnd 8 = .ok (.ireturn, 1) := by decide +kernel
theorem dX13_readAnd_9 : decode cX13_readAnd 9 = .ok (.aload_n 0, 1) := by decide +kernel
theorem dX13_readAnd_10 : decode cX13_readAnd 10 = .ok (.getfield 440, 3) := by decide +kernel
theorem dX13_readAnd_13 : decode cX13_readAnd 13 = .ok (.istore_n 1, 1) := by decide +kernel
theorem dX13_readAnd_14 : decode cX13_readAnd 14 = .ok (.aload_n 0, 1) := by decide +kernel
theorem dX13_readAnd_15 : decode cX13_readAnd 15 = .ok (.bipush 12, 2) := by decide +kernel
theorem dX13_readAnd_17 : decode cX13_readAnd 17 = .ok (.invokevirtual 177, 3) := by decide +kernel
theorem dX13_readAnd_20 : decode cX13_readAnd 20 = .ok (.ifCond .eq 31, 3) := by decide +kernel
theorem dX13_readAnd_23 : decode cX13_readAnd 23 = .ok (.aload_n 0, 1) := by decide +kernel
theorem dX13_readAnd_24 : decode cX13_readAnd 24 = .ok (.invokevirtual 159, 3) := by decide +kernel
theorem dX13_readAnd_27 : decode cX13_readAnd 27 = .ok (.aload_n 0, 1) := by decide +kernel
theorem dX13_readAnd_28 : decode cX13_readAnd 28 = .ok (.invokevirtual 446, 3) := by decide +kernel
theorem dX13_readAnd_31 : decode cX13_readAnd 31 = .ok (.ifCond .ne 5, 3) := by decide +kernel
theorem dX13_readAnd_34 : decode cX13_readAnd 34 = .ok (.iconst 0, 1) := by decide +kernel
theorem dX13_readAnd_35 : decode cX13_readAnd 35 = .ok (.ireturn, 1) := by decide +kernel
theorem dX13_readAnd_36 : decode cX13_readAnd 36 = .ok (.aload_n 0, 1) := by decide +kernel
theorem dX13_readAnd_37 : decode cX13_readAnd 37 = .ok (.iconst 2, 1) := by decide +kernel
theorem dX13_readAnd_38 : decode cX13_readAnd 38 = .ok (.iload_n 1, 1) := by decide +kernel
theorem dX13_readAnd_39 : decode cX13_readAnd 39 = .ok (.aload_n 0, 1) := by decide +kernel
theorem dX13_readAnd_40 : decode cX13_readAnd 40 = .ok (.getfield 440, 3) := by decide +kernel
theorem dX13_readAnd_43 : decode cX13_readAnd 43 = .ok (.iconst 0, 1) := by decide +kernel
theorem dX13_readAnd_44 : decode cX13_readAnd 44 = .ok (.invokevirtual 443, 3) := by decide +kernel
theorem dX13_readAnd_47 : decode cX13_readAnd 47 = .ok (.istore_n 1, 1) := by decide +kernel
theorem dX13_readAnd_48 : decode cX13_readAnd 48 = .ok (.goto (-34), 3) := by decide +kernel
theorem dX13_readAnd_51 : decode cX13_readAnd 51 = .ok (.aload_n 0, 1) := by decide +kernel
theorem dX13_readAnd_52 : decode cX13_readAnd 52 = .ok (.iload_n 1, 1) := by decide +kernel
theorem dX13_readAnd_53 : decode cX13_readAnd 53 = .ok (.putfield 440, 3) := by decide +kernel
theorem dX13_readAnd_56 : decode cX13_readAnd 56 = .ok (.iconst 1, 1) := by decide +kernel
theorem dX13_readAnd_57 : decode cX13_readAnd 57 = .ok (.ireturn, 1) := by decide +kernel
theorem bX13_readAnd_0 {G : Gt} {d bc bs : Nat} {Q : QT} {l : Ls} {z : List Value} {h : Hp} (k : (tAld 0 (tCV0 G d 0 0 11 mX13_readSaid (fun l z h => T G d bc bs mX13_readAnd 4 l z h Q))) l z h) : T G d bc bs mX13_readAnd 0 l z h Q := by
  refine R_aload_n dX13_readAnd_0 rfl (fun l z h k => ?_) k
  exact R_cv0 (M := mX13_readAnd) (pc := 1) (bc := bc) (bs := bs) (cb := 0) (cs := 0) (M' := mX13_readSaid) dX13_readAnd_1 rfl (by decide) w_2112 w_144 w_2109 w_2111 w_122 (by decide +kernel) (fun _ _ _ k => k) k
theorem bX13_readAnd_4 {G : Gt} {d bc bs : Nat} {Q : QT} {l : Ls} {z : List Value} {h : Hp} (k : (tIf (fun x => x = 0) (fun l z h => T G d bc bs mX13_readAnd 7 l z h Q) (fun l z h => T G d bc bs mX13_readAnd 9 l z h Q)) l z h) : T G d bc bs mX13_readAnd 4 l z h Q := by
  exact R_if_ne dX13_readAnd_4 (by decide) (fun _ _ _ k => k) (fun _ _ _ k => k) k
theorem bX13_readAnd_7 {G : Gt} {d bc bs : Nat} {Q : QT} {l : Ls} {z : List Value} {h : Hp} (k : (tPush (.int 0) (tRetZ Q)) l z h) : T G d bc bs mX13_readAnd 7 l z h Q := by
  refine R_iconst dX13_readAnd_7 (by decide) (fun l z h k => ?_) k
  exact R_zret dX13_readAnd_8 rfl k
theorem bX13_readAnd_9 {G : Gt} {d bc bs : Nat} {Q : QT} {l : Ls} {z : List Value} {h : Hp} (k : (tAld 0 (tGetf 11 48 (tIst 1 ((fun l z h => T G d bc bs mX13_readAnd 14 l z h Q))))) l z h) : T G d bc bs mX13_readAnd 9 l z h Q := by
  refine R_aload_n dX13_readAnd_9 rfl (fun l z h k => ?_) k
  refine R_getf (ci := 11) (f := 48) (C := RX13) (N := 49) (Tt := TX13) dX13_readAnd_10 rfl i_X13 (by decide) w_1515 (fun l z h k => ?_) k
  refine R_istore_n dX13_readAnd_13 rfl (by decide) (fun l z h k => ?_) k
  exact k
theorem bX13_readAnd_14 {G : Gt} {d bc bs : Nat} {Q : QT} {l : Ls} {z : List Value} {h : Hp} (k : (tAld 0 (tPush (.int 12) (tCV1 G d 0 0 11 mX13_isWord (fun l z h => T G d bc bs mX13_readAnd 20 l z h Q)))) l z h) : T G d bc bs mX13_readAnd 14 l z h Q := by
  refine R_aload_n dX13_readAnd_14 rfl (fun l z h k => ?_) k
  refine R_bipush dX13_readAnd_15 (by decide) (fun l z h k => ?_) k
  exact R_cv1 (M := mX13_readAnd) (pc := 17) (bc := bc) (bs := bs) (cb := 0) (cs := 0) (M' := mX13_isWord) dX13_readAnd_17 rfl (by decide) w_1667 w_144 w_1664 w_1666 w_50 (by decide +kernel) (fun _ _ _ k => k) k
theorem bX13_readAnd_20 {G : Gt} {d bc bs : Nat} {Q : QT} {l : Ls} {z : List Value} {h : Hp} (k : (tIf (fun x => x = 0) (fun l z h => T G d bc bs mX13_readAnd 51 l z h Q) (fun l z h => T G d bc bs mX13_readAnd 23 l z h Q)) l z h) : T G d bc bs mX13_readAnd 20 l z h Q := by
  exact R_if_eq dX13_readAnd_20 (by decide) (fun _ _ _ k => k) (fun _ _ _ k => k) k
theorem bX13_readAnd_23 {G : Gt} {d bc bs : Nat} {Q : QT} {l : Ls} {z : List Value} {h : Hp} (k : (tAld 0 (tCV0 G d 0 0 11 mX13_go (fun l z h => T G d bc bs mX13_readAnd 27 l z h Q))) l z h) : T G d bc bs mX13_readAnd 23 l z h Q := by
  refine R_aload_n dX13_readAnd_23 rfl (fun l z h k => ?_) k
  exact R_cv0 (M := mX13_readAnd) (pc := 24) (bc := bc) (bs := bs) (cb := 0) (cs := 0) (M' := mX13_go) dX13_readAnd_24 rfl (by decide) w_1647 w_144 w_1644 w_1646 w_47 (by decide +kernel) (fun _ _ _ k => k) k
theorem bX13_readAnd_27 {G : Gt} {d bc bs : Nat} {Q : QT} {l : Ls} {z : List Value} {h : Hp} (k : (tAld 0 (tCV0 G d 0 0 11 mX13_readSaid (fun l z h => T G d bc bs mX13_readAnd 31 l z h Q))) l z h) : T G d bc bs mX13_readAnd 27 l z h Q := by
  refine R_aload_n dX13_readAnd_27 rfl (fun l z h k => ?_) k
  exact R_cv0 (M := mX13_readAnd) (pc := 28) (bc := bc) (bs := bs) (cb := 0) (cs := 0) (M' := mX13_readSaid) dX13_readAnd_28 rfl (by decide) w_2112 w_144 w_2109 w_2111 w_122 (by decide +kernel) (fun _ _ _ k => k) k
theorem bX13_readAnd_31 {G : Gt} {d bc bs : Nat} {Q : QT} {l : Ls} {z : List Value} {h : Hp} (k : (tIf (fun x => x = 0) (fun l z h => T G d bc bs mX13_readAnd 34 l z h Q) (fun l z h => T G d bc bs mX13_readAnd 36 l z h Q)) l z h) : T G d bc bs mX13_readAnd 31 l z h Q := by
  exact R_if_ne dX13_readAnd_31 (by decide) (fun _ _ _ k => k) (fun _ _ _ k => k) k
theorem bX13_readAnd_34 {G : Gt} {d bc bs : Nat} {Q : QT} {l : Ls} {z : List Value} {h : Hp} (k : (tPush (.int 0) (tRetZ Q)) l z h) : T G d bc bs mX13_readAnd 34 l z h Q := by
  refine R_iconst dX13_readAnd_34 (by decide) (fun l z h k => ?_) k
  exact R_zret dX13_readAnd_35 rfl k
theorem bX13_readAnd_36 {G : Gt} {d bc bs : Nat} {Q : QT} {l : Ls} {z : List Value} {h : Hp} (k : (tAld 0 (tPush (.int 2) (tIld 1 (tAld 0 (tGetf 11 48 (tPush (.int 0) (tCV4 G d 0 0 11 mX13_saysOne (fun l z h => T G d bc bs mX13_readAnd 47 l z h Q)))))))) l z h) : T G d bc bs mX13_readAnd 36 l z h Q := by
  refine R_aload_n dX13_readAnd_36 rfl (fun l z h k => ?_) k
  refine R_iconst dX13_readAnd_37 (by decide) (fun l z h k => ?_) k
  refine R_iload_n dX13_readAnd_38 rfl (fun l z h k => ?_) k
  refine R_aload_n dX13_readAnd_39 rfl (fun l z h k => ?_) k
  refine R_getf (ci := 11) (f := 48) (C := RX13) (N := 49) (Tt := TX13) dX13_readAnd_40 rfl i_X13 (by decide) w_1515 (fun l z h k => ?_) k
  refine R_iconst dX13_readAnd_43 (by decide) (fun l z h k => ?_) k
  exact R_cv4 (M := mX13_readAnd) (pc := 44) (bc := bc) (bs := bs) (cb := 0) (cs := 0) (M' := mX13_saysOne) dX13_readAnd_44 rfl (by decide) w_2124 w_144 w_2121 w_2123 w_125 (by decide +kernel) (fun _ _ _ k => k) k
theorem bX13_readAnd_47 {G : Gt} {d bc bs : Nat} {Q : QT} {l : Ls} {z : List Value} {h : Hp} (k : (tIst 1 ((fun l z h => T G d bc bs mX13_readAnd 14 l z h Q))) l z h) : T G d bc bs mX13_readAnd 47 l z h Q := by
  refine R_istore_n dX13_readAnd_47 rfl (by decide) (fun l z h k => ?_) k
  exact R_goto dX13_readAnd_48 (by decide) (fun _ _ _ k => k) k
theorem bX13_readAnd_51 {G : Gt} {d bc bs : Nat} {Q : QT} {l : Ls} {z : List Value} {h : Hp} (k : (tAld 0 (tIld 1 (tPutf isI 11 48 (tPush (.int 1) (tRetZ Q))))) l z h) : T G d bc bs mX13_readAnd 51 l z h Q := by
  refine R_aload_n dX13_readAnd_51 rfl (fun l z h k => ?_) k
  refine R_iload_n dX13_readAnd_52 rfl (fun l z h k => ?_) k
  refine R_putf (ci := 11) (f := 48) (C := RX13) (N := 49) (Tt := TX13) tyX13 tyX13_ok nmX13 dX13_readAnd_53 rfl i_X13 (by decide) w_1515 rfl (tyX13_ok 48 (by decide)) p_int (fun l z h k => ?_) k
  refine R_iconst dX13_readAnd_56 (by decide) (fun l z h k => ?_) k
  exact R_zret dX13_readAnd_57 rfl k
theorem dX13_readSaid_0 : decode cX13_readSaid 0 = .ok (.aload_n 0, 1) := by decide +kernel
theorem dX13_readSaid_1 : decode cX13_readSaid 1 = .ok (.bipush 40, 2) := by decide +kernel
theorem dX13_readSaid_3 : decode cX13_readSaid 3 = .ok (.invokevirtual 162, 3) := by decide +kernel
theorem dX13_readSaid_6 : decode cX13_readSaid 6 = .ok (.istore_n 1, 1) := by decide +kernel
theorem dX13_readSaid_7 : decode cX13_readSaid 7 = .ok (.bipush 13, 2) := by decide +kernel
theorem dX13_readSaid_9 : decode cX13_readSaid 9 = .ok (.istore_n 2, 1) := by decide +kernel
theorem dX13_readSaid_10 : decode cX13_readSaid 10 = .ok (.iload_n 2, 1) := by decide +kernel
theorem dX13_readSaid_11 : decode cX13_readSaid 11 = .ok (.bipush 23, 2) := by decide +kernel
theorem dX13_readSaid_13 : decode cX13_readSaid 13 = .ok (.if_icmp .gt 17, 3) := by decide +kernel
theorem dX13_readSaid_16 : decode cX13_readSaid 16 = .ok (.aload_n 0, 1) := by decide +kernel
theorem dX13_readSaid_17 : decode cX13_readSaid 17 = .ok (.iload_n 2, 1) := by decide +kernel
theorem dX13_readSaid_18 : decode cX13_readSaid 18 = .ok (.invokevirtual 177, 3) := by decide +kernel
theorem dX13_readSaid_21 : decode cX13_readSaid 21 = .ok (.ifCond .ne 9, 3) := by decide +kernel
theorem dX13_readSaid_24 : decode cX13_readSaid 24 = .ok (.iinc 2 1, 3) := by decide +kernel
theorem dX13_readSaid_27 : decode cX13_readSaid 27 = .ok (.goto (-17), 3) := by decide +kernel
theorem dX13_readSaid_30 : decode cX13_readSaid 30 = .ok (.iload_n 1, 1) := by decide +kernel
theorem dX13_readSaid_31 : decode cX13_readSaid 31 = .ok (.ifCond .ne 15, 3) := by decide +kernel
theorem dX13_readSaid_34 : decode cX13_readSaid 34 = .ok (.iload_n 2, 1) := by decide +kernel
theorem dX13_readSaid_35 : decode cX13_readSaid 35 = .ok (.bipush 23, 2) := by decide +kernel
theorem dX13_readSaid_37 : decode cX13_readSaid 37 = .ok (.if_icmp .le 9, 3) := by decide +kernel
theorem dX13_readSaid_40 : decode cX13_readSaid 40 = .ok (.aload_n 0, 1) := by decide +kernel
theorem dX13_readSaid_41 : decode cX13_readSaid 41 = .ok (.iconst 1, 1) := by decide +kernel
theorem dX13_readSaid_42 : decode cX13_readSaid 42 = .ok (.invokevirtual 149, 3) := by decide +kernel
theorem dX13_readSaid_45 : decode cX13_readSaid 45 = .ok (.ireturn, 1) := by decide +kernel
theorem dX13_readSaid_46 : decode cX13_readSaid 46 = .ok (.aload_n 0, 1) := by decide +kernel
theorem dX13_readSaid_47 : decode cX13_readSaid 47 = .ok (.getfield 449, 3) := by decide +kernel
theorem dX13_readSaid_50 : decode cX13_readSaid 50 = .ok (.bipush 20, 2) := by decide +kernel
theorem dX13_readSaid_52 : decode cX13_readSaid 52 = .ok (.if_icmp .eq 12, 3) := by decide +kernel
theorem dX13_readSaid_55 : decode cX13_readSaid 55 = .ok (.aload_n 0, 1) := by decide +kernel
theorem dX13_readSaid_56 : decode cX13_readSaid 56 = .ok (.getfield 452, 3) := by decide +kernel
theorem dX13_readSaid_59 : decode cX13_readSaid 59 = .ok (.bipush 8, 2) := by decide +kernel
theorem dX13_readSaid_61 : decode cX13_readSaid 61 = .ok (.if_icmp .ne 9, 3) := by decide +kernel
theorem dX13_readSaid_64 : decode cX13_readSaid 64 = .ok (.aload_n 0, 1) := by decide +kernel
theorem dX13_readSaid_65 : decode cX13_readSaid 65 = .ok (.iconst 4, 1) := by decide +kernel
theorem dX13_readSaid_66 : decode cX13_readSaid 66 = .ok (.invokevirtual 149, 3) := by decide +kernel
theorem dX13_readSaid_69 : decode cX13_readSaid 69 = .ok (.ireturn, 1) := by decide +kernel
theorem dX13_readSaid_70 : decode cX13_readSaid 70 = .ok (.aload_n 0, 1) := by decide +kernel
theorem dX13_readSaid_71 : decode cX13_readSaid 71 = .ok (.dup, 1) := by decide +kernel
theorem dX13_readSaid_72 : decode cX13_readSaid 72 = .ok (.getfield 449, 3) := by decide +kernel
theorem dX13_readSaid_75 : decode cX13_readSaid 75 = .ok (.iconst 1, 1) := by decide +kernel
theorem dX13_readSaid_76 : decode cX13_readSaid 76 = .ok (.iadd, 1) := by decide +kernel
theorem dX13_readSaid_77 : decode cX13_readSaid 77 = .ok (.putfield 449, 3) := by decide +kernel
theorem dX13_readSaid_80 : decode cX13_readSaid 80 = .ok (.aload_n 0, 1) := by decide +kernel
theorem dX13_readSaid_81 : decode cX13_readSaid 81 = .ok (.dup, 1) := by decide +kernel
theorem dX13_readSaid_82 : decode cX13_readSaid 82 = .ok (.getfield 452, 3) := by decide +kernel
theorem dX13_readSaid_85 : decode cX13_readSaid 85 = .ok (.iconst 1, 1) := by decide +kernel
theorem dX13_readSaid_86 : decode cX13_readSaid 86 = .ok (.iadd, 1) := by decide +kernel
theorem dX13_readSaid_87 : decode cX13_readSaid 87 = .ok (.putfield 452, 3) := by decide +kernel
theorem dX13_readSaid_90 : decode cX13_readSaid 90 = .ok (.aload_n 0, 1) := by decide +kernel
theorem dX13_readSaid_91 : decode cX13_readSaid 91 = .ok (.invokevirtual 159, 3) := by decide +kernel
theorem dX13_readSaid_94 : decode cX13_readSaid 94 = .ok (.iconst 1, 1) := by decide +kernel
theorem dX13_readSaid_95 : decode cX13_readSaid 95 = .ok (.istore_n 3, 1) := by decide +kernel
theorem dX13_readSaid_96 : decode cX13_readSaid 96 = .ok (.iload_n 1, 1) := by decide +kernel
theorem dX13_readSaid_97 : decode cX13_readSaid 97 = .ok (.ifCond .eq 11, 3) := by decide +kernel
theorem dX13_readSaid_100 : decode cX13_readSaid 100 = .ok (.aload_n 0, 1) := by decide +kernel
theorem dX13_readSaid_101 : decode cX13_readSaid 101 = .ok (.invokevirtual 455, 3) := by decide +kernel
theorem dX13_readSaid_104 : decode cX13_readSaid 104 = .ok (.istore_n 3, 1) := by decide +kernel
theorem dX13_readSaid_105 : decode cX13_readSaid 105 = .ok (.goto 61, 3) := by decide +kernel
theorem dX13_readSaid_108 : decode cX13_readSaid 108 = .ok (.iload_n 2, 1) := by decide +kernel
theorem dX13_readSaid_109 : decode cX13_readSaid 109 = .ok (.bipush 13, 2) := by decide +kernel
theorem dX13_readSaid_111 : decode cX13_readSaid 111 = .ok (.if_icmp .ne 11, 3) := by decide +kernel
theorem dX13_readSaid_114 : decode cX13_readSaid 114 = .ok (.aload_n 0, 1) := by decide +kernel
theorem dX13_readSaid_115 : decode cX13_readSaid 115 = .ok (.invokevirtual 458, 3) := by decide +kernel
theorem dX13_readSaid_118 : decode cX13_readSaid 118 = .ok (.istore_n 3, 1) := by decide +kernel
theorem dX13_readSaid_119 : decode cX13_readSaid 119 = .ok (.goto 47, 3) := by decide +kernel
theorem dX13_readSaid_122 : decode cX13_readSaid 122 = .ok (.iload_n 2, 1) := by decide +kernel
theorem dX13_readSaid_123 : decode cX13_readSaid 123 = .ok (.bipush 18, 2) := by decide +kernel
theorem dX13_readSaid_125 : decode cX13_readSaid 125 = .ok (.if_icmp .ge 21, 3) := by decide +kernel
theorem dX13_readSaid_128 : decode cX13_readSaid 128 = .ok (.aload_n 0, 1) := by decide +kernel
theorem dX13_readSaid_129 : decode cX13_readSaid 129 = .ok (.aload_n 0, 1) := by decide +kernel
theorem dX13_readSaid_130 : decode cX13_readSaid 130 = .ok (.bipush 50, 2) := by decide +kernel
theorem dX13_readSaid_132 : decode cX13_readSaid 132 = .ok (.iload_n 2, 1) := by decide +kernel
theorem dX13_readSaid_133 : decode cX13_readSaid 133 = .ok (.iadd, 1) := by decide +kernel
theorem dX13_readSaid_134 : decode cX13_readSaid 134 = .ok (.iconst 0, 1) := by decide +kernel
theorem dX13_readSaid_135 : decode cX13_readSaid 135 = .ok (.iconst 0, 1) := by decide +kernel
theorem dX13_readSaid_136 : decode cX13_readSaid 136 = .ok (.iconst 0, 1) := by decide +kernel
theorem dX13_readSaid_137 : decode cX13_readSaid 137 = .ok (.invokevirtual 443, 3) := by decide +kernel
theorem dX13_readSaid_140 : decode cX13_readSaid 140 = .ok (.putfield 440, 3) := by decide +kernel
theorem dX13_readSaid_143 : decode cX13_readSaid 143 = .ok (.goto 23, 3) := by decide +kernel
theorem dX13_readSaid_146 : decode cX13_readSaid 146 = .ok (.iload_n 2, 1) := by decide +kernel
theorem dX13_readSaid_147 : decode cX13_readSaid 147 = .ok (.bipush 20, 2) := by decide +kernel
theorem dX13_readSaid_149 : decode cX13_readSaid 149 = .ok (.if_icmp .ge 11, 3) := by decide +kernel
theorem dX13_readSaid_152 : decode cX13_readSaid 152 = .ok (.aload_n 0, 1) := by decide +kernel
theorem dX13_readSaid_153 : decode cX13_readSaid 153 = .ok (.iload_n 2, 1) := by decide +kernel
theorem dX13_readSaid_154 : decode cX13_readSaid 154 = .ok (.invokevirtual 461, 3) := by decide +kernel
theorem dX13_readSaid_157 : decode cX13_readSaid 157 = .ok (.goto 8, 3) := by decide +kernel
theorem dX13_readSaid_160 : decode cX13_readSaid 160 = .ok (.aload_n 0, 1) := by decide +kernel
theorem dX13_readSaid_161 : decode cX13_readSaid 161 = .ok (.iload_n 2, 1) := by decide +kernel
theorem dX13_readSaid_162 : decode cX13_readSaid 162 = .ok (.invokevirtual 464, 3) := by decide +kernel
theorem dX13_readSaid_165 : decode cX13_readSaid 165 = .ok (.istore_n 3, 1) := by decide +kernel
theorem dX13_readSaid_166 : decode cX13_readSaid 166 = .ok (.aload_n 0, 1) := by decide +kernel
theorem dX13_readSaid_167 : decode cX13_readSaid 167 = .ok (.dup, 1) := by decide +kernel
theorem dX13_readSaid_168 : decode cX13_readSaid 168 = .ok (.getfield 452, 3) := by decide +kernel
theorem dX13_readSaid_171 : decode cX13_readSaid 171 = .ok (.iconst 1, 1) := by decide +kernel
theorem dX13_readSaid_172 : decode cX13_readSaid 172 = .ok (.isub, 1) := by decide +kernel
theorem dX13_readSaid_173 : decode cX13_readSaid 173 = .ok (.putfield 452, 3) := by decide +kernel
theorem dX13_readSaid_176 : decode cX13_readSaid 176 = .ok (.iload_n 3, 1) := by decide +kernel
theorem dX13_readSaid_177 : decode cX13_readSaid 177 = .ok (.ireturn, 1) := by decide +kernel
theorem bX13_readSaid_0 {G : Gt} {d bc bs : Nat} {Q : QT} {l : Ls} {z : List Value} {h : Hp} (k : (tAld 0 (tPush (.int 40) (tCV1 G d 0 0 11 mX13_isSign (fun l z h => T G d bc bs mX13_readSaid 6 l z h Q)))) l z h) : T G d bc bs mX13_readSaid 0 l z h Q := by
  refine R_aload_n dX13_readSaid_0 rfl (fun l z h k => ?_) k
  refine R_bipush dX13_readSaid_1 (by decide) (fun l z h k => ?_) k
  exact R_cv1 (M := mX13_readSaid) (pc := 3) (bc := bc) (bs := bs) (cb := 0) (cs := 0) (M' := mX13_isSign) dX13_readSaid_3 rfl (by decide) w_1751 w_144 w_1748 w_1750 w_68 (by decide +kernel) (fun _ _ _ k => k) k
theorem bX13_readSaid_6 {G : Gt} {d bc bs : Nat} {Q : QT} {l : Ls} {z : List Value} {h : Hp} (k : (tIst 1 (tPush (.int 13) (tIst 2 ((fun l z h => T G d bc bs mX13_readSaid 10 l z h Q))))) l z h) : T G d bc bs mX13_readSaid 6 l z h Q := by
  refine R_istore_n dX13_readSaid_6 rfl (by decide) (fun l z h k => ?_) k
  refine R_bipush dX13_readSaid_7 (by decide) (fun l z h k => ?_) k
  refine R_istore_n dX13_readSaid_9 rfl (by decide) (fun l z h k => ?_) k
  exact k
theorem bX13_readSaid_10 {G : Gt} {d bc bs : Nat} {Q : QT} {l : Ls} {z : List Value} {h : Hp} (k : (tIld 2 (tPush (.int 23) (tIf2 (fun x y => y < x) (fun l z h => T G d bc bs mX13_readSaid 30 l z h Q) (fun l z h => T G d bc bs mX13_readSaid 16 l z h Q)))) l z h) : T G d bc bs mX13_readSaid 10 l z h Q := by
  refine R_iload_n dX13_readSaid_10 rfl (fun l z h k => ?_) k
  refine R_bipush dX13_readSaid_11 (by decide) (fun l z h k => ?_) k
  exact R_icmp_gt dX13_readSaid_13 (by decide) (fun _ _ _ k => k) (fun _ _ _ k => k) k
theorem bX13_readSaid_16 {G : Gt} {d bc bs : Nat} {Q : QT} {l : Ls} {z : List Value} {h : Hp} (k : (tAld 0 (tIld 2 (tCV1 G d 0 0 11 mX13_isWord (fun l z h => T G d bc bs mX13_readSaid 21 l z h Q)))) l z h) : T G d bc bs mX13_readSaid 16 l z h Q := by
  refine R_aload_n dX13_readSaid_16 rfl (fun l z h k => ?_) k
  refine R_iload_n dX13_readSaid_17 rfl (fun l z h k => ?_) k
  exact R_cv1 (M := mX13_readSaid) (pc := 18) (bc := bc) (bs := bs) (cb := 0) (cs := 0) (M' := mX13_isWord) dX13_readSaid_18 rfl (by decide) w_1667 w_144 w_1664 w_1666 w_50 (by decide +kernel) (fun _ _ _ k => k) k
theorem bX13_readSaid_21 {G : Gt} {d bc bs : Nat} {Q : QT} {l : Ls} {z : List Value} {h : Hp} (k : (tIf (fun x => x = 0) (fun l z h => T G d bc bs mX13_readSaid 24 l z h Q) (fun l z h => T G d bc bs mX13_readSaid 30 l z h Q)) l z h) : T G d bc bs mX13_readSaid 21 l z h Q := by
  exact R_if_ne dX13_readSaid_21 (by decide) (fun _ _ _ k => k) (fun _ _ _ k => k) k
theorem bX13_readSaid_24 {G : Gt} {d bc bs : Nat} {Q : QT} {l : Ls} {z : List Value} {h : Hp} (k : (tInc 2 1 ((fun l z h => T G d bc bs mX13_readSaid 10 l z h Q))) l z h) : T G d bc bs mX13_readSaid 24 l z h Q := by
  refine R_iinc dX13_readSaid_24 (by decide) (by decide) (fun l z h k => ?_) k
  exact R_goto dX13_readSaid_27 (by decide) (fun _ _ _ k => k) k
theorem bX13_readSaid_30 {G : Gt} {d bc bs : Nat} {Q : QT} {l : Ls} {z : List Value} {h : Hp} (k : (tIld 1 (tIf (fun x => x = 0) (fun l z h => T G d bc bs mX13_readSaid 34 l z h Q) (fun l z h => T G d bc bs mX13_readSaid 46 l z h Q))) l z h) : T G d bc bs mX13_readSaid 30 l z h Q := by
  refine R_iload_n dX13_readSaid_30 rfl (fun l z h k => ?_) k
  exact R_if_ne dX13_readSaid_31 (by decide) (fun _ _ _ k => k) (fun _ _ _ k => k) k
theorem bX13_readSaid_34 {G : Gt} {d bc bs : Nat} {Q : QT} {l : Ls} {z : List Value} {h : Hp} (k : (tIld 2 (tPush (.int 23) (tIf2 (fun x y => x ≤ y) (fun l z h => T G d bc bs mX13_readSaid 46 l z h Q) (fun l z h => T G d bc bs mX13_readSaid 40 l z h Q)))) l z h) : T G d bc bs mX13_readSaid 34 l z h Q := by
  refine R_iload_n dX13_readSaid_34 rfl (fun l z h k => ?_) k
  refine R_bipush dX13_readSaid_35 (by decide) (fun l z h k => ?_) k
  exact R_icmp_le dX13_readSaid_37 (by decide) (fun _ _ _ k => k) (fun _ _ _ k => k) k
theorem bX13_readSaid_40 {G : Gt} {d bc bs : Nat} {Q : QT} {l : Ls} {z : List Value} {h : Hp} (k : (tAld 0 (tPush (.int 1) (tCV1 G d 0 0 11 mX13_bad (fun l z h => T G d bc bs mX13_readSaid 45 l z h Q)))) l z h) : T G d bc bs mX13_readSaid 40 l z h Q := by
  refine R_aload_n dX13_readSaid_40 rfl (fun l z h k => ?_) k
  refine R_iconst dX13_readSaid_41 (by decide) (fun l z h k => ?_) k
  exact R_cv1 (M := mX13_readSaid) (pc := 42) (bc := bc) (bs := bs) (cb := 0) (cs := 0) (M' := mX13_bad) dX13_readSaid_42 rfl (by decide) w_1685 w_144 w_1682 w_1684 w_53 (by decide +kernel) (fun _ _ _ k => k) k
theorem bX13_readSaid_45 {G : Gt} {d bc bs : Nat} {Q : QT} {l : Ls} {z : List Value} {h : Hp} (k : (tRetZ Q) l z h) : T G d bc bs mX13_readSaid 45 l z h Q := by
  exact R_zret dX13_readSaid_45 rfl k
theorem bX13_readSaid_46 {G : Gt} {d bc bs : Nat} {Q : QT} {l : Ls} {z : List Value} {h : Hp} (k : (tAld 0 (tGetf 11 46 (tPush (.int 20) (tIf2 (fun x y => x = y) (fun l z h => T G d bc bs mX13_readSaid 64 l z h Q) (fun l z h => T G d bc bs mX13_readSaid 55 l z h Q))))) l z h) : T G d bc bs mX13_readSaid 46 l z h Q := by
  refine R_aload_n dX13_readSaid_46 rfl (fun l z h k => ?_) k
  refine R_getf (ci := 11) (f := 46) (C := RX13) (N := 49) (Tt := TX13) dX13_readSaid_47 rfl i_X13 (by decide) w_1513 (fun l z h k => ?_) k
  refine R_bipush dX13_readSaid_50 (by decide) (fun l z h k => ?_) k
  exact R_icmp_eq dX13_readSaid_52 (by decide) (fun _ _ _ k => k) (fun _ _ _ k => k) k
theorem bX13_readSaid_55 {G : Gt} {d bc bs : Nat} {Q : QT} {l : Ls} {z : List Value} {h : Hp} (k : (tAld 0 (tGetf 11 47 (tPush (.int 8) (tIf2 (fun x y => x = y) (fun l z h => T G d bc bs mX13_readSaid 64 l z h Q) (fun l z h => T G d bc bs mX13_readSaid 70 l z h Q))))) l z h) : T G d bc bs mX13_readSaid 55 l z h Q := by
  refine R_aload_n dX13_readSaid_55 rfl (fun l z h k => ?_) k
  refine R_getf (ci := 11) (f := 47) (C := RX13) (N := 49) (Tt := TX13) dX13_readSaid_56 rfl i_X13 (by decide) w_1514 (fun l z h k => ?_) k
  refine R_bipush dX13_readSaid_59 (by decide) (fun l z h k => ?_) k
  exact R_icmp_ne dX13_readSaid_61 (by decide) (fun _ _ _ k => k) (fun _ _ _ k => k) k
theorem bX13_readSaid_64 {G : Gt} {d bc bs : Nat} {Q : QT} {l : Ls} {z : List Value} {h : Hp} (k : (tAld 0 (tPush (.int 4) (tCV1 G d 0 0 11 mX13_bad (fun l z h => T G d bc bs mX13_readSaid 69 l z h Q)))) l z h) : T G d bc bs mX13_readSaid 64 l z h Q := by
  refine R_aload_n dX13_readSaid_64 rfl (fun l z h k => ?_) k
  refine R_iconst dX13_readSaid_65 (by decide) (fun l z h k => ?_) k
  exact R_cv1 (M := mX13_readSaid) (pc := 66) (bc := bc) (bs := bs) (cb := 0) (cs := 0) (M' := mX13_bad) dX13_readSaid_66 rfl (by decide) w_1685 w_144 w_1682 w_1684 w_53 (by decide +kernel) (fun _ _ _ k => k) k
theorem bX13_readSaid_69 {G : Gt} {d bc bs : Nat} {Q : QT} {l : Ls} {z : List Value} {h : Hp} (k : (tRetZ Q) l z h) : T G d bc bs mX13_readSaid 69 l z h Q := by
  exact R_zret dX13_readSaid_69 rfl k
theorem bX13_readSaid_70 {G : Gt} {d bc bs : Nat} {Q : QT} {l : Ls} {z : List Value} {h : Hp} (k : (tAld 0 (tDup (tGetf 11 46 (tPush (.int 1) (tB (fun x y => x + y) (tPutf isI 11 46 (tAld 0 (tDup (tGetf 11 47 (tPush (.int 1) (tB (fun x y => x + y) (tPutf isI 11 47 (tAld 0 (tCV0 G d 0 0 11 mX13_go (fun l z h => T G d bc bs mX13_readSaid 94 l z h Q))))))))))))))) l z h) : T G d bc bs mX13_readSaid 70 l z h Q := by
  refine R_aload_n dX13_readSaid_70 rfl (fun l z h k => ?_) k
  refine R_dup dX13_readSaid_71 (fun l z h k => ?_) k
  refine R_getf (ci := 11) (f := 46) (C := RX13) (N := 49) (Tt := TX13) dX13_readSaid_72 rfl i_X13 (by decide) w_1513 (fun l z h k => ?_) k
  refine R_iconst dX13_readSaid_75 (by decide) (fun l z h k => ?_) k
  refine R_iadd dX13_readSaid_76 (fun l z h k => ?_) k
  refine R_putf (ci := 11) (f := 46) (C := RX13) (N := 49) (Tt := TX13) tyX13 tyX13_ok nmX13 dX13_readSaid_77 rfl i_X13 (by decide) w_1513 rfl (tyX13_ok 46 (by decide)) p_int (fun l z h k => ?_) k
  refine R_aload_n dX13_readSaid_80 rfl (fun l z h k => ?_) k
  refine R_dup dX13_readSaid_81 (fun l z h k => ?_) k
  refine R_getf (ci := 11) (f := 47) (C := RX13) (N := 49) (Tt := TX13) dX13_readSaid_82 rfl i_X13 (by decide) w_1514 (fun l z h k => ?_) k
  refine R_iconst dX13_readSaid_85 (by decide) (fun l z h k => ?_) k
  refine R_iadd dX13_readSaid_86 (fun l z h k => ?_) k
  refine R_putf (ci := 11) (f := 47) (C := RX13) (N := 49) (Tt := TX13) tyX13 tyX13_ok nmX13 dX13_readSaid_87 rfl i_X13 (by decide) w_1514 rfl (tyX13_ok 47 (by decide)) p_int (fun l z h k => ?_) k
  refine R_aload_n dX13_readSaid_90 rfl (fun l z h k => ?_) k
  exact R_cv0 (M := mX13_readSaid) (pc := 91) (bc := bc) (bs := bs) (cb := 0) (cs := 0) (M' := mX13_go) dX13_readSaid_91 rfl (by decide) w_1647 w_144 w_1644 w_1646 w_47 (by decide +kernel) (fun _ _ _ k => k) k
theorem bX13_readSaid_94 {G : Gt} {d bc bs : Nat} {Q : QT} {l : Ls} {z : List Value} {h : Hp} (k : (tPush (.int 1) (tIst 3 (tIld 1 (tIf (fun x => x = 0) (fun l z h => T G d bc bs mX13_readSaid 108 l z h Q) (fun l z h => T G d bc bs mX13_readSaid 100 l z h Q))))) l z h) : T G d bc bs mX13_readSaid 94 l z h Q := by
  refine R_iconst dX13_readSaid_94 (by decide) (fun l z h k => ?_) k
  refine R_istore_n dX13_readSaid_95 rfl (by decide) (fun l z h k => ?_) k
  refine R_iload_n dX13_readSaid_96 rfl (fun l z h k => ?_) k
  exact R_if_eq dX13_readSaid_97 (by decide) (fun _ _ _ k => k) (fun _ _ _ k => k) k
theorem bX13_readSaid_100 {G : Gt} {d bc bs : Nat} {Q : QT} {l : Ls} {z : List Value} {h : Hp} (k : (tAld 0 (tCV0 G d 0 0 11 mX13_readBracket (fun l z h => T G d bc bs mX13_readSaid 104 l z h Q))) l z h) : T G d bc bs mX13_readSaid 100 l z h Q := by
  refine R_aload_n dX13_readSaid_100 rfl (fun l z h k => ?_) k
  exact R_cv0 (M := mX13_readSaid) (pc := 101) (bc := bc) (bs := bs) (cb := 0) (cs := 0) (M' := mX13_readBracket) dX13_readSaid_101 rfl (by decide) w_2116 w_144 w_2113 w_2115 w_123 (by decide +kernel) (fun _ _ _ k => k) k
theorem bX13_readSaid_104 {G : Gt} {d bc bs : Nat} {Q : QT} {l : Ls} {z : List Value} {h : Hp} (k : (tIst 3 ((fun l z h => T G d bc bs mX13_readSaid 166 l z h Q))) l z h) : T G d bc bs mX13_readSaid 104 l z h Q := by
  refine R_istore_n dX13_readSaid_104 rfl (by decide) (fun l z h k => ?_) k
  exact R_goto dX13_readSaid_105 (by decide) (fun _ _ _ k => k) k
theorem bX13_readSaid_108 {G : Gt} {d bc bs : Nat} {Q : QT} {l : Ls} {z : List Value} {h : Hp} (k : (tIld 2 (tPush (.int 13) (tIf2 (fun x y => x = y) (fun l z h => T G d bc bs mX13_readSaid 114 l z h Q) (fun l z h => T G d bc bs mX13_readSaid 122 l z h Q)))) l z h) : T G d bc bs mX13_readSaid 108 l z h Q := by
  refine R_iload_n dX13_readSaid_108 rfl (fun l z h k => ?_) k
  refine R_bipush dX13_readSaid_109 (by decide) (fun l z h k => ?_) k
  exact R_icmp_ne dX13_readSaid_111 (by decide) (fun _ _ _ k => k) (fun _ _ _ k => k) k
theorem bX13_readSaid_114 {G : Gt} {d bc bs : Nat} {Q : QT} {l : Ls} {z : List Value} {h : Hp} (k : (tAld 0 (tCV0 G d 0 0 11 mX13_readNot (fun l z h => T G d bc bs mX13_readSaid 118 l z h Q))) l z h) : T G d bc bs mX13_readSaid 114 l z h Q := by
  refine R_aload_n dX13_readSaid_114 rfl (fun l z h k => ?_) k
  exact R_cv0 (M := mX13_readSaid) (pc := 115) (bc := bc) (bs := bs) (cb := 0) (cs := 0) (M' := mX13_readNot) dX13_readSaid_115 rfl (by decide) w_2120 w_144 w_2117 w_2119 w_124 (by decide +kernel) (fun _ _ _ k => k) k
theorem bX13_readSaid_118 {G : Gt} {d bc bs : Nat} {Q : QT} {l : Ls} {z : List Value} {h : Hp} (k : (tIst 3 ((fun l z h => T G d bc bs mX13_readSaid 166 l z h Q))) l z h) : T G d bc bs mX13_readSaid 118 l z h Q := by
  refine R_istore_n dX13_readSaid_118 rfl (by decide) (fun l z h k => ?_) k
  exact R_goto dX13_readSaid_119 (by decide) (fun _ _ _ k => k) k
theorem bX13_readSaid_122 {G : Gt} {d bc bs : Nat} {Q : QT} {l : Ls} {z : List Value} {h : Hp} (k : (tIld 2 (tPush (.int 18) (tIf2 (fun x y => y ≤ x) (fun l z h => T G d bc bs mX13_readSaid 146 l z h Q) (fun l z h => T G d bc bs mX13_readSaid 128 l z h Q)))) l z h) : T G d bc bs mX13_readSaid 122 l z h Q := by
  refine R_iload_n dX13_readSaid_122 rfl (fun l z h k => ?_) k
  refine R_bipush dX13_readSaid_123 (by decide) (fun l z h k => ?_) k
  exact R_icmp_ge dX13_readSaid_125 (by decide) (fun _ _ _ k => k) (fun _ _ _ k => k) k
theorem bX13_readSaid_128 {G : Gt} {d bc bs : Nat} {Q : QT} {l : Ls} {z : List Value} {h : Hp} (k : (tAld 0 (tAld 0 (tPush (.int 50) (tIld 2 (tB (fun x y => x + y) (tPush (.int 0) (tPush (.int 0) (tPush (.int 0) (tCV4 G d 0 0 11 mX13_saysOne (fun l z h => T G d bc bs mX13_readSaid 140 l z h Q)))))))))) l z h) : T G d bc bs mX13_readSaid 128 l z h Q := by
  refine R_aload_n dX13_readSaid_128 rfl (fun l z h k => ?_) k
  refine R_aload_n dX13_readSaid_129 rfl (fun l z h k => ?_) k
  refine R_bipush dX13_readSaid_130 (by decide) (fun l z h k => ?_) k
  refine R_iload_n dX13_readSaid_132 rfl (fun l z h k => ?_) k
  refine R_iadd dX13_readSaid_133 (fun l z h k => ?_) k
  refine R_iconst dX13_readSaid_134 (by decide) (fun l z h k => ?_) k
  refine R_iconst dX13_readSaid_135 (by decide) (fun l z h k => ?_) k
  refine R_iconst dX13_readSaid_136 (by decide) (fun l z h k => ?_) k
  exact R_cv4 (M := mX13_readSaid) (pc := 137) (bc := bc) (bs := bs) (cb := 0) (cs := 0) (M' := mX13_saysOne) dX13_readSaid_137 rfl (by decide) w_2124 w_144 w_2121 w_2123 w_125 (by decide +kernel) (fun _ _ _ k => k) k
theorem bX13_readSaid_140 {G : Gt} {d bc bs : Nat} {Q : QT} {l : Ls} {z : List Value} {h : Hp} (k : (tPutf isI 11 48 ((fun l z h => T G d bc bs mX13_readSaid 166 l z h Q))) l z h) : T G d bc bs mX13_readSaid 140 l z h Q := by
  refine R_putf (ci := 11) (f := 48) (C := RX13) (N := 49) (Tt := TX13) tyX13 tyX13_ok nmX13 dX13_readSaid_140 rfl i_X13 (by decide) w_1515 rfl (tyX13_ok 48 (by decide)) p_int (fun l z h k => ?_) k
  exact R_goto dX13_readSaid_143 (by decide) (fun _ _ _ k => k) k
theorem bX13_readSaid_146 {G : Gt} {d bc bs : Nat} {Q : QT} {l : Ls} {z : List Value} {h : Hp} (k : (tIld 2 (tPush (.int 20) (tIf2 (fun x y => y ≤ x) (fun l z h => T G d bc bs mX13_readSaid 160 l z h Q) (fun l z h => T G d bc bs mX13_readSaid 152 l z h Q)))) l z h) : T G d bc bs mX13_readSaid 146 l z h Q := by
  refine R_iload_n dX13_readSaid_146 rfl (fun l z h k => ?_) k
  refine R_bipush dX13_readSaid_147 (by decide) (fun l z h k => ?_) k
  exact R_icmp_ge dX13_readSaid_149 (by decide) (fun _ _ _ k => k) (fun _ _ _ k => k) k
theorem bX13_readSaid_152 {G : Gt} {d bc bs : Nat} {Q : QT} {l : Ls} {z : List Value} {h : Hp} (k : (tAld 0 (tIld 2 (tCV1 G d 0 0 11 mX13_readOf (fun l z h => T G d bc bs mX13_readSaid 157 l z h Q)))) l z h) : T G d bc bs mX13_readSaid 152 l z h Q := by
  refine R_aload_n dX13_readSaid_152 rfl (fun l z h k => ?_) k
  refine R_iload_n dX13_readSaid_153 rfl (fun l z h k => ?_) k
  exact R_cv1 (M := mX13_readSaid) (pc := 154) (bc := bc) (bs := bs) (cb := 0) (cs := 0) (M' := mX13_readOf) dX13_readSaid_154 rfl (by decide) w_2128 w_144 w_2125 w_2127 w_126 (by decide +kernel) (fun _ _ _ k => k) k
theorem bX13_readSaid_157 {G : Gt} {d bc bs : Nat} {Q : QT} {l : Ls} {z : List Value} {h : Hp} (k : (fun l z h => T G d bc bs mX13_readSaid 165 l z h Q) l z h) : T G d bc bs mX13_readSaid 157 l z h Q := by
  exact R_goto dX13_readSaid_157 (by decide) (fun _ _ _ k => k) k
theorem bX13_readSaid_160 {G : Gt} {d bc bs : Nat} {Q : QT} {l : Ls} {z : List Value} {h : Hp} (k : (tAld 0 (tIld 2 (tCV1 G d 0 0 11 mX13_readCompare (fun l z h => T G d bc bs mX13_readSaid 165 l z h Q)))) l z h) : T G d bc bs mX13_readSaid 160 l z h Q := by
  refine R_aload_n dX13_readSaid_160 rfl (fun l z h k => ?_) k
  refine R_iload_n dX13_readSaid_161 rfl (fun l z h k => ?_) k
  exact R_cv1 (M := mX13_readSaid) (pc := 162) (bc := bc) (bs := bs) (cb := 0) (cs := 0) (M' := mX13_readCompare) dX13_readSaid_162 rfl (by decide) w_2132 w_144 w_2129 w_2131 w_127 (by decide +kernel) (fun _ _ _ k => k) k
theorem bX13_readSaid_165 {G : Gt} {d bc bs : Nat} {Q : QT} {l : Ls} {z : List Value} {h : Hp} (k : (tIst 3 ((fun l z h => T G d bc bs mX13_readSaid 166 l z h Q))) l z h) : T G d bc bs mX13_readSaid 165 l z h Q := by
  refine R_istore_n dX13_readSaid_165 rfl (by decide) (fun l z h k => ?_) k
  exact k
theorem bX13_readSaid_166 {G : Gt} {d bc bs : Nat} {Q : QT} {l : Ls} {z : List Value} {h : Hp} (k : (tAld 0 (tDup (tGetf 11 47 (tPush (.int 1) (tB (fun x y => x - y) (tPutf isI 11 47 (tIld 3 (tRetZ Q)))))))) l z h) : T G d bc bs mX13_readSaid 166 l z h Q := by
  refine R_aload_n dX13_readSaid_166 rfl (fun l z h k => ?_) k
  refine R_dup dX13_readSaid_167 (fun l z h k => ?_) k
  refine R_getf (ci := 11) (f := 47) (C := RX13) (N := 49) (Tt := TX13) dX13_readSaid_168 rfl i_X13 (by decide) w_1514 (fun l z h k => ?_) k
  refine R_iconst dX13_readSaid_171 (by decide) (fun l z h k => ?_) k
  refine R_isub dX13_readSaid_172 (fun l z h k => ?_) k
  refine R_putf (ci := 11) (f := 47) (C := RX13) (N := 49) (Tt := TX13) tyX13 tyX13_ok nmX13 dX13_readSaid_173 rfl i_X13 (by decide) w_1514 rfl (tyX13_ok 47 (by decide)) p_int (fun l z h k => ?_) k
  refine R_iload_n dX13_readSaid_176 rfl (fun l z h k => ?_) k
  exact R_zret dX13_readSaid_177 rfl k
theorem dX13_readNot_0 : decode cX13_readNot 0 = .ok (.aload_n 0, 1) := by decide +kernel
theorem dX13_readNot_1 : decode cX13_readNot 1 = .ok (.invokevirtual 446, 3) := by decide +kernel
theorem dX13_readNot_4 : decode cX13_readNot 4 = .ok (.ifCond .ne 5, 3) := by decide +kernel
theorem dX13_readNot_7 : decode cX13_readNot 7 = .ok (.iconst 0, 1) := by decide +kernel
theorem dX13_readNot_8 : decode cX13_readNot 8 = .ok (.ireturn, 1) := by decide +kernel
theorem dX13_readNot_9 : decode cX13_readNot 9 = .ok (.aload_n 0, 1) := by decide +kernel
theorem dX13_readNot_10 : decode cX13_readNot 10 = .ok (.aload_n 0, 1) := by decide +kernel
theorem dX13_readNot_11 : decode cX13_readNot 11 = .ok (.iconst 1, 1) := by decide +kernel
theorem dX13_readNot_12 : decode cX13_readNot 12 = .ok (.aload_n 0, 1) := by decide +kernel
theorem dX13_readNot_13 : decode cX13_readNot 13 = .ok (.getfield 440, 3) := by decide +kernel
theorem dX13_readNot_16 : decode cX13_readNot 16 = .ok (.iconst 0, 1) := by decide +kernel
theorem dX13_readNot_17 : decode cX13_readNot 17 = .ok (.iconst 0, 1) := by decide +kernel
theorem dX13_readNot_18 : decode cX13_readNot 18 = .ok (.invokevirtual 443, 3) := by decide +kernel
theorem dX13_readNot_21 : decode cX13_readNot 21 = .ok (.putfield 440, 3) := by decide +kernel
theorem dX13_readNot_24 : decode cX13_readNot 24 = .ok (.iconst 1, 1) := by decide +kernel
theorem dX13_readNot_25 : decode cX13_readNot 25 = .ok (.ireturn, 1) := by decide +kernel
theorem bX13_readNot_0 {G : Gt} {d bc bs : Nat} {Q : QT} {l : Ls} {z : List Value} {h : Hp} (k : (tAld 0 (tCV0 G d 0 0 11 mX13_readSaid (fun l z h => T G d bc bs mX13_readNot 4 l z h Q))) l z h) : T G d bc bs mX13_readNot 0 l z h Q := by
  refine R_aload_n dX13_readNot_0 rfl (fun l z h k => ?_) k
  exact R_cv0 (M := mX13_readNot) (pc := 1) (bc := bc) (bs := bs) (cb := 0) (cs := 0) (M' := mX13_readSaid) dX13_readNot_1 rfl (by decide) w_2112 w_144 w_2109 w_2111 w_122 (by decide +kernel) (fun _ _ _ k => k) k
theorem bX13_readNot_4 {G : Gt} {d bc bs : Nat} {Q : QT} {l : Ls} {z : List Value} {h : Hp} (k : (tIf (fun x => x = 0) (fun l z h => T G d bc bs mX13_readNot 7 l z h Q) (fun l z h => T G d bc bs mX13_readNot 9 l z h Q)) l z h) : T G d bc bs mX13_readNot 4 l z h Q := by
  exact R_if_ne dX13_readNot_4 (by decide) (fun _ _ _ k => k) (fun _ _ _ k => k) k
theorem bX13_readNot_7 {G : Gt} {d bc bs : Nat} {Q : QT} {l : Ls} {z : List Value} {h : Hp} (k : (tPush (.int 0) (tRetZ Q)) l z h) : T G d bc bs mX13_readNot 7 l z h Q := by
  refine R_iconst dX13_readNot_7 (by decide) (fun l z h k => ?_) k
  exact R_zret dX13_readNot_8 rfl k
theorem bX13_readNot_9 {G : Gt} {d bc bs : Nat} {Q : QT} {l : Ls} {z : List Value} {h : Hp} (k : (tAld 0 (tAld 0 (tPush (.int 1) (tAld 0 (tGetf 11 48 (tPush (.int 0) (tPush (.int 0) (tCV4 G d 0 0 11 mX13_saysOne (fun l z h => T G d bc bs mX13_readNot 21 l z h Q))))))))) l z h) : T G d bc bs mX13_readNot 9 l z h Q := by
  refine R_aload_n dX13_readNot_9 rfl (fun l z h k => ?_) k
  refine R_aload_n dX13_readNot_10 rfl (fun l z h k => ?_) k
  refine R_iconst dX13_readNot_11 (by decide) (fun l z h k => ?_) k
  refine R_aload_n dX13_readNot_12 rfl (fun l z h k => ?_) k
  refine R_getf (ci := 11) (f := 48) (C := RX13) (N := 49) (Tt := TX13) dX13_readNot_13 rfl i_X13 (by decide) w_1515 (fun l z h k => ?_) k
  refine R_iconst dX13_readNot_16 (by decide) (fun l z h k => ?_) k
  refine R_iconst dX13_readNot_17 (by decide) (fun l z h k => ?_) k
  exact R_cv4 (M := mX13_readNot) (pc := 18) (bc := bc) (bs := bs) (cb := 0) (cs := 0) (M' := mX13_saysOne) dX13_readNot_18 rfl (by decide) w_2124 w_144 w_2121 w_2123 w_125 (by decide +kernel) (fun _ _ _ k => k) k
theorem bX13_readNot_21 {G : Gt} {d bc bs : Nat} {Q : QT} {l : Ls} {z : List Value} {h : Hp} (k : (tPutf isI 11 48 (tPush (.int 1) (tRetZ Q))) l z h) : T G d bc bs mX13_readNot 21 l z h Q := by
  refine R_putf (ci := 11) (f := 48) (C := RX13) (N := 49) (Tt := TX13) tyX13 tyX13_ok nmX13 dX13_readNot_21 rfl i_X13 (by decide) w_1515 rfl (tyX13_ok 48 (by decide)) p_int (fun l z h k => ?_) k
  refine R_iconst dX13_readNot_24 (by decide) (fun l z h k => ?_) k
  exact R_zret dX13_readNot_25 rfl k
theorem dX13_readBracket_0 : decode cX13_readBracket 0 = .ok (.aload_n 0, 1) := by decide +kernel
theorem dX13_readBracket_1 : decode cX13_readBracket 1 = .ok (.invokevirtual 467, 3) := by decide +kernel
theorem dX13_readBracket_4 : decode cX13_readBracket 4 = .ok (.ifCond .ne 5, 3) := by decide +kernel
theorem dX13_readBracket_7 : decode cX13_readBracket 7 = .ok (.iconst 0, 1) := by decide +kernel
theorem dX13_readBracket_8 : decode cX13_readBracket 8 = .ok (.ireturn, 1) := by decide +kernel
theorem dX13_readBracket_9 : decode cX13_readBracket 9 = .ok (.aload_n 0, 1) := by decide +kernel
theorem dX13_readBracket_10 : decode cX13_readBracket 10 = .ok (.bipush 41, 2) := by decide +kernel
theorem dX13_readBracket_12 : decode cX13_readBracket 12 = .ok (.invokevirtual 162, 3) := by decide +kernel
theorem dX13_readBracket_15 : decode cX13_readBracket 15 = .ok (.ifCond .ne 9, 3) := by decide +kernel
theorem dX13_readBracket_18 : decode cX13_readBracket 18 = .ok (.aload_n 0, 1) := by decide +kernel
theorem dX13_readBracket_19 : decode cX13_readBracket 19 = .ok (.iconst 1, 1) := by decide +kernel
theorem dX13_readBracket_20 : decode cX13_readBracket 20 = .ok (.invokevirtual 149, 3) := by decide +kernel
theorem dX13_readBracket_23 : decode cX13_readBracket 23 = .ok (.ireturn, 1) := by decide +kernel
theorem dX13_readBracket_24 : decode cX13_readBracket 24 = .ok (.aload_n 0, 1) := by decide +kernel
theorem dX13_readBracket_25 : decode cX13_readBracket 25 = .ok (.invokevirtual 159, 3) := by decide +kernel
theorem dX13_readBracket_28 : decode cX13_readBracket 28 = .ok (.iconst 1, 1) := by decide +kernel
theorem dX13_readBracket_29 : decode cX13_readBracket 29 = .ok (.ireturn, 1) := by decide +kernel
theorem bX13_readBracket_0 {G : Gt} {d bc bs : Nat} {Q : QT} {l : Ls} {z : List Value} {h : Hp} (k : (tAld 0 (tCV0 G d 0 0 11 mX13_readOr (fun l z h => T G d bc bs mX13_readBracket 4 l z h Q))) l z h) : T G d bc bs mX13_readBracket 0 l z h Q := by
  refine R_aload_n dX13_readBracket_0 rfl (fun l z h k => ?_) k
  exact R_cv0 (M := mX13_readBracket) (pc := 1) (bc := bc) (bs := bs) (cb := 0) (cs := 0) (M' := mX13_readOr) dX13_readBracket_1 rfl (by decide) w_2104 w_144 w_2101 w_2103 w_120 (by decide +kernel) (fun _ _ _ k => k) k
theorem bX13_readBracket_4 {G : Gt} {d bc bs : Nat} {Q : QT} {l : Ls} {z : List Value} {h : Hp} (k : (tIf (fun x => x = 0) (fun l z h => T G d bc bs mX13_readBracket 7 l z h Q) (fun l z h => T G d bc bs mX13_readBracket 9 l z h Q)) l z h) : T G d bc bs mX13_readBracket 4 l z h Q := by
  exact R_if_ne dX13_readBracket_4 (by decide) (fun _ _ _ k => k) (fun _ _ _ k => k) k
theorem bX13_readBracket_7 {G : Gt} {d bc bs : Nat} {Q : QT} {l : Ls} {z : List Value} {h : Hp} (k : (tPush (.int 0) (tRetZ Q)) l z h) : T G d bc bs mX13_readBracket 7 l z h Q := by
  refine R_iconst dX13_readBracket_7 (by decide) (fun l z h k => ?_) k
  exact R_zret dX13_readBracket_8 rfl k
theorem bX13_readBracket_9 {G : Gt} {d bc bs : Nat} {Q : QT} {l : Ls} {z : List Value} {h : Hp} (k : (tAld 0 (tPush (.int 41) (tCV1 G d 0 0 11 mX13_isSign (fun l z h => T G d bc bs mX13_readBracket 15 l z h Q)))) l z h) : T G d bc bs mX13_readBracket 9 l z h Q := by
  refine R_aload_n dX13_readBracket_9 rfl (fun l z h k => ?_) k
  refine R_bipush dX13_readBracket_10 (by decide) (fun l z h k => ?_) k
  exact R_cv1 (M := mX13_readBracket) (pc := 12) (bc := bc) (bs := bs) (cb := 0) (cs := 0) (M' := mX13_isSign) dX13_readBracket_12 rfl (by decide) w_1751 w_144 w_1748 w_1750 w_68 (by decide +kernel) (fun _ _ _ k => k) k
theorem bX13_readBracket_15 {G : Gt} {d bc bs : Nat} {Q : QT} {l : Ls} {z : List Value} {h : Hp} (k : (tIf (fun x => x = 0) (fun l z h => T G d bc bs mX13_readBracket 18 l z h Q) (fun l z h => T G d bc bs mX13_readBracket 24 l z h Q)) l z h) : T G d bc bs mX13_readBracket 15 l z h Q := by
  exact R_if_ne dX13_readBracket_15 (by decide) (fun _ _ _ k => k) (fun _ _ _ k => k) k
theorem bX13_readBracket_18 {G : Gt} {d bc bs : Nat} {Q : QT} {l : Ls} {z : List Value} {h : Hp} (k : (tAld 0 (tPush (.int 1) (tCV1 G d 0 0 11 mX13_bad (fun l z h => T G d bc bs mX13_readBracket 23 l z h Q)))) l z h) : T G d bc bs mX13_readBracket 18 l z h Q := by
  refine R_aload_n dX13_readBracket_18 rfl (fun l z h k => ?_) k
  refine R_iconst dX13_readBracket_19 (by decide) (fun l z h k => ?_) k
  exact R_cv1 (M := mX13_readBracket) (pc := 20) (bc := bc) (bs := bs) (cb := 0) (cs := 0) (M' := mX13_bad) dX13_readBracket_20 rfl (by decide) w_1685 w_144 w_1682 w_1684 w_53 (by decide +kernel) (fun _ _ _ k => k) k
theorem bX13_readBracket_23 {G : Gt} {d bc bs : Nat} {Q : QT} {l : Ls} {z : List Value} {h : Hp} (k : (tRetZ Q) l z h) : T G d bc bs mX13_readBracket 23 l z h Q := by
  exact R_zret dX13_readBracket_23 rfl k
theorem bX13_readBracket_24 {G : Gt} {d bc bs : Nat} {Q : QT} {l : Ls} {z : List Value} {h : Hp} (k : (tAld 0 (tCV0 G d 0 0 11 mX13_go (fun l z h => T G d bc bs mX13_readBracket 28 l z h Q))) l z h) : T G d bc bs mX13_readBracket 24 l z h Q := by
  refine R_aload_n dX13_readBracket_24 rfl (fun l z h k => ?_) k
  exact R_cv0 (M := mX13_readBracket) (pc := 25) (bc := bc) (bs := bs) (cb := 0) (cs := 0) (M' := mX13_go) dX13_readBracket_25 rfl (by decide) w_1647 w_144 w_1644 w_1646 w_47 (by decide +kernel) (fun _ _ _ k => k) k
theorem bX13_readBracket_28 {G : Gt} {d bc bs : Nat} {Q : QT} {l : Ls} {z : List Value} {h : Hp} (k : (tPush (.int 1) (tRetZ Q)) l z h) : T G d bc bs mX13_readBracket 28 l z h Q := by
  refine R_iconst dX13_readBracket_28 (by decide) (fun l z h k => ?_) k
  exact R_zret dX13_readBracket_29 rfl k
theorem dX13_readOf_0 : decode cX13_readOf 0 = .ok (.aload_n 0, 1) := by decide +kernel
theorem dX13_readOf_1 : decode cX13_readOf 1 = .ok (.invokevirtual 187, 3) := by decide +kernel
theorem dX13_readOf_4 : decode cX13_readOf 4 = .ok (.ifCond .ne 5, 3) := by decide +kernel
theorem dX13_readOf_7 : decode cX13_readOf 7 = .ok (.iconst 0, 1) := by decide +kernel
theorem dX13_readOf_8 : decode cX13_readOf 8 = .ok (.ireturn, 1) := by decide +kernel
theorem dX13_readOf_9 : decode cX13_readOf 9 = .ok (.aload_n 0, 1) := by decide +kernel
theorem dX13_readOf_10 : decode cX13_readOf 10 = .ok (.aload_n 0, 1) := by decide +kernel
theorem dX13_readOf_11 : decode cX13_readOf 11 = .ok (.bipush 50, 2) := by decide +kernel
theorem dX13_readOf_13 : decode cX13_readOf 13 = .ok (.iload_n 1, 1) := by decide +kernel
theorem dX13_readOf_14 : decode cX13_readOf 14 = .ok (.iadd, 1) := by decide +kernel
theorem dX13_readOf_15 : decode cX13_readOf 15 = .ok (.aload_n 0, 1) := by decide +kernel
theorem dX13_readOf_16 : decode cX13_readOf 16 = .ok (.getfield 156, 3) := by decide +kernel
theorem dX13_readOf_19 : decode cX13_readOf 19 = .ok (.iconst 0, 1) := by decide +kernel
theorem dX13_readOf_20 : decode cX13_readOf 20 = .ok (.iconst 0, 1) := by decide +kernel
theorem dX13_readOf_21 : decode cX13_readOf 21 = .ok (.invokevirtual 443, 3) := by decide +kernel
theorem dX13_readOf_24 : decode cX13_readOf 24 = .ok (.putfield 440, 3) := by decide +kernel
theorem dX13_readOf_27 : decode cX13_readOf 27 = .ok (.iconst 1, 1) := by decide +kernel
theorem dX13_readOf_28 : decode cX13_readOf 28 = .ok (.ireturn, 1) := by decide +kernel
theorem bX13_readOf_0 {G : Gt} {d bc bs : Nat} {Q : QT} {l : Ls} {z : List Value} {h : Hp} (k : (tAld 0 (tCV0 G d 0 0 11 mX13_readSide (fun l z h => T G d bc bs mX13_readOf 4 l z h Q))) l z h) : T G d bc bs mX13_readOf 0 l z h Q := by
  refine R_aload_n dX13_readOf_0 rfl (fun l z h k => ?_) k
  exact R_cv0 (M := mX13_readOf) (pc := 1) (bc := bc) (bs := bs) (cb := 0) (cs := 0) (M' := mX13_readSide) dX13_readOf_1 rfl (by decide) w_1700 w_144 w_1697 w_1699 w_56 (by decide +kernel) (fun _ _ _ k => k) k
theorem bX13_readOf_4 {G : Gt} {d bc bs : Nat} {Q : QT} {l : Ls} {z : List Value} {h : Hp} (k : (tIf (fun x => x = 0) (fun l z h => T G d bc bs mX13_readOf 7 l z h Q) (fun l z h => T G d bc bs mX13_readOf 9 l z h Q)) l z h) : T G d bc bs mX13_readOf 4 l z h Q := by
  exact R_if_ne dX13_readOf_4 (by decide) (fun _ _ _ k => k) (fun _ _ _ k => k) k
theorem bX13_readOf_7 {G : Gt} {d bc bs : Nat} {Q : QT} {l : Ls} {z : List Value} {h : Hp} (k : (tPush (.int 0) (tRetZ Q)) l z h) : T G d bc bs mX13_readOf 7 l z h Q := by
  refine R_iconst dX13_readOf_7 (by decide) (fun l z h k => ?_) k
  exact R_zret dX13_readOf_8 rfl k
theorem bX13_readOf_9 {G : Gt} {d bc bs : Nat} {Q : QT} {l : Ls} {z : List Value} {h : Hp} (k : (tAld 0 (tAld 0 (tPush (.int 50) (tIld 1 (tB (fun x y => x + y) (tAld 0 (tGetf 11 13 (tPush (.int 0) (tPush (.int 0) (tCV4 G d 0 0 11 mX13_saysOne (fun l z h => T G d bc bs mX13_readOf 24 l z h Q))))))))))) l z h) : T G d bc bs mX13_readOf 9 l z h Q := by
  refine R_aload_n dX13_readOf_9 rfl (fun l z h k => ?_) k
  refine R_aload_n dX13_readOf_10 rfl (fun l z h k => ?_) k
  refine R_bipush dX13_readOf_11 (by decide) (fun l z h k => ?_) k
  refine R_iload_n dX13_readOf_13 rfl (fun l z h k => ?_) k
  refine R_iadd dX13_readOf_14 (fun l z h k => ?_) k
  refine R_aload_n dX13_readOf_15 rfl (fun l z h k => ?_) k
  refine R_getf (ci := 11) (f := 13) (C := RX13) (N := 49) (Tt := TX13) dX13_readOf_16 rfl i_X13 (by decide) w_1480 (fun l z h k => ?_) k
  refine R_iconst dX13_readOf_19 (by decide) (fun l z h k => ?_) k
  refine R_iconst dX13_readOf_20 (by decide) (fun l z h k => ?_) k
  exact R_cv4 (M := mX13_readOf) (pc := 21) (bc := bc) (bs := bs) (cb := 0) (cs := 0) (M' := mX13_saysOne) dX13_readOf_21 rfl (by decide) w_2124 w_144 w_2121 w_2123 w_125 (by decide +kernel) (fun _ _ _ k => k) k
theorem bX13_readOf_24 {G : Gt} {d bc bs : Nat} {Q : QT} {l : Ls} {z : List Value} {h : Hp} (k : (tPutf isI 11 48 (tPush (.int 1) (tRetZ Q))) l z h) : T G d bc bs mX13_readOf 24 l z h Q := by
  refine R_putf (ci := 11) (f := 48) (C := RX13) (N := 49) (Tt := TX13) tyX13 tyX13_ok nmX13 dX13_readOf_24 rfl i_X13 (by decide) w_1515 rfl (tyX13_ok 48 (by decide)) p_int (fun l z h k => ?_) k
  refine R_iconst dX13_readOf_27 (by decide) (fun l z h k => ?_) k
  exact R_zret dX13_readOf_28 rfl k
theorem dX13_readCompare_0 : decode cX13_readCompare 0 = .ok (.aload_n 0, 1) := by decide +kernel
theorem dX13_readCompare_1 : decode cX13_readCompare 1 = .ok (.bipush 60, 2) := by decide +kernel
theorem dX13_readCompare_3 : decode cX13_readCompare 3 = .ok (.invokevirtual 162, 3) := by decide +kernel
theorem dX13_readCompare_6 : decode cX13_readCompare 6 = .ok (.ifCond .ne 27, 3) := by decide +kernel
theorem dX13_readCompare_9 : decode cX13_readCompare 9 = .ok (.aload_n 0, 1) := by decide +kernel
theorem dX13_readCompare_10 : decode cX13_readCompare 10 = .ok (.bipush 61, 2) := by decide +kernel
theorem dX13_readCompare_12 : decode cX13_readCompare 12 = .ok (.invokevirtual 162, 3) := by decide +kernel
theorem dX13_readCompare_15 : decode cX13_readCompare 15 = .ok (.ifCond .ne 18, 3) := by decide +kernel
theorem dX13_readCompare_18 : decode cX13_readCompare 18 = .ok (.aload_n 0, 1) := by decide +kernel
theorem dX13_readCompare_19 : decode cX13_readCompare 19 = .ok (.bipush 62, 2) := by decide +kernel
theorem dX13_readCompare_21 : decode cX13_readCompare 21 = .ok (.invokevirtual 162, 3) := by decide +kernel
theorem dX13_readCompare_24 : decode cX13_readCompare 24 = .ok (.ifCond .ne 9, 3) := by decide +kernel
theorem dX13_readCompare_27 : decode cX13_readCompare 27 = .ok (.aload_n 0, 1) := by decide +kernel
theorem dX13_readCompare_28 : decode cX13_readCompare 28 = .ok (.iconst 1, 1) := by decide +kernel
theorem dX13_readCompare_29 : decode cX13_readCompare 29 = .ok (.invokevirtual 149, 3) := by decide +kernel
theorem dX13_readCompare_32 : decode cX13_readCompare 32 = .ok (.ireturn, 1) := by decide +kernel
theorem dX13_readCompare_33 : decode cX13_readCompare 33 = .ok (.aload_n 0, 1) := by decide +kernel
theorem dX13_readCompare_34 : decode cX13_readCompare 34 = .ok (.getfield 117, 3) := by decide +kernel
theorem dX13_readCompare_37 : decode cX13_readCompare 37 = .ok (.istore_n 2, 1) := by decide +kernel
theorem dX13_readCompare_38 : decode cX13_readCompare 38 = .ok (.aload_n 0, 1) := by decide +kernel
theorem dX13_readCompare_39 : decode cX13_readCompare 39 = .ok (.invokevirtual 159, 3) := by decide +kernel
theorem dX13_readCompare_42 : decode cX13_readCompare 42 = .ok (.aload_n 0, 1) := by decide +kernel
theorem dX13_readCompare_43 : decode cX13_readCompare 43 = .ok (.iconst 0, 1) := by decide +kernel
theorem dX13_readCompare_44 : decode cX13_readCompare 44 = .ok (.sipush 999, 3) := by decide +kernel
theorem dX13_readCompare_47 : decode cX13_readCompare 47 = .ok (.invokevirtual 194, 3) := by decide +kernel
theorem dX13_readCompare_50 : decode cX13_readCompare 50 = .ok (.ifCond .ne 5, 3) := by decide +kernel
theorem dX13_readCompare_53 : decode cX13_readCompare 53 = .ok (.iconst 0, 1) := by decide +kernel
theorem dX13_readCompare_54 : decode cX13_readCompare 54 = .ok (.ireturn, 1) := by decide +kernel
theorem dX13_readCompare_55 : decode cX13_readCompare 55 = .ok (.aload_n 0, 1) := by decide +kernel
theorem dX13_readCompare_56 : decode cX13_readCompare 56 = .ok (.aload_n 0, 1) := by decide +kernel
theorem dX13_readCompare_57 : decode cX13_readCompare 57 = .ok (.bipush 50, 2) := by decide +kernel
theorem dX13_readCompare_59 : decode cX13_readCompare 59 = .ok (.iload_n 1, 1) := by decide +kernel
theorem dX13_readCompare_60 : decode cX13_readCompare 60 = .ok (.iadd, 1) := by decide +kernel
theorem dX13_readCompare_61 : decode cX13_readCompare 61 = .ok (.iconst 0, 1) := by decide +kernel
theorem dX13_readCompare_62 : decode cX13_readCompare 62 = .ok (.aload_n 0, 1) := by decide +kernel
theorem dX13_readCompare_63 : decode cX13_readCompare 63 = .ok (.getfield 156, 3) := by decide +kernel
theorem dX13_readCompare_66 : decode cX13_readCompare 66 = .ok (.iload_n 2, 1) := by decide +kernel
theorem dX13_readCompare_67 : decode cX13_readCompare 67 = .ok (.invokevirtual 443, 3) := by decide +kernel
theorem dX13_readCompare_70 : decode cX13_readCompare 70 = .ok (.putfield 440, 3) := by decide +kernel
theorem dX13_readCompare_73 : decode cX13_readCompare 73 = .ok (.iconst 1, 1) := by decide +kernel
theorem dX13_readCompare_74 : decode cX13_readCompare 74 = .ok (.ireturn, 1) := by decide +kernel
theorem bX13_readCompare_0 {G : Gt} {d bc bs : Nat} {Q : QT} {l : Ls} {z : List Value} {h : Hp} (k : (tAld 0 (tPush (.int 60) (tCV1 G d 0 0 11 mX13_isSign (fun l z h => T G d bc bs mX13_readCompare 6 l z h Q)))) l z h) : T G d bc bs mX13_readCompare 0 l z h Q := by
  refine R_aload_n dX13_readCompare_0 rfl (fun l z h k => ?_) k
  refine R_bipush dX13_readCompare_1 (by decide) (fun l z h k => ?_) k
  exact R_cv1 (M := mX13_readCompare) (pc := 3) (bc := bc) (bs := bs) (cb := 0) (cs := 0) (M' := mX13_isSign) dX13_readCompare_3 rfl (by decide) w_1751 w_144 w_1748 w_1750 w_68 (by decide +kernel) (fun _ _ _ k => k) k
theorem bX13_readCompare_6 {G : Gt} {d bc bs : Nat} {Q : QT} {l : Ls} {z : List Value} {h : Hp} (k : (tIf (fun x => x = 0) (fun l z h => T G d bc bs mX13_readCompare 9 l z h Q) (fun l z h => T G d bc bs mX13_readCompare 33 l z h Q)) l z h) : T G d bc bs mX13_readCompare 6 l z h Q := by
  exact R_if_ne dX13_readCompare_6 (by decide) (fun _ _ _ k => k) (fun _ _ _ k => k) k
theorem bX13_readCompare_9 {G : Gt} {d bc bs : Nat} {Q : QT} {l : Ls} {z : List Value} {h : Hp} (k : (tAld 0 (tPush (.int 61) (tCV1 G d 0 0 11 mX13_isSign (fun l z h => T G d bc bs mX13_readCompare 15 l z h Q)))) l z h) : T G d bc bs mX13_readCompare 9 l z h Q := by
  refine R_aload_n dX13_readCompare_9 rfl (fun l z h k => ?_) k
  refine R_bipush dX13_readCompare_10 (by decide) (fun l z h k => ?_) k
  exact R_cv1 (M := mX13_readCompare) (pc := 12) (bc := bc) (bs := bs) (cb := 0) (cs := 0) (M' := mX13_isSign) dX13_readCompare_12 rfl (by decide) w_1751 w_144 w_1748 w_1750 w_68 (by decide +kernel) (fun _ _ _ k => k) k
theorem bX13_readCompare_15 {G : Gt} {d bc bs : Nat} {Q : QT} {l : Ls} {z : List Value} {h : Hp} (k : (tIf (fun x => x = 0) (fun l z h => T G d bc bs mX13_readCompare 18 l z h Q) (fun l z h => T G d bc bs mX13_readCompare 33 l z h Q)) l z h) : T G d bc bs mX13_readCompare 15 l z h Q := by
  exact R_if_ne dX13_readCompare_15 (by decide) (fun _ _ _ k => k) (fun _ _ _ k => k) k
theorem bX13_readCompare_18 {G : Gt} {d bc bs : Nat} {Q : QT} {l : Ls} {z : List Value} {h : Hp} (k : (tAld 0 (tPush (.int 62) (tCV1 G d 0 0 11 mX13_isSign (fun l z h => T G d bc bs mX13_readCompare 24 l z h Q)))) l z h) : T G d bc bs mX13_readCompare 18 l z h Q := by
  refine R_aload_n dX13_readCompare_18 rfl (fun l z h k => ?_) k
  refine R_bipush dX13_readCompare_19 (by decide) (fun l z h k => ?_) k
  exact R_cv1 (M := mX13_readCompare) (pc := 21) (bc := bc) (bs := bs) (cb := 0) (cs := 0) (M' := mX13_isSign) dX13_readCompare_21 rfl (by decide) w_1751 w_144 w_1748 w_1750 w_68 (by decide +kernel) (fun _ _ _ k => k) k
theorem bX13_readCompare_24 {G : Gt} {d bc bs : Nat} {Q : QT} {l : Ls} {z : List Value} {h : Hp} (k : (tIf (fun x => x = 0) (fun l z h => T G d bc bs mX13_readCompare 27 l z h Q) (fun l z h => T G d bc bs mX13_readCompare 33 l z h Q)) l z h) : T G d bc bs mX13_readCompare 24 l z h Q := by
  exact R_if_ne dX13_readCompare_24 (by decide) (fun _ _ _ k => k) (fun _ _ _ k => k) k
theorem bX13_readCompare_27 {G : Gt} {d bc bs : Nat} {Q : QT} {l : Ls} {z : List Value} {h : Hp} (k : (tAld 0 (tPush (.int 1) (tCV1 G d 0 0 11 mX13_bad (fun l z h => T G d bc bs mX13_readCompare 32 l z h Q)))) l z h) : T G d bc bs mX13_readCompare 27 l z h Q := by
  refine R_aload_n dX13_readCompare_27 rfl (fun l z h k => ?_) k
  refine R_iconst dX13_readCompare_28 (by decide) (fun l z h k => ?_) k
  exact R_cv1 (M := mX13_readCompare) (pc := 29) (bc := bc) (bs := bs) (cb := 0) (cs := 0) (M' := mX13_bad) dX13_readCompare_29 rfl (by decide) w_1685 w_144 w_1682 w_1684 w_53 (by decide +kernel) (fun _ _ _ k => k) k
theorem bX13_readCompare_32 {G : Gt} {d bc bs : Nat} {Q : QT} {l : Ls} {z : List Value} {h : Hp} (k : (tRetZ Q) l z h) : T G d bc bs mX13_readCompare 32 l z h Q := by
  exact R_zret dX13_readCompare_32 rfl k
theorem bX13_readCompare_33 {G : Gt} {d bc bs : Nat} {Q : QT} {l : Ls} {z : List Value} {h : Hp} (k : (tAld 0 (tGetf 11 9 (tIst 2 (tAld 0 (tCV0 G d 0 0 11 mX13_go (fun l z h => T G d bc bs mX13_readCompare 42 l z h Q)))))) l z h) : T G d bc bs mX13_readCompare 33 l z h Q := by
  refine R_aload_n dX13_readCompare_33 rfl (fun l z h k => ?_) k
  refine R_getf (ci := 11) (f := 9) (C := RX13) (N := 49) (Tt := TX13) dX13_readCompare_34 rfl i_X13 (by decide) w_1476 (fun l z h k => ?_) k
  refine R_istore_n dX13_readCompare_37 rfl (by decide) (fun l z h k => ?_) k
  refine R_aload_n dX13_readCompare_38 rfl (fun l z h k => ?_) k
  exact R_cv0 (M := mX13_readCompare) (pc := 39) (bc := bc) (bs := bs) (cb := 0) (cs := 0) (M' := mX13_go) dX13_readCompare_39 rfl (by decide) w_1647 w_144 w_1644 w_1646 w_47 (by decide +kernel) (fun _ _ _ k => k) k
theorem bX13_readCompare_42 {G : Gt} {d bc bs : Nat} {Q : QT} {l : Ls} {z : List Value} {h : Hp} (k : (tAld 0 (tPush (.int 0) (tPush (.int 999) (tCV2 G d 0 0 11 mX13_readNumber (fun l z h => T G d bc bs mX13_readCompare 50 l z h Q))))) l z h) : T G d bc bs mX13_readCompare 42 l z h Q := by
  refine R_aload_n dX13_readCompare_42 rfl (fun l z h k => ?_) k
  refine R_iconst dX13_readCompare_43 (by decide) (fun l z h k => ?_) k
  refine R_sipush dX13_readCompare_44 (by decide) (fun l z h k => ?_) k
  exact R_cv2 (M := mX13_readCompare) (pc := 47) (bc := bc) (bs := bs) (cb := 0) (cs := 0) (M' := mX13_readNumber) dX13_readCompare_47 rfl (by decide) w_1708 w_144 w_1705 w_1707 w_58 (by decide +kernel) (fun _ _ _ k => k) k
theorem bX13_readCompare_50 {G : Gt} {d bc bs : Nat} {Q : QT} {l : Ls} {z : List Value} {h : Hp} (k : (tIf (fun x => x = 0) (fun l z h => T G d bc bs mX13_readCompare 53 l z h Q) (fun l z h => T G d bc bs mX13_readCompare 55 l z h Q)) l z h) : T G d bc bs mX13_readCompare 50 l z h Q := by
  exact R_if_ne dX13_readCompare_50 (by decide) (fun _ _ _ k => k) (fun _ _ _ k => k) k
theorem bX13_readCompare_53 {G : Gt} {d bc bs : Nat} {Q : QT} {l : Ls} {z : List Value} {h : Hp} (k : (tPush (.int 0) (tRetZ Q)) l z h) : T G d bc bs mX13_readCompare 53 l z h Q := by
  refine R_iconst dX13_readCompare_53 (by decide) (fun l z h k => ?_) k
  exact R_zret dX13_readCompare_54 rfl k
theorem bX13_readCompare_55 {G : Gt} {d bc bs : Nat} {Q : QT} {l : Ls} {z : List Value} {h : Hp} (k : (tAld 0 (tAld 0 (tPush (.int 50) (tIld 1 (tB (fun x y => x + y) (tPush (.int 0) (tAld 0 (tGetf 11 13 (tIld 2 (tCV4 G d 0 0 11 mX13_saysOne (fun l z h => T G d bc bs mX13_readCompare 70 l z h Q))))))))))) l z h) : T G d bc bs mX13_readCompare 55 l z h Q := by
  refine R_aload_n dX13_readCompare_55 rfl (fun l z h k => ?_) k
  refine R_aload_n dX13_readCompare_56 rfl (fun l z h k => ?_) k
  refine R_bipush dX13_readCompare_57 (by decide) (fun l z h k => ?_) k
  refine R_iload_n dX13_readCompare_59 rfl (fun l z h k => ?_) k
  refine R_iadd dX13_readCompare_60 (fun l z h k => ?_) k
  refine R_iconst dX13_readCompare_61 (by decide) (fun l z h k => ?_) k
  refine R_aload_n dX13_readCompare_62 rfl (fun l z h k => ?_) k
  refine R_getf (ci := 11) (f := 13) (C := RX13) (N := 49) (Tt := TX13) dX13_readCompare_63 rfl i_X13 (by decide) w_1480 (fun l z h k => ?_) k
  refine R_iload_n dX13_readCompare_66 rfl (fun l z h k => ?_) k
  exact R_cv4 (M := mX13_readCompare) (pc := 67) (bc := bc) (bs := bs) (cb := 0) (cs := 0) (M' := mX13_saysOne) dX13_readCompare_67 rfl (by decide) w_2124 w_144 w_2121 w_2123 w_125 (by decide +kernel) (fun _ _ _ k => k) k
theorem bX13_readCompare_70 {G : Gt} {d bc bs : Nat} {Q : QT} {l : Ls} {z : List Value} {h : Hp} (k : (tPutf isI 11 48 (tPush (.int 1) (tRetZ Q))) l z h) : T G d bc bs mX13_readCompare 70 l z h Q := by
  refine R_putf (ci := 11) (f := 48) (C := RX13) (N := 49) (Tt := TX13) tyX13 tyX13_ok nmX13 dX13_readCompare_70 rfl i_X13 (by decide) w_1515 rfl (tyX13_ok 48 (by decide)) p_int (fun l z h k => ?_) k
  refine R_iconst dX13_readCompare_73 (by decide) (fun l z h k => ?_) k
  exact R_zret dX13_readCompare_74 rfl k
theorem dX13_sentence_0 : decode cX13_sentence 0 = .ok (.aload_n 0, 1) := by decide +kernel
theorem dX13_sentence_1 : decode cX13_sentence 1 = .ok (.sipush 200, 3) := by decide +kernel
theorem dX13_sentence_4 : decode cX13_sentence 4 = .ok (.invokevirtual 225, 3) := by decide +kernel
theorem dX13_sentence_7 : decode cX13_sentence 7 = .ok (.aload_n 0, 1) := by decide +kernel
theorem dX13_sentence_8 : decode cX13_sentence 8 = .ok (.iconst 0, 1) := by decide +kernel
theorem dX13_sentence_9 : decode cX13_sentence 9 = .ok (.putfield 434, 3) := by decide +kernel
theorem dX13_sentence_12 : decode cX13_sentence 12 = .ok (.aload_n 0, 1) := by decide +kernel
theorem dX13_sentence_13 : decode cX13_sentence 13 = .ok (.iconst 0, 1) := by decide +kernel
theorem dX13_sentence_14 : decode cX13_sentence 14 = .ok (.putfield 449, 3) := by decide +kernel
theorem dX13_sentence_17 : decode cX13_sentence 17 = .ok (.aload_n 0, 1) := by decide +kernel
theorem dX13_sentence_18 : decode cX13_sentence 18 = .ok (.iconst 0, 1) := by decide +kernel
theorem dX13_sentence_19 : decode cX13_sentence 19 = .ok (.putfield 452, 3) := by decide +kernel
theorem dX13_sentence_22 : decode cX13_sentence 22 = .ok (.aload_n 0, 1) := by decide +kernel
theorem dX13_sentence_23 : decode cX13_sentence 23 = .ok (.invokevirtual 467, 3) := by decide +kernel
theorem dX13_sentence_26 : decode cX13_sentence 26 = .ok (.ifCond .ne 10, 3) := by decide +kernel
theorem dX13_sentence_29 : decode cX13_sentence 29 = .ok (.iconst (-1), 1) := by decide +kernel
theorem dX13_sentence_30 : decode cX13_sentence 30 = .ok (.aload_n 0, 1) := by decide +kernel
theorem dX13_sentence_31 : decode cX13_sentence 31 = .ok (.getfield 146, 3) := by decide +kernel
theorem dX13_sentence_34 : decode cX13_sentence 34 = .ok (.isub, 1) := by decide +kernel
theorem dX13_sentence_35 : decode cX13_sentence 35 = .ok (.ireturn, 1) := by decide +kernel
theorem dX13_sentence_36 : decode cX13_sentence 36 = .ok (.aload_n 0, 1) := by decide +kernel
theorem dX13_sentence_37 : decode cX13_sentence 37 = .ok (.getfield 107, 3) := by decide +kernel
theorem dX13_sentence_40 : decode cX13_sentence 40 = .ok (.ifCond .eq 16, 3) := by decide +kernel
theorem dX13_sentence_43 : decode cX13_sentence 43 = .ok (.aload_n 0, 1) := by decide +kernel
theorem dX13_sentence_44 : decode cX13_sentence 44 = .ok (.iconst 1, 1) := by decide +kernel
theorem dX13_sentence_45 : decode cX13_sentence 45 = .ok (.invokevirtual 149, 3) := by decide +kernel
theorem dX13_sentence_48 : decode cX13_sentence 48 = .ok (.pop, 1) := by decide +kernel
theorem dX13_sentence_49 : decode cX13_sentence 49 = .ok (.iconst (-1), 1) := by decide +kernel
theorem dX13_sentence_50 : decode cX13_sentence 50 = .ok (.aload_n 0, 1) := by decide +kernel
theorem dX13_sentence_51 : decode cX13_sentence 51 = .ok (.getfield 146, 3) := by decide +kernel
theorem dX13_sentence_54 : decode cX13_sentence 54 = .ok (.isub, 1) := by decide +kernel
theorem dX13_sentence_55 : decode cX13_sentence 55 = .ok (.ireturn, 1) := by decide +kernel
theorem dX13_sentence_56 : decode cX13_sentence 56 = .ok (.aload_n 0, 1) := by decide +kernel
theorem dX13_sentence_57 : decode cX13_sentence 57 = .ok (.getfield 13, 3) := by decide +kernel
theorem dX13_sentence_60 : decode cX13_sentence 60 = .ok (.sipush 191, 3) := by decide +kernel
theorem dX13_sentence_63 : decode cX13_sentence 63 = .ok (.iconst 1, 1) := by decide +kernel
theorem dX13_sentence_64 : decode cX13_sentence 64 = .ok (.iastore, 1) := by decide +kernel
theorem dX13_sentence_65 : decode cX13_sentence 65 = .ok (.aload_n 0, 1) := by decide +kernel
theorem dX13_sentence_66 : decode cX13_sentence 66 = .ok (.getfield 13, 3) := by decide +kernel
theorem dX13_sentence_69 : decode cX13_sentence 69 = .ok (.sipush 192, 3) := by decide +kernel
theorem dX13_sentence_72 : decode cX13_sentence 72 = .ok (.aload_n 0, 1) := by decide +kernel
theorem dX13_sentence_73 : decode cX13_sentence 73 = .ok (.getfield 440, 3) := by decide +kernel
theorem dX13_sentence_76 : decode cX13_sentence 76 = .ok (.iastore, 1) := by decide +kernel
theorem dX13_sentence_77 : decode cX13_sentence 77 = .ok (.iconst 0, 1) := by decide +kernel
theorem dX13_sentence_78 : decode cX13_sentence 78 = .ok (.istore_n 1, 1) := by decide +kernel
theorem dX13_sentence_79 : decode cX13_sentence 79 = .ok (.iload_n 1, 1) := by decide +kernel
theorem dX13_sentence_80 : decode cX13_sentence 80 = .ok (.sipush 240, 3) := by decide +kernel
theorem dX13_sentence_83 : decode cX13_sentence 83 = .ok (.if_icmp .ge 25, 3) := by decide +kernel
theorem dX13_sentence_86 : decode cX13_sentence 86 = .ok (.aload_n 0, 1) := by decide +kernel
theorem dX13_sentence_87 : decode cX13_sentence 87 = .ok (.getfield 13, 3) := by decide +kernel
theorem dX13_sentence_90 : decode cX13_sentence 90 = .ok (.sipush 193, 3) := by decide +kernel
theorem dX13_sentence_93 : decode cX13_sentence 93 = .ok (.iload_n 1, 1) := by decide +kernel
theorem dX13_sentence_94 : decode cX13_sentence 94 = .ok (.iadd, 1) := by decide +kernel
theorem dX13_sentence_95 : decode cX13_sentence 95 = .ok (.aload_n 0, 1) := by decide +kernel
theorem dX13_sentence_96 : decode cX13_sentence 96 = .ok (.getfield 82, 3) := by decide +kernel
theorem dX13_sentence_99 : decode cX13_sentence 99 = .ok (.iload_n 1, 1) := by decide +kernel
theorem dX13_sentence_100 : decode cX13_sentence 100 = .ok (.iaload, 1) := by decide +kernel
theorem dX13_sentence_101 : decode cX13_sentence 101 = .ok (.iastore, 1) := by decide +kernel
theorem dX13_sentence_102 : decode cX13_sentence 102 = .ok (.iinc 1 1, 3) := by decide +kernel
theorem dX13_sentence_105 : decode cX13_sentence 105 = .ok (.goto (-26), 3) := by decide +kernel
theorem dX13_sentence_108 : decode cX13_sentence 108 = .ok (.aload_n 0, 1) := by decide +kernel
theorem dX13_sentence_109 : decode cX13_sentence 109 = .ok (.getfield 449, 3) := by decide +kernel
theorem dX13_sentence_112 : decode cX13_sentence 112 = .ok (.ireturn, 1) := by decide +kernel
theorem bX13_sentence_0 {G : Gt} {d bc bs : Nat} {Q : QT} {l : Ls} {z : List Value} {h : Hp} (k : (tAld 0 (tPush (.int 200) (tCV1 G d 0 0 11 mX13_begin (fun l z h => T G d bc bs mX13_sentence 7 l z h Q)))) l z h) : T G d bc bs mX13_sentence 0 l z h Q := by
  refine R_aload_n dX13_sentence_0 rfl (fun l z h k => ?_) k
  refine R_sipush dX13_sentence_1 (by decide) (fun l z h k => ?_) k
  exact R_cv1 (M := mX13_sentence) (pc := 4) (bc := bc) (bs := bs) (cb := 0) (cs := 0) (M' := mX13_begin) dX13_sentence_4 rfl (by decide) w_1639 w_144 w_1636 w_1638 w_45 (by decide +kernel) (fun _ _ _ k => k) k
theorem bX13_sentence_7 {G : Gt} {d bc bs : Nat} {Q : QT} {l : Ls} {z : List Value} {h : Hp} (k : (tAld 0 (tPush (.int 0) (tPutf isI 11 45 (tAld 0 (tPush (.int 0) (tPutf isI 11 46 (tAld 0 (tPush (.int 0) (tPutf isI 11 47 (tAld 0 (tCV0 G d 0 0 11 mX13_readOr (fun l z h => T G d bc bs mX13_sentence 26 l z h Q)))))))))))) l z h) : T G d bc bs mX13_sentence 7 l z h Q := by
  refine R_aload_n dX13_sentence_7 rfl (fun l z h k => ?_) k
  refine R_iconst dX13_sentence_8 (by decide) (fun l z h k => ?_) k
  refine R_putf (ci := 11) (f := 45) (C := RX13) (N := 49) (Tt := TX13) tyX13 tyX13_ok nmX13 dX13_sentence_9 rfl i_X13 (by decide) w_1512 rfl (tyX13_ok 45 (by decide)) p_int (fun l z h k => ?_) k
  refine R_aload_n dX13_sentence_12 rfl (fun l z h k => ?_) k
  refine R_iconst dX13_sentence_13 (by decide) (fun l z h k => ?_) k
  refine R_putf (ci := 11) (f := 46) (C := RX13) (N := 49) (Tt := TX13) tyX13 tyX13_ok nmX13 dX13_sentence_14 rfl i_X13 (by decide) w_1513 rfl (tyX13_ok 46 (by decide)) p_int (fun l z h k => ?_) k
  refine R_aload_n dX13_sentence_17 rfl (fun l z h k => ?_) k
  refine R_iconst dX13_sentence_18 (by decide) (fun l z h k => ?_) k
  refine R_putf (ci := 11) (f := 47) (C := RX13) (N := 49) (Tt := TX13) tyX13 tyX13_ok nmX13 dX13_sentence_19 rfl i_X13 (by decide) w_1514 rfl (tyX13_ok 47 (by decide)) p_int (fun l z h k => ?_) k
  refine R_aload_n dX13_sentence_22 rfl (fun l z h k => ?_) k
  exact R_cv0 (M := mX13_sentence) (pc := 23) (bc := bc) (bs := bs) (cb := 0) (cs := 0) (M' := mX13_readOr) dX13_sentence_23 rfl (by decide) w_2104 w_144 w_2101 w_2103 w_120 (by decide +kernel) (fun _ _ _ k => k) k
theorem bX13_sentence_26 {G : Gt} {d bc bs : Nat} {Q : QT} {l : Ls} {z : List Value} {h : Hp} (k : (tIf (fun x => x = 0) (fun l z h => T G d bc bs mX13_sentence 29 l z h Q) (fun l z h => T G d bc bs mX13_sentence 36 l z h Q)) l z h) : T G d bc bs mX13_sentence 26 l z h Q := by
  exact R_if_ne dX13_sentence_26 (by decide) (fun _ _ _ k => k) (fun _ _ _ k => k) k
theorem bX13_sentence_29 {G : Gt} {d bc bs : Nat} {Q : QT} {l : Ls} {z : List Value} {h : Hp} (k : (tPush (.int (-1)) (tAld 0 (tGetf 11 11 (tB (fun x y => x - y) (tRetI Q))))) l z h) : T G d bc bs mX13_sentence 29 l z h Q := by
  refine R_iconst dX13_sentence_29 (by decide) (fun l z h k => ?_) k
  refine R_aload_n dX13_sentence_30 rfl (fun l z h k => ?_) k
  refine R_getf (ci := 11) (f := 11) (C := RX13) (N := 49) (Tt := TX13) dX13_sentence_31 rfl i_X13 (by decide) w_1478 (fun l z h k => ?_) k
  refine R_isub dX13_sentence_34 (fun l z h k => ?_) k
  exact R_iret dX13_sentence_35 rfl k
theorem bX13_sentence_36 {G : Gt} {d bc bs : Nat} {Q : QT} {l : Ls} {z : List Value} {h : Hp} (k : (tAld 0 (tGetf 11 7 (tIf (fun x => x = 0) (fun l z h => T G d bc bs mX13_sentence 56 l z h Q) (fun l z h => T G d bc bs mX13_sentence 43 l z h Q)))) l z h) : T G d bc bs mX13_sentence 36 l z h Q := by
  refine R_aload_n dX13_sentence_36 rfl (fun l z h k => ?_) k
  refine R_getf (ci := 11) (f := 7) (C := RX13) (N := 49) (Tt := TX13) dX13_sentence_37 rfl i_X13 (by decide) w_1474 (fun l z h k => ?_) k
  exact R_if_eq dX13_sentence_40 (by decide) (fun _ _ _ k => k) (fun _ _ _ k => k) k
theorem bX13_sentence_43 {G : Gt} {d bc bs : Nat} {Q : QT} {l : Ls} {z : List Value} {h : Hp} (k : (tAld 0 (tPush (.int 1) (tCV1 G d 0 0 11 mX13_bad (fun l z h => T G d bc bs mX13_sentence 48 l z h Q)))) l z h) : T G d bc bs mX13_sentence 43 l z h Q := by
  refine R_aload_n dX13_sentence_43 rfl (fun l z h k => ?_) k
  refine R_iconst dX13_sentence_44 (by decide) (fun l z h k => ?_) k
  exact R_cv1 (M := mX13_sentence) (pc := 45) (bc := bc) (bs := bs) (cb := 0) (cs := 0) (M' := mX13_bad) dX13_sentence_45 rfl (by decide) w_1685 w_144 w_1682 w_1684 w_53 (by decide +kernel) (fun _ _ _ k => k) k
theorem bX13_sentence_48 {G : Gt} {d bc bs : Nat} {Q : QT} {l : Ls} {z : List Value} {h : Hp} (k : (tPop (tPush (.int (-1)) (tAld 0 (tGetf 11 11 (tB (fun x y => x - y) (tRetI Q)))))) l z h) : T G d bc bs mX13_sentence 48 l z h Q := by
  refine R_pop dX13_sentence_48 (fun l z h k => ?_) k
  refine R_iconst dX13_sentence_49 (by decide) (fun l z h k => ?_) k
  refine R_aload_n dX13_sentence_50 rfl (fun l z h k => ?_) k
  refine R_getf (ci := 11) (f := 11) (C := RX13) (N := 49) (Tt := TX13) dX13_sentence_51 rfl i_X13 (by decide) w_1478 (fun l z h k => ?_) k
  refine R_isub dX13_sentence_54 (fun l z h k => ?_) k
  exact R_iret dX13_sentence_55 rfl k
theorem bX13_sentence_56 {G : Gt} {d bc bs : Nat} {Q : QT} {l : Ls} {z : List Value} {h : Hp} (k : (tAld 0 (tGetf 11 14 (tPush (.int 191) (tPush (.int 1) (tXast 0 (tAld 0 (tGetf 11 14 (tPush (.int 192) (tAld 0 (tGetf 11 48 (tXast 0 (tPush (.int 0) (tIst 1 ((fun l z h => T G d bc bs mX13_sentence 79 l z h Q))))))))))))))) l z h) : T G d bc bs mX13_sentence 56 l z h Q := by
  refine R_aload_n dX13_sentence_56 rfl (fun l z h k => ?_) k
  refine R_getf (ci := 11) (f := 14) (C := RX13) (N := 49) (Tt := TX13) dX13_sentence_57 rfl i_X13 (by decide) w_1481 (fun l z h k => ?_) k
  refine R_sipush dX13_sentence_60 (by decide) (fun l z h k => ?_) k
  refine R_iconst dX13_sentence_63 (by decide) (fun l z h k => ?_) k
  refine R_iastore dX13_sentence_64 (fun l z h k => ?_) k
  refine R_aload_n dX13_sentence_65 rfl (fun l z h k => ?_) k
  refine R_getf (ci := 11) (f := 14) (C := RX13) (N := 49) (Tt := TX13) dX13_sentence_66 rfl i_X13 (by decide) w_1481 (fun l z h k => ?_) k
  refine R_sipush dX13_sentence_69 (by decide) (fun l z h k => ?_) k
  refine R_aload_n dX13_sentence_72 rfl (fun l z h k => ?_) k
  refine R_getf (ci := 11) (f := 48) (C := RX13) (N := 49) (Tt := TX13) dX13_sentence_73 rfl i_X13 (by decide) w_1515 (fun l z h k => ?_) k
  refine R_iastore dX13_sentence_76 (fun l z h k => ?_) k
  refine R_iconst dX13_sentence_77 (by decide) (fun l z h k => ?_) k
  refine R_istore_n dX13_sentence_78 rfl (by decide) (fun l z h k => ?_) k
  exact k
theorem bX13_sentence_79 {G : Gt} {d bc bs : Nat} {Q : QT} {l : Ls} {z : List Value} {h : Hp} (k : (tIld 1 (tPush (.int 240) (tIf2 (fun x y => y ≤ x) (fun l z h => T G d bc bs mX13_sentence 108 l z h Q) (fun l z h => T G d bc bs mX13_sentence 86 l z h Q)))) l z h) : T G d bc bs mX13_sentence 79 l z h Q := by
  refine R_iload_n dX13_sentence_79 rfl (fun l z h k => ?_) k
  refine R_sipush dX13_sentence_80 (by decide) (fun l z h k => ?_) k
  exact R_icmp_ge dX13_sentence_83 (by decide) (fun _ _ _ k => k) (fun _ _ _ k => k) k
theorem bX13_sentence_86 {G : Gt} {d bc bs : Nat} {Q : QT} {l : Ls} {z : List Value} {h : Hp} (k : (tAld 0 (tGetf 11 14 (tPush (.int 193) (tIld 1 (tB (fun x y => x + y) (tAld 0 (tGetf 11 44 (tIld 1 (tXald 0 (tXast 0 (tInc 1 1 ((fun l z h => T G d bc bs mX13_sentence 79 l z h Q))))))))))))) l z h) : T G d bc bs mX13_sentence 86 l z h Q := by
  refine R_aload_n dX13_sentence_86 rfl (fun l z h k => ?_) k
  refine R_getf (ci := 11) (f := 14) (C := RX13) (N := 49) (Tt := TX13) dX13_sentence_87 rfl i_X13 (by decide) w_1481 (fun l z h k => ?_) k
  refine R_sipush dX13_sentence_90 (by decide) (fun l z h k => ?_) k
  refine R_iload_n dX13_sentence_93 rfl (fun l z h k => ?_) k
  refine R_iadd dX13_sentence_94 (fun l z h k => ?_) k
  refine R_aload_n dX13_sentence_95 rfl (fun l z h k => ?_) k
  refine R_getf (ci := 11) (f := 44) (C := RX13) (N := 49) (Tt := TX13) dX13_sentence_96 rfl i_X13 (by decide) w_1511 (fun l z h k => ?_) k
  refine R_iload_n dX13_sentence_99 rfl (fun l z h k => ?_) k
  refine R_iaload dX13_sentence_100 (fun l z h k => ?_) k
  refine R_iastore dX13_sentence_101 (fun l z h k => ?_) k
  refine R_iinc dX13_sentence_102 (by decide) (by decide) (fun l z h k => ?_) k
  exact R_goto dX13_sentence_105 (by decide) (fun _ _ _ k => k) k
theorem bX13_sentence_108 {G : Gt} {d bc bs : Nat} {Q : QT} {l : Ls} {z : List Value} {h : Hp} (k : (tAld 0 (tGetf 11 46 (tRetI Q))) l z h) : T G d bc bs mX13_sentence 108 l z h Q := by
  refine R_aload_n dX13_sentence_108 rfl (fun l z h k => ?_) k
  refine R_getf (ci := 11) (f := 46) (C := RX13) (N := 49) (Tt := TX13) dX13_sentence_109 rfl i_X13 (by decide) w_1513 (fun l z h k => ?_) k
  exact R_iret dX13_sentence_112 rfl k
theorem dX13_holds_0 : decode cX13_holds 0 = .ok (.sipush 193, 3) := by decide +kernel
theorem dX13_holds_3 : decode cX13_holds 3 = .ok (.iconst 4, 1) := by decide +kernel
theorem dX13_holds_4 : decode cX13_holds 4 = .ok (.iload_n 1, 1) := by decide +kernel
theorem dX13_holds_5 : decode cX13_holds 5 = .ok (.imul, 1) := by decide +kernel
theorem dX13_holds_6 : decode cX13_holds 6 = .ok (.iadd, 1) := by decide +kernel
theorem dX13_holds_7 : decode cX13_holds 7 = .ok (.istore_n 3, 1) := by decide +kernel
theorem dX13_holds_8 : decode cX13_holds 8 = .ok (.aload_n 0, 1) := by decide +kernel
theorem dX13_holds_9 : decode cX13_holds 9 = .ok (.getfield 13, 3) := by decide +kernel
theorem dX13_holds_12 : decode cX13_holds 12 = .ok (.iload_n 3, 1) := by decide +kernel
theorem dX13_holds_13 : decode cX13_holds 13 = .ok (.iconst 1, 1) := by decide +kernel
theorem dX13_holds_14 : decode cX13_holds 14 = .ok (.iadd, 1) := by decide +kernel
theorem dX13_holds_15 : decode cX13_holds 15 = .ok (.iaload, 1) := by decide +kernel
theorem dX13_holds_16 : decode cX13_holds 16 = .ok (.istore 4, 2) := by decide +kernel
theorem dX13_holds_18 : decode cX13_holds 18 = .ok (.aload_n 0, 1) := by decide +kernel
theorem dX13_holds_19 : decode cX13_holds 19 = .ok (.getfield 13, 3) := by decide +kernel
theorem dX13_holds_22 : decode cX13_holds 22 = .ok (.iload_n 3, 1) := by decide +kernel
theorem dX13_holds_23 : decode cX13_holds 23 = .ok (.iconst 2, 1) := by decide +kernel
theorem dX13_holds_24 : decode cX13_holds 24 = .ok (.iadd, 1) := by decide +kernel
theorem dX13_holds_25 : decode cX13_holds 25 = .ok (.iaload, 1) := by decide +kernel
theorem dX13_holds_26 : decode cX13_holds 26 = .ok (.istore 5, 2) := by decide +kernel
theorem dX13_holds_28 : decode cX13_holds 28 = .ok (.aload_n 0, 1) := by decide +kernel
theorem dX13_holds_29 : decode cX13_holds 29 = .ok (.getfield 13, 3) := by decide +kernel
theorem dX13_holds_32 : decode cX13_holds 32 = .ok (.iload_n 3, 1) := by decide +kernel
theorem dX13_holds_33 : decode cX13_holds 33 = .ok (.iaload, 1) := by decide +kernel
theorem dX13_holds_34 : decode cX13_holds 34 = .ok (.lookupswitch 228 #[(1, 82), (2, 98), (3, 124), (64, 150), (65, 150), (66, 150), (67, 180), (68, 200), (69, 208)], 82) := by decide +kernel
theorem dX13_holds_116 : decode cX13_holds 116 = .ok (.aload_n 0, 1) := by decide +kernel
theorem dX13_holds_117 : decode cX13_holds 117 = .ok (.iload 4, 2) := by decide +kernel
theorem dX13_holds_119 : decode cX13_holds 119 = .ok (.iload_n 2, 1) := by decide +kernel
theorem dX13_holds_120 : decode cX13_holds 120 = .ok (.invokevirtual 470, 3) := by decide +kernel
theorem dX13_holds_123 : decode cX13_holds 123 = .ok (.ifCond .ne 7, 3) := by decide +kernel
theorem dX13_holds_126 : decode cX13_holds 126 = .ok (.iconst 1, 1) := by decide +kernel
theorem dX13_holds_127 : decode cX13_holds 127 = .ok (.goto 4, 3) := by decide +kernel
theorem dX13_holds_130 : decode cX13_holds 130 = .ok (.iconst 0, 1) := by decide +kernel
theorem dX13_holds_131 : decode cX13_holds 131 = .ok (.ireturn, 1) := by decide +kernel
theorem dX13_holds_132 : decode cX13_holds 132 = .ok (.aload_n 0, 1) := by decide +kernel
theorem dX13_holds_133 : decode cX13_holds 133 = .ok (.iload 4, 2) := by decide +kernel
theorem dX13_holds_135 : decode cX13_holds 135 = .ok (.iload_n 2, 1) := by decide +kernel
theorem dX13_holds_136 : decode cX13_holds 136 = .ok (.invokevirtual 470, 3) := by decide +kernel
theorem dX13_holds_139 : decode cX13_holds 139 = .ok (.ifCond .eq 17, 3) := by decide +kernel
theorem dX13_holds_142 : decode cX13_holds 142 = .ok (.aload_n 0, 1) := by decide +kernel
theorem dX13_holds_143 : decode cX13_holds 143 = .ok (.iload 5, 2) := by decide +kernel
theorem dX13_holds_145 : decode cX13_holds 145 = .ok (.iload_n 2, 1) := by decide +kernel
theorem dX13_holds_146 : decode cX13_holds 146 = .ok (.invokevirtual 470, 3) := by decide +kernel
theorem dX13_holds_149 : decode cX13_holds 149 = .ok (.ifCond .eq 7, 3) := by decide +kernel
theorem dX13_holds_152 : decode cX13_holds 152 = .ok (.iconst 1, 1) := by decide +kernel
theorem dX13_holds_153 : decode cX13_holds 153 = .ok (.goto 4, 3) := by decide +kernel
theorem dX13_holds_156 : decode cX13_holds 156 = .ok (.iconst 0, 1) := by decide +kernel
theorem dX13_holds_157 : decode cX13_holds 157 = .ok (.ireturn, 1) := by decide +kernel
theorem dX13_holds_158 : decode cX13_holds 158 = .ok (.aload_n 0, 1) := by decide +kernel
theorem dX13_holds_159 : decode cX13_holds 159 = .ok (.iload 4, 2) := by decide +kernel
theorem dX13_holds_161 : decode cX13_holds 161 = .ok (.iload_n 2, 1) := by decide +kernel
theorem dX13_holds_162 : decode cX13_holds 162 = .ok (.invokevirtual 470, 3) := by decide +kernel
theorem dX13_holds_165 : decode cX13_holds 165 = .ok (.ifCond .ne 13, 3) := by decide +kernel
theorem dX13_holds_168 : decode cX13_holds 168 = .ok (.aload_n 0, 1) := by decide +kernel
theorem dX13_holds_169 : decode cX13_holds 169 = .ok (.iload 5, 2) := by decide +kernel
theorem dX13_holds_171 : decode cX13_holds 171 = .ok (.iload_n 2, 1) := by decide +kernel
theorem dX13_holds_172 : decode cX13_holds 172 = .ok (.invokevirtual 470, 3) := by decide +kernel
theorem dX13_holds_175 : decode cX13_holds 175 = .ok (.ifCond .eq 7, 3) := by decide +kernel
theorem dX13_holds_178 : decode cX13_holds 178 = .ok (.iconst 1, 1) := by decide +kernel
theorem dX13_holds_179 : decode cX13_holds 179 = .ok (.goto 4, 3) := by decide +kernel
theorem dX13_holds_182 : decode cX13_holds 182 = .ok (.iconst 0, 1) := by decide +kernel
theorem dX13_holds_183 : decode cX13_holds 183 = .ok (.ireturn, 1) := by decide +kernel
theorem dX13_holds_184 : decode cX13_holds 184 = .ok (.aload_n 0, 1) := by decide +kernel
theorem dX13_holds_185 : decode cX13_holds 185 = .ok (.getfield 13, 3) := by decide +kernel
theorem dX13_holds_188 : decode cX13_holds 188 = .ok (.bipush 99, 2) := by decide +kernel
theorem dX13_holds_190 : decode cX13_holds 190 = .ok (.iload_n 2, 1) := by decide +kernel
theorem dX13_holds_191 : decode cX13_holds 191 = .ok (.iadd, 1) := by decide +kernel
theorem dX13_holds_192 : decode cX13_holds 192 = .ok (.iaload, 1) := by decide +kernel
theorem dX13_holds_193 : decode cX13_holds 193 = .ok (.aload_n 0, 1) := by decide +kernel
theorem dX13_holds_194 : decode cX13_holds 194 = .ok (.getfield 13, 3) := by decide +kernel
theorem dX13_holds_197 : decode cX13_holds 197 = .ok (.iload_n 3, 1) := by decide +kernel
theorem dX13_holds_198 : decode cX13_holds 198 = .ok (.iaload, 1) := by decide +kernel
theorem dX13_holds_199 : decode cX13_holds 199 = .ok (.bipush 50, 2) := by decide +kernel
theorem dX13_holds_201 : decode cX13_holds 201 = .ok (.isub, 1) := by decide +kernel
theorem dX13_holds_202 : decode cX13_holds 202 = .ok (.bipush 14, 2) := by decide +kernel
theorem dX13_holds_204 : decode cX13_holds 204 = .ok (.isub, 1) := by decide +kernel
theorem dX13_holds_205 : decode cX13_holds 205 = .ok (.if_icmp .ne 7, 3) := by decide +kernel
theorem dX13_holds_208 : decode cX13_holds 208 = .ok (.iconst 1, 1) := by decide +kernel
theorem dX13_holds_209 : decode cX13_holds 209 = .ok (.goto 4, 3) := by decide +kernel
theorem dX13_holds_212 : decode cX13_holds 212 = .ok (.iconst 0, 1) := by decide +kernel
theorem dX13_holds_213 : decode cX13_holds 213 = .ok (.ireturn, 1) := by decide +kernel
theorem dX13_holds_214 : decode cX13_holds 214 = .ok (.aload_n 0, 1) := by decide +kernel
theorem dX13_holds_215 : decode cX13_holds 215 = .ok (.getfield 13, 3) := by decide +kernel
theorem dX13_holds_218 : decode cX13_holds 218 = .ok (.sipush 183, 3) := by decide +kernel
theorem dX13_holds_221 : decode cX13_holds 221 = .ok (.iload_n 2, 1) := by decide +kernel
theorem dX13_holds_222 : decode cX13_holds 222 = .ok (.iadd, 1) := by decide +kernel
theorem dX13_holds_223 : decode cX13_holds 223 = .ok (.iaload, 1) := by decide +kernel
theorem dX13_holds_224 : decode cX13_holds 224 = .ok (.iconst (-1), 1) := by decide +kernel
theorem dX13_holds_225 : decode cX13_holds 225 = .ok (.if_icmp .eq 7, 3) := by decide +kernel
theorem dX13_holds_228 : decode cX13_holds 228 = .ok (.iconst 1, 1) := by decide +kernel
theorem dX13_holds_229 : decode cX13_holds 229 = .ok (.goto 4, 3) := by decide +kernel
theorem dX13_holds_232 : decode cX13_holds 232 = .ok (.iconst 0, 1) := by decide +kernel
theorem dX13_holds_233 : decode cX13_holds 233 = .ok (.ireturn, 1) := by decide +kernel
theorem dX13_holds_234 : decode cX13_holds 234 = .ok (.aload_n 0, 1) := by decide +kernel
theorem dX13_holds_235 : decode cX13_holds 235 = .ok (.iload_n 2, 1) := by decide +kernel
theorem dX13_holds_236 : decode cX13_holds 236 = .ok (.iload 4, 2) := by decide +kernel
theorem dX13_holds_238 : decode cX13_holds 238 = .ok (.invokevirtual 250, 3) := by decide +kernel
theorem dX13_holds_241 : decode cX13_holds 241 = .ok (.ireturn, 1) := by decide +kernel
theorem dX13_holds_242 : decode cX13_holds 242 = .ok (.aload_n 0, 1) := by decide +kernel
theorem dX13_holds_243 : decode cX13_holds 243 = .ok (.getfield 13, 3) := by decide +kernel
theorem dX13_holds_246 : decode cX13_holds 246 = .ok (.bipush 22, 2) := by decide +kernel
theorem dX13_holds_248 : decode cX13_holds 248 = .ok (.iload_n 2, 1) := by decide +kernel
theorem dX13_holds_249 : decode cX13_holds 249 = .ok (.iadd, 1) := by decide +kernel
theorem dX13_holds_250 : decode cX13_holds 250 = .ok (.iaload, 1) := by decide +kernel
theorem dX13_holds_251 : decode cX13_holds 251 = .ok (.iload 4, 2) := by decide +kernel
theorem dX13_holds_253 : decode cX13_holds 253 = .ok (.if_icmp .ne 7, 3) := by decide +kernel
theorem dX13_holds_256 : decode cX13_holds 256 = .ok (.iconst 1, 1) := by decide +kernel
theorem dX13_holds_257 : decode cX13_holds 257 = .ok (.goto 4, 3) := by decide +kernel
theorem dX13_holds_260 : decode cX13_holds 260 = .ok (.iconst 0, 1) := by decide +kernel
theorem dX13_holds_261 : decode cX13_holds 261 = .ok (.ireturn, 1) := by decide +kernel
theorem dX13_holds_262 : decode cX13_holds 262 = .ok (.aload_n 0, 1) := by decide +kernel
theorem dX13_holds_263 : decode cX13_holds 263 = .ok (.getfield 13, 3) := by decide +kernel
theorem dX13_holds_266 : decode cX13_holds 266 = .ok (.iload_n 3, 1) := by decide +kernel
theorem dX13_holds_267 : decode cX13_holds 267 = .ok (.iaload, 1) := by decide +kernel
theorem dX13_holds_268 : decode cX13_holds 268 = .ok (.bipush 50, 2) := by decide +kernel
theorem dX13_holds_270 : decode cX13_holds 270 = .ok (.isub, 1) := by decide +kernel
theorem dX13_holds_271 : decode cX13_holds 271 = .ok (.istore 6, 2) := by decide +kernel
theorem dX13_holds_273 : decode cX13_holds 273 = .ok (.iload 6, 2) := by decide +kernel
theorem dX13_holds_275 : decode cX13_holds 275 = .ok (.bipush 20, 2) := by decide +kernel
theorem dX13_holds_277 : decode cX13_holds 277 = .ok (.if_icmp .ne 11, 3) := by decide +kernel
theorem dX13_holds_280 : decode cX13_holds 280 = .ok (.aload_n 0, 1) := by decide +kernel
theorem dX13_holds_281 : decode cX13_holds 281 = .ok (.iload_n 2, 1) := by decide +kernel
theorem dX13_holds_282 : decode cX13_holds 282 = .ok (.invokevirtual 262, 3) := by decide +kernel
theorem dX13_holds_285 : decode cX13_holds 285 = .ok (.goto 42, 3) := by decide +kernel
theorem dX13_holds_288 : decode cX13_holds 288 = .ok (.iload 6, 2) := by decide +kernel
theorem dX13_holds_290 : decode cX13_holds 290 = .ok (.bipush 21, 2) := by decide +kernel
theorem dX13_holds_292 : decode cX13_holds 292 = .ok (.if_icmp .ne 15, 3) := by decide +kernel
theorem dX13_holds_295 : decode cX13_holds 295 = .ok (.aload_n 0, 1) := by decide +kernel
theorem dX13_holds_296 : decode cX13_holds 296 = .ok (.getfield 13, 3) := by decide +kernel
theorem dX13_holds_299 : decode cX13_holds 299 = .ok (.bipush 107, 2) := by decide +kernel
theorem dX13_holds_301 : decode cX13_holds 301 = .ok (.iload_n 2, 1) := by decide +kernel
theorem dX13_holds_302 : decode cX13_holds 302 = .ok (.iadd, 1) := by decide +kernel
theorem dX13_holds_303 : decode cX13_holds 303 = .ok (.iaload, 1) := by decide +kernel
theorem dX13_holds_304 : decode cX13_holds 304 = .ok (.goto 23, 3) := by decide +kernel
theorem dX13_holds_307 : decode cX13_holds 307 = .ok (.iload 6, 2) := by decide +kernel
theorem dX13_holds_309 : decode cX13_holds 309 = .ok (.bipush 22, 2) := by decide +kernel
theorem dX13_holds_311 : decode cX13_holds 311 = .ok (.if_icmp .ne 15, 3) := by decide +kernel
theorem dX13_holds_314 : decode cX13_holds 314 = .ok (.aload_n 0, 1) := by decide +kernel
theorem dX13_holds_315 : decode cX13_holds 315 = .ok (.getfield 13, 3) := by decide +kernel
theorem dX13_holds_318 : decode cX13_holds 318 = .ok (.bipush 115, 2) := by decide +kernel
theorem dX13_holds_320 : decode cX13_holds 320 = .ok (.iload_n 2, 1) := by decide +kernel
theorem dX13_holds_321 : decode cX13_holds 321 = .ok (.iadd, 1) := by decide +kernel
theorem dX13_holds_322 : decode cX13_holds 322 = .ok (.iaload, 1) := by decide +kernel
theorem dX13_holds_323 : decode cX13_holds 323 = .ok (.goto 4, 3) := by decide +kernel
theorem dX13_holds_326 : decode cX13_holds 326 = .ok (.iload_n 2, 1) := by decide +kernel
theorem dX13_holds_327 : decode cX13_holds 327 = .ok (.istore 7, 2) := by decide +kernel
theorem dX13_holds_329 : decode cX13_holds 329 = .ok (.aload_n 0, 1) := by decide +kernel
theorem dX13_holds_330 : decode cX13_holds 330 = .ok (.getfield 13, 3) := by decide +kernel
theorem dX13_holds_333 : decode cX13_holds 333 = .ok (.iload_n 3, 1) := by decide +kernel
theorem dX13_holds_334 : decode cX13_holds 334 = .ok (.iconst 3, 1) := by decide +kernel
theorem dX13_holds_335 : decode cX13_holds 335 = .ok (.iadd, 1) := by decide +kernel
theorem dX13_holds_336 : decode cX13_holds 336 = .ok (.iaload, 1) := by decide +kernel
theorem dX13_holds_337 : decode cX13_holds 337 = .ok (.bipush 60, 2) := by decide +kernel
theorem dX13_holds_339 : decode cX13_holds 339 = .ok (.if_icmp .ne 18, 3) := by decide +kernel
theorem dX13_holds_342 : decode cX13_holds 342 = .ok (.iload 7, 2) := by decide +kernel
theorem dX13_holds_344 : decode cX13_holds 344 = .ok (.iload 5, 2) := by decide +kernel
theorem dX13_holds_346 : decode cX13_holds 346 = .ok (.if_icmp .ge 7, 3) := by decide +kernel
theorem dX13_holds_349 : decode cX13_holds 349 = .ok (.iconst 1, 1) := by decide +kernel
theorem dX13_holds_350 : decode cX13_holds 350 = .ok (.goto 47, 3) := by decide +kernel
theorem dX13_holds_353 : decode cX13_holds 353 = .ok (.iconst 0, 1) := by decide +kernel
theorem dX13_holds_354 : decode cX13_holds 354 = .ok (.goto 43, 3) := by decide +kernel
theorem dX13_holds_357 : decode cX13_holds 357 = .ok (.aload_n 0, 1) := by decide +kernel
theorem dX13_holds_358 : decode cX13_holds 358 = .ok (.getfield 13, 3) := by decide +kernel
theorem dX13_holds_361 : decode cX13_holds 361 = .ok (.iload_n 3, 1) := by decide +kernel
theorem dX13_holds_362 : decode cX13_holds 362 = .ok (.iconst 3, 1) := by decide +kernel
theorem dX13_holds_363 : decode cX13_holds 363 = .ok (.iadd, 1) := by decide +kernel
theorem dX13_holds_364 : decode cX13_holds 364 = .ok (.iaload, 1) := by decide +kernel
theorem dX13_holds_365 : decode cX13_holds 365 = .ok (.bipush 61, 2) := by decide +kernel
theorem dX13_holds_367 : decode cX13_holds 367 = .ok (.if_icmp .ne 18, 3) := by decide +kernel
theorem dX13_holds_370 : decode cX13_holds 370 = .ok (.iload 7, 2) := by decide +kernel
theorem dX13_holds_372 : decode cX13_holds 372 = .ok (.iload 5, 2) := by decide +kernel
theorem dX13_holds_374 : decode cX13_holds 374 = .ok (.if_icmp .ne 7, 3) := by decide +kernel
theorem dX13_holds_377 : decode cX13_holds 377 = .ok (.iconst 1, 1) := by decide +kernel
theorem dX13_holds_378 : decode cX13_holds 378 = .ok (.goto 19, 3) := by decide +kernel
theorem dX13_holds_381 : decode cX13_holds 381 = .ok (.iconst 0, 1) := by decide +kernel
theorem dX13_holds_382 : decode cX13_holds 382 = .ok (.goto 15, 3) := by decide +kernel
theorem dX13_holds_385 : decode cX13_holds 385 = .ok (.iload 7, 2) := by decide +kernel
theorem dX13_holds_387 : decode cX13_holds 387 = .ok (.iload 5, 2) := by decide +kernel
theorem dX13_holds_389 : decode cX13_holds 389 = .ok (.if_icmp .le 7, 3) := by decide +kernel
theorem dX13_holds_392 : decode cX13_holds 392 = .ok (.iconst 1, 1) := by decide +kernel
theorem dX13_holds_393 : decode cX13_holds 393 = .ok (.goto 4, 3) := by decide +kernel
theorem dX13_holds_396 : decode cX13_holds 396 = .ok (.iconst 0, 1) := by decide +kernel
theorem dX13_holds_397 : decode cX13_holds 397 = .ok (.ireturn, 1) := by decide +kernel
theorem bX13_holds_0 {G : Gt} {d bc bs : Nat} {Q : QT} {l : Ls} {z : List Value} {h : Hp} (k : (tPush (.int 193) (tPush (.int 4) (tIld 1 (tB (fun x y => x * y) (tB (fun x y => x + y) (tIst 3 (tAld 0 (tGetf 11 14 (tIld 3 (tPush (.int 1) (tB (fun x y => x + y) (tXald 0 (tIst 4 (tAld 0 (tGetf 11 14 (tIld 3 (tPush (.int 2) (tB (fun x y => x + y) (tXald 0 (tIst 5 (tAld 0 (tGetf 11 14 (tIld 3 (tXald 0 (tLook [(1, 116), (2, 132), (3, 158), (64, 184), (65, 184), (66, 184), (67, 214), (68, 234), (69, 242)] 262 (fun t l z h => T G d bc bs mX13_holds t l z h Q)))))))))))))))))))))))))) l z h) : T G d bc bs mX13_holds 0 l z h Q := by
  refine R_sipush dX13_holds_0 (by decide) (fun l z h k => ?_) k
  refine R_iconst dX13_holds_3 (by decide) (fun l z h k => ?_) k
  refine R_iload_n dX13_holds_4 rfl (fun l z h k => ?_) k
  refine R_imul dX13_holds_5 (fun l z h k => ?_) k
  refine R_iadd dX13_holds_6 (fun l z h k => ?_) k
  refine R_istore_n dX13_holds_7 rfl (by decide) (fun l z h k => ?_) k
  refine R_aload_n dX13_holds_8 rfl (fun l z h k => ?_) k
  refine R_getf (ci := 11) (f := 14) (C := RX13) (N := 49) (Tt := TX13) dX13_holds_9 rfl i_X13 (by decide) w_1481 (fun l z h k => ?_) k
  refine R_iload_n dX13_holds_12 rfl (fun l z h k => ?_) k
  refine R_iconst dX13_holds_13 (by decide) (fun l z h k => ?_) k
  refine R_iadd dX13_holds_14 (fun l z h k => ?_) k
  refine R_iaload dX13_holds_15 (fun l z h k => ?_) k
  refine R_istore dX13_holds_16 (by decide) (fun l z h k => ?_) k
  refine R_aload_n dX13_holds_18 rfl (fun l z h k => ?_) k
  refine R_getf (ci := 11) (f := 14) (C := RX13) (N := 49) (Tt := TX13) dX13_holds_19 rfl i_X13 (by decide) w_1481 (fun l z h k => ?_) k
  refine R_iload_n dX13_holds_22 rfl (fun l z h k => ?_) k
  refine R_iconst dX13_holds_23 (by decide) (fun l z h k => ?_) k
  refine R_iadd dX13_holds_24 (fun l z h k => ?_) k
  refine R_iaload dX13_holds_25 (fun l z h k => ?_) k
  refine R_istore dX13_holds_26 (by decide) (fun l z h k => ?_) k
  refine R_aload_n dX13_holds_28 rfl (fun l z h k => ?_) k
  refine R_getf (ci := 11) (f := 14) (C := RX13) (N := 49) (Tt := TX13) dX13_holds_29 rfl i_X13 (by decide) w_1481 (fun l z h k => ?_) k
  refine R_iload_n dX13_holds_32 rfl (fun l z h k => ?_) k
  refine R_iaload dX13_holds_33 (fun l z h k => ?_) k
  exact R_look dX13_holds_34 (by decide) (by decide) (by decide) (fun _ _ _ _ k => k) k
theorem bX13_holds_116 {G : Gt} {d bc bs : Nat} {Q : QT} {l : Ls} {z : List Value} {h : Hp} (k : (tAld 0 (tIld 4 (tIld 2 (tCV2 G d 0 0 11 mX13_holds (fun l z h => T G d bc bs mX13_holds 123 l z h Q))))) l z h) : T G d bc bs mX13_holds 116 l z h Q := by
  refine R_aload_n dX13_holds_116 rfl (fun l z h k => ?_) k
  refine R_iload dX13_holds_117 (fun l z h k => ?_) k
  refine R_iload_n dX13_holds_119 rfl (fun l z h k => ?_) k
  exact R_cv2 (M := mX13_holds) (pc := 120) (bc := bc) (bs := bs) (cb := 0) (cs := 0) (M' := mX13_holds) dX13_holds_120 rfl (by decide) w_2140 w_144 w_2137 w_2139 w_128 (by decide +kernel) (fun _ _ _ k => k) k
theorem bX13_holds_123 {G : Gt} {d bc bs : Nat} {Q : QT} {l : Ls} {z : List Value} {h : Hp} (k : (tIf (fun x => x = 0) (fun l z h => T G d bc bs mX13_holds 126 l z h Q) (fun l z h => T G d bc bs mX13_holds 130 l z h Q)) l z h) : T G d bc bs mX13_holds 123 l z h Q := by
  exact R_if_ne dX13_holds_123 (by decide) (fun _ _ _ k => k) (fun _ _ _ k => k) k
theorem bX13_holds_126 {G : Gt} {d bc bs : Nat} {Q : QT} {l : Ls} {z : List Value} {h : Hp} (k : (tPush (.int 1) ((fun l z h => T G d bc bs mX13_holds 131 l z h Q))) l z h) : T G d bc bs mX13_holds 126 l z h Q := by
  refine R_iconst dX13_holds_126 (by decide) (fun l z h k => ?_) k
  exact R_goto dX13_holds_127 (by decide) (fun _ _ _ k => k) k
theorem bX13_holds_130 {G : Gt} {d bc bs : Nat} {Q : QT} {l : Ls} {z : List Value} {h : Hp} (k : (tPush (.int 0) ((fun l z h => T G d bc bs mX13_holds 131 l z h Q))) l z h) : T G d bc bs mX13_holds 130 l z h Q := by
  refine R_iconst dX13_holds_130 (by decide) (fun l z h k => ?_) k
  exact k
theorem bX13_holds_131 {G : Gt} {d bc bs : Nat} {Q : QT} {l : Ls} {z : List Value} {h : Hp} (k : (tRetZ Q) l z h) : T G d bc bs mX13_holds 131 l z h Q := by
  exact R_zret dX13_holds_131 rfl k
theorem bX13_holds_132 {G : Gt} {d bc bs : Nat} {Q : QT} {l : Ls} {z : List Value} {h : Hp} (k : (tAld 0 (tIld 4 (tIld 2 (tCV2 G d 0 0 11 mX13_holds (fun l z h => T G d bc bs mX13_holds 139 l z h Q))))) l z h) : T G d bc bs mX13_holds 132 l z h Q := by
  refine R_aload_n dX13_holds_132 rfl (fun l z h k => ?_) k
  refine R_iload dX13_holds_133 (fun l z h k => ?_) k
  refine R_iload_n dX13_holds_135 rfl (fun l z h k => ?_) k
  exact R_cv2 (M := mX13_holds) (pc := 136) (bc := bc) (bs := bs) (cb := 0) (cs := 0) (M' := mX13_holds) dX13_holds_136 rfl (by decide) w_2140 w_144 w_2137 w_2139 w_128 (by decide +kernel) (fun _ _ _ k => k) k
theorem bX13_holds_139 {G : Gt} {d bc bs : Nat} {Q : QT} {l : Ls} {z : List Value} {h : Hp} (k : (tIf (fun x => x = 0) (fun l z h => T G d bc bs mX13_holds 156 l z h Q) (fun l z h => T G d bc bs mX13_holds 142 l z h Q)) l z h) : T G d bc bs mX13_holds 139 l z h Q := by
  exact R_if_eq dX13_holds_139 (by decide) (fun _ _ _ k => k) (fun _ _ _ k => k) k
theorem bX13_holds_142 {G : Gt} {d bc bs : Nat} {Q : QT} {l : Ls} {z : List Value} {h : Hp} (k : (tAld 0 (tIld 5 (tIld 2 (tCV2 G d 0 0 11 mX13_holds (fun l z h => T G d bc bs mX13_holds 149 l z h Q))))) l z h) : T G d bc bs mX13_holds 142 l z h Q := by
  refine R_aload_n dX13_holds_142 rfl (fun l z h k => ?_) k
  refine R_iload dX13_holds_143 (fun l z h k => ?_) k
  refine R_iload_n dX13_holds_145 rfl (fun l z h k => ?_) k
  exact R_cv2 (M := mX13_holds) (pc := 146) (bc := bc) (bs := bs) (cb := 0) (cs := 0) (M' := mX13_holds) dX13_holds_146 rfl (by decide) w_2140 w_144 w_2137 w_2139 w_128 (by decide +kernel) (fun _ _ _ k => k) k
theorem bX13_holds_149 {G : Gt} {d bc bs : Nat} {Q : QT} {l : Ls} {z : List Value} {h : Hp} (k : (tIf (fun x => x = 0) (fun l z h => T G d bc bs mX13_holds 156 l z h Q) (fun l z h => T G d bc bs mX13_holds 152 l z h Q)) l z h) : T G d bc bs mX13_holds 149 l z h Q := by
  exact R_if_eq dX13_holds_149 (by decide) (fun _ _ _ k => k) (fun _ _ _ k => k) k
theorem bX13_holds_152 {G : Gt} {d bc bs : Nat} {Q : QT} {l : Ls} {z : List Value} {h : Hp} (k : (tPush (.int 1) ((fun l z h => T G d bc bs mX13_holds 157 l z h Q))) l z h) : T G d bc bs mX13_holds 152 l z h Q := by
  refine R_iconst dX13_holds_152 (by decide) (fun l z h k => ?_) k
  exact R_goto dX13_holds_153 (by decide) (fun _ _ _ k => k) k
theorem bX13_holds_156 {G : Gt} {d bc bs : Nat} {Q : QT} {l : Ls} {z : List Value} {h : Hp} (k : (tPush (.int 0) ((fun l z h => T G d bc bs mX13_holds 157 l z h Q))) l z h) : T G d bc bs mX13_holds 156 l z h Q := by
  refine R_iconst dX13_holds_156 (by decide) (fun l z h k => ?_) k
  exact k
theorem bX13_holds_157 {G : Gt} {d bc bs : Nat} {Q : QT} {l : Ls} {z : List Value} {h : Hp} (k : (tRetZ Q) l z h) : T G d bc bs mX13_holds 157 l z h Q := by
  exact R_zret dX13_holds_157 rfl k
theorem bX13_holds_158 {G : Gt} {d bc bs : Nat} {Q : QT} {l : Ls} {z : List Value} {h : Hp} (k : (tAld 0 (tIld 4 (tIld 2 (tCV2 G d 0 0 11 mX13_holds (fun l z h => T G d bc bs mX13_holds 165 l z h Q))))) l z h) : T G d bc bs mX13_holds 158 l z h Q := by
  refine R_aload_n dX13_holds_158 rfl (fun l z h k => ?_) k
  refine R_iload dX13_holds_159 (fun l z h k => ?_) k
  refine R_iload_n dX13_holds_161 rfl (fun l z h k => ?_) k
  exact R_cv2 (M := mX13_holds) (pc := 162) (bc := bc) (bs := bs) (cb := 0) (cs := 0) (M' := mX13_holds) dX13_holds_162 rfl (by decide) w_2140 w_144 w_2137 w_2139 w_128 (by decide +kernel) (fun _ _ _ k => k) k
theorem bX13_holds_165 {G : Gt} {d bc bs : Nat} {Q : QT} {l : Ls} {z : List Value} {h : Hp} (k : (tIf (fun x => x = 0) (fun l z h => T G d bc bs mX13_holds 168 l z h Q) (fun l z h => T G d bc bs mX13_holds 178 l z h Q)) l z h) : T G d bc bs mX13_holds 165 l z h Q := by
  exact R_if_ne dX13_holds_165 (by decide) (fun _ _ _ k => k) (fun _ _ _ k => k) k
theorem bX13_holds_168 {G : Gt} {d bc bs : Nat} {Q : QT} {l : Ls} {z : List Value} {h : Hp} (k : (tAld 0 (tIld 5 (tIld 2 (tCV2 G d 0 0 11 mX13_holds (fun l z h => T G d bc bs mX13_holds 175 l z h Q))))) l z h) : T G d bc bs mX13_holds 168 l z h Q := by
  refine R_aload_n dX13_holds_168 rfl (fun l z h k => ?_) k
  refine R_iload dX13_holds_169 (fun l z h k => ?_) k
  refine R_iload_n dX13_holds_171 rfl (fun l z h k => ?_) k
  exact R_cv2 (M := mX13_holds) (pc := 172) (bc := bc) (bs := bs) (cb := 0) (cs := 0) (M' := mX13_holds) dX13_holds_172 rfl (by decide) w_2140 w_144 w_2137 w_2139 w_128 (by decide +kernel) (fun _ _ _ k => k) k
theorem bX13_holds_175 {G : Gt} {d bc bs : Nat} {Q : QT} {l : Ls} {z : List Value} {h : Hp} (k : (tIf (fun x => x = 0) (fun l z h => T G d bc bs mX13_holds 182 l z h Q) (fun l z h => T G d bc bs mX13_holds 178 l z h Q)) l z h) : T G d bc bs mX13_holds 175 l z h Q := by
  exact R_if_eq dX13_holds_175 (by decide) (fun _ _ _ k => k) (fun _ _ _ k => k) k
theorem bX13_holds_178 {G : Gt} {d bc bs : Nat} {Q : QT} {l : Ls} {z : List Value} {h : Hp} (k : (tPush (.int 1) ((fun l z h => T G d bc bs mX13_holds 183 l z h Q))) l z h) : T G d bc bs mX13_holds 178 l z h Q := by
  refine R_iconst dX13_holds_178 (by decide) (fun l z h k => ?_) k
  exact R_goto dX13_holds_179 (by decide) (fun _ _ _ k => k) k
theorem bX13_holds_182 {G : Gt} {d bc bs : Nat} {Q : QT} {l : Ls} {z : List Value} {h : Hp} (k : (tPush (.int 0) ((fun l z h => T G d bc bs mX13_holds 183 l z h Q))) l z h) : T G d bc bs mX13_holds 182 l z h Q := by
  refine R_iconst dX13_holds_182 (by decide) (fun l z h k => ?_) k
  exact k
theorem bX13_holds_183 {G : Gt} {d bc bs : Nat} {Q : QT} {l : Ls} {z : List Value} {h : Hp} (k : (tRetZ Q) l z h) : T G d bc bs mX13_holds 183 l z h Q := by
  exact R_zret dX13_holds_183 rfl k
theorem bX13_holds_184 {G : Gt} {d bc bs : Nat} {Q : QT} {l : Ls} {z : List Value} {h : Hp} (k : (tAld 0 (tGetf 11 14 (tPush (.int 99) (tIld 2 (tB (fun x y => x + y) (tXald 0 (tAld 0 (tGetf 11 14 (tIld 3 (tXald 0 (tPush (.int 50) (tB (fun x y => x - y) (tPush (.int 14) (tB (fun x y => x - y) (tIf2 (fun x y => x = y) (fun l z h => T G d bc bs mX13_holds 208 l z h Q) (fun l z h => T G d bc bs mX13_holds 212 l z h Q)))))))))))))))) l z h) : T G d bc bs mX13_holds 184 l z h Q := by
  refine R_aload_n dX13_holds_184 rfl (fun l z h k => ?_) k
  refine R_getf (ci := 11) (f := 14) (C := RX13) (N := 49) (Tt := TX13) dX13_holds_185 rfl i_X13 (by decide) w_1481 (fun l z h k => ?_) k
  refine R_bipush dX13_holds_188 (by decide) (fun l z h k => ?_) k
  refine R_iload_n dX13_holds_190 rfl (fun l z h k => ?_) k
  refine R_iadd dX13_holds_191 (fun l z h k => ?_) k
  refine R_iaload dX13_holds_192 (fun l z h k => ?_) k
  refine R_aload_n dX13_holds_193 rfl (fun l z h k => ?_) k
  refine R_getf (ci := 11) (f := 14) (C := RX13) (N := 49) (Tt := TX13) dX13_holds_194 rfl i_X13 (by decide) w_1481 (fun l z h k => ?_) k
  refine R_iload_n dX13_holds_197 rfl (fun l z h k => ?_) k
  refine R_iaload dX13_holds_198 (fun l z h k => ?_) k
  refine R_bipush dX13_holds_199 (by decide) (fun l z h k => ?_) k
  refine R_isub dX13_holds_201 (fun l z h k => ?_) k
  refine R_bipush dX13_holds_202 (by decide) (fun l z h k => ?_) k
  refine R_isub dX13_holds_204 (fun l z h k => ?_) k
  exact R_icmp_ne dX13_holds_205 (by decide) (fun _ _ _ k => k) (fun _ _ _ k => k) k
theorem bX13_holds_208 {G : Gt} {d bc bs : Nat} {Q : QT} {l : Ls} {z : List Value} {h : Hp} (k : (tPush (.int 1) ((fun l z h => T G d bc bs mX13_holds 213 l z h Q))) l z h) : T G d bc bs mX13_holds 208 l z h Q := by
  refine R_iconst dX13_holds_208 (by decide) (fun l z h k => ?_) k
  exact R_goto dX13_holds_209 (by decide) (fun _ _ _ k => k) k
theorem bX13_holds_212 {G : Gt} {d bc bs : Nat} {Q : QT} {l : Ls} {z : List Value} {h : Hp} (k : (tPush (.int 0) ((fun l z h => T G d bc bs mX13_holds 213 l z h Q))) l z h) : T G d bc bs mX13_holds 212 l z h Q := by
  refine R_iconst dX13_holds_212 (by decide) (fun l z h k => ?_) k
  exact k
theorem bX13_holds_213 {G : Gt} {d bc bs : Nat} {Q : QT} {l : Ls} {z : List Value} {h : Hp} (k : (tRetZ Q) l z h) : T G d bc bs mX13_holds 213 l z h Q := by
  exact R_zret dX13_holds_213 rfl k
theorem bX13_holds_214 {G : Gt} {d bc bs : Nat} {Q : QT} {l : Ls} {z : List Value} {h : Hp} (k : (tAld 0 (tGetf 11 14 (tPush (.int 183) (tIld 2 (tB (fun x y => x + y) (tXald 0 (tPush (.int (-1)) (tIf2 (fun x y => x = y) (fun l z h => T G d bc bs mX13_holds 232 l z h Q) (fun l z h => T G d bc bs mX13_holds 228 l z h Q))))))))) l z h) : T G d bc bs mX13_holds 214 l z h Q := by
  refine R_aload_n dX13_holds_214 rfl (fun l z h k => ?_) k
  refine R_getf (ci := 11) (f := 14) (C := RX13) (N := 49) (Tt := TX13) dX13_holds_215 rfl i_X13 (by decide) w_1481 (fun l z h k => ?_) k
  refine R_sipush dX13_holds_218 (by decide) (fun l z h k => ?_) k
  refine R_iload_n dX13_holds_221 rfl (fun l z h k => ?_) k
  refine R_iadd dX13_holds_222 (fun l z h k => ?_) k
  refine R_iaload dX13_holds_223 (fun l z h k => ?_) k
  refine R_iconst dX13_holds_224 (by decide) (fun l z h k => ?_) k
  exact R_icmp_eq dX13_holds_225 (by decide) (fun _ _ _ k => k) (fun _ _ _ k => k) k
theorem bX13_holds_228 {G : Gt} {d bc bs : Nat} {Q : QT} {l : Ls} {z : List Value} {h : Hp} (k : (tPush (.int 1) ((fun l z h => T G d bc bs mX13_holds 233 l z h Q))) l z h) : T G d bc bs mX13_holds 228 l z h Q := by
  refine R_iconst dX13_holds_228 (by decide) (fun l z h k => ?_) k
  exact R_goto dX13_holds_229 (by decide) (fun _ _ _ k => k) k
theorem bX13_holds_232 {G : Gt} {d bc bs : Nat} {Q : QT} {l : Ls} {z : List Value} {h : Hp} (k : (tPush (.int 0) ((fun l z h => T G d bc bs mX13_holds 233 l z h Q))) l z h) : T G d bc bs mX13_holds 232 l z h Q := by
  refine R_iconst dX13_holds_232 (by decide) (fun l z h k => ?_) k
  exact k
theorem bX13_holds_233 {G : Gt} {d bc bs : Nat} {Q : QT} {l : Ls} {z : List Value} {h : Hp} (k : (tRetZ Q) l z h) : T G d bc bs mX13_holds 233 l z h Q := by
  exact R_zret dX13_holds_233 rfl k
theorem bX13_holds_234 {G : Gt} {d bc bs : Nat} {Q : QT} {l : Ls} {z : List Value} {h : Hp} (k : (tAld 0 (tIld 2 (tIld 4 (tCV2 G d 0 0 11 mX13_pays (fun l z h => T G d bc bs mX13_holds 241 l z h Q))))) l z h) : T G d bc bs mX13_holds 234 l z h Q := by
  refine R_aload_n dX13_holds_234 rfl (fun l z h k => ?_) k
  refine R_iload_n dX13_holds_235 rfl (fun l z h k => ?_) k
  refine R_iload dX13_holds_236 (fun l z h k => ?_) k
  exact R_cv2 (M := mX13_holds) (pc := 238) (bc := bc) (bs := bs) (cb := 0) (cs := 0) (M' := mX13_pays) dX13_holds_238 rfl (by decide) w_1819 w_144 w_1816 w_1818 w_79 (by decide +kernel) (fun _ _ _ k => k) k
theorem bX13_holds_241 {G : Gt} {d bc bs : Nat} {Q : QT} {l : Ls} {z : List Value} {h : Hp} (k : (tRetZ Q) l z h) : T G d bc bs mX13_holds 241 l z h Q := by
  exact R_zret dX13_holds_241 rfl k
theorem bX13_holds_242 {G : Gt} {d bc bs : Nat} {Q : QT} {l : Ls} {z : List Value} {h : Hp} (k : (tAld 0 (tGetf 11 14 (tPush (.int 22) (tIld 2 (tB (fun x y => x + y) (tXald 0 (tIld 4 (tIf2 (fun x y => x = y) (fun l z h => T G d bc bs mX13_holds 256 l z h Q) (fun l z h => T G d bc bs mX13_holds 260 l z h Q))))))))) l z h) : T G d bc bs mX13_holds 242 l z h Q := by
  refine R_aload_n dX13_holds_242 rfl (fun l z h k => ?_) k
  refine R_getf (ci := 11) (f := 14) (C := RX13) (N := 49) (Tt := TX13) dX13_holds_243 rfl i_X13 (by decide) w_1481 (fun l z h k => ?_) k
  refine R_bipush dX13_holds_246 (by decide) (fun l z h k => ?_) k
  refine R_iload_n dX13_holds_248 rfl (fun l z h k => ?_) k
  refine R_iadd dX13_holds_249 (fun l z h k => ?_) k
  refine R_iaload dX13_holds_250 (fun l z h k => ?_) k
  refine R_iload dX13_holds_251 (fun l z h k => ?_) k
  exact R_icmp_ne dX13_holds_253 (by decide) (fun _ _ _ k => k) (fun _ _ _ k => k) k
theorem bX13_holds_256 {G : Gt} {d bc bs : Nat} {Q : QT} {l : Ls} {z : List Value} {h : Hp} (k : (tPush (.int 1) ((fun l z h => T G d bc bs mX13_holds 261 l z h Q))) l z h) : T G d bc bs mX13_holds 256 l z h Q := by
  refine R_iconst dX13_holds_256 (by decide) (fun l z h k => ?_) k
  exact R_goto dX13_holds_257 (by decide) (fun _ _ _ k => k) k
theorem bX13_holds_260 {G : Gt} {d bc bs : Nat} {Q : QT} {l : Ls} {z : List Value} {h : Hp} (k : (tPush (.int 0) ((fun l z h => T G d bc bs mX13_holds 261 l z h Q))) l z h) : T G d bc bs mX13_holds 260 l z h Q := by
  refine R_iconst dX13_holds_260 (by decide) (fun l z h k => ?_) k
  exact k
theorem bX13_holds_261 {G : Gt} {d bc bs : Nat} {Q : QT} {l : Ls} {z : List Value} {h : Hp} (k : (tRetZ Q) l z h) : T G d bc bs mX13_holds 261 l z h Q := by
  exact R_zret dX13_holds_261 rfl k
theorem bX13_holds_262 {G : Gt} {d bc bs : Nat} {Q : QT} {l : Ls} {z : List Value} {h : Hp} (k : (tAld 0 (tGetf 11 14 (tIld 3 (tXald 0 (tPush (.int 50) (tB (fun x y => x - y) (tIst 6 (tIld 6 (tPush (.int 20) (tIf2 (fun x y => x = y) (fun l z h => T G d bc bs mX13_holds 280 l z h Q) (fun l z h => T G d bc bs mX13_holds 288 l z h Q))))))))))) l z h) : T G d bc bs mX13_holds 262 l z h Q := by
  refine R_aload_n dX13_holds_262 rfl (fun l z h k => ?_) k
  refine R_getf (ci := 11) (f := 14) (C := RX13) (N := 49) (Tt := TX13) dX13_holds_263 rfl i_X13 (by decide) w_1481 (fun l z h k => ?_) k
  refine R_iload_n dX13_holds_266 rfl (fun l z h k => ?_) k
  refine R_iaload dX13_holds_267 (fun l z h k => ?_) k
  refine R_bipush dX13_holds_268 (by decide) (fun l z h k => ?_) k
  refine R_isub dX13_holds_270 (fun l z h k => ?_) k
  refine R_istore dX13_holds_271 (by decide) (fun l z h k => ?_) k
  refine R_iload dX13_holds_273 (fun l z h k => ?_) k
  refine R_bipush dX13_holds_275 (by decide) (fun l z h k => ?_) k
  exact R_icmp_ne dX13_holds_277 (by decide) (fun _ _ _ k => k) (fun _ _ _ k => k) k
theorem bX13_holds_280 {G : Gt} {d bc bs : Nat} {Q : QT} {l : Ls} {z : List Value} {h : Hp} (k : (tAld 0 (tIld 2 (tCV1 G d 0 0 11 mX13_allOf (fun l z h => T G d bc bs mX13_holds 285 l z h Q)))) l z h) : T G d bc bs mX13_holds 280 l z h Q := by
  refine R_aload_n dX13_holds_280 rfl (fun l z h k => ?_) k
  refine R_iload_n dX13_holds_281 rfl (fun l z h k => ?_) k
  exact R_cv1 (M := mX13_holds) (pc := 282) (bc := bc) (bs := bs) (cb := 0) (cs := 0) (M' := mX13_allOf) dX13_holds_282 rfl (by decide) w_1775 w_144 w_1772 w_1774 w_72 (by decide +kernel) (fun _ _ _ k => k) k
theorem bX13_holds_285 {G : Gt} {d bc bs : Nat} {Q : QT} {l : Ls} {z : List Value} {h : Hp} (k : (fun l z h => T G d bc bs mX13_holds 327 l z h Q) l z h) : T G d bc bs mX13_holds 285 l z h Q := by
  exact R_goto dX13_holds_285 (by decide) (fun _ _ _ k => k) k
theorem bX13_holds_288 {G : Gt} {d bc bs : Nat} {Q : QT} {l : Ls} {z : List Value} {h : Hp} (k : (tIld 6 (tPush (.int 21) (tIf2 (fun x y => x = y) (fun l z h => T G d bc bs mX13_holds 295 l z h Q) (fun l z h => T G d bc bs mX13_holds 307 l z h Q)))) l z h) : T G d bc bs mX13_holds 288 l z h Q := by
  refine R_iload dX13_holds_288 (fun l z h k => ?_) k
  refine R_bipush dX13_holds_290 (by decide) (fun l z h k => ?_) k
  exact R_icmp_ne dX13_holds_292 (by decide) (fun _ _ _ k => k) (fun _ _ _ k => k) k
theorem bX13_holds_295 {G : Gt} {d bc bs : Nat} {Q : QT} {l : Ls} {z : List Value} {h : Hp} (k : (tAld 0 (tGetf 11 14 (tPush (.int 107) (tIld 2 (tB (fun x y => x + y) (tXald 0 ((fun l z h => T G d bc bs mX13_holds 327 l z h Q)))))))) l z h) : T G d bc bs mX13_holds 295 l z h Q := by
  refine R_aload_n dX13_holds_295 rfl (fun l z h k => ?_) k
  refine R_getf (ci := 11) (f := 14) (C := RX13) (N := 49) (Tt := TX13) dX13_holds_296 rfl i_X13 (by decide) w_1481 (fun l z h k => ?_) k
  refine R_bipush dX13_holds_299 (by decide) (fun l z h k => ?_) k
  refine R_iload_n dX13_holds_301 rfl (fun l z h k => ?_) k
  refine R_iadd dX13_holds_302 (fun l z h k => ?_) k
  refine R_iaload dX13_holds_303 (fun l z h k => ?_) k
  exact R_goto dX13_holds_304 (by decide) (fun _ _ _ k => k) k
theorem bX13_holds_307 {G : Gt} {d bc bs : Nat} {Q : QT} {l : Ls} {z : List Value} {h : Hp} (k : (tIld 6 (tPush (.int 22) (tIf2 (fun x y => x = y) (fun l z h => T G d bc bs mX13_holds 314 l z h Q) (fun l z h => T G d bc bs mX13_holds 326 l z h Q)))) l z h) : T G d bc bs mX13_holds 307 l z h Q := by
  refine R_iload dX13_holds_307 (fun l z h k => ?_) k
  refine R_bipush dX13_holds_309 (by decide) (fun l z h k => ?_) k
  exact R_icmp_ne dX13_holds_311 (by decide) (fun _ _ _ k => k) (fun _ _ _ k => k) k
theorem bX13_holds_314 {G : Gt} {d bc bs : Nat} {Q : QT} {l : Ls} {z : List Value} {h : Hp} (k : (tAld 0 (tGetf 11 14 (tPush (.int 115) (tIld 2 (tB (fun x y => x + y) (tXald 0 ((fun l z h => T G d bc bs mX13_holds 327 l z h Q)))))))) l z h) : T G d bc bs mX13_holds 314 l z h Q := by
  refine R_aload_n dX13_holds_314 rfl (fun l z h k => ?_) k
  refine R_getf (ci := 11) (f := 14) (C := RX13) (N := 49) (Tt := TX13) dX13_holds_315 rfl i_X13 (by decide) w_1481 (fun l z h k => ?_) k
  refine R_bipush dX13_holds_318 (by decide) (fun l z h k => ?_) k
  refine R_iload_n dX13_holds_320 rfl (fun l z h k => ?_) k
  refine R_iadd dX13_holds_321 (fun l z h k => ?_) k
  refine R_iaload dX13_holds_322 (fun l z h k => ?_) k
  exact R_goto dX13_holds_323 (by decide) (fun _ _ _ k => k) k
theorem bX13_holds_326 {G : Gt} {d bc bs : Nat} {Q : QT} {l : Ls} {z : List Value} {h : Hp} (k : (tIld 2 ((fun l z h => T G d bc bs mX13_holds 327 l z h Q))) l z h) : T G d bc bs mX13_holds 326 l z h Q := by
  refine R_iload_n dX13_holds_326 rfl (fun l z h k => ?_) k
  exact k
theorem bX13_holds_327 {G : Gt} {d bc bs : Nat} {Q : QT} {l : Ls} {z : List Value} {h : Hp} (k : (tIst 7 (tAld 0 (tGetf 11 14 (tIld 3 (tPush (.int 3) (tB (fun x y => x + y) (tXald 0 (tPush (.int 60) (tIf2 (fun x y => x = y) (fun l z h => T G d bc bs mX13_holds 342 l z h Q) (fun l z h => T G d bc bs mX13_holds 357 l z h Q)))))))))) l z h) : T G d bc bs mX13_holds 327 l z h Q := by
  refine R_istore dX13_holds_327 (by decide) (fun l z h k => ?_) k
  refine R_aload_n dX13_holds_329 rfl (fun l z h k => ?_) k
  refine R_getf (ci := 11) (f := 14) (C := RX13) (N := 49) (Tt := TX13) dX13_holds_330 rfl i_X13 (by decide) w_1481 (fun l z h k => ?_) k
  refine R_iload_n dX13_holds_333 rfl (fun l z h k => ?_) k
  refine R_iconst dX13_holds_334 (by decide) (fun l z h k => ?_) k
  refine R_iadd dX13_holds_335 (fun l z h k => ?_) k
  refine R_iaload dX13_holds_336 (fun l z h k => ?_) k
  refine R_bipush dX13_holds_337 (by decide) (fun l z h k => ?_) k
  exact R_icmp_ne dX13_holds_339 (by decide) (fun _ _ _ k => k) (fun _ _ _ k => k) k
theorem bX13_holds_342 {G : Gt} {d bc bs : Nat} {Q : QT} {l : Ls} {z : List Value} {h : Hp} (k : (tIld 7 (tIld 5 (tIf2 (fun x y => y ≤ x) (fun l z h => T G d bc bs mX13_holds 353 l z h Q) (fun l z h => T G d bc bs mX13_holds 349 l z h Q)))) l z h) : T G d bc bs mX13_holds 342 l z h Q := by
  refine R_iload dX13_holds_342 (fun l z h k => ?_) k
  refine R_iload dX13_holds_344 (fun l z h k => ?_) k
  exact R_icmp_ge dX13_holds_346 (by decide) (fun _ _ _ k => k) (fun _ _ _ k => k) k
theorem bX13_holds_349 {G : Gt} {d bc bs : Nat} {Q : QT} {l : Ls} {z : List Value} {h : Hp} (k : (tPush (.int 1) ((fun l z h => T G d bc bs mX13_holds 397 l z h Q))) l z h) : T G d bc bs mX13_holds 349 l z h Q := by
  refine R_iconst dX13_holds_349 (by decide) (fun l z h k => ?_) k
  exact R_goto dX13_holds_350 (by decide) (fun _ _ _ k => k) k
theorem bX13_holds_353 {G : Gt} {d bc bs : Nat} {Q : QT} {l : Ls} {z : List Value} {h : Hp} (k : (tPush (.int 0) ((fun l z h => T G d bc bs mX13_holds 397 l z h Q))) l z h) : T G d bc bs mX13_holds 353 l z h Q := by
  refine R_iconst dX13_holds_353 (by decide) (fun l z h k => ?_) k
  exact R_goto dX13_holds_354 (by decide) (fun _ _ _ k => k) k
theorem bX13_holds_357 {G : Gt} {d bc bs : Nat} {Q : QT} {l : Ls} {z : List Value} {h : Hp} (k : (tAld 0 (tGetf 11 14 (tIld 3 (tPush (.int 3) (tB (fun x y => x + y) (tXald 0 (tPush (.int 61) (tIf2 (fun x y => x = y) (fun l z h => T G d bc bs mX13_holds 370 l z h Q) (fun l z h => T G d bc bs mX13_holds 385 l z h Q))))))))) l z h) : T G d bc bs mX13_holds 357 l z h Q := by
  refine R_aload_n dX13_holds_357 rfl (fun l z h k => ?_) k
  refine R_getf (ci := 11) (f := 14) (C := RX13) (N := 49) (Tt := TX13) dX13_holds_358 rfl i_X13 (by decide) w_1481 (fun l z h k => ?_) k
  refine R_iload_n dX13_holds_361 rfl (fun l z h k => ?_) k
  refine R_iconst dX13_holds_362 (by decide) (fun l z h k => ?_) k
  refine R_iadd dX13_holds_363 (fun l z h k => ?_) k
  refine R_iaload dX13_holds_364 (fun l z h k => ?_) k
  refine R_bipush dX13_holds_365 (by decide) (fun l z h k => ?_) k
  exact R_icmp_ne dX13_holds_367 (by decide) (fun _ _ _ k => k) (fun _ _ _ k => k) k
theorem bX13_holds_370 {G : Gt} {d bc bs : Nat} {Q : QT} {l : Ls} {z : List Value} {h : Hp} (k : (tIld 7 (tIld 5 (tIf2 (fun x y => x = y) (fun l z h => T G d bc bs mX13_holds 377 l z h Q) (fun l z h => T G d bc bs mX13_holds 381 l z h Q)))) l z h) : T G d bc bs mX13_holds 370 l z h Q := by
  refine R_iload dX13_holds_370 (fun l z h k => ?_) k
  refine R_iload dX13_holds_372 (fun l z h k => ?_) k
  exact R_icmp_ne dX13_holds_374 (by decide) (fun _ _ _ k => k) (fun _ _ _ k => k) k
theorem bX13_holds_377 {G : Gt} {d bc bs : Nat} {Q : QT} {l : Ls} {z : List Value} {h : Hp} (k : (tPush (.int 1) ((fun l z h => T G d bc bs mX13_holds 397 l z h Q))) l z h) : T G d bc bs mX13_holds 377 l z h Q := by
  refine R_iconst dX13_holds_377 (by decide) (fun l z h k => ?_) k
  exact R_goto dX13_holds_378 (by decide) (fun _ _ _ k => k) k
theorem bX13_holds_381 {G : Gt} {d bc bs : Nat} {Q : QT} {l : Ls} {z : List Value} {h : Hp} (k : (tPush (.int 0) ((fun l z h => T G d bc bs mX13_holds 397 l z h Q))) l z h) : T G d bc bs mX13_holds 381 l z h Q := by
  refine R_iconst dX13_holds_381 (by decide) (fun l z h k => ?_) k
  exact R_goto dX13_holds_382 (by decide) (fun _ _ _ k => k) k
theorem bX13_holds_385 {G : Gt} {d bc bs : Nat} {Q : QT} {l : Ls} {z : List Value} {h : Hp} (k : (tIld 7 (tIld 5 (tIf2 (fun x y => x ≤ y) (fun l z h => T G d bc bs mX13_holds 396 l z h Q) (fun l z h => T G d bc bs mX13_holds 392 l z h Q)))) l z h) : T G d bc bs mX13_holds 385 l z h Q := by
  refine R_iload dX13_holds_385 (fun l z h k => ?_) k
  refine R_iload dX13_holds_387 (fun l z h k => ?_) k
  exact R_icmp_le dX13_holds_389 (by decide) (fun _ _ _ k => k) (fun _ _ _ k => k) k
theorem bX13_holds_392 {G : Gt} {d bc bs : Nat} {Q : QT} {l : Ls} {z : List Value} {h : Hp} (k : (tPush (.int 1) ((fun l z h => T G d bc bs mX13_holds 397 l z h Q))) l z h) : T G d bc bs mX13_holds 392 l z h Q := by
  refine R_iconst dX13_holds_392 (by decide) (fun l z h k => ?_) k
  exact R_goto dX13_holds_393 (by decide) (fun _ _ _ k => k) k
theorem bX13_holds_396 {G : Gt} {d bc bs : Nat} {Q : QT} {l : Ls} {z : List Value} {h : Hp} (k : (tPush (.int 0) ((fun l z h => T G d bc bs mX13_holds 397 l z h Q))) l z h) : T G d bc bs mX13_holds 396 l z h Q := by
  refine R_iconst dX13_holds_396 (by decide) (fun l z h k => ?_) k
  exact k
theorem bX13_holds_397 {G : Gt} {d bc bs : Nat} {Q : QT} {l : Ls} {z : List Value} {h : Hp} (k : (tRetZ Q) l z h) : T G d bc bs mX13_holds 397 l z h Q := by
  exact R_zret dX13_holds_397 rfl k
theorem dX13_said_0 : decode cX13_said 0 = .ok (.aload_n 0, 1) := by decide +kernel
theorem dX13_said_1 : decode cX13_said 1 = .ok (.iconst 0, 1) := by decide +kernel
theorem dX13_said_2 : decode cX13_said 2 = .ok (.putfield 85, 3) := by decide +kernel
theorem dX13_said_5 : decode cX13_said 5 = .ok (.aload_n 0, 1) := by decide +kernel
theorem dX13_said_6 : decode cX13_said 6 = .ok (.getfield 13, 3) := by decide +kernel
theorem dX13_said_9 : decode cX13_said 9 = .ok (.sipush 191, 3) := by decide +kernel
theorem dX13_said_12 : decode cX13_said 12 = .ok (.iaload, 1) := by decide +kernel
theorem dX13_said_13 : decode cX13_said 13 = .ok (.ifCond .ne 5, 3) := by decide +kernel
theorem dX13_said_16 : decode cX13_said 16 = .ok (.iconst (-1), 1) := by decide +kernel
theorem dX13_said_17 : decode cX13_said 17 = .ok (.ireturn, 1) := by decide +kernel
theorem dX13_said_18 : decode cX13_said 18 = .ok (.iconst 0, 1) := by decide +kernel
theorem dX13_said_19 : decode cX13_said 19 = .ok (.istore_n 2, 1) := by decide +kernel
theorem dX13_said_20 : decode cX13_said 20 = .ok (.iconst 0, 1) := by decide +kernel
theorem dX13_said_21 : decode cX13_said 21 = .ok (.istore_n 3, 1) := by decide +kernel
theorem dX13_said_22 : decode cX13_said 22 = .ok (.iload_n 3, 1) := by decide +kernel
theorem dX13_said_23 : decode cX13_said 23 = .ok (.aload_n 0, 1) := by decide +kernel
theorem dX13_said_24 : decode cX13_said 24 = .ok (.getfield 13, 3) := by decide +kernel
theorem dX13_said_27 : decode cX13_said 27 = .ok (.iconst 1, 1) := by decide +kernel
theorem dX13_said_28 : decode cX13_said 28 = .ok (.iaload, 1) := by decide +kernel
theorem dX13_said_29 : decode cX13_said 29 = .ok (.if_icmp .ge 38, 3) := by decide +kernel
theorem dX13_said_32 : decode cX13_said 32 = .ok (.aload_n 0, 1) := by decide +kernel
theorem dX13_said_33 : decode cX13_said 33 = .ok (.aload_n 0, 1) := by decide +kernel
theorem dX13_said_34 : decode cX13_said 34 = .ok (.getfield 13, 3) := by decide +kernel
theorem dX13_said_37 : decode cX13_said 37 = .ok (.sipush 192, 3) := by decide +kernel
theorem dX13_said_40 : decode cX13_said 40 = .ok (.iaload, 1) := by decide +kernel
theorem dX13_said_41 : decode cX13_said 41 = .ok (.iload_n 3, 1) := by decide +kernel
theorem dX13_said_42 : decode cX13_said 42 = .ok (.invokevirtual 470, 3) := by decide +kernel
theorem dX13_said_45 : decode cX13_said 45 = .ok (.ifCond .ne 6, 3) := by decide +kernel
theorem dX13_said_48 : decode cX13_said 48 = .ok (.goto 13, 3) := by decide +kernel
theorem dX13_said_51 : decode cX13_said 51 = .ok (.iload_n 2, 1) := by decide +kernel
theorem dX13_said_52 : decode cX13_said 52 = .ok (.iload_n 1, 1) := by decide +kernel
theorem dX13_said_53 : decode cX13_said 53 = .ok (.if_icmp .ne 5, 3) := by decide +kernel
theorem dX13_said_56 : decode cX13_said 56 = .ok (.iload_n 3, 1) := by decide +kernel
theorem dX13_said_57 : decode cX13_said 57 = .ok (.ireturn, 1) := by decide +kernel
theorem dX13_said_58 : decode cX13_said 58 = .ok (.iinc 2 1, 3) := by decide +kernel
theorem dX13_said_61 : decode cX13_said 61 = .ok (.iinc 3 1, 3) := by decide +kernel
theorem dX13_said_64 : decode cX13_said 64 = .ok (.goto (-42), 3) := by decide +kernel
theorem dX13_said_67 : decode cX13_said 67 = .ok (.iload_n 1, 1) := by decide +kernel
theorem dX13_said_68 : decode cX13_said 68 = .ok (.iconst (-1), 1) := by decide +kernel
theorem dX13_said_69 : decode cX13_said 69 = .ok (.if_icmp .ne 7, 3) := by decide +kernel
theorem dX13_said_72 : decode cX13_said 72 = .ok (.iload_n 2, 1) := by decide +kernel
theorem dX13_said_73 : decode cX13_said 73 = .ok (.goto 4, 3) := by decide +kernel
theorem dX13_said_76 : decode cX13_said 76 = .ok (.iconst (-1), 1) := by decide +kernel
theorem dX13_said_77 : decode cX13_said 77 = .ok (.ireturn, 1) := by decide +kernel
theorem bX13_said_0 {G : Gt} {d bc bs : Nat} {Q : QT} {l : Ls} {z : List Value} {h : Hp} (k : (tAld 0 (tPush (.int 0) (tPutf isI 11 0 (tAld 0 (tGetf 11 14 (tPush (.int 191) (tXald 0 (tIf (fun x => x = 0) (fun l z h => T G d bc bs mX13_said 16 l z h Q) (fun l z h => T G d bc bs mX13_said 18 l z h Q))))))))) l z h) : T G d bc bs mX13_said 0 l z h Q := by
  refine R_aload_n dX13_said_0 rfl (fun l z h k => ?_) k
  refine R_iconst dX13_said_1 (by decide) (fun l z h k => ?_) k
  refine R_putf (ci := 11) (f := 0) (C := RX13) (N := 49) (Tt := TX13) tyX13 tyX13_ok nmX13 dX13_said_2 rfl i_X13 (by decide) w_1467 rfl (tyX13_ok 0 (by decide)) p_int (fun l z h k => ?_) k
  refine R_aload_n dX13_said_5 rfl (fun l z h k => ?_) k
  refine R_getf (ci := 11) (f := 14) (C := RX13) (N := 49) (Tt := TX13) dX13_said_6 rfl i_X13 (by decide) w_1481 (fun l z h k => ?_) k
  refine R_sipush dX13_said_9 (by decide) (fun l z h k => ?_) k
  refine R_iaload dX13_said_12 (fun l z h k => ?_) k
  exact R_if_ne dX13_said_13 (by decide) (fun _ _ _ k => k) (fun _ _ _ k => k) k
theorem bX13_said_16 {G : Gt} {d bc bs : Nat} {Q : QT} {l : Ls} {z : List Value} {h : Hp} (k : (tPush (.int (-1)) (tRetI Q)) l z h) : T G d bc bs mX13_said 16 l z h Q := by
  refine R_iconst dX13_said_16 (by decide) (fun l z h k => ?_) k
  exact R_iret dX13_said_17 rfl k
theorem bX13_said_18 {G : Gt} {d bc bs : Nat} {Q : QT} {l : Ls} {z : List Value} {h : Hp} (k : (tPush (.int 0) (tIst 2 (tPush (.int 0) (tIst 3 ((fun l z h => T G d bc bs mX13_said 22 l z h Q)))))) l z h) : T G d bc bs mX13_said 18 l z h Q := by
  refine R_iconst dX13_said_18 (by decide) (fun l z h k => ?_) k
  refine R_istore_n dX13_said_19 rfl (by decide) (fun l z h k => ?_) k
  refine R_iconst dX13_said_20 (by decide) (fun l z h k => ?_) k
  refine R_istore_n dX13_said_21 rfl (by decide) (fun l z h k => ?_) k
  exact k
theorem bX13_said_22 {G : Gt} {d bc bs : Nat} {Q : QT} {l : Ls} {z : List Value} {h : Hp} (k : (tIld 3 (tAld 0 (tGetf 11 14 (tPush (.int 1) (tXald 0 (tIf2 (fun x y => y ≤ x) (fun l z h => T G d bc bs mX13_said 67 l z h Q) (fun l z h => T G d bc bs mX13_said 32 l z h Q))))))) l z h) : T G d bc bs mX13_said 22 l z h Q := by
  refine R_iload_n dX13_said_22 rfl (fun l z h k => ?_) k
  refine R_aload_n dX13_said_23 rfl (fun l z h k => ?_) k
  refine R_getf (ci := 11) (f := 14) (C := RX13) (N := 49) (Tt := TX13) dX13_said_24 rfl i_X13 (by decide) w_1481 (fun l z h k => ?_) k
  refine R_iconst dX13_said_27 (by decide) (fun l z h k => ?_) k
  refine R_iaload dX13_said_28 (fun l z h k => ?_) k
  exact R_icmp_ge dX13_said_29 (by decide) (fun _ _ _ k => k) (fun _ _ _ k => k) k
theorem bX13_said_32 {G : Gt} {d bc bs : Nat} {Q : QT} {l : Ls} {z : List Value} {h : Hp} (k : (tAld 0 (tAld 0 (tGetf 11 14 (tPush (.int 192) (tXald 0 (tIld 3 (tCV2 G d 0 0 11 mX13_holds (fun l z h => T G d bc bs mX13_said 45 l z h Q)))))))) l z h) : T G d bc bs mX13_said 32 l z h Q := by
  refine R_aload_n dX13_said_32 rfl (fun l z h k => ?_) k
  refine R_aload_n dX13_said_33 rfl (fun l z h k => ?_) k
  refine R_getf (ci := 11) (f := 14) (C := RX13) (N := 49) (Tt := TX13) dX13_said_34 rfl i_X13 (by decide) w_1481 (fun l z h k => ?_) k
  refine R_sipush dX13_said_37 (by decide) (fun l z h k => ?_) k
  refine R_iaload dX13_said_40 (fun l z h k => ?_) k
  refine R_iload_n dX13_said_41 rfl (fun l z h k => ?_) k
  exact R_cv2 (M := mX13_said) (pc := 42) (bc := bc) (bs := bs) (cb := 0) (cs := 0) (M' := mX13_holds) dX13_said_42 rfl (by decide) w_2140 w_144 w_2137 w_2139 w_128 (by decide +kernel) (fun _ _ _ k => k) k
theorem bX13_said_45 {G : Gt} {d bc bs : Nat} {Q : QT} {l : Ls} {z : List Value} {h : Hp} (k : (tIf (fun x => x = 0) (fun l z h => T G d bc bs mX13_said 48 l z h Q) (fun l z h => T G d bc bs mX13_said 51 l z h Q)) l z h) : T G d bc bs mX13_said 45 l z h Q := by
  exact R_if_ne dX13_said_45 (by decide) (fun _ _ _ k => k) (fun _ _ _ k => k) k
theorem bX13_said_48 {G : Gt} {d bc bs : Nat} {Q : QT} {l : Ls} {z : List Value} {h : Hp} (k : (fun l z h => T G d bc bs mX13_said 61 l z h Q) l z h) : T G d bc bs mX13_said 48 l z h Q := by
  exact R_goto dX13_said_48 (by decide) (fun _ _ _ k => k) k
theorem bX13_said_51 {G : Gt} {d bc bs : Nat} {Q : QT} {l : Ls} {z : List Value} {h : Hp} (k : (tIld 2 (tIld 1 (tIf2 (fun x y => x = y) (fun l z h => T G d bc bs mX13_said 56 l z h Q) (fun l z h => T G d bc bs mX13_said 58 l z h Q)))) l z h) : T G d bc bs mX13_said 51 l z h Q := by
  refine R_iload_n dX13_said_51 rfl (fun l z h k => ?_) k
  refine R_iload_n dX13_said_52 rfl (fun l z h k => ?_) k
  exact R_icmp_ne dX13_said_53 (by decide) (fun _ _ _ k => k) (fun _ _ _ k => k) k
theorem bX13_said_56 {G : Gt} {d bc bs : Nat} {Q : QT} {l : Ls} {z : List Value} {h : Hp} (k : (tIld 3 (tRetI Q)) l z h) : T G d bc bs mX13_said 56 l z h Q := by
  refine R_iload_n dX13_said_56 rfl (fun l z h k => ?_) k
  exact R_iret dX13_said_57 rfl k
theorem bX13_said_58 {G : Gt} {d bc bs : Nat} {Q : QT} {l : Ls} {z : List Value} {h : Hp} (k : (tInc 2 1 ((fun l z h => T G d bc bs mX13_said 61 l z h Q))) l z h) : T G d bc bs mX13_said 58 l z h Q := by
  refine R_iinc dX13_said_58 (by decide) (by decide) (fun l z h k => ?_) k
  exact k
theorem bX13_said_61 {G : Gt} {d bc bs : Nat} {Q : QT} {l : Ls} {z : List Value} {h : Hp} (k : (tInc 3 1 ((fun l z h => T G d bc bs mX13_said 22 l z h Q))) l z h) : T G d bc bs mX13_said 61 l z h Q := by
  refine R_iinc dX13_said_61 (by decide) (by decide) (fun l z h k => ?_) k
  exact R_goto dX13_said_64 (by decide) (fun _ _ _ k => k) k
theorem bX13_said_67 {G : Gt} {d bc bs : Nat} {Q : QT} {l : Ls} {z : List Value} {h : Hp} (k : (tIld 1 (tPush (.int (-1)) (tIf2 (fun x y => x = y) (fun l z h => T G d bc bs mX13_said 72 l z h Q) (fun l z h => T G d bc bs mX13_said 76 l z h Q)))) l z h) : T G d bc bs mX13_said 67 l z h Q := by
  refine R_iload_n dX13_said_67 rfl (fun l z h k => ?_) k
  refine R_iconst dX13_said_68 (by decide) (fun l z h k => ?_) k
  exact R_icmp_ne dX13_said_69 (by decide) (fun _ _ _ k => k) (fun _ _ _ k => k) k
theorem bX13_said_72 {G : Gt} {d bc bs : Nat} {Q : QT} {l : Ls} {z : List Value} {h : Hp} (k : (tIld 2 ((fun l z h => T G d bc bs mX13_said 77 l z h Q))) l z h) : T G d bc bs mX13_said 72 l z h Q := by
  refine R_iload_n dX13_said_72 rfl (fun l z h k => ?_) k
  exact R_goto dX13_said_73 (by decide) (fun _ _ _ k => k) k
theorem bX13_said_76 {G : Gt} {d bc bs : Nat} {Q : QT} {l : Ls} {z : List Value} {h : Hp} (k : (tPush (.int (-1)) ((fun l z h => T G d bc bs mX13_said 77 l z h Q))) l z h) : T G d bc bs mX13_said 76 l z h Q := by
  refine R_iconst dX13_said_76 (by decide) (fun l z h k => ?_) k
  exact k
theorem bX13_said_77 {G : Gt} {d bc bs : Nat} {Q : QT} {l : Ls} {z : List Value} {h : Hp} (k : (tRetI Q) l z h) : T G d bc bs mX13_said 77 l z h Q := by
  exact R_iret dX13_said_77 rfl k
theorem dX13_image_0 : decode cX13_image 0 = .ok (.aload_n 0, 1) := by decide +kernel
theorem dX13_image_1 : decode cX13_image 1 = .ok (.iconst 0, 1) := by decide +kernel
theorem dX13_image_2 : decode cX13_image 2 = .ok (.putfield 85, 3) := by decide +kernel
theorem dX13_image_5 : decode cX13_image 5 = .ok (.iload_n 1, 1) := by decide +kernel
theorem dX13_image_6 : decode cX13_image 6 = .ok (.iconst 0, 1) := by decide +kernel
theorem dX13_image_7 : decode cX13_image 7 = .ok (.iconst 1, 1) := by decide +kernel
theorem dX13_image_8 : decode cX13_image 8 = .ok (.invokestatic 152, 3) := by decide +kernel
theorem dX13_image_11 : decode cX13_image 11 = .ok (.ifCond .ne 5, 3) := by decide +kernel
theorem dX13_image_14 : decode cX13_image 14 = .ok (.iconst 0, 1) := by decide +kernel
theorem dX13_image_15 : decode cX13_image 15 = .ok (.ireturn, 1) := by decide +kernel
theorem dX13_image_16 : decode cX13_image 16 = .ok (.iconst 0, 1) := by decide +kernel
theorem dX13_image_17 : decode cX13_image 17 = .ok (.istore_n 2, 1) := by decide +kernel
theorem dX13_image_18 : decode cX13_image 18 = .ok (.iload_n 2, 1) := by decide +kernel
theorem dX13_image_19 : decode cX13_image 19 = .ok (.sipush 433, 3) := by decide +kernel
theorem dX13_image_22 : decode cX13_image 22 = .ok (.if_icmp .ge 27, 3) := by decide +kernel
theorem dX13_image_25 : decode cX13_image 25 = .ok (.aload_n 0, 1) := by decide +kernel
theorem dX13_image_26 : decode cX13_image 26 = .ok (.getfield 19, 3) := by decide +kernel
theorem dX13_image_29 : decode cX13_image 29 = .ok (.sipush 433, 3) := by decide +kernel
theorem dX13_image_32 : decode cX13_image 32 = .ok (.iload_n 1, 1) := by decide +kernel
theorem dX13_image_33 : decode cX13_image 33 = .ok (.imul, 1) := by decide +kernel
theorem dX13_image_34 : decode cX13_image 34 = .ok (.iload_n 2, 1) := by decide +kernel
theorem dX13_image_35 : decode cX13_image 35 = .ok (.iadd, 1) := by decide +kernel
theorem dX13_image_36 : decode cX13_image 36 = .ok (.aload_n 0, 1) := by decide +kernel
theorem dX13_image_37 : decode cX13_image 37 = .ok (.getfield 13, 3) := by decide +kernel
theorem dX13_image_40 : decode cX13_image 40 = .ok (.iload_n 2, 1) := by decide +kernel
theorem dX13_image_41 : decode cX13_image 41 = .ok (.iaload, 1) := by decide +kernel
theorem dX13_image_42 : decode cX13_image 42 = .ok (.iastore, 1) := by decide +kernel
theorem dX13_image_43 : decode cX13_image 43 = .ok (.iinc 2 1, 3) := by decide +kernel
theorem dX13_image_46 : decode cX13_image 46 = .ok (.goto (-28), 3) := by decide +kernel
theorem dX13_image_49 : decode cX13_image 49 = .ok (.iconst 0, 1) := by decide +kernel
theorem dX13_image_50 : decode cX13_image 50 = .ok (.istore_n 2, 1) := by decide +kernel
theorem dX13_image_51 : decode cX13_image 51 = .ok (.iload_n 2, 1) := by decide +kernel
theorem dX13_image_52 : decode cX13_image 52 = .ok (.bipush 14, 2) := by decide +kernel
theorem dX13_image_54 : decode cX13_image 54 = .ok (.if_icmp .ge 26, 3) := by decide +kernel
theorem dX13_image_57 : decode cX13_image 57 = .ok (.aload_n 0, 1) := by decide +kernel
theorem dX13_image_58 : decode cX13_image 58 = .ok (.getfield 38, 3) := by decide +kernel
theorem dX13_image_61 : decode cX13_image 61 = .ok (.bipush 14, 2) := by decide +kernel
theorem dX13_image_63 : decode cX13_image 63 = .ok (.iload_n 1, 1) := by decide +kernel
theorem dX13_image_64 : decode cX13_image 64 = .ok (.imul, 1) := by decide +kernel
theorem dX13_image_65 : decode cX13_image 65 = .ok (.iload_n 2, 1) := by decide +kernel
theorem dX13_image_66 : decode cX13_image 66 = .ok (.iadd, 1) := by decide +kernel
theorem dX13_image_67 : decode cX13_image 67 = .ok (.aload_n 0, 1) := by decide +kernel
theorem dX13_image_68 : decode cX13_image 68 = .ok (.getfield 31, 3) := by decide +kernel
theorem dX13_image_71 : decode cX13_image 71 = .ok (.iload_n 2, 1) := by decide +kernel
theorem dX13_image_72 : decode cX13_image 72 = .ok (.laload, 1) := by decide +kernel
theorem dX13_image_73 : decode cX13_image 73 = .ok (.lastore, 1) := by decide +kernel
theorem dX13_image_74 : decode cX13_image 74 = .ok (.iinc 2 1, 3) := by decide +kernel
theorem dX13_image_77 : decode cX13_image 77 = .ok (.goto (-26), 3) := by decide +kernel
theorem dX13_image_80 : decode cX13_image 80 = .ok (.aload_n 0, 1) := by decide +kernel
theorem dX13_image_81 : decode cX13_image 81 = .ok (.getfield 41, 3) := by decide +kernel
theorem dX13_image_84 : decode cX13_image 84 = .ok (.iload_n 1, 1) := by decide +kernel
theorem dX13_image_85 : decode cX13_image 85 = .ok (.iconst 1, 1) := by decide +kernel
theorem dX13_image_86 : decode cX13_image 86 = .ok (.bastore, 1) := by decide +kernel
theorem dX13_image_87 : decode cX13_image 87 = .ok (.iconst 1, 1) := by decide +kernel
theorem dX13_image_88 : decode cX13_image 88 = .ok (.ireturn, 1) := by decide +kernel
theorem bX13_image_0 {G : Gt} {d bc bs : Nat} {Q : QT} {l : Ls} {z : List Value} {h : Hp} (k : (tAld 0 (tPush (.int 0) (tPutf isI 11 0 (tIld 1 (tPush (.int 0) (tPush (.int 1) (tCS3 G d 0 0 mX13_isIn (fun l z h => T G d bc bs mX13_image 11 l z h Q)))))))) l z h) : T G d bc bs mX13_image 0 l z h Q := by
  refine R_aload_n dX13_image_0 rfl (fun l z h k => ?_) k
  refine R_iconst dX13_image_1 (by decide) (fun l z h k => ?_) k
  refine R_putf (ci := 11) (f := 0) (C := RX13) (N := 49) (Tt := TX13) tyX13 tyX13_ok nmX13 dX13_image_2 rfl i_X13 (by decide) w_1467 rfl (tyX13_ok 0 (by decide)) p_int (fun l z h k => ?_) k
  refine R_iload_n dX13_image_5 rfl (fun l z h k => ?_) k
  refine R_iconst dX13_image_6 (by decide) (fun l z h k => ?_) k
  refine R_iconst dX13_image_7 (by decide) (fun l z h k => ?_) k
  exact R_cs3 (M := mX13_image) (pc := 8) (bc := bc) (bs := bs) (cb := 0) (cs := 0) (M' := mX13_isIn) dX13_image_8 (by decide) w_1711 w_144 w_1709 w_1710 (by decide +kernel) (fun _ _ _ k => k) k
theorem bX13_image_11 {G : Gt} {d bc bs : Nat} {Q : QT} {l : Ls} {z : List Value} {h : Hp} (k : (tIf (fun x => x = 0) (fun l z h => T G d bc bs mX13_image 14 l z h Q) (fun l z h => T G d bc bs mX13_image 16 l z h Q)) l z h) : T G d bc bs mX13_image 11 l z h Q := by
  exact R_if_ne dX13_image_11 (by decide) (fun _ _ _ k => k) (fun _ _ _ k => k) k
theorem bX13_image_14 {G : Gt} {d bc bs : Nat} {Q : QT} {l : Ls} {z : List Value} {h : Hp} (k : (tPush (.int 0) (tRetZ Q)) l z h) : T G d bc bs mX13_image 14 l z h Q := by
  refine R_iconst dX13_image_14 (by decide) (fun l z h k => ?_) k
  exact R_zret dX13_image_15 rfl k
theorem bX13_image_16 {G : Gt} {d bc bs : Nat} {Q : QT} {l : Ls} {z : List Value} {h : Hp} (k : (tPush (.int 0) (tIst 2 ((fun l z h => T G d bc bs mX13_image 18 l z h Q)))) l z h) : T G d bc bs mX13_image 16 l z h Q := by
  refine R_iconst dX13_image_16 (by decide) (fun l z h k => ?_) k
  refine R_istore_n dX13_image_17 rfl (by decide) (fun l z h k => ?_) k
  exact k
theorem bX13_image_18 {G : Gt} {d bc bs : Nat} {Q : QT} {l : Ls} {z : List Value} {h : Hp} (k : (tIld 2 (tPush (.int 433) (tIf2 (fun x y => y ≤ x) (fun l z h => T G d bc bs mX13_image 49 l z h Q) (fun l z h => T G d bc bs mX13_image 25 l z h Q)))) l z h) : T G d bc bs mX13_image 18 l z h Q := by
  refine R_iload_n dX13_image_18 rfl (fun l z h k => ?_) k
  refine R_sipush dX13_image_19 (by decide) (fun l z h k => ?_) k
  exact R_icmp_ge dX13_image_22 (by decide) (fun _ _ _ k => k) (fun _ _ _ k => k) k
theorem bX13_image_25 {G : Gt} {d bc bs : Nat} {Q : QT} {l : Ls} {z : List Value} {h : Hp} (k : (tAld 0 (tGetf 11 16 (tPush (.int 433) (tIld 1 (tB (fun x y => x * y) (tIld 2 (tB (fun x y => x + y) (tAld 0 (tGetf 11 14 (tIld 2 (tXald 0 (tXast 0 (tInc 2 1 ((fun l z h => T G d bc bs mX13_image 18 l z h Q))))))))))))))) l z h) : T G d bc bs mX13_image 25 l z h Q := by
  refine R_aload_n dX13_image_25 rfl (fun l z h k => ?_) k
  refine R_getf (ci := 11) (f := 16) (C := RX13) (N := 49) (Tt := TX13) dX13_image_26 rfl i_X13 (by decide) w_1483 (fun l z h k => ?_) k
  refine R_sipush dX13_image_29 (by decide) (fun l z h k => ?_) k
  refine R_iload_n dX13_image_32 rfl (fun l z h k => ?_) k
  refine R_imul dX13_image_33 (fun l z h k => ?_) k
  refine R_iload_n dX13_image_34 rfl (fun l z h k => ?_) k
  refine R_iadd dX13_image_35 (fun l z h k => ?_) k
  refine R_aload_n dX13_image_36 rfl (fun l z h k => ?_) k
  refine R_getf (ci := 11) (f := 14) (C := RX13) (N := 49) (Tt := TX13) dX13_image_37 rfl i_X13 (by decide) w_1481 (fun l z h k => ?_) k
  refine R_iload_n dX13_image_40 rfl (fun l z h k => ?_) k
  refine R_iaload dX13_image_41 (fun l z h k => ?_) k
  refine R_iastore dX13_image_42 (fun l z h k => ?_) k
  refine R_iinc dX13_image_43 (by decide) (by decide) (fun l z h k => ?_) k
  exact R_goto dX13_image_46 (by decide) (fun _ _ _ k => k) k
theorem bX13_image_49 {G : Gt} {d bc bs : Nat} {Q : QT} {l : Ls} {z : List Value} {h : Hp} (k : (tPush (.int 0) (tIst 2 ((fun l z h => T G d bc bs mX13_image 51 l z h Q)))) l z h) : T G d bc bs mX13_image 49 l z h Q := by
  refine R_iconst dX13_image_49 (by decide) (fun l z h k => ?_) k
  refine R_istore_n dX13_image_50 rfl (by decide) (fun l z h k => ?_) k
  exact k
theorem bX13_image_51 {G : Gt} {d bc bs : Nat} {Q : QT} {l : Ls} {z : List Value} {h : Hp} (k : (tIld 2 (tPush (.int 14) (tIf2 (fun x y => y ≤ x) (fun l z h => T G d bc bs mX13_image 80 l z h Q) (fun l z h => T G d bc bs mX13_image 57 l z h Q)))) l z h) : T G d bc bs mX13_image 51 l z h Q := by
  refine R_iload_n dX13_image_51 rfl (fun l z h k => ?_) k
  refine R_bipush dX13_image_52 (by decide) (fun l z h k => ?_) k
  exact R_icmp_ge dX13_image_54 (by decide) (fun _ _ _ k => k) (fun _ _ _ k => k) k
theorem bX13_image_57 {G : Gt} {d bc bs : Nat} {Q : QT} {l : Ls} {z : List Value} {h : Hp} (k : (tAld 0 (tGetf 11 22 (tPush (.int 14) (tIld 1 (tB (fun x y => x * y) (tIld 2 (tB (fun x y => x + y) (tAld 0 (tGetf 11 20 (tIld 2 (tJald (tJast (tInc 2 1 ((fun l z h => T G d bc bs mX13_image 51 l z h Q))))))))))))))) l z h) : T G d bc bs mX13_image 57 l z h Q := by
  refine R_aload_n dX13_image_57 rfl (fun l z h k => ?_) k
  refine R_getf (ci := 11) (f := 22) (C := RX13) (N := 49) (Tt := TX13) dX13_image_58 rfl i_X13 (by decide) w_1489 (fun l z h k => ?_) k
  refine R_bipush dX13_image_61 (by decide) (fun l z h k => ?_) k
  refine R_iload_n dX13_image_63 rfl (fun l z h k => ?_) k
  refine R_imul dX13_image_64 (fun l z h k => ?_) k
  refine R_iload_n dX13_image_65 rfl (fun l z h k => ?_) k
  refine R_iadd dX13_image_66 (fun l z h k => ?_) k
  refine R_aload_n dX13_image_67 rfl (fun l z h k => ?_) k
  refine R_getf (ci := 11) (f := 20) (C := RX13) (N := 49) (Tt := TX13) dX13_image_68 rfl i_X13 (by decide) w_1487 (fun l z h k => ?_) k
  refine R_iload_n dX13_image_71 rfl (fun l z h k => ?_) k
  refine R_laload dX13_image_72 (fun l z h k => ?_) k
  refine R_lastore dX13_image_73 (fun l z h k => ?_) k
  refine R_iinc dX13_image_74 (by decide) (by decide) (fun l z h k => ?_) k
  exact R_goto dX13_image_77 (by decide) (fun _ _ _ k => k) k
theorem bX13_image_80 {G : Gt} {d bc bs : Nat} {Q : QT} {l : Ls} {z : List Value} {h : Hp} (k : (tAld 0 (tGetf 11 23 (tIld 1 (tPush (.int 1) (tZast (tPush (.int 1) (tRetZ Q))))))) l z h) : T G d bc bs mX13_image 80 l z h Q := by
  refine R_aload_n dX13_image_80 rfl (fun l z h k => ?_) k
  refine R_getf (ci := 11) (f := 23) (C := RX13) (N := 49) (Tt := TX13) dX13_image_81 rfl i_X13 (by decide) w_1490 (fun l z h k => ?_) k
  refine R_iload_n dX13_image_84 rfl (fun l z h k => ?_) k
  refine R_iconst dX13_image_85 (by decide) (fun l z h k => ?_) k
  refine R_zastore dX13_image_86 (fun l z h k => ?_) k
  refine R_iconst dX13_image_87 (by decide) (fun l z h k => ?_) k
  exact R_zret dX13_image_88 rfl k
theorem dX13_restore_0 : decode cX13_restore 0 = .ok (.aload_n 0, 1) := by decide +kernel
theorem dX13_restore_1 : decode cX13_restore 1 = .ok (.iconst 0, 1) := by decide +kernel
theorem dX13_restore_2 : decode cX13_restore 2 = .ok (.putfield 85, 3) := by decide +kernel
theorem dX13_restore_5 : decode cX13_restore 5 = .ok (.iload_n 1, 1) := by decide +kernel
theorem dX13_restore_6 : decode cX13_restore 6 = .ok (.iconst 0, 1) := by decide +kernel
theorem dX13_restore_7 : decode cX13_restore 7 = .ok (.iconst 1, 1) := by decide +kernel
theorem dX13_restore_8 : decode cX13_restore 8 = .ok (.invokestatic 152, 3) := by decide +kernel
theorem dX13_restore_11 : decode cX13_restore 11 = .ok (.ifCond .eq 12, 3) := by decide +kernel
theorem dX13_restore_14 : decode cX13_restore 14 = .ok (.aload_n 0, 1) := by decide +kernel
theorem dX13_restore_15 : decode cX13_restore 15 = .ok (.getfield 41, 3) := by decide +kernel
theorem dX13_restore_18 : decode cX13_restore 18 = .ok (.iload_n 1, 1) := by decide +kernel
theorem dX13_restore_19 : decode cX13_restore 19 = .ok (.baload, 1) := by decide +kernel
theorem dX13_restore_20 : decode cX13_restore 20 = .ok (.ifCond .ne 5, 3) := by decide +kernel
theorem dX13_restore_23 : decode cX13_restore 23 = .ok (.iconst 0, 1) := by decide +kernel
theorem dX13_restore_24 : decode cX13_restore 24 = .ok (.ireturn, 1) := by decide +kernel
theorem dX13_restore_25 : decode cX13_restore 25 = .ok (.iconst 0, 1) := by decide +kernel
theorem dX13_restore_26 : decode cX13_restore 26 = .ok (.istore_n 2, 1) := by decide +kernel
theorem dX13_restore_27 : decode cX13_restore 27 = .ok (.iload_n 2, 1) := by decide +kernel
theorem dX13_restore_28 : decode cX13_restore 28 = .ok (.sipush 433, 3) := by decide +kernel
theorem dX13_restore_31 : decode cX13_restore 31 = .ok (.if_icmp .ge 27, 3) := by decide +kernel
theorem dX13_restore_34 : decode cX13_restore 34 = .ok (.aload_n 0, 1) := by decide +kernel
theorem dX13_restore_35 : decode cX13_restore 35 = .ok (.getfield 13, 3) := by decide +kernel
theorem dX13_restore_38 : decode cX13_restore 38 = .ok (.iload_n 2, 1) := by decide +kernel
theorem dX13_restore_39 : decode cX13_restore 39 = .ok (.aload_n 0, 1) := by decide +kernel
theorem dX13_restore_40 : decode cX13_restore 40 = .ok (.getfield 19, 3) := by decide +kernel
theorem dX13_restore_43 : decode cX13_restore 43 = .ok (.sipush 433, 3) := by decide +kernel
theorem dX13_restore_46 : decode cX13_restore 46 = .ok (.iload_n 1, 1) := by decide +kernel
theorem dX13_restore_47 : decode cX13_restore 47 = .ok (.imul, 1) := by decide +kernel
theorem dX13_restore_48 : decode cX13_restore 48 = .ok (.iload_n 2, 1) := by decide +kernel
theorem dX13_restore_49 : decode cX13_restore 49 = .ok (.iadd, 1) := by decide +kernel
theorem dX13_restore_50 : decode cX13_restore 50 = .ok (.iaload, 1) := by decide +kernel
theorem dX13_restore_51 : decode cX13_restore 51 = .ok (.iastore, 1) := by decide +kernel
theorem dX13_restore_52 : decode cX13_restore 52 = .ok (.iinc 2 1, 3) := by decide +kernel
theorem dX13_restore_55 : decode cX13_restore 55 = .ok (.goto (-28), 3) := by decide +kernel
theorem dX13_restore_58 : decode cX13_restore 58 = .ok (.iconst 0, 1) := by decide +kernel
theorem dX13_restore_59 : decode cX13_restore 59 = .ok (.istore_n 2, 1) := by decide +kernel
theorem dX13_restore_60 : decode cX13_restore 60 = .ok (.iload_n 2, 1) := by decide +kernel
theorem dX13_restore_61 : decode cX13_restore 61 = .ok (.bipush 14, 2) := by decide +kernel
theorem dX13_restore_63 : decode cX13_restore 63 = .ok (.if_icmp .ge 26, 3) := by decide +kernel
theorem dX13_restore_66 : decode cX13_restore 66 = .ok (.aload_n 0, 1) := by decide +kernel
theorem dX13_restore_67 : decode cX13_restore 67 = .ok (.getfield 31, 3) := by decide +kernel
theorem dX13_restore_70 : decode cX13_restore 70 = .ok (.iload_n 2, 1) := by decide +kernel
theorem dX13_restore_71 : decode cX13_restore 71 = .ok (.aload_n 0, 1) := by decide +kernel
theorem dX13_restore_72 : decode cX13_restore 72 = .ok (.getfield 38, 3) := by decide +kernel
theorem dX13_restore_75 : decode cX13_restore 75 = .ok (.bipush 14, 2) := by decide +kernel
theorem dX13_restore_77 : decode cX13_restore 77 = .ok (.iload_n 1, 1) := by decide +kernel
theorem dX13_restore_78 : decode cX13_restore 78 = .ok (.imul, 1) := by decide +kernel
theorem dX13_restore_79 : decode cX13_restore 79 = .ok (.iload_n 2, 1) := by decide +kernel
theorem dX13_restore_80 : decode cX13_restore 80 = .ok (.iadd, 1) := by decide +kernel
theorem dX13_restore_81 : decode cX13_restore 81 = .ok (.laload, 1) := by decide +kernel
theorem dX13_restore_82 : decode cX13_restore 82 = .ok (.lastore, 1) := by decide +kernel
theorem dX13_restore_83 : decode cX13_restore 83 = .ok (.iinc 2 1, 3) := by decide +kernel
theorem dX13_restore_86 : decode cX13_restore 86 = .ok (.goto (-26), 3) := by decide +kernel
theorem dX13_restore_89 : decode cX13_restore 89 = .ok (.aload_n 0, 1) := by decide +kernel
theorem dX13_restore_90 : decode cX13_restore 90 = .ok (.iconst 0, 1) := by decide +kernel
theorem dX13_restore_91 : decode cX13_restore 91 = .ok (.putfield 237, 3) := by decide +kernel
theorem dX13_restore_94 : decode cX13_restore 94 = .ok (.iconst 1, 1) := by decide +kernel
theorem dX13_restore_95 : decode cX13_restore 95 = .ok (.ireturn, 1) := by decide +kernel
theorem bX13_restore_0 {G : Gt} {d bc bs : Nat} {Q : QT} {l : Ls} {z : List Value} {h : Hp} (k : (tAld 0 (tPush (.int 0) (tPutf isI 11 0 (tIld 1 (tPush (.int 0) (tPush (.int 1) (tCS3 G d 0 0 mX13_isIn (fun l z h => T G d bc bs mX13_restore 11 l z h Q)))))))) l z h) : T G d bc bs mX13_restore 0 l z h Q := by
  refine R_aload_n dX13_restore_0 rfl (fun l z h k => ?_) k
  refine R_iconst dX13_restore_1 (by decide) (fun l z h k => ?_) k
  refine R_putf (ci := 11) (f := 0) (C := RX13) (N := 49) (Tt := TX13) tyX13 tyX13_ok nmX13 dX13_restore_2 rfl i_X13 (by decide) w_1467 rfl (tyX13_ok 0 (by decide)) p_int (fun l z h k => ?_) k
  refine R_iload_n dX13_restore_5 rfl (fun l z h k => ?_) k
  refine R_iconst dX13_restore_6 (by decide) (fun l z h k => ?_) k
  refine R_iconst dX13_restore_7 (by decide) (fun l z h k => ?_) k
  exact R_cs3 (M := mX13_restore) (pc := 8) (bc := bc) (bs := bs) (cb := 0) (cs := 0) (M' := mX13_isIn) dX13_restore_8 (by decide) w_1711 w_144 w_1709 w_1710 (by decide +kernel) (fun _ _ _ k => k) k
theorem bX13_restore_11 {G : Gt} {d bc bs : Nat} {Q : QT} {l : Ls} {z : List Value} {h : Hp} (k : (tIf (fun x => x = 0) (fun l z h => T G d bc bs mX13_restore 23 l z h Q) (fun l z h => T G d bc bs mX13_restore 14 l z h Q)) l z h) : T G d bc bs mX13_restore 11 l z h Q := by
  exact R_if_eq dX13_restore_11 (by decide) (fun _ _ _ k => k) (fun _ _ _ k => k) k
theorem bX13_restore_14 {G : Gt} {d bc bs : Nat} {Q : QT} {l : Ls} {z : List Value} {h : Hp} (k : (tAld 0 (tGetf 11 23 (tIld 1 (tXald 1 (tIf (fun x => x = 0) (fun l z h => T G d bc bs mX13_restore 23 l z h Q) (fun l z h => T G d bc bs mX13_restore 25 l z h Q)))))) l z h) : T G d bc bs mX13_restore 14 l z h Q := by
  refine R_aload_n dX13_restore_14 rfl (fun l z h k => ?_) k
  refine R_getf (ci := 11) (f := 23) (C := RX13) (N := 49) (Tt := TX13) dX13_restore_15 rfl i_X13 (by decide) w_1490 (fun l z h k => ?_) k
  refine R_iload_n dX13_restore_18 rfl (fun l z h k => ?_) k
  refine R_zaload dX13_restore_19 (fun l z h k => ?_) k
  exact R_if_ne dX13_restore_20 (by decide) (fun _ _ _ k => k) (fun _ _ _ k => k) k
theorem bX13_restore_23 {G : Gt} {d bc bs : Nat} {Q : QT} {l : Ls} {z : List Value} {h : Hp} (k : (tPush (.int 0) (tRetZ Q)) l z h) : T G d bc bs mX13_restore 23 l z h Q := by
  refine R_iconst dX13_restore_23 (by decide) (fun l z h k => ?_) k
  exact R_zret dX13_restore_24 rfl k
theorem bX13_restore_25 {G : Gt} {d bc bs : Nat} {Q : QT} {l : Ls} {z : List Value} {h : Hp} (k : (tPush (.int 0) (tIst 2 ((fun l z h => T G d bc bs mX13_restore 27 l z h Q)))) l z h) : T G d bc bs mX13_restore 25 l z h Q := by
  refine R_iconst dX13_restore_25 (by decide) (fun l z h k => ?_) k
  refine R_istore_n dX13_restore_26 rfl (by decide) (fun l z h k => ?_) k
  exact k
theorem bX13_restore_27 {G : Gt} {d bc bs : Nat} {Q : QT} {l : Ls} {z : List Value} {h : Hp} (k : (tIld 2 (tPush (.int 433) (tIf2 (fun x y => y ≤ x) (fun l z h => T G d bc bs mX13_restore 58 l z h Q) (fun l z h => T G d bc bs mX13_restore 34 l z h Q)))) l z h) : T G d bc bs mX13_restore 27 l z h Q := by
  refine R_iload_n dX13_restore_27 rfl (fun l z h k => ?_) k
  refine R_sipush dX13_restore_28 (by decide) (fun l z h k => ?_) k
  exact R_icmp_ge dX13_restore_31 (by decide) (fun _ _ _ k => k) (fun _ _ _ k => k) k
theorem bX13_restore_34 {G : Gt} {d bc bs : Nat} {Q : QT} {l : Ls} {z : List Value} {h : Hp} (k : (tAld 0 (tGetf 11 14 (tIld 2 (tAld 0 (tGetf 11 16 (tPush (.int 433) (tIld 1 (tB (fun x y => x * y) (tIld 2 (tB (fun x y => x + y) (tXald 0 (tXast 0 (tInc 2 1 ((fun l z h => T G d bc bs mX13_restore 27 l z h Q))))))))))))))) l z h) : T G d bc bs mX13_restore 34 l z h Q := by
  refine R_aload_n dX13_restore_34 rfl (fun l z h k => ?_) k
  refine R_getf (ci := 11) (f := 14) (C := RX13) (N := 49) (Tt := TX13) dX13_restore_35 rfl i_X13 (by decide) w_1481 (fun l z h k => ?_) k
  refine R_iload_n dX13_restore_38 rfl (fun l z h k => ?_) k
  refine R_aload_n dX13_restore_39 rfl (fun l z h k => ?_) k
  refine R_getf (ci := 11) (f := 16) (C := RX13) (N := 49) (Tt := TX13) dX13_restore_40 rfl i_X13 (by decide) w_1483 (fun l z h k => ?_) k
  refine R_sipush dX13_restore_43 (by decide) (fun l z h k => ?_) k
  refine R_iload_n dX13_restore_46 rfl (fun l z h k => ?_) k
  refine R_imul dX13_restore_47 (fun l z h k => ?_) k
  refine R_iload_n dX13_restore_48 rfl (fun l z h k => ?_) k
  refine R_iadd dX13_restore_49 (fun l z h k => ?_) k
  refine R_iaload dX13_restore_50 (fun l z h k => ?_) k
  refine R_iastore dX13_restore_51 (fun l z h k => ?_) k
  refine R_iinc dX13_restore_52 (by decide) (by decide) (fun l z h k => ?_) k
  exact R_goto dX13_restore_55 (by decide) (fun _ _ _ k => k) k
theorem bX13_restore_58 {G : Gt} {d bc bs : Nat} {Q : QT} {l : Ls} {z : List Value} {h : Hp} (k : (tPush (.int 0) (tIst 2 ((fun l z h => T G d bc bs mX13_restore 60 l z h Q)))) l z h) : T G d bc bs mX13_restore 58 l z h Q := by
  refine R_iconst dX13_restore_58 (by decide) (fun l z h k => ?_) k
  refine R_istore_n dX13_restore_59 rfl (by decide) (fun l z h k => ?_) k
  exact k
theorem bX13_restore_60 {G : Gt} {d bc bs : Nat} {Q : QT} {l : Ls} {z : List Value} {h : Hp} (k : (tIld 2 (tPush (.int 14) (tIf2 (fun x y => y ≤ x) (fun l z h => T G d bc bs mX13_restore 89 l z h Q) (fun l z h => T G d bc bs mX13_restore 66 l z h Q)))) l z h) : T G d bc bs mX13_restore 60 l z h Q := by
  refine R_iload_n dX13_restore_60 rfl (fun l z h k => ?_) k
  refine R_bipush dX13_restore_61 (by decide) (fun l z h k => ?_) k
  exact R_icmp_ge dX13_restore_63 (by decide) (fun _ _ _ k => k) (fun _ _ _ k => k) k
theorem bX13_restore_66 {G : Gt} {d bc bs : Nat} {Q : QT} {l : Ls} {z : List Value} {h : Hp} (k : (tAld 0 (tGetf 11 20 (tIld 2 (tAld 0 (tGetf 11 22 (tPush (.int 14) (tIld 1 (tB (fun x y => x * y) (tIld 2 (tB (fun x y => x + y) (tJald (tJast (tInc 2 1 ((fun l z h => T G d bc bs mX13_restore 60 l z h Q))))))))))))))) l z h) : T G d bc bs mX13_restore 66 l z h Q := by
  refine R_aload_n dX13_restore_66 rfl (fun l z h k => ?_) k
  refine R_getf (ci := 11) (f := 20) (C := RX13) (N := 49) (Tt := TX13) dX13_restore_67 rfl i_X13 (by decide) w_1487 (fun l z h k => ?_) k
  refine R_iload_n dX13_restore_70 rfl (fun l z h k => ?_) k
  refine R_aload_n dX13_restore_71 rfl (fun l z h k => ?_) k
  refine R_getf (ci := 11) (f := 22) (C := RX13) (N := 49) (Tt := TX13) dX13_restore_72 rfl i_X13 (by decide) w_1489 (fun l z h k => ?_) k
  refine R_bipush dX13_restore_75 (by decide) (fun l z h k => ?_) k
  refine R_iload_n dX13_restore_77 rfl (fun l z h k => ?_) k
  refine R_imul dX13_restore_78 (fun l z h k => ?_) k
  refine R_iload_n dX13_restore_79 rfl (fun l z h k => ?_) k
  refine R_iadd dX13_restore_80 (fun l z h k => ?_) k
  refine R_laload dX13_restore_81 (fun l z h k => ?_) k
  refine R_lastore dX13_restore_82 (fun l z h k => ?_) k
  refine R_iinc dX13_restore_83 (by decide) (by decide) (fun l z h k => ?_) k
  exact R_goto dX13_restore_86 (by decide) (fun _ _ _ k => k) k
theorem bX13_restore_89 {G : Gt} {d bc bs : Nat} {Q : QT} {l : Ls} {z : List Value} {h : Hp} (k : (tAld 0 (tPush (.int 0) (tPutf isI 11 26 (tPush (.int 1) (tRetZ Q))))) l z h) : T G d bc bs mX13_restore 89 l z h Q := by
  refine R_aload_n dX13_restore_89 rfl (fun l z h k => ?_) k
  refine R_iconst dX13_restore_90 (by decide) (fun l z h k => ?_) k
  refine R_putf (ci := 11) (f := 26) (C := RX13) (N := 49) (Tt := TX13) tyX13 tyX13_ok nmX13 dX13_restore_91 rfl i_X13 (by decide) w_1493 rfl (tyX13_ok 26 (by decide)) p_int (fun l z h k => ?_) k
  refine R_iconst dX13_restore_94 (by decide) (fun l z h k => ?_) k
  exact R_zret dX13_restore_95 rfl k
theorem dX13_count_0 : decode cX13_count 0 = .ok (.aload_n 0, 1) := by decide +kernel
theorem dX13_count_1 : decode cX13_count 1 = .ok (.iconst 0, 1) := by decide +kernel
theorem dX13_count_2 : decode cX13_count 2 = .ok (.putfield 85, 3) := by decide +kernel
theorem dX13_count_5 : decode cX13_count 5 = .ok (.iload_n 1, 1) := by decide +kernel
theorem dX13_count_6 : decode cX13_count 6 = .ok (.tableswitch 45 0 2 #[26, 33, 40], 26) := by decide +kernel
theorem dX13_count_32 : decode cX13_count 32 = .ok (.aload_n 0, 1) := by decide +kernel
theorem dX13_count_33 : decode cX13_count 33 = .ok (.getfield 13, 3) := by decide +kernel
theorem dX13_count_36 : decode cX13_count 36 = .ok (.iconst 0, 1) := by decide +kernel
theorem dX13_count_37 : decode cX13_count 37 = .ok (.iaload, 1) := by decide +kernel
theorem dX13_count_38 : decode cX13_count 38 = .ok (.ireturn, 1) := by decide +kernel
theorem dX13_count_39 : decode cX13_count 39 = .ok (.aload_n 0, 1) := by decide +kernel
theorem dX13_count_40 : decode cX13_count 40 = .ok (.getfield 13, 3) := by decide +kernel
theorem dX13_count_43 : decode cX13_count 43 = .ok (.iconst 1, 1) := by decide +kernel
theorem dX13_count_44 : decode cX13_count 44 = .ok (.iaload, 1) := by decide +kernel
theorem dX13_count_45 : decode cX13_count 45 = .ok (.ireturn, 1) := by decide +kernel
theorem dX13_count_46 : decode cX13_count 46 = .ok (.aload_n 0, 1) := by decide +kernel
theorem dX13_count_47 : decode cX13_count 47 = .ok (.getfield 88, 3) := by decide +kernel
theorem dX13_count_50 : decode cX13_count 50 = .ok (.ireturn, 1) := by decide +kernel
theorem dX13_count_51 : decode cX13_count 51 = .ok (.iconst (-1), 1) := by decide +kernel
theorem dX13_count_52 : decode cX13_count 52 = .ok (.ireturn, 1) := by decide +kernel
theorem bX13_count_0 {G : Gt} {d bc bs : Nat} {Q : QT} {l : Ls} {z : List Value} {h : Hp} (k : (tAld 0 (tPush (.int 0) (tPutf isI 11 0 (tIld 1 (tSw 0 [32, 39, 46] 51 (fun t l z h => T G d bc bs mX13_count t l z h Q)))))) l z h) : T G d bc bs mX13_count 0 l z h Q := by
  refine R_aload_n dX13_count_0 rfl (fun l z h k => ?_) k
  refine R_iconst dX13_count_1 (by decide) (fun l z h k => ?_) k
  refine R_putf (ci := 11) (f := 0) (C := RX13) (N := 49) (Tt := TX13) tyX13 tyX13_ok nmX13 dX13_count_2 rfl i_X13 (by decide) w_1467 rfl (tyX13_ok 0 (by decide)) p_int (fun l z h k => ?_) k
  refine R_iload_n dX13_count_5 rfl (fun l z h k => ?_) k
  exact R_table dX13_count_6 (by decide) (by decide) (by decide) (by decide) (by decide) (fun _ _ _ _ k => k) k
theorem bX13_count_32 {G : Gt} {d bc bs : Nat} {Q : QT} {l : Ls} {z : List Value} {h : Hp} (k : (tAld 0 (tGetf 11 14 (tPush (.int 0) (tXald 0 (tRetI Q))))) l z h) : T G d bc bs mX13_count 32 l z h Q := by
  refine R_aload_n dX13_count_32 rfl (fun l z h k => ?_) k
  refine R_getf (ci := 11) (f := 14) (C := RX13) (N := 49) (Tt := TX13) dX13_count_33 rfl i_X13 (by decide) w_1481 (fun l z h k => ?_) k
  refine R_iconst dX13_count_36 (by decide) (fun l z h k => ?_) k
  refine R_iaload dX13_count_37 (fun l z h k => ?_) k
  exact R_iret dX13_count_38 rfl k
theorem bX13_count_39 {G : Gt} {d bc bs : Nat} {Q : QT} {l : Ls} {z : List Value} {h : Hp} (k : (tAld 0 (tGetf 11 14 (tPush (.int 1) (tXald 0 (tRetI Q))))) l z h) : T G d bc bs mX13_count 39 l z h Q := by
  refine R_aload_n dX13_count_39 rfl (fun l z h k => ?_) k
  refine R_getf (ci := 11) (f := 14) (C := RX13) (N := 49) (Tt := TX13) dX13_count_40 rfl i_X13 (by decide) w_1481 (fun l z h k => ?_) k
  refine R_iconst dX13_count_43 (by decide) (fun l z h k => ?_) k
  refine R_iaload dX13_count_44 (fun l z h k => ?_) k
  exact R_iret dX13_count_45 rfl k
theorem bX13_count_46 {G : Gt} {d bc bs : Nat} {Q : QT} {l : Ls} {z : List Value} {h : Hp} (k : (tAld 0 (tGetf 11 2 (tRetI Q))) l z h) : T G d bc bs mX13_count 46 l z h Q := by
  refine R_aload_n dX13_count_46 rfl (fun l z h k => ?_) k
  refine R_getf (ci := 11) (f := 2) (C := RX13) (N := 49) (Tt := TX13) dX13_count_47 rfl i_X13 (by decide) w_1469 (fun l z h k => ?_) k
  exact R_iret dX13_count_50 rfl k
theorem bX13_count_51 {G : Gt} {d bc bs : Nat} {Q : QT} {l : Ls} {z : List Value} {h : Hp} (k : (tPush (.int (-1)) (tRetI Q)) l z h) : T G d bc bs mX13_count 51 l z h Q := by
  refine R_iconst dX13_count_51 (by decide) (fun l z h k => ?_) k
  exact R_iret dX13_count_52 rfl k
