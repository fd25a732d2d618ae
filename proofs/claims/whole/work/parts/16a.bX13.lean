theorem dX13_init_0 : decode cX13_init 0 = .ok (.aload_n 0, 1) := by decide +kernel
theorem dX13_init_1 : decode cX13_init 1 = .ok (.invokespecial 1, 3) := by decide +kernel
theorem dX13_init_4 : decode cX13_init 4 = .ok (.aload_n 0, 1) := by decide +kernel
theorem dX13_init_5 : decode cX13_init 5 = .ok (.sipush 940, 3) := by decide +kernel
theorem dX13_init_8 : decode cX13_init 8 = .ok (.newarray .int, 2) := by decide +kernel
theorem dX13_init_10 : decode cX13_init 10 = .ok (.putfield 7, 3) := by decide +kernel
theorem dX13_init_13 : decode cX13_init 13 = .ok (.aload_n 0, 1) := by decide +kernel
theorem dX13_init_14 : decode cX13_init 14 = .ok (.sipush 433, 3) := by decide +kernel
theorem dX13_init_17 : decode cX13_init 17 = .ok (.newarray .int, 2) := by decide +kernel
theorem dX13_init_19 : decode cX13_init 19 = .ok (.putfield 13, 3) := by decide +kernel
theorem dX13_init_22 : decode cX13_init 22 = .ok (.aload_n 0, 1) := by decide +kernel
theorem dX13_init_23 : decode cX13_init 23 = .ok (.bipush 98, 2) := by decide +kernel
theorem dX13_init_25 : decode cX13_init 25 = .ok (.newarray .int, 2) := by decide +kernel
theorem dX13_init_27 : decode cX13_init 27 = .ok (.putfield 16, 3) := by decide +kernel
theorem dX13_init_30 : decode cX13_init 30 = .ok (.aload_n 0, 1) := by decide +kernel
theorem dX13_init_31 : decode cX13_init 31 = .ok (.sipush 866, 3) := by decide +kernel
theorem dX13_init_34 : decode cX13_init 34 = .ok (.newarray .int, 2) := by decide +kernel
theorem dX13_init_36 : decode cX13_init 36 = .ok (.putfield 19, 3) := by decide +kernel
theorem dX13_init_39 : decode cX13_init 39 = .ok (.aload_n 0, 1) := by decide +kernel
theorem dX13_init_40 : decode cX13_init 40 = .ok (.sipush 744, 3) := by decide +kernel
theorem dX13_init_43 : decode cX13_init 43 = .ok (.newarray .int, 2) := by decide +kernel
theorem dX13_init_45 : decode cX13_init 45 = .ok (.putfield 22, 3) := by decide +kernel
theorem dX13_init_48 : decode cX13_init 48 = .ok (.aload_n 0, 1) := by decide +kernel
theorem dX13_init_49 : decode cX13_init 49 = .ok (.bipush 93, 2) := by decide +kernel
theorem dX13_init_51 : decode cX13_init 51 = .ok (.newarray .int, 2) := by decide +kernel
theorem dX13_init_53 : decode cX13_init 53 = .ok (.putfield 25, 3) := by decide +kernel
theorem dX13_init_56 : decode cX13_init 56 = .ok (.aload_n 0, 1) := by decide +kernel
theorem dX13_init_57 : decode cX13_init 57 = .ok (.bipush 93, 2) := by decide +kernel
theorem dX13_init_59 : decode cX13_init 59 = .ok (.newarray .int, 2) := by decide +kernel
theorem dX13_init_61 : decode cX13_init 61 = .ok (.putfield 28, 3) := by decide +kernel
theorem dX13_init_64 : decode cX13_init 64 = .ok (.aload_n 0, 1) := by decide +kernel
theorem dX13_init_65 : decode cX13_init 65 = .ok (.bipush 14, 2) := by decide +kernel
theorem dX13_init_67 : decode cX13_init 67 = .ok (.newarray .long, 2) := by decide +kernel
theorem dX13_init_69 : decode cX13_init 69 = .ok (.putfield 31, 3) := by decide +kernel
theorem dX13_init_72 : decode cX13_init 72 = .ok (.aload_n 0, 1) := by decide +kernel
theorem dX13_init_73 : decode cX13_init 73 = .ok (.bipush 14, 2) := by decide +kernel
theorem dX13_init_75 : decode cX13_init 75 = .ok (.newarray .long, 2) := by decide +kernel
theorem dX13_init_77 : decode cX13_init 77 = .ok (.putfield 35, 3) := by decide +kernel
theorem dX13_init_80 : decode cX13_init 80 = .ok (.aload_n 0, 1) := by decide +kernel
theorem dX13_init_81 : decode cX13_init 81 = .ok (.bipush 28, 2) := by decide +kernel
theorem dX13_init_83 : decode cX13_init 83 = .ok (.newarray .long, 2) := by decide +kernel
theorem dX13_init_85 : decode cX13_init 85 = .ok (.putfield 38, 3) := by decide +kernel
theorem dX13_init_88 : decode cX13_init 88 = .ok (.aload_n 0, 1) := by decide +kernel
theorem dX13_init_89 : decode cX13_init 89 = .ok (.iconst 2, 1) := by decide +kernel
theorem dX13_init_90 : decode cX13_init 90 = .ok (.newarray .boolean, 2) := by decide +kernel
theorem dX13_init_92 : decode cX13_init 92 = .ok (.putfield 41, 3) := by decide +kernel
theorem dX13_init_95 : decode cX13_init 95 = .ok (.aload_n 0, 1) := by decide +kernel
theorem dX13_init_96 : decode cX13_init 96 = .ok (.bipush 12, 2) := by decide +kernel
theorem dX13_init_98 : decode cX13_init 98 = .ok (.newarray .boolean, 2) := by decide +kernel
theorem dX13_init_100 : decode cX13_init 100 = .ok (.putfield 45, 3) := by decide +kernel
theorem dX13_init_103 : decode cX13_init 103 = .ok (.aload_n 0, 1) := by decide +kernel
theorem dX13_init_104 : decode cX13_init 104 = .ok (.bipush 48, 2) := by decide +kernel
theorem dX13_init_106 : decode cX13_init 106 = .ok (.newarray .boolean, 2) := by decide +kernel
theorem dX13_init_108 : decode cX13_init 108 = .ok (.putfield 48, 3) := by decide +kernel
theorem dX13_init_111 : decode cX13_init 111 = .ok (.aload_n 0, 1) := by decide +kernel
theorem dX13_init_112 : decode cX13_init 112 = .ok (.iconst (-1), 1) := by decide +kernel
theorem dX13_init_113 : decode cX13_init 113 = .ok (.putfield 51, 3) := by decide +kernel
theorem dX13_init_116 : decode cX13_init 116 = .ok (.aload_n 0, 1) := by decide +kernel
theorem dX13_init_117 : decode cX13_init 117 = .ok (.bipush 8, 2) := by decide +kernel
theorem dX13_init_119 : decode cX13_init 119 = .ok (.newarray .int, 2) := by decide +kernel
theorem dX13_init_121 : decode cX13_init 121 = .ok (.putfield 55, 3) := by decide +kernel
theorem dX13_init_124 : decode cX13_init 124 = .ok (.aload_n 0, 1) := by decide +kernel
theorem dX13_init_125 : decode cX13_init 125 = .ok (.bipush 8, 2) := by decide +kernel
theorem dX13_init_127 : decode cX13_init 127 = .ok (.newarray .int, 2) := by decide +kernel
theorem dX13_init_129 : decode cX13_init 129 = .ok (.putfield 58, 3) := by decide +kernel
theorem dX13_init_132 : decode cX13_init 132 = .ok (.aload_n 0, 1) := by decide +kernel
theorem dX13_init_133 : decode cX13_init 133 = .ok (.bipush 64, 2) := by decide +kernel
theorem dX13_init_135 : decode cX13_init 135 = .ok (.newarray .int, 2) := by decide +kernel
theorem dX13_init_137 : decode cX13_init 137 = .ok (.putfield 61, 3) := by decide +kernel
theorem dX13_init_140 : decode cX13_init 140 = .ok (.aload_n 0, 1) := by decide +kernel
theorem dX13_init_141 : decode cX13_init 141 = .ok (.iconst (-1), 1) := by decide +kernel
theorem dX13_init_142 : decode cX13_init 142 = .ok (.putfield 64, 3) := by decide +kernel
theorem dX13_init_145 : decode cX13_init 145 = .ok (.aload_n 0, 1) := by decide +kernel
theorem dX13_init_146 : decode cX13_init 146 = .ok (.iconst (-1), 1) := by decide +kernel
theorem dX13_init_147 : decode cX13_init 147 = .ok (.putfield 67, 3) := by decide +kernel
theorem dX13_init_150 : decode cX13_init 150 = .ok (.aload_n 0, 1) := by decide +kernel
theorem dX13_init_151 : decode cX13_init 151 = .ok (.iconst (-1), 1) := by decide +kernel
theorem dX13_init_152 : decode cX13_init 152 = .ok (.putfield 70, 3) := by decide +kernel
theorem dX13_init_155 : decode cX13_init 155 = .ok (.aload_n 0, 1) := by decide +kernel
theorem dX13_init_156 : decode cX13_init 156 = .ok (.bipush 64, 2) := by decide +kernel
theorem dX13_init_158 : decode cX13_init 158 = .ok (.newarray .int, 2) := by decide +kernel
theorem dX13_init_160 : decode cX13_init 160 = .ok (.putfield 73, 3) := by decide +kernel
theorem dX13_init_163 : decode cX13_init 163 = .ok (.aload_n 0, 1) := by decide +kernel
theorem dX13_init_164 : decode cX13_init 164 = .ok (.sipush 200, 3) := by decide +kernel
theorem dX13_init_167 : decode cX13_init 167 = .ok (.newarray .int, 2) := by decide +kernel
theorem dX13_init_169 : decode cX13_init 169 = .ok (.putfield 76, 3) := by decide +kernel
theorem dX13_init_172 : decode cX13_init 172 = .ok (.aload_n 0, 1) := by decide +kernel
theorem dX13_init_173 : decode cX13_init 173 = .ok (.iconst 4, 1) := by decide +kernel
theorem dX13_init_174 : decode cX13_init 174 = .ok (.newarray .int, 2) := by decide +kernel
theorem dX13_init_176 : decode cX13_init 176 = .ok (.putfield 79, 3) := by decide +kernel
theorem dX13_init_179 : decode cX13_init 179 = .ok (.aload_n 0, 1) := by decide +kernel
theorem dX13_init_180 : decode cX13_init 180 = .ok (.sipush 240, 3) := by decide +kernel
theorem dX13_init_183 : decode cX13_init 183 = .ok (.newarray .int, 2) := by decide +kernel
theorem dX13_init_185 : decode cX13_init 185 = .ok (.putfield 82, 3) := by decide +kernel
theorem dX13_init_188 : decode cX13_init 188 = .ok (.return_, 1) := by decide +kernel
theorem bX13_init_0 {G : Gt} {d bc bs : Nat} {Q : QT} {l : Ls} {z : List Value} {h : Hp} (hd1 : 1 ≤ d) (k : (tAld 0 (tObj ((fun l z h => T G d bc bs mX13_init 4 l z h Q)))) l z h) : T G d bc bs mX13_init 0 l z h Q := by
  refine R_aload_n dX13_init_0 rfl (fun l z h k => ?_) k
  refine R_obj dX13_init_1 hd1 w_1466 w_163 w_164 (fun l z h k => ?_) k
  exact k
theorem bX13_init_4 {G : Gt} {d bc bs : Nat} {Q : QT} {l : Ls} {z : List Value} {h : Hp} (k : (tAld 0 (tPush (.int 940) (tNewI 0 940 (tPutf isA 11 1 (tAld 0 (tPush (.int 433) (tNewI 0 433 (tPutf isA 11 14 (tAld 0 (tPush (.int 98) (tNewI 0 98 (tPutf isA 11 15 (tAld 0 (tPush (.int 866) (tNewI 0 866 (tPutf isA 11 16 (tAld 0 (tPush (.int 744) (tNewI 0 744 (tPutf isA 11 17 (tAld 0 (tPush (.int 93) (tNewI 0 93 (tPutf isA 11 18 (tAld 0 (tPush (.int 93) (tNewI 0 93 (tPutf isA 11 19 (tAld 0 (tPush (.int 14) (tNewJ 14 (tPutf isA 11 20 (tAld 0 (tPush (.int 14) (tNewJ 14 (tPutf isA 11 21 (tAld 0 (tPush (.int 28) (tNewJ 28 (tPutf isA 11 22 (tAld 0 (tPush (.int 2) (tNewI 1 2 (tPutf isA 11 23 (tAld 0 (tPush (.int 12) (tNewI 1 12 (tPutf isA 11 24 (tAld 0 (tPush (.int 48) (tNewI 1 48 (tPutf isA 11 25 (tAld 0 (tPush (.int (-1)) (tPutf isI 11 27 (tAld 0 (tPush (.int 8) (tNewI 0 8 (tPutf isA 11 28 (tAld 0 (tPush (.int 8) (tNewI 0 8 (tPutf isA 11 29 (tAld 0 (tPush (.int 64) (tNewI 0 64 (tPutf isA 11 33 (tAld 0 (tPush (.int (-1)) (tPutf isI 11 34 (tAld 0 (tPush (.int (-1)) (tPutf isI 11 35 (tAld 0 (tPush (.int (-1)) (tPutf isI 11 36 (tAld 0 (tPush (.int 64) (tNewI 0 64 (tPutf isA 11 37 (tAld 0 (tPush (.int 200) (tNewI 0 200 (tPutf isA 11 40 (tAld 0 (tPush (.int 4) (tNewI 0 4 (tPutf isA 11 41 (tAld 0 (tPush (.int 240) (tNewI 0 240 (tPutf isA 11 44 (tRetV Q))))))))))))))))))))))))))))))))))))))))))))))))))))))))))))))))))))))))))))))))))))))))))))) l z h) : T G d (bc + 1 + 1 + 1 + 1 + 1 + 1 + 1 + 1 + 1 + 1 + 1 + 1 + 1 + 1 + 1 + 1 + 1 + 1 + 1 + 1) (bs + 240 + 4 + 200 + 64 + 64 + 8 + 8 + 48 + 12 + 2 + 28 + 14 + 14 + 93 + 93 + 744 + 866 + 98 + 433 + 940) mX13_init 4 l z h Q := by
  refine R_aload_n dX13_init_4 rfl (fun l z h k => ?_) k
  refine R_sipush dX13_init_5 (by decide) (fun l z h k => ?_) k
  refine R_newI (ty := .int) dX13_init_8 (by decide) rfl rfl (fun _ _ => rfl) rfl w_183 (by decide) (fun l z h k => ?_) k
  refine R_putF (ci := 11) (f := 1) (C := RX13) (N := 49) (Tt := TX13) tyX13 tyX13_ok nmX13 dX13_init_10 rfl i_X13 (by decide) w_1468 rfl rfl rfl (tyX13_ok 1 (by decide)) (p_ref rfl) (fun l z h k => ?_) k
  refine R_aload_n dX13_init_13 rfl (fun l z h k => ?_) k
  refine R_sipush dX13_init_14 (by decide) (fun l z h k => ?_) k
  refine R_newI (ty := .int) dX13_init_17 (by decide) rfl rfl (fun _ _ => rfl) rfl w_183 (by decide) (fun l z h k => ?_) k
  refine R_putF (ci := 11) (f := 14) (C := RX13) (N := 49) (Tt := TX13) tyX13 tyX13_ok nmX13 dX13_init_19 rfl i_X13 (by decide) w_1481 rfl rfl rfl (tyX13_ok 14 (by decide)) (p_ref rfl) (fun l z h k => ?_) k
  refine R_aload_n dX13_init_22 rfl (fun l z h k => ?_) k
  refine R_bipush dX13_init_23 (by decide) (fun l z h k => ?_) k
  refine R_newI (ty := .int) dX13_init_25 (by decide) rfl rfl (fun _ _ => rfl) rfl w_183 (by decide) (fun l z h k => ?_) k
  refine R_putF (ci := 11) (f := 15) (C := RX13) (N := 49) (Tt := TX13) tyX13 tyX13_ok nmX13 dX13_init_27 rfl i_X13 (by decide) w_1482 rfl rfl rfl (tyX13_ok 15 (by decide)) (p_ref rfl) (fun l z h k => ?_) k
  refine R_aload_n dX13_init_30 rfl (fun l z h k => ?_) k
  refine R_sipush dX13_init_31 (by decide) (fun l z h k => ?_) k
  refine R_newI (ty := .int) dX13_init_34 (by decide) rfl rfl (fun _ _ => rfl) rfl w_183 (by decide) (fun l z h k => ?_) k
  refine R_putF (ci := 11) (f := 16) (C := RX13) (N := 49) (Tt := TX13) tyX13 tyX13_ok nmX13 dX13_init_36 rfl i_X13 (by decide) w_1483 rfl rfl rfl (tyX13_ok 16 (by decide)) (p_ref rfl) (fun l z h k => ?_) k
  refine R_aload_n dX13_init_39 rfl (fun l z h k => ?_) k
  refine R_sipush dX13_init_40 (by decide) (fun l z h k => ?_) k
  refine R_newI (ty := .int) dX13_init_43 (by decide) rfl rfl (fun _ _ => rfl) rfl w_183 (by decide) (fun l z h k => ?_) k
  refine R_putF (ci := 11) (f := 17) (C := RX13) (N := 49) (Tt := TX13) tyX13 tyX13_ok nmX13 dX13_init_45 rfl i_X13 (by decide) w_1484 rfl rfl rfl (tyX13_ok 17 (by decide)) (p_ref rfl) (fun l z h k => ?_) k
  refine R_aload_n dX13_init_48 rfl (fun l z h k => ?_) k
  refine R_bipush dX13_init_49 (by decide) (fun l z h k => ?_) k
  refine R_newI (ty := .int) dX13_init_51 (by decide) rfl rfl (fun _ _ => rfl) rfl w_183 (by decide) (fun l z h k => ?_) k
  refine R_putF (ci := 11) (f := 18) (C := RX13) (N := 49) (Tt := TX13) tyX13 tyX13_ok nmX13 dX13_init_53 rfl i_X13 (by decide) w_1485 rfl rfl rfl (tyX13_ok 18 (by decide)) (p_ref rfl) (fun l z h k => ?_) k
  refine R_aload_n dX13_init_56 rfl (fun l z h k => ?_) k
  refine R_bipush dX13_init_57 (by decide) (fun l z h k => ?_) k
  refine R_newI (ty := .int) dX13_init_59 (by decide) rfl rfl (fun _ _ => rfl) rfl w_183 (by decide) (fun l z h k => ?_) k
  refine R_putF (ci := 11) (f := 19) (C := RX13) (N := 49) (Tt := TX13) tyX13 tyX13_ok nmX13 dX13_init_61 rfl i_X13 (by decide) w_1486 rfl rfl rfl (tyX13_ok 19 (by decide)) (p_ref rfl) (fun l z h k => ?_) k
  refine R_aload_n dX13_init_64 rfl (fun l z h k => ?_) k
  refine R_bipush dX13_init_65 (by decide) (fun l z h k => ?_) k
  refine R_newJ dX13_init_67 w_235 (by decide) (fun l z h k => ?_) k
  refine R_putF (ci := 11) (f := 20) (C := RX13) (N := 49) (Tt := TX13) tyX13 tyX13_ok nmX13 dX13_init_69 rfl i_X13 (by decide) w_1487 rfl rfl rfl (tyX13_ok 20 (by decide)) (p_ref rfl) (fun l z h k => ?_) k
  refine R_aload_n dX13_init_72 rfl (fun l z h k => ?_) k
  refine R_bipush dX13_init_73 (by decide) (fun l z h k => ?_) k
  refine R_newJ dX13_init_75 w_235 (by decide) (fun l z h k => ?_) k
  refine R_putF (ci := 11) (f := 21) (C := RX13) (N := 49) (Tt := TX13) tyX13 tyX13_ok nmX13 dX13_init_77 rfl i_X13 (by decide) w_1488 rfl rfl rfl (tyX13_ok 21 (by decide)) (p_ref rfl) (fun l z h k => ?_) k
  refine R_aload_n dX13_init_80 rfl (fun l z h k => ?_) k
  refine R_bipush dX13_init_81 (by decide) (fun l z h k => ?_) k
  refine R_newJ dX13_init_83 w_235 (by decide) (fun l z h k => ?_) k
  refine R_putF (ci := 11) (f := 22) (C := RX13) (N := 49) (Tt := TX13) tyX13 tyX13_ok nmX13 dX13_init_85 rfl i_X13 (by decide) w_1489 rfl rfl rfl (tyX13_ok 22 (by decide)) (p_ref rfl) (fun l z h k => ?_) k
  refine R_aload_n dX13_init_88 rfl (fun l z h k => ?_) k
  refine R_iconst dX13_init_89 (by decide) (fun l z h k => ?_) k
  refine R_newI (ty := .boolean) dX13_init_90 (by decide) rfl rfl (fun _ _ => rfl) rfl w_1615 (by decide) (fun l z h k => ?_) k
  refine R_putF (ci := 11) (f := 23) (C := RX13) (N := 49) (Tt := TX13) tyX13 tyX13_ok nmX13 dX13_init_92 rfl i_X13 (by decide) w_1490 rfl rfl rfl (tyX13_ok 23 (by decide)) (p_ref rfl) (fun l z h k => ?_) k
  refine R_aload_n dX13_init_95 rfl (fun l z h k => ?_) k
  refine R_bipush dX13_init_96 (by decide) (fun l z h k => ?_) k
  refine R_newI (ty := .boolean) dX13_init_98 (by decide) rfl rfl (fun _ _ => rfl) rfl w_1615 (by decide) (fun l z h k => ?_) k
  refine R_putF (ci := 11) (f := 24) (C := RX13) (N := 49) (Tt := TX13) tyX13 tyX13_ok nmX13 dX13_init_100 rfl i_X13 (by decide) w_1491 rfl rfl rfl (tyX13_ok 24 (by decide)) (p_ref rfl) (fun l z h k => ?_) k
  refine R_aload_n dX13_init_103 rfl (fun l z h k => ?_) k
  refine R_bipush dX13_init_104 (by decide) (fun l z h k => ?_) k
  refine R_newI (ty := .boolean) dX13_init_106 (by decide) rfl rfl (fun _ _ => rfl) rfl w_1615 (by decide) (fun l z h k => ?_) k
  refine R_putF (ci := 11) (f := 25) (C := RX13) (N := 49) (Tt := TX13) tyX13 tyX13_ok nmX13 dX13_init_108 rfl i_X13 (by decide) w_1492 rfl rfl rfl (tyX13_ok 25 (by decide)) (p_ref rfl) (fun l z h k => ?_) k
  refine R_aload_n dX13_init_111 rfl (fun l z h k => ?_) k
  refine R_iconst dX13_init_112 (by decide) (fun l z h k => ?_) k
  refine R_putf (ci := 11) (f := 27) (C := RX13) (N := 49) (Tt := TX13) tyX13 tyX13_ok nmX13 dX13_init_113 rfl i_X13 (by decide) w_1494 rfl (tyX13_ok 27 (by decide)) p_int (fun l z h k => ?_) k
  refine R_aload_n dX13_init_116 rfl (fun l z h k => ?_) k
  refine R_bipush dX13_init_117 (by decide) (fun l z h k => ?_) k
  refine R_newI (ty := .int) dX13_init_119 (by decide) rfl rfl (fun _ _ => rfl) rfl w_183 (by decide) (fun l z h k => ?_) k
  refine R_putF (ci := 11) (f := 28) (C := RX13) (N := 49) (Tt := TX13) tyX13 tyX13_ok nmX13 dX13_init_121 rfl i_X13 (by decide) w_1495 rfl rfl rfl (tyX13_ok 28 (by decide)) (p_ref rfl) (fun l z h k => ?_) k
  refine R_aload_n dX13_init_124 rfl (fun l z h k => ?_) k
  refine R_bipush dX13_init_125 (by decide) (fun l z h k => ?_) k
  refine R_newI (ty := .int) dX13_init_127 (by decide) rfl rfl (fun _ _ => rfl) rfl w_183 (by decide) (fun l z h k => ?_) k
  refine R_putF (ci := 11) (f := 29) (C := RX13) (N := 49) (Tt := TX13) tyX13 tyX13_ok nmX13 dX13_init_129 rfl i_X13 (by decide) w_1496 rfl rfl rfl (tyX13_ok 29 (by decide)) (p_ref rfl) (fun l z h k => ?_) k
  refine R_aload_n dX13_init_132 rfl (fun l z h k => ?_) k
  refine R_bipush dX13_init_133 (by decide) (fun l z h k => ?_) k
  refine R_newI (ty := .int) dX13_init_135 (by decide) rfl rfl (fun _ _ => rfl) rfl w_183 (by decide) (fun l z h k => ?_) k
  refine R_putF (ci := 11) (f := 33) (C := RX13) (N := 49) (Tt := TX13) tyX13 tyX13_ok nmX13 dX13_init_137 rfl i_X13 (by decide) w_1500 rfl rfl rfl (tyX13_ok 33 (by decide)) (p_ref rfl) (fun l z h k => ?_) k
  refine R_aload_n dX13_init_140 rfl (fun l z h k => ?_) k
  refine R_iconst dX13_init_141 (by decide) (fun l z h k => ?_) k
  refine R_putf (ci := 11) (f := 34) (C := RX13) (N := 49) (Tt := TX13) tyX13 tyX13_ok nmX13 dX13_init_142 rfl i_X13 (by decide) w_1501 rfl (tyX13_ok 34 (by decide)) p_int (fun l z h k => ?_) k
  refine R_aload_n dX13_init_145 rfl (fun l z h k => ?_) k
  refine R_iconst dX13_init_146 (by decide) (fun l z h k => ?_) k
  refine R_putf (ci := 11) (f := 35) (C := RX13) (N := 49) (Tt := TX13) tyX13 tyX13_ok nmX13 dX13_init_147 rfl i_X13 (by decide) w_1502 rfl (tyX13_ok 35 (by decide)) p_int (fun l z h k => ?_) k
  refine R_aload_n dX13_init_150 rfl (fun l z h k => ?_) k
  refine R_iconst dX13_init_151 (by decide) (fun l z h k => ?_) k
  refine R_putf (ci := 11) (f := 36) (C := RX13) (N := 49) (Tt := TX13) tyX13 tyX13_ok nmX13 dX13_init_152 rfl i_X13 (by decide) w_1503 rfl (tyX13_ok 36 (by decide)) p_int (fun l z h k => ?_) k
  refine R_aload_n dX13_init_155 rfl (fun l z h k => ?_) k
  refine R_bipush dX13_init_156 (by decide) (fun l z h k => ?_) k
  refine R_newI (ty := .int) dX13_init_158 (by decide) rfl rfl (fun _ _ => rfl) rfl w_183 (by decide) (fun l z h k => ?_) k
  refine R_putF (ci := 11) (f := 37) (C := RX13) (N := 49) (Tt := TX13) tyX13 tyX13_ok nmX13 dX13_init_160 rfl i_X13 (by decide) w_1504 rfl rfl rfl (tyX13_ok 37 (by decide)) (p_ref rfl) (fun l z h k => ?_) k
  refine R_aload_n dX13_init_163 rfl (fun l z h k => ?_) k
  refine R_sipush dX13_init_164 (by decide) (fun l z h k => ?_) k
  refine R_newI (ty := .int) dX13_init_167 (by decide) rfl rfl (fun _ _ => rfl) rfl w_183 (by decide) (fun l z h k => ?_) k
  refine R_putF (ci := 11) (f := 40) (C := RX13) (N := 49) (Tt := TX13) tyX13 tyX13_ok nmX13 dX13_init_169 rfl i_X13 (by decide) w_1507 rfl rfl rfl (tyX13_ok 40 (by decide)) (p_ref rfl) (fun l z h k => ?_) k
  refine R_aload_n dX13_init_172 rfl (fun l z h k => ?_) k
  refine R_iconst dX13_init_173 (by decide) (fun l z h k => ?_) k
  refine R_newI (ty := .int) dX13_init_174 (by decide) rfl rfl (fun _ _ => rfl) rfl w_183 (by decide) (fun l z h k => ?_) k
  refine R_putF (ci := 11) (f := 41) (C := RX13) (N := 49) (Tt := TX13) tyX13 tyX13_ok nmX13 dX13_init_176 rfl i_X13 (by decide) w_1508 rfl rfl rfl (tyX13_ok 41 (by decide)) (p_ref rfl) (fun l z h k => ?_) k
  refine R_aload_n dX13_init_179 rfl (fun l z h k => ?_) k
  refine R_sipush dX13_init_180 (by decide) (fun l z h k => ?_) k
  refine R_newI (ty := .int) dX13_init_183 (by decide) rfl rfl (fun _ _ => rfl) rfl w_183 (by decide) (fun l z h k => ?_) k
  refine R_putF (ci := 11) (f := 44) (C := RX13) (N := 49) (Tt := TX13) tyX13 tyX13_ok nmX13 dX13_init_185 rfl i_X13 (by decide) w_1511 rfl rfl rfl (tyX13_ok 44 (by decide)) (p_ref rfl) (fun l z h k => ?_) k
  exact R_vret dX13_init_188 rfl k
theorem dX13_thrown_0 : decode cX13_thrown 0 = .ok (.aload_n 0, 1) := by decide +kernel
theorem dX13_thrown_1 : decode cX13_thrown 1 = .ok (.getfield 85, 3) := by decide +kernel
theorem dX13_thrown_4 : decode cX13_thrown 4 = .ok (.ireturn, 1) := by decide +kernel
theorem bX13_thrown_0 {G : Gt} {d bc bs : Nat} {Q : QT} {l : Ls} {z : List Value} {h : Hp} (k : (tAld 0 (tGetf 11 0 (tRetI Q))) l z h) : T G d bc bs mX13_thrown 0 l z h Q := by
  refine R_aload_n dX13_thrown_0 rfl (fun l z h k => ?_) k
  refine R_getf (ci := 11) (f := 0) (C := RX13) (N := 49) (Tt := TX13) dX13_thrown_1 rfl i_X13 (by decide) w_1467 (fun l z h k => ?_) k
  exact R_iret dX13_thrown_4 rfl k
theorem dX13_refuse_0 : decode cX13_refuse 0 = .ok (.aload_n 0, 1) := by decide +kernel
theorem dX13_refuse_1 : decode cX13_refuse 1 = .ok (.iconst 1, 1) := by decide +kernel
theorem dX13_refuse_2 : decode cX13_refuse 2 = .ok (.putfield 85, 3) := by decide +kernel
theorem dX13_refuse_5 : decode cX13_refuse 5 = .ok (.iconst 0, 1) := by decide +kernel
theorem dX13_refuse_6 : decode cX13_refuse 6 = .ok (.ireturn, 1) := by decide +kernel
theorem bX13_refuse_0 {G : Gt} {d bc bs : Nat} {Q : QT} {l : Ls} {z : List Value} {h : Hp} (k : (tAld 0 (tPush (.int 1) (tPutf isI 11 0 (tPush (.int 0) (tRetI Q))))) l z h) : T G d bc bs mX13_refuse 0 l z h Q := by
  refine R_aload_n dX13_refuse_0 rfl (fun l z h k => ?_) k
  refine R_iconst dX13_refuse_1 (by decide) (fun l z h k => ?_) k
  refine R_putf (ci := 11) (f := 0) (C := RX13) (N := 49) (Tt := TX13) tyX13 tyX13_ok nmX13 dX13_refuse_2 rfl i_X13 (by decide) w_1467 rfl (tyX13_ok 0 (by decide)) p_int (fun l z h k => ?_) k
  refine R_iconst dX13_refuse_5 (by decide) (fun l z h k => ?_) k
  exact R_iret dX13_refuse_6 rfl k
theorem dX13_come_0 : decode cX13_come 0 = .ok (.bipush 24, 2) := by decide +kernel
theorem dX13_come_2 : decode cX13_come 2 = .ok (.istore_n 2, 1) := by decide +kernel
theorem dX13_come_3 : decode cX13_come 3 = .ok (.iload_n 2, 1) := by decide +kernel
theorem dX13_come_4 : decode cX13_come 4 = .ok (.ifCond .lt 35, 3) := by decide +kernel
theorem dX13_come_7 : decode cX13_come 7 = .ok (.aload_n 0, 1) := by decide +kernel
theorem dX13_come_8 : decode cX13_come 8 = .ok (.getfield 7, 3) := by decide +kernel
theorem dX13_come_11 : decode cX13_come 11 = .ok (.aload_n 0, 1) := by decide +kernel
theorem dX13_come_12 : decode cX13_come 12 = .ok (.getfield 88, 3) := by decide +kernel
theorem dX13_come_15 : decode cX13_come 15 = .ok (.iload_n 1, 1) := by decide +kernel
theorem dX13_come_16 : decode cX13_come 16 = .ok (.iload_n 2, 1) := by decide +kernel
theorem dX13_come_17 : decode cX13_come 17 = .ok (.iushr, 1) := by decide +kernel
theorem dX13_come_18 : decode cX13_come 18 = .ok (.sipush 255, 3) := by decide +kernel
theorem dX13_come_21 : decode cX13_come 21 = .ok (.iand, 1) := by decide +kernel
theorem dX13_come_22 : decode cX13_come 22 = .ok (.iastore, 1) := by decide +kernel
theorem dX13_come_23 : decode cX13_come 23 = .ok (.aload_n 0, 1) := by decide +kernel
theorem dX13_come_24 : decode cX13_come 24 = .ok (.dup, 1) := by decide +kernel
theorem dX13_come_25 : decode cX13_come 25 = .ok (.getfield 88, 3) := by decide +kernel
theorem dX13_come_28 : decode cX13_come 28 = .ok (.iconst 1, 1) := by decide +kernel
theorem dX13_come_29 : decode cX13_come 29 = .ok (.iadd, 1) := by decide +kernel
theorem dX13_come_30 : decode cX13_come 30 = .ok (.putfield 88, 3) := by decide +kernel
theorem dX13_come_33 : decode cX13_come 33 = .ok (.iinc 2 (-8), 3) := by decide +kernel
theorem dX13_come_36 : decode cX13_come 36 = .ok (.goto (-33), 3) := by decide +kernel
theorem dX13_come_39 : decode cX13_come 39 = .ok (.return_, 1) := by decide +kernel
theorem bX13_come_0 {G : Gt} {d bc bs : Nat} {Q : QT} {l : Ls} {z : List Value} {h : Hp} (k : (tPush (.int 24) (tIst 2 ((fun l z h => T G d bc bs mX13_come 3 l z h Q)))) l z h) : T G d bc bs mX13_come 0 l z h Q := by
  refine R_bipush dX13_come_0 (by decide) (fun l z h k => ?_) k
  refine R_istore_n dX13_come_2 rfl (by decide) (fun l z h k => ?_) k
  exact k
theorem bX13_come_3 {G : Gt} {d bc bs : Nat} {Q : QT} {l : Ls} {z : List Value} {h : Hp} (k : (tIld 2 (tIf (fun x => x < 0) (fun l z h => T G d bc bs mX13_come 39 l z h Q) (fun l z h => T G d bc bs mX13_come 7 l z h Q))) l z h) : T G d bc bs mX13_come 3 l z h Q := by
  refine R_iload_n dX13_come_3 rfl (fun l z h k => ?_) k
  exact R_if_lt dX13_come_4 (by decide) (fun _ _ _ k => k) (fun _ _ _ k => k) k
theorem bX13_come_7 {G : Gt} {d bc bs : Nat} {Q : QT} {l : Ls} {z : List Value} {h : Hp} (k : (tAld 0 (tGetf 11 1 (tAld 0 (tGetf 11 2 (tIld 1 (tIld 2 (tB (fun x y => (x.toUInt32 >>> (y.toUInt32 &&& Int32.toUInt32 31)).toInt32) (tPush (.int 255) (tB (fun x y => x &&& y) (tXast 0 (tAld 0 (tDup (tGetf 11 2 (tPush (.int 1) (tB (fun x y => x + y) (tPutf isI 11 2 (tInc 2 (-8) ((fun l z h => T G d bc bs mX13_come 3 l z h Q))))))))))))))))))) l z h) : T G d bc bs mX13_come 7 l z h Q := by
  refine R_aload_n dX13_come_7 rfl (fun l z h k => ?_) k
  refine R_getf (ci := 11) (f := 1) (C := RX13) (N := 49) (Tt := TX13) dX13_come_8 rfl i_X13 (by decide) w_1468 (fun l z h k => ?_) k
  refine R_aload_n dX13_come_11 rfl (fun l z h k => ?_) k
  refine R_getf (ci := 11) (f := 2) (C := RX13) (N := 49) (Tt := TX13) dX13_come_12 rfl i_X13 (by decide) w_1469 (fun l z h k => ?_) k
  refine R_iload_n dX13_come_15 rfl (fun l z h k => ?_) k
  refine R_iload_n dX13_come_16 rfl (fun l z h k => ?_) k
  refine R_iushr dX13_come_17 (fun l z h k => ?_) k
  refine R_sipush dX13_come_18 (by decide) (fun l z h k => ?_) k
  refine R_iand dX13_come_21 (fun l z h k => ?_) k
  refine R_iastore dX13_come_22 (fun l z h k => ?_) k
  refine R_aload_n dX13_come_23 rfl (fun l z h k => ?_) k
  refine R_dup dX13_come_24 (fun l z h k => ?_) k
  refine R_getf (ci := 11) (f := 2) (C := RX13) (N := 49) (Tt := TX13) dX13_come_25 rfl i_X13 (by decide) w_1469 (fun l z h k => ?_) k
  refine R_iconst dX13_come_28 (by decide) (fun l z h k => ?_) k
  refine R_iadd dX13_come_29 (fun l z h k => ?_) k
  refine R_putf (ci := 11) (f := 2) (C := RX13) (N := 49) (Tt := TX13) tyX13 tyX13_ok nmX13 dX13_come_30 rfl i_X13 (by decide) w_1469 rfl (tyX13_ok 2 (by decide)) p_int (fun l z h k => ?_) k
  refine R_iinc dX13_come_33 (by decide) (by decide) (fun l z h k => ?_) k
  exact R_goto dX13_come_36 (by decide) (fun _ _ _ k => k) k
theorem bX13_come_39 {G : Gt} {d bc bs : Nat} {Q : QT} {l : Ls} {z : List Value} {h : Hp} (k : (tRetV Q) l z h) : T G d bc bs mX13_come 39 l z h Q := by
  exact R_vret dX13_come_39 rfl k
theorem dX13_feed_0 : decode cX13_feed 0 = .ok (.aload_n 0, 1) := by decide +kernel
theorem dX13_feed_1 : decode cX13_feed 1 = .ok (.iconst 0, 1) := by decide +kernel
theorem dX13_feed_2 : decode cX13_feed 2 = .ok (.putfield 85, 3) := by decide +kernel
theorem dX13_feed_5 : decode cX13_feed 5 = .ok (.aload_n 0, 1) := by decide +kernel
theorem dX13_feed_6 : decode cX13_feed 6 = .ok (.getfield 88, 3) := by decide +kernel
theorem dX13_feed_9 : decode cX13_feed 9 = .ok (.bipush 20, 2) := by decide +kernel
theorem dX13_feed_11 : decode cX13_feed 11 = .ok (.iadd, 1) := by decide +kernel
theorem dX13_feed_12 : decode cX13_feed 12 = .ok (.sipush 940, 3) := by decide +kernel
theorem dX13_feed_15 : decode cX13_feed 15 = .ok (.if_icmp .le 5, 3) := by decide +kernel
theorem dX13_feed_18 : decode cX13_feed 18 = .ok (.iconst (-1), 1) := by decide +kernel
theorem dX13_feed_19 : decode cX13_feed 19 = .ok (.ireturn, 1) := by decide +kernel
theorem dX13_feed_20 : decode cX13_feed 20 = .ok (.aload_n 0, 1) := by decide +kernel
theorem dX13_feed_21 : decode cX13_feed 21 = .ok (.iload_n 1, 1) := by decide +kernel
theorem dX13_feed_22 : decode cX13_feed 22 = .ok (.invokevirtual 91, 3) := by decide +kernel
theorem dX13_feed_25 : decode cX13_feed 25 = .ok (.aload_n 0, 1) := by decide +kernel
theorem dX13_feed_26 : decode cX13_feed 26 = .ok (.iload_n 2, 1) := by decide +kernel
theorem dX13_feed_27 : decode cX13_feed 27 = .ok (.invokevirtual 91, 3) := by decide +kernel
theorem dX13_feed_30 : decode cX13_feed 30 = .ok (.aload_n 0, 1) := by decide +kernel
theorem dX13_feed_31 : decode cX13_feed 31 = .ok (.iload_n 3, 1) := by decide +kernel
theorem dX13_feed_32 : decode cX13_feed 32 = .ok (.invokevirtual 91, 3) := by decide +kernel
theorem dX13_feed_35 : decode cX13_feed 35 = .ok (.aload_n 0, 1) := by decide +kernel
theorem dX13_feed_36 : decode cX13_feed 36 = .ok (.iload 4, 2) := by decide +kernel
theorem dX13_feed_38 : decode cX13_feed 38 = .ok (.invokevirtual 91, 3) := by decide +kernel
theorem dX13_feed_41 : decode cX13_feed 41 = .ok (.aload_n 0, 1) := by decide +kernel
theorem dX13_feed_42 : decode cX13_feed 42 = .ok (.iload 5, 2) := by decide +kernel
theorem dX13_feed_44 : decode cX13_feed 44 = .ok (.invokevirtual 91, 3) := by decide +kernel
theorem dX13_feed_47 : decode cX13_feed 47 = .ok (.aload_n 0, 1) := by decide +kernel
theorem dX13_feed_48 : decode cX13_feed 48 = .ok (.getfield 88, 3) := by decide +kernel
theorem dX13_feed_51 : decode cX13_feed 51 = .ok (.ireturn, 1) := by decide +kernel
theorem bX13_feed_0 {G : Gt} {d bc bs : Nat} {Q : QT} {l : Ls} {z : List Value} {h : Hp} (k : (tAld 0 (tPush (.int 0) (tPutf isI 11 0 (tAld 0 (tGetf 11 2 (tPush (.int 20) (tB (fun x y => x + y) (tPush (.int 940) (tIf2 (fun x y => x ≤ y) (fun l z h => T G d bc bs mX13_feed 20 l z h Q) (fun l z h => T G d bc bs mX13_feed 18 l z h Q)))))))))) l z h) : T G d bc bs mX13_feed 0 l z h Q := by
  refine R_aload_n dX13_feed_0 rfl (fun l z h k => ?_) k
  refine R_iconst dX13_feed_1 (by decide) (fun l z h k => ?_) k
  refine R_putf (ci := 11) (f := 0) (C := RX13) (N := 49) (Tt := TX13) tyX13 tyX13_ok nmX13 dX13_feed_2 rfl i_X13 (by decide) w_1467 rfl (tyX13_ok 0 (by decide)) p_int (fun l z h k => ?_) k
  refine R_aload_n dX13_feed_5 rfl (fun l z h k => ?_) k
  refine R_getf (ci := 11) (f := 2) (C := RX13) (N := 49) (Tt := TX13) dX13_feed_6 rfl i_X13 (by decide) w_1469 (fun l z h k => ?_) k
  refine R_bipush dX13_feed_9 (by decide) (fun l z h k => ?_) k
  refine R_iadd dX13_feed_11 (fun l z h k => ?_) k
  refine R_sipush dX13_feed_12 (by decide) (fun l z h k => ?_) k
  exact R_icmp_le dX13_feed_15 (by decide) (fun _ _ _ k => k) (fun _ _ _ k => k) k
theorem bX13_feed_18 {G : Gt} {d bc bs : Nat} {Q : QT} {l : Ls} {z : List Value} {h : Hp} (k : (tPush (.int (-1)) (tRetI Q)) l z h) : T G d bc bs mX13_feed 18 l z h Q := by
  refine R_iconst dX13_feed_18 (by decide) (fun l z h k => ?_) k
  exact R_iret dX13_feed_19 rfl k
theorem bX13_feed_20 {G : Gt} {d bc bs : Nat} {Q : QT} {l : Ls} {z : List Value} {h : Hp} (k : (tAld 0 (tIld 1 (tCV1 G d 0 0 11 mX13_come (fun l z h => T G d bc bs mX13_feed 25 l z h Q)))) l z h) : T G d bc bs mX13_feed 20 l z h Q := by
  refine R_aload_n dX13_feed_20 rfl (fun l z h k => ?_) k
  refine R_iload_n dX13_feed_21 rfl (fun l z h k => ?_) k
  exact R_cv1 (M := mX13_feed) (pc := 22) (bc := bc) (bs := bs) (cb := 0) (cs := 0) (M' := mX13_come) dX13_feed_22 rfl (by decide) w_1627 w_144 w_1624 w_1626 w_44 (by decide +kernel) (fun _ _ _ k => k) k
theorem bX13_feed_25 {G : Gt} {d bc bs : Nat} {Q : QT} {l : Ls} {z : List Value} {h : Hp} (k : (tAld 0 (tIld 2 (tCV1 G d 0 0 11 mX13_come (fun l z h => T G d bc bs mX13_feed 30 l z h Q)))) l z h) : T G d bc bs mX13_feed 25 l z h Q := by
  refine R_aload_n dX13_feed_25 rfl (fun l z h k => ?_) k
  refine R_iload_n dX13_feed_26 rfl (fun l z h k => ?_) k
  exact R_cv1 (M := mX13_feed) (pc := 27) (bc := bc) (bs := bs) (cb := 0) (cs := 0) (M' := mX13_come) dX13_feed_27 rfl (by decide) w_1627 w_144 w_1624 w_1626 w_44 (by decide +kernel) (fun _ _ _ k => k) k
theorem bX13_feed_30 {G : Gt} {d bc bs : Nat} {Q : QT} {l : Ls} {z : List Value} {h : Hp} (k : (tAld 0 (tIld 3 (tCV1 G d 0 0 11 mX13_come (fun l z h => T G d bc bs mX13_feed 35 l z h Q)))) l z h) : T G d bc bs mX13_feed 30 l z h Q := by
  refine R_aload_n dX13_feed_30 rfl (fun l z h k => ?_) k
  refine R_iload_n dX13_feed_31 rfl (fun l z h k => ?_) k
  exact R_cv1 (M := mX13_feed) (pc := 32) (bc := bc) (bs := bs) (cb := 0) (cs := 0) (M' := mX13_come) dX13_feed_32 rfl (by decide) w_1627 w_144 w_1624 w_1626 w_44 (by decide +kernel) (fun _ _ _ k => k) k
theorem bX13_feed_35 {G : Gt} {d bc bs : Nat} {Q : QT} {l : Ls} {z : List Value} {h : Hp} (k : (tAld 0 (tIld 4 (tCV1 G d 0 0 11 mX13_come (fun l z h => T G d bc bs mX13_feed 41 l z h Q)))) l z h) : T G d bc bs mX13_feed 35 l z h Q := by
  refine R_aload_n dX13_feed_35 rfl (fun l z h k => ?_) k
  refine R_iload dX13_feed_36 (fun l z h k => ?_) k
  exact R_cv1 (M := mX13_feed) (pc := 38) (bc := bc) (bs := bs) (cb := 0) (cs := 0) (M' := mX13_come) dX13_feed_38 rfl (by decide) w_1627 w_144 w_1624 w_1626 w_44 (by decide +kernel) (fun _ _ _ k => k) k
theorem bX13_feed_41 {G : Gt} {d bc bs : Nat} {Q : QT} {l : Ls} {z : List Value} {h : Hp} (k : (tAld 0 (tIld 5 (tCV1 G d 0 0 11 mX13_come (fun l z h => T G d bc bs mX13_feed 47 l z h Q)))) l z h) : T G d bc bs mX13_feed 41 l z h Q := by
  refine R_aload_n dX13_feed_41 rfl (fun l z h k => ?_) k
  refine R_iload dX13_feed_42 (fun l z h k => ?_) k
  exact R_cv1 (M := mX13_feed) (pc := 44) (bc := bc) (bs := bs) (cb := 0) (cs := 0) (M' := mX13_come) dX13_feed_44 rfl (by decide) w_1627 w_144 w_1624 w_1626 w_44 (by decide +kernel) (fun _ _ _ k => k) k
theorem bX13_feed_47 {G : Gt} {d bc bs : Nat} {Q : QT} {l : Ls} {z : List Value} {h : Hp} (k : (tAld 0 (tGetf 11 2 (tRetI Q))) l z h) : T G d bc bs mX13_feed 47 l z h Q := by
  refine R_aload_n dX13_feed_47 rfl (fun l z h k => ?_) k
  refine R_getf (ci := 11) (f := 2) (C := RX13) (N := 49) (Tt := TX13) dX13_feed_48 rfl i_X13 (by decide) w_1469 (fun l z h k => ?_) k
  exact R_iret dX13_feed_51 rfl k
theorem dX13_end_0 : decode cX13_end 0 = .ok (.aload_n 0, 1) := by decide +kernel
theorem dX13_end_1 : decode cX13_end 1 = .ok (.iconst 0, 1) := by decide +kernel
theorem dX13_end_2 : decode cX13_end 2 = .ok (.putfield 85, 3) := by decide +kernel
theorem dX13_end_5 : decode cX13_end 5 = .ok (.iload_n 1, 1) := by decide +kernel
theorem dX13_end_6 : decode cX13_end 6 = .ok (.ifCond .lt 11, 3) := by decide +kernel
theorem dX13_end_9 : decode cX13_end 9 = .ok (.iload_n 1, 1) := by decide +kernel
theorem dX13_end_10 : decode cX13_end 10 = .ok (.aload_n 0, 1) := by decide +kernel
theorem dX13_end_11 : decode cX13_end 11 = .ok (.getfield 88, 3) := by decide +kernel
theorem dX13_end_14 : decode cX13_end 14 = .ok (.if_icmp .le 5, 3) := by decide +kernel
theorem dX13_end_17 : decode cX13_end 17 = .ok (.iconst 0, 1) := by decide +kernel
theorem dX13_end_18 : decode cX13_end 18 = .ok (.ireturn, 1) := by decide +kernel
theorem dX13_end_19 : decode cX13_end 19 = .ok (.aload_n 0, 1) := by decide +kernel
theorem dX13_end_20 : decode cX13_end 20 = .ok (.iload_n 1, 1) := by decide +kernel
theorem dX13_end_21 : decode cX13_end 21 = .ok (.putfield 88, 3) := by decide +kernel
theorem dX13_end_24 : decode cX13_end 24 = .ok (.iconst 1, 1) := by decide +kernel
theorem dX13_end_25 : decode cX13_end 25 = .ok (.ireturn, 1) := by decide +kernel
theorem bX13_end_0 {G : Gt} {d bc bs : Nat} {Q : QT} {l : Ls} {z : List Value} {h : Hp} (k : (tAld 0 (tPush (.int 0) (tPutf isI 11 0 (tIld 1 (tIf (fun x => x < 0) (fun l z h => T G d bc bs mX13_end 17 l z h Q) (fun l z h => T G d bc bs mX13_end 9 l z h Q)))))) l z h) : T G d bc bs mX13_end 0 l z h Q := by
  refine R_aload_n dX13_end_0 rfl (fun l z h k => ?_) k
  refine R_iconst dX13_end_1 (by decide) (fun l z h k => ?_) k
  refine R_putf (ci := 11) (f := 0) (C := RX13) (N := 49) (Tt := TX13) tyX13 tyX13_ok nmX13 dX13_end_2 rfl i_X13 (by decide) w_1467 rfl (tyX13_ok 0 (by decide)) p_int (fun l z h k => ?_) k
  refine R_iload_n dX13_end_5 rfl (fun l z h k => ?_) k
  exact R_if_lt dX13_end_6 (by decide) (fun _ _ _ k => k) (fun _ _ _ k => k) k
theorem bX13_end_9 {G : Gt} {d bc bs : Nat} {Q : QT} {l : Ls} {z : List Value} {h : Hp} (k : (tIld 1 (tAld 0 (tGetf 11 2 (tIf2 (fun x y => x ≤ y) (fun l z h => T G d bc bs mX13_end 19 l z h Q) (fun l z h => T G d bc bs mX13_end 17 l z h Q))))) l z h) : T G d bc bs mX13_end 9 l z h Q := by
  refine R_iload_n dX13_end_9 rfl (fun l z h k => ?_) k
  refine R_aload_n dX13_end_10 rfl (fun l z h k => ?_) k
  refine R_getf (ci := 11) (f := 2) (C := RX13) (N := 49) (Tt := TX13) dX13_end_11 rfl i_X13 (by decide) w_1469 (fun l z h k => ?_) k
  exact R_icmp_le dX13_end_14 (by decide) (fun _ _ _ k => k) (fun _ _ _ k => k) k
theorem bX13_end_17 {G : Gt} {d bc bs : Nat} {Q : QT} {l : Ls} {z : List Value} {h : Hp} (k : (tPush (.int 0) (tRetZ Q)) l z h) : T G d bc bs mX13_end 17 l z h Q := by
  refine R_iconst dX13_end_17 (by decide) (fun l z h k => ?_) k
  exact R_zret dX13_end_18 rfl k
theorem bX13_end_19 {G : Gt} {d bc bs : Nat} {Q : QT} {l : Ls} {z : List Value} {h : Hp} (k : (tAld 0 (tIld 1 (tPutf isI 11 2 (tPush (.int 1) (tRetZ Q))))) l z h) : T G d bc bs mX13_end 19 l z h Q := by
  refine R_aload_n dX13_end_19 rfl (fun l z h k => ?_) k
  refine R_iload_n dX13_end_20 rfl (fun l z h k => ?_) k
  refine R_putf (ci := 11) (f := 2) (C := RX13) (N := 49) (Tt := TX13) tyX13 tyX13_ok nmX13 dX13_end_21 rfl i_X13 (by decide) w_1469 rfl (tyX13_ok 2 (by decide)) p_int (fun l z h k => ?_) k
  refine R_iconst dX13_end_24 (by decide) (fun l z h k => ?_) k
  exact R_zret dX13_end_25 rfl k
theorem dX13_take_0 : decode cX13_take 0 = .ok (.aload_n 0, 1) := by decide +kernel
theorem dX13_take_1 : decode cX13_take 1 = .ok (.getfield 88, 3) := by decide +kernel
theorem dX13_take_4 : decode cX13_take 4 = .ok (.istore_n 1, 1) := by decide +kernel
theorem dX13_take_5 : decode cX13_take 5 = .ok (.aload_n 0, 1) := by decide +kernel
theorem dX13_take_6 : decode cX13_take 6 = .ok (.iconst 0, 1) := by decide +kernel
theorem dX13_take_7 : decode cX13_take 7 = .ok (.putfield 88, 3) := by decide +kernel
theorem dX13_take_10 : decode cX13_take 10 = .ok (.iload_n 1, 1) := by decide +kernel
theorem dX13_take_11 : decode cX13_take 11 = .ok (.ireturn, 1) := by decide +kernel
theorem bX13_take_0 {G : Gt} {d bc bs : Nat} {Q : QT} {l : Ls} {z : List Value} {h : Hp} (k : (tAld 0 (tGetf 11 2 (tIst 1 (tAld 0 (tPush (.int 0) (tPutf isI 11 2 (tIld 1 (tRetI Q)))))))) l z h) : T G d bc bs mX13_take 0 l z h Q := by
  refine R_aload_n dX13_take_0 rfl (fun l z h k => ?_) k
  refine R_getf (ci := 11) (f := 2) (C := RX13) (N := 49) (Tt := TX13) dX13_take_1 rfl i_X13 (by decide) w_1469 (fun l z h k => ?_) k
  refine R_istore_n dX13_take_4 rfl (by decide) (fun l z h k => ?_) k
  refine R_aload_n dX13_take_5 rfl (fun l z h k => ?_) k
  refine R_iconst dX13_take_6 (by decide) (fun l z h k => ?_) k
  refine R_putf (ci := 11) (f := 2) (C := RX13) (N := 49) (Tt := TX13) tyX13 tyX13_ok nmX13 dX13_take_7 rfl i_X13 (by decide) w_1469 rfl (tyX13_ok 2 (by decide)) p_int (fun l z h k => ?_) k
  refine R_iload_n dX13_take_10 rfl (fun l z h k => ?_) k
  exact R_iret dX13_take_11 rfl k
theorem dX13_isIn_0 : decode cX13_isIn 0 = .ok (.iload_n 0, 1) := by decide +kernel
theorem dX13_isIn_1 : decode cX13_isIn 1 = .ok (.iload_n 1, 1) := by decide +kernel
theorem dX13_isIn_2 : decode cX13_isIn 2 = .ok (.if_icmp .lt 12, 3) := by decide +kernel
theorem dX13_isIn_5 : decode cX13_isIn 5 = .ok (.iload_n 0, 1) := by decide +kernel
theorem dX13_isIn_6 : decode cX13_isIn 6 = .ok (.iload_n 2, 1) := by decide +kernel
theorem dX13_isIn_7 : decode cX13_isIn 7 = .ok (.if_icmp .gt 7, 3) := by decide +kernel
theorem dX13_isIn_10 : decode cX13_isIn 10 = .ok (.iconst 1, 1) := by decide +kernel
theorem dX13_isIn_11 : decode cX13_isIn 11 = .ok (.goto 4, 3) := by decide +kernel
theorem dX13_isIn_14 : decode cX13_isIn 14 = .ok (.iconst 0, 1) := by decide +kernel
theorem dX13_isIn_15 : decode cX13_isIn 15 = .ok (.ireturn, 1) := by decide +kernel
theorem bX13_isIn_0 {G : Gt} {d bc bs : Nat} {Q : QT} {l : Ls} {z : List Value} {h : Hp} (k : (tIld 0 (tIld 1 (tIf2 (fun x y => x < y) (fun l z h => T G d bc bs mX13_isIn 14 l z h Q) (fun l z h => T G d bc bs mX13_isIn 5 l z h Q)))) l z h) : T G d bc bs mX13_isIn 0 l z h Q := by
  refine R_iload_n dX13_isIn_0 rfl (fun l z h k => ?_) k
  refine R_iload_n dX13_isIn_1 rfl (fun l z h k => ?_) k
  exact R_icmp_lt dX13_isIn_2 (by decide) (fun _ _ _ k => k) (fun _ _ _ k => k) k
theorem bX13_isIn_5 {G : Gt} {d bc bs : Nat} {Q : QT} {l : Ls} {z : List Value} {h : Hp} (k : (tIld 0 (tIld 2 (tIf2 (fun x y => y < x) (fun l z h => T G d bc bs mX13_isIn 14 l z h Q) (fun l z h => T G d bc bs mX13_isIn 10 l z h Q)))) l z h) : T G d bc bs mX13_isIn 5 l z h Q := by
  refine R_iload_n dX13_isIn_5 rfl (fun l z h k => ?_) k
  refine R_iload_n dX13_isIn_6 rfl (fun l z h k => ?_) k
  exact R_icmp_gt dX13_isIn_7 (by decide) (fun _ _ _ k => k) (fun _ _ _ k => k) k
theorem bX13_isIn_10 {G : Gt} {d bc bs : Nat} {Q : QT} {l : Ls} {z : List Value} {h : Hp} (k : (tPush (.int 1) ((fun l z h => T G d bc bs mX13_isIn 15 l z h Q))) l z h) : T G d bc bs mX13_isIn 10 l z h Q := by
  refine R_iconst dX13_isIn_10 (by decide) (fun l z h k => ?_) k
  exact R_goto dX13_isIn_11 (by decide) (fun _ _ _ k => k) k
theorem bX13_isIn_14 {G : Gt} {d bc bs : Nat} {Q : QT} {l : Ls} {z : List Value} {h : Hp} (k : (tPush (.int 0) ((fun l z h => T G d bc bs mX13_isIn 15 l z h Q))) l z h) : T G d bc bs mX13_isIn 14 l z h Q := by
  refine R_iconst dX13_isIn_14 (by decide) (fun l z h k => ?_) k
  exact k
theorem bX13_isIn_15 {G : Gt} {d bc bs : Nat} {Q : QT} {l : Ls} {z : List Value} {h : Hp} (k : (tRetZ Q) l z h) : T G d bc bs mX13_isIn 15 l z h Q := by
  exact R_zret dX13_isIn_15 rfl k
theorem dX13_has_0 : decode cX13_has 0 = .ok (.iload_n 0, 1) := by decide +kernel
theorem dX13_has_1 : decode cX13_has 1 = .ok (.iload_n 1, 1) := by decide +kernel
theorem dX13_has_2 : decode cX13_has 2 = .ok (.ishr, 1) := by decide +kernel
theorem dX13_has_3 : decode cX13_has 3 = .ok (.iconst 1, 1) := by decide +kernel
theorem dX13_has_4 : decode cX13_has 4 = .ok (.iand, 1) := by decide +kernel
theorem dX13_has_5 : decode cX13_has 5 = .ok (.iconst 1, 1) := by decide +kernel
theorem dX13_has_6 : decode cX13_has 6 = .ok (.if_icmp .ne 7, 3) := by decide +kernel
theorem dX13_has_9 : decode cX13_has 9 = .ok (.iconst 1, 1) := by decide +kernel
theorem dX13_has_10 : decode cX13_has 10 = .ok (.goto 4, 3) := by decide +kernel
theorem dX13_has_13 : decode cX13_has 13 = .ok (.iconst 0, 1) := by decide +kernel
theorem dX13_has_14 : decode cX13_has 14 = .ok (.ireturn, 1) := by decide +kernel
theorem bX13_has_0 {G : Gt} {d bc bs : Nat} {Q : QT} {l : Ls} {z : List Value} {h : Hp} (k : (tIld 0 (tIld 1 (tB (fun x y => x >>> (y &&& 31)) (tPush (.int 1) (tB (fun x y => x &&& y) (tPush (.int 1) (tIf2 (fun x y => x = y) (fun l z h => T G d bc bs mX13_has 9 l z h Q) (fun l z h => T G d bc bs mX13_has 13 l z h Q)))))))) l z h) : T G d bc bs mX13_has 0 l z h Q := by
  refine R_iload_n dX13_has_0 rfl (fun l z h k => ?_) k
  refine R_iload_n dX13_has_1 rfl (fun l z h k => ?_) k
  refine R_ishr dX13_has_2 (fun l z h k => ?_) k
  refine R_iconst dX13_has_3 (by decide) (fun l z h k => ?_) k
  refine R_iand dX13_has_4 (fun l z h k => ?_) k
  refine R_iconst dX13_has_5 (by decide) (fun l z h k => ?_) k
  exact R_icmp_ne dX13_has_6 (by decide) (fun _ _ _ k => k) (fun _ _ _ k => k) k
theorem bX13_has_9 {G : Gt} {d bc bs : Nat} {Q : QT} {l : Ls} {z : List Value} {h : Hp} (k : (tPush (.int 1) ((fun l z h => T G d bc bs mX13_has 14 l z h Q))) l z h) : T G d bc bs mX13_has 9 l z h Q := by
  refine R_iconst dX13_has_9 (by decide) (fun l z h k => ?_) k
  exact R_goto dX13_has_10 (by decide) (fun _ _ _ k => k) k
theorem bX13_has_13 {G : Gt} {d bc bs : Nat} {Q : QT} {l : Ls} {z : List Value} {h : Hp} (k : (tPush (.int 0) ((fun l z h => T G d bc bs mX13_has 14 l z h Q))) l z h) : T G d bc bs mX13_has 13 l z h Q := by
  refine R_iconst dX13_has_13 (by decide) (fun l z h k => ?_) k
  exact k
theorem bX13_has_14 {G : Gt} {d bc bs : Nat} {Q : QT} {l : Ls} {z : List Value} {h : Hp} (k : (tRetZ Q) l z h) : T G d bc bs mX13_has 14 l z h Q := by
  exact R_zret dX13_has_14 rfl k
theorem dX13_bits_0 : decode cX13_bits 0 = .ok (.iconst 0, 1) := by decide +kernel
theorem dX13_bits_1 : decode cX13_bits 1 = .ok (.istore_n 1, 1) := by decide +kernel
theorem dX13_bits_2 : decode cX13_bits 2 = .ok (.iload_n 0, 1) := by decide +kernel
theorem dX13_bits_3 : decode cX13_bits 3 = .ok (.istore_n 2, 1) := by decide +kernel
theorem dX13_bits_4 : decode cX13_bits 4 = .ok (.iload_n 2, 1) := by decide +kernel
theorem dX13_bits_5 : decode cX13_bits 5 = .ok (.ifCond .eq 15, 3) := by decide +kernel
theorem dX13_bits_8 : decode cX13_bits 8 = .ok (.iinc 1 1, 3) := by decide +kernel
theorem dX13_bits_11 : decode cX13_bits 11 = .ok (.iload_n 2, 1) := by decide +kernel
theorem dX13_bits_12 : decode cX13_bits 12 = .ok (.iload_n 2, 1) := by decide +kernel
theorem dX13_bits_13 : decode cX13_bits 13 = .ok (.iconst 1, 1) := by decide +kernel
theorem dX13_bits_14 : decode cX13_bits 14 = .ok (.isub, 1) := by decide +kernel
theorem dX13_bits_15 : decode cX13_bits 15 = .ok (.iand, 1) := by decide +kernel
theorem dX13_bits_16 : decode cX13_bits 16 = .ok (.istore_n 2, 1) := by decide +kernel
theorem dX13_bits_17 : decode cX13_bits 17 = .ok (.goto (-13), 3) := by decide +kernel
theorem dX13_bits_20 : decode cX13_bits 20 = .ok (.iload_n 1, 1) := by decide +kernel
theorem dX13_bits_21 : decode cX13_bits 21 = .ok (.ireturn, 1) := by decide +kernel
theorem bX13_bits_0 {G : Gt} {d bc bs : Nat} {Q : QT} {l : Ls} {z : List Value} {h : Hp} (k : (tPush (.int 0) (tIst 1 (tIld 0 (tIst 2 ((fun l z h => T G d bc bs mX13_bits 4 l z h Q)))))) l z h) : T G d bc bs mX13_bits 0 l z h Q := by
  refine R_iconst dX13_bits_0 (by decide) (fun l z h k => ?_) k
  refine R_istore_n dX13_bits_1 rfl (by decide) (fun l z h k => ?_) k
  refine R_iload_n dX13_bits_2 rfl (fun l z h k => ?_) k
  refine R_istore_n dX13_bits_3 rfl (by decide) (fun l z h k => ?_) k
  exact k
theorem bX13_bits_4 {G : Gt} {d bc bs : Nat} {Q : QT} {l : Ls} {z : List Value} {h : Hp} (k : (tIld 2 (tIf (fun x => x = 0) (fun l z h => T G d bc bs mX13_bits 20 l z h Q) (fun l z h => T G d bc bs mX13_bits 8 l z h Q))) l z h) : T G d bc bs mX13_bits 4 l z h Q := by
  refine R_iload_n dX13_bits_4 rfl (fun l z h k => ?_) k
  exact R_if_eq dX13_bits_5 (by decide) (fun _ _ _ k => k) (fun _ _ _ k => k) k
theorem bX13_bits_8 {G : Gt} {d bc bs : Nat} {Q : QT} {l : Ls} {z : List Value} {h : Hp} (k : (tInc 1 1 (tIld 2 (tIld 2 (tPush (.int 1) (tB (fun x y => x - y) (tB (fun x y => x &&& y) (tIst 2 ((fun l z h => T G d bc bs mX13_bits 4 l z h Q))))))))) l z h) : T G d bc bs mX13_bits 8 l z h Q := by
  refine R_iinc dX13_bits_8 (by decide) (by decide) (fun l z h k => ?_) k
  refine R_iload_n dX13_bits_11 rfl (fun l z h k => ?_) k
  refine R_iload_n dX13_bits_12 rfl (fun l z h k => ?_) k
  refine R_iconst dX13_bits_13 (by decide) (fun l z h k => ?_) k
  refine R_isub dX13_bits_14 (fun l z h k => ?_) k
  refine R_iand dX13_bits_15 (fun l z h k => ?_) k
  refine R_istore_n dX13_bits_16 rfl (by decide) (fun l z h k => ?_) k
  exact R_goto dX13_bits_17 (by decide) (fun _ _ _ k => k) k
theorem bX13_bits_20 {G : Gt} {d bc bs : Nat} {Q : QT} {l : Ls} {z : List Value} {h : Hp} (k : (tIld 1 (tRetI Q)) l z h) : T G d bc bs mX13_bits 20 l z h Q := by
  refine R_iload_n dX13_bits_20 rfl (fun l z h k => ?_) k
  exact R_iret dX13_bits_21 rfl k
theorem dX13_least_0 : decode cX13_least 0 = .ok (.iload_n 0, 1) := by decide +kernel
theorem dX13_least_1 : decode cX13_least 1 = .ok (.iload_n 1, 1) := by decide +kernel
theorem dX13_least_2 : decode cX13_least 2 = .ok (.if_icmp .ge 7, 3) := by decide +kernel
theorem dX13_least_5 : decode cX13_least 5 = .ok (.iload_n 0, 1) := by decide +kernel
theorem dX13_least_6 : decode cX13_least 6 = .ok (.goto 4, 3) := by decide +kernel
theorem dX13_least_9 : decode cX13_least 9 = .ok (.iload_n 1, 1) := by decide +kernel
theorem dX13_least_10 : decode cX13_least 10 = .ok (.ireturn, 1) := by decide +kernel
theorem bX13_least_0 {G : Gt} {d bc bs : Nat} {Q : QT} {l : Ls} {z : List Value} {h : Hp} (k : (tIld 0 (tIld 1 (tIf2 (fun x y => y ≤ x) (fun l z h => T G d bc bs mX13_least 9 l z h Q) (fun l z h => T G d bc bs mX13_least 5 l z h Q)))) l z h) : T G d bc bs mX13_least 0 l z h Q := by
  refine R_iload_n dX13_least_0 rfl (fun l z h k => ?_) k
  refine R_iload_n dX13_least_1 rfl (fun l z h k => ?_) k
  exact R_icmp_ge dX13_least_2 (by decide) (fun _ _ _ k => k) (fun _ _ _ k => k) k
theorem bX13_least_5 {G : Gt} {d bc bs : Nat} {Q : QT} {l : Ls} {z : List Value} {h : Hp} (k : (tIld 0 ((fun l z h => T G d bc bs mX13_least 10 l z h Q))) l z h) : T G d bc bs mX13_least 5 l z h Q := by
  refine R_iload_n dX13_least_5 rfl (fun l z h k => ?_) k
  exact R_goto dX13_least_6 (by decide) (fun _ _ _ k => k) k
theorem bX13_least_9 {G : Gt} {d bc bs : Nat} {Q : QT} {l : Ls} {z : List Value} {h : Hp} (k : (tIld 1 ((fun l z h => T G d bc bs mX13_least 10 l z h Q))) l z h) : T G d bc bs mX13_least 9 l z h Q := by
  refine R_iload_n dX13_least_9 rfl (fun l z h k => ?_) k
  exact k
theorem bX13_least_10 {G : Gt} {d bc bs : Nat} {Q : QT} {l : Ls} {z : List Value} {h : Hp} (k : (tRetI Q) l z h) : T G d bc bs mX13_least 10 l z h Q := by
  exact R_iret dX13_least_10 rfl k
theorem dX13_size_0 : decode cX13_size 0 = .ok (.iload_n 0, 1) := by decide +kernel
theorem dX13_size_1 : decode cX13_size 1 = .ok (.ifCond .ge 8, 3) := by decide +kernel
theorem dX13_size_4 : decode cX13_size 4 = .ok (.iload_n 0, 1) := by decide +kernel
theorem dX13_size_5 : decode cX13_size 5 = .ok (.ineg, 1) := by decide +kernel
theorem dX13_size_6 : decode cX13_size 6 = .ok (.goto 4, 3) := by decide +kernel
theorem dX13_size_9 : decode cX13_size 9 = .ok (.iload_n 0, 1) := by decide +kernel
theorem dX13_size_10 : decode cX13_size 10 = .ok (.ireturn, 1) := by decide +kernel
theorem bX13_size_0 {G : Gt} {d bc bs : Nat} {Q : QT} {l : Ls} {z : List Value} {h : Hp} (k : (tIld 0 (tIf (fun x => 0 ≤ x) (fun l z h => T G d bc bs mX13_size 9 l z h Q) (fun l z h => T G d bc bs mX13_size 4 l z h Q))) l z h) : T G d bc bs mX13_size 0 l z h Q := by
  refine R_iload_n dX13_size_0 rfl (fun l z h k => ?_) k
  exact R_if_ge dX13_size_1 (by decide) (fun _ _ _ k => k) (fun _ _ _ k => k) k
theorem bX13_size_4 {G : Gt} {d bc bs : Nat} {Q : QT} {l : Ls} {z : List Value} {h : Hp} (k : (tIld 0 (tU (fun x => -x) ((fun l z h => T G d bc bs mX13_size 10 l z h Q)))) l z h) : T G d bc bs mX13_size 4 l z h Q := by
  refine R_iload_n dX13_size_4 rfl (fun l z h k => ?_) k
  refine R_ineg dX13_size_5 (fun l z h k => ?_) k
  exact R_goto dX13_size_6 (by decide) (fun _ _ _ k => k) k
theorem bX13_size_9 {G : Gt} {d bc bs : Nat} {Q : QT} {l : Ls} {z : List Value} {h : Hp} (k : (tIld 0 ((fun l z h => T G d bc bs mX13_size 10 l z h Q))) l z h) : T G d bc bs mX13_size 9 l z h Q := by
  refine R_iload_n dX13_size_9 rfl (fun l z h k => ?_) k
  exact k
theorem bX13_size_10 {G : Gt} {d bc bs : Nat} {Q : QT} {l : Ls} {z : List Value} {h : Hp} (k : (tRetI Q) l z h) : T G d bc bs mX13_size 10 l z h Q := by
  exact R_iret dX13_size_10 rfl k
theorem dX13_tapeAt_0 : decode cX13_tapeAt 0 = .ok (.iload_n 1, 1) := by decide +kernel
theorem dX13_tapeAt_1 : decode cX13_tapeAt 1 = .ok (.aload_n 0, 1) := by decide +kernel
theorem dX13_tapeAt_2 : decode cX13_tapeAt 2 = .ok (.getfield 95, 3) := by decide +kernel
theorem dX13_tapeAt_5 : decode cX13_tapeAt 5 = .ok (.if_icmp .ge 12, 3) := by decide +kernel
theorem dX13_tapeAt_8 : decode cX13_tapeAt 8 = .ok (.aload_n 0, 1) := by decide +kernel
theorem dX13_tapeAt_9 : decode cX13_tapeAt 9 = .ok (.getfield 7, 3) := by decide +kernel
theorem dX13_tapeAt_12 : decode cX13_tapeAt 12 = .ok (.iload_n 1, 1) := by decide +kernel
theorem dX13_tapeAt_13 : decode cX13_tapeAt 13 = .ok (.iaload, 1) := by decide +kernel
theorem dX13_tapeAt_14 : decode cX13_tapeAt 14 = .ok (.goto 4, 3) := by decide +kernel
theorem dX13_tapeAt_17 : decode cX13_tapeAt 17 = .ok (.iconst 0, 1) := by decide +kernel
theorem dX13_tapeAt_18 : decode cX13_tapeAt 18 = .ok (.ireturn, 1) := by decide +kernel
theorem bX13_tapeAt_0 {G : Gt} {d bc bs : Nat} {Q : QT} {l : Ls} {z : List Value} {h : Hp} (k : (tIld 1 (tAld 0 (tGetf 11 3 (tIf2 (fun x y => y ≤ x) (fun l z h => T G d bc bs mX13_tapeAt 17 l z h Q) (fun l z h => T G d bc bs mX13_tapeAt 8 l z h Q))))) l z h) : T G d bc bs mX13_tapeAt 0 l z h Q := by
  refine R_iload_n dX13_tapeAt_0 rfl (fun l z h k => ?_) k
  refine R_aload_n dX13_tapeAt_1 rfl (fun l z h k => ?_) k
  refine R_getf (ci := 11) (f := 3) (C := RX13) (N := 49) (Tt := TX13) dX13_tapeAt_2 rfl i_X13 (by decide) w_1470 (fun l z h k => ?_) k
  exact R_icmp_ge dX13_tapeAt_5 (by decide) (fun _ _ _ k => k) (fun _ _ _ k => k) k
theorem bX13_tapeAt_8 {G : Gt} {d bc bs : Nat} {Q : QT} {l : Ls} {z : List Value} {h : Hp} (k : (tAld 0 (tGetf 11 1 (tIld 1 (tXald 0 ((fun l z h => T G d bc bs mX13_tapeAt 18 l z h Q)))))) l z h) : T G d bc bs mX13_tapeAt 8 l z h Q := by
  refine R_aload_n dX13_tapeAt_8 rfl (fun l z h k => ?_) k
  refine R_getf (ci := 11) (f := 1) (C := RX13) (N := 49) (Tt := TX13) dX13_tapeAt_9 rfl i_X13 (by decide) w_1468 (fun l z h k => ?_) k
  refine R_iload_n dX13_tapeAt_12 rfl (fun l z h k => ?_) k
  refine R_iaload dX13_tapeAt_13 (fun l z h k => ?_) k
  exact R_goto dX13_tapeAt_14 (by decide) (fun _ _ _ k => k) k
theorem bX13_tapeAt_17 {G : Gt} {d bc bs : Nat} {Q : QT} {l : Ls} {z : List Value} {h : Hp} (k : (tPush (.int 0) ((fun l z h => T G d bc bs mX13_tapeAt 18 l z h Q))) l z h) : T G d bc bs mX13_tapeAt 17 l z h Q := by
  refine R_iconst dX13_tapeAt_17 (by decide) (fun l z h k => ?_) k
  exact k
theorem bX13_tapeAt_18 {G : Gt} {d bc bs : Nat} {Q : QT} {l : Ls} {z : List Value} {h : Hp} (k : (tRetI Q) l z h) : T G d bc bs mX13_tapeAt 18 l z h Q := by
  exact R_iret dX13_tapeAt_18 rfl k
theorem dX13_isDigit_0 : decode cX13_isDigit 0 = .ok (.iload_n 0, 1) := by decide +kernel
theorem dX13_isDigit_1 : decode cX13_isDigit 1 = .ok (.bipush 48, 2) := by decide +kernel
theorem dX13_isDigit_3 : decode cX13_isDigit 3 = .ok (.if_icmp .lt 13, 3) := by decide +kernel
theorem dX13_isDigit_6 : decode cX13_isDigit 6 = .ok (.iload_n 0, 1) := by decide +kernel
theorem dX13_isDigit_7 : decode cX13_isDigit 7 = .ok (.bipush 57, 2) := by decide +kernel
theorem dX13_isDigit_9 : decode cX13_isDigit 9 = .ok (.if_icmp .gt 7, 3) := by decide +kernel
theorem dX13_isDigit_12 : decode cX13_isDigit 12 = .ok (.iconst 1, 1) := by decide +kernel
theorem dX13_isDigit_13 : decode cX13_isDigit 13 = .ok (.goto 4, 3) := by decide +kernel
theorem dX13_isDigit_16 : decode cX13_isDigit 16 = .ok (.iconst 0, 1) := by decide +kernel
theorem dX13_isDigit_17 : decode cX13_isDigit 17 = .ok (.ireturn, 1) := by decide +kernel
theorem bX13_isDigit_0 {G : Gt} {d bc bs : Nat} {Q : QT} {l : Ls} {z : List Value} {h : Hp} (k : (tIld 0 (tPush (.int 48) (tIf2 (fun x y => x < y) (fun l z h => T G d bc bs mX13_isDigit 16 l z h Q) (fun l z h => T G d bc bs mX13_isDigit 6 l z h Q)))) l z h) : T G d bc bs mX13_isDigit 0 l z h Q := by
  refine R_iload_n dX13_isDigit_0 rfl (fun l z h k => ?_) k
  refine R_bipush dX13_isDigit_1 (by decide) (fun l z h k => ?_) k
  exact R_icmp_lt dX13_isDigit_3 (by decide) (fun _ _ _ k => k) (fun _ _ _ k => k) k
theorem bX13_isDigit_6 {G : Gt} {d bc bs : Nat} {Q : QT} {l : Ls} {z : List Value} {h : Hp} (k : (tIld 0 (tPush (.int 57) (tIf2 (fun x y => y < x) (fun l z h => T G d bc bs mX13_isDigit 16 l z h Q) (fun l z h => T G d bc bs mX13_isDigit 12 l z h Q)))) l z h) : T G d bc bs mX13_isDigit 6 l z h Q := by
  refine R_iload_n dX13_isDigit_6 rfl (fun l z h k => ?_) k
  refine R_bipush dX13_isDigit_7 (by decide) (fun l z h k => ?_) k
  exact R_icmp_gt dX13_isDigit_9 (by decide) (fun _ _ _ k => k) (fun _ _ _ k => k) k
theorem bX13_isDigit_12 {G : Gt} {d bc bs : Nat} {Q : QT} {l : Ls} {z : List Value} {h : Hp} (k : (tPush (.int 1) ((fun l z h => T G d bc bs mX13_isDigit 17 l z h Q))) l z h) : T G d bc bs mX13_isDigit 12 l z h Q := by
  refine R_iconst dX13_isDigit_12 (by decide) (fun l z h k => ?_) k
  exact R_goto dX13_isDigit_13 (by decide) (fun _ _ _ k => k) k
theorem bX13_isDigit_16 {G : Gt} {d bc bs : Nat} {Q : QT} {l : Ls} {z : List Value} {h : Hp} (k : (tPush (.int 0) ((fun l z h => T G d bc bs mX13_isDigit 17 l z h Q))) l z h) : T G d bc bs mX13_isDigit 16 l z h Q := by
  refine R_iconst dX13_isDigit_16 (by decide) (fun l z h k => ?_) k
  exact k
theorem bX13_isDigit_17 {G : Gt} {d bc bs : Nat} {Q : QT} {l : Ls} {z : List Value} {h : Hp} (k : (tRetZ Q) l z h) : T G d bc bs mX13_isDigit 17 l z h Q := by
  exact R_zret dX13_isDigit_17 rfl k
theorem dX13_isLetter_0 : decode cX13_isLetter 0 = .ok (.iload_n 0, 1) := by decide +kernel
theorem dX13_isLetter_1 : decode cX13_isLetter 1 = .ok (.bipush 97, 2) := by decide +kernel
theorem dX13_isLetter_3 : decode cX13_isLetter 3 = .ok (.if_icmp .lt 13, 3) := by decide +kernel
theorem dX13_isLetter_6 : decode cX13_isLetter 6 = .ok (.iload_n 0, 1) := by decide +kernel
theorem dX13_isLetter_7 : decode cX13_isLetter 7 = .ok (.bipush 122, 2) := by decide +kernel
theorem dX13_isLetter_9 : decode cX13_isLetter 9 = .ok (.if_icmp .gt 7, 3) := by decide +kernel
theorem dX13_isLetter_12 : decode cX13_isLetter 12 = .ok (.iconst 1, 1) := by decide +kernel
theorem dX13_isLetter_13 : decode cX13_isLetter 13 = .ok (.goto 4, 3) := by decide +kernel
theorem dX13_isLetter_16 : decode cX13_isLetter 16 = .ok (.iconst 0, 1) := by decide +kernel
theorem dX13_isLetter_17 : decode cX13_isLetter 17 = .ok (.ireturn, 1) := by decide +kernel
theorem bX13_isLetter_0 {G : Gt} {d bc bs : Nat} {Q : QT} {l : Ls} {z : List Value} {h : Hp} (k : (tIld 0 (tPush (.int 97) (tIf2 (fun x y => x < y) (fun l z h => T G d bc bs mX13_isLetter 16 l z h Q) (fun l z h => T G d bc bs mX13_isLetter 6 l z h Q)))) l z h) : T G d bc bs mX13_isLetter 0 l z h Q := by
  refine R_iload_n dX13_isLetter_0 rfl (fun l z h k => ?_) k
  refine R_bipush dX13_isLetter_1 (by decide) (fun l z h k => ?_) k
  exact R_icmp_lt dX13_isLetter_3 (by decide) (fun _ _ _ k => k) (fun _ _ _ k => k) k
theorem bX13_isLetter_6 {G : Gt} {d bc bs : Nat} {Q : QT} {l : Ls} {z : List Value} {h : Hp} (k : (tIld 0 (tPush (.int 122) (tIf2 (fun x y => y < x) (fun l z h => T G d bc bs mX13_isLetter 16 l z h Q) (fun l z h => T G d bc bs mX13_isLetter 12 l z h Q)))) l z h) : T G d bc bs mX13_isLetter 6 l z h Q := by
  refine R_iload_n dX13_isLetter_6 rfl (fun l z h k => ?_) k
  refine R_bipush dX13_isLetter_7 (by decide) (fun l z h k => ?_) k
  exact R_icmp_gt dX13_isLetter_9 (by decide) (fun _ _ _ k => k) (fun _ _ _ k => k) k
theorem bX13_isLetter_12 {G : Gt} {d bc bs : Nat} {Q : QT} {l : Ls} {z : List Value} {h : Hp} (k : (tPush (.int 1) ((fun l z h => T G d bc bs mX13_isLetter 17 l z h Q))) l z h) : T G d bc bs mX13_isLetter 12 l z h Q := by
  refine R_iconst dX13_isLetter_12 (by decide) (fun l z h k => ?_) k
  exact R_goto dX13_isLetter_13 (by decide) (fun _ _ _ k => k) k
theorem bX13_isLetter_16 {G : Gt} {d bc bs : Nat} {Q : QT} {l : Ls} {z : List Value} {h : Hp} (k : (tPush (.int 0) ((fun l z h => T G d bc bs mX13_isLetter 17 l z h Q))) l z h) : T G d bc bs mX13_isLetter 16 l z h Q := by
  refine R_iconst dX13_isLetter_16 (by decide) (fun l z h k => ?_) k
  exact k
theorem bX13_isLetter_17 {G : Gt} {d bc bs : Nat} {Q : QT} {l : Ls} {z : List Value} {h : Hp} (k : (tRetZ Q) l z h) : T G d bc bs mX13_isLetter 17 l z h Q := by
  exact R_zret dX13_isLetter_17 rfl k
theorem dX13_go_0 : decode cX13_go 0 = .ok (.aload_n 0, 1) := by decide +kernel
theorem dX13_go_1 : decode cX13_go 1 = .ok (.getfield 98, 3) := by decide +kernel
theorem dX13_go_4 : decode cX13_go 4 = .ok (.aload_n 0, 1) := by decide +kernel
theorem dX13_go_5 : decode cX13_go 5 = .ok (.getfield 95, 3) := by decide +kernel
theorem dX13_go_8 : decode cX13_go 8 = .ok (.if_icmp .ge 44, 3) := by decide +kernel
theorem dX13_go_11 : decode cX13_go 11 = .ok (.aload_n 0, 1) := by decide +kernel
theorem dX13_go_12 : decode cX13_go 12 = .ok (.getfield 7, 3) := by decide +kernel
theorem dX13_go_15 : decode cX13_go 15 = .ok (.aload_n 0, 1) := by decide +kernel
theorem dX13_go_16 : decode cX13_go 16 = .ok (.getfield 98, 3) := by decide +kernel
theorem dX13_go_19 : decode cX13_go 19 = .ok (.iaload, 1) := by decide +kernel
theorem dX13_go_20 : decode cX13_go 20 = .ok (.bipush 32, 2) := by decide +kernel
theorem dX13_go_22 : decode cX13_go 22 = .ok (.if_icmp .eq 17, 3) := by decide +kernel
theorem dX13_go_25 : decode cX13_go 25 = .ok (.aload_n 0, 1) := by decide +kernel
theorem dX13_go_26 : decode cX13_go 26 = .ok (.getfield 7, 3) := by decide +kernel
theorem dX13_go_29 : decode cX13_go 29 = .ok (.aload_n 0, 1) := by decide +kernel
theorem dX13_go_30 : decode cX13_go 30 = .ok (.getfield 98, 3) := by decide +kernel
theorem dX13_go_33 : decode cX13_go 33 = .ok (.iaload, 1) := by decide +kernel
theorem dX13_go_34 : decode cX13_go 34 = .ok (.bipush 10, 2) := by decide +kernel
theorem dX13_go_36 : decode cX13_go 36 = .ok (.if_icmp .ne 16, 3) := by decide +kernel
theorem dX13_go_39 : decode cX13_go 39 = .ok (.aload_n 0, 1) := by decide +kernel
theorem dX13_go_40 : decode cX13_go 40 = .ok (.dup, 1) := by decide +kernel
theorem dX13_go_41 : decode cX13_go 41 = .ok (.getfield 98, 3) := by decide +kernel
theorem dX13_go_44 : decode cX13_go 44 = .ok (.iconst 1, 1) := by decide +kernel
theorem dX13_go_45 : decode cX13_go 45 = .ok (.iadd, 1) := by decide +kernel
theorem dX13_go_46 : decode cX13_go 46 = .ok (.putfield 98, 3) := by decide +kernel
theorem dX13_go_49 : decode cX13_go 49 = .ok (.goto (-49), 3) := by decide +kernel
theorem dX13_go_52 : decode cX13_go 52 = .ok (.aload_n 0, 1) := by decide +kernel
theorem dX13_go_53 : decode cX13_go 53 = .ok (.aload_n 0, 1) := by decide +kernel
theorem dX13_go_54 : decode cX13_go 54 = .ok (.getfield 98, 3) := by decide +kernel
theorem dX13_go_57 : decode cX13_go 57 = .ok (.putfield 101, 3) := by decide +kernel
theorem dX13_go_60 : decode cX13_go 60 = .ok (.aload_n 0, 1) := by decide +kernel
theorem dX13_go_61 : decode cX13_go 61 = .ok (.getfield 95, 3) := by decide +kernel
theorem dX13_go_64 : decode cX13_go 64 = .ok (.aload_n 0, 1) := by decide +kernel
theorem dX13_go_65 : decode cX13_go 65 = .ok (.getfield 104, 3) := by decide +kernel
theorem dX13_go_68 : decode cX13_go 68 = .ok (.if_icmp .le 28, 3) := by decide +kernel
theorem dX13_go_71 : decode cX13_go 71 = .ok (.aload_n 0, 1) := by decide +kernel
theorem dX13_go_72 : decode cX13_go 72 = .ok (.getfield 101, 3) := by decide +kernel
theorem dX13_go_75 : decode cX13_go 75 = .ok (.aload_n 0, 1) := by decide +kernel
theorem dX13_go_76 : decode cX13_go 76 = .ok (.getfield 104, 3) := by decide +kernel
theorem dX13_go_79 : decode cX13_go 79 = .ok (.if_icmp .lt 17, 3) := by decide +kernel
theorem dX13_go_82 : decode cX13_go 82 = .ok (.aload_n 0, 1) := by decide +kernel
theorem dX13_go_83 : decode cX13_go 83 = .ok (.aload_n 0, 1) := by decide +kernel
theorem dX13_go_84 : decode cX13_go 84 = .ok (.getfield 104, 3) := by decide +kernel
theorem dX13_go_87 : decode cX13_go 87 = .ok (.putfield 101, 3) := by decide +kernel
theorem dX13_go_90 : decode cX13_go 90 = .ok (.aload_n 0, 1) := by decide +kernel
theorem dX13_go_91 : decode cX13_go 91 = .ok (.iconst 1, 1) := by decide +kernel
theorem dX13_go_92 : decode cX13_go 92 = .ok (.putfield 107, 3) := by decide +kernel
theorem dX13_go_95 : decode cX13_go 95 = .ok (.return_, 1) := by decide +kernel
theorem dX13_go_96 : decode cX13_go 96 = .ok (.aload_n 0, 1) := by decide +kernel
theorem dX13_go_97 : decode cX13_go 97 = .ok (.getfield 98, 3) := by decide +kernel
theorem dX13_go_100 : decode cX13_go 100 = .ok (.aload_n 0, 1) := by decide +kernel
theorem dX13_go_101 : decode cX13_go 101 = .ok (.getfield 95, 3) := by decide +kernel
theorem dX13_go_104 : decode cX13_go 104 = .ok (.if_icmp .lt 9, 3) := by decide +kernel
theorem dX13_go_107 : decode cX13_go 107 = .ok (.aload_n 0, 1) := by decide +kernel
theorem dX13_go_108 : decode cX13_go 108 = .ok (.iconst 0, 1) := by decide +kernel
theorem dX13_go_109 : decode cX13_go 109 = .ok (.putfield 107, 3) := by decide +kernel
theorem dX13_go_112 : decode cX13_go 112 = .ok (.return_, 1) := by decide +kernel
theorem dX13_go_113 : decode cX13_go 113 = .ok (.aload_n 0, 1) := by decide +kernel
theorem dX13_go_114 : decode cX13_go 114 = .ok (.getfield 7, 3) := by decide +kernel
theorem dX13_go_117 : decode cX13_go 117 = .ok (.aload_n 0, 1) := by decide +kernel
theorem dX13_go_118 : decode cX13_go 118 = .ok (.getfield 98, 3) := by decide +kernel
theorem dX13_go_121 : decode cX13_go 121 = .ok (.iaload, 1) := by decide +kernel
theorem dX13_go_122 : decode cX13_go 122 = .ok (.istore_n 1, 1) := by decide +kernel
theorem dX13_go_123 : decode cX13_go 123 = .ok (.iload_n 1, 1) := by decide +kernel
theorem dX13_go_124 : decode cX13_go 124 = .ok (.invokestatic 110, 3) := by decide +kernel
theorem dX13_go_127 : decode cX13_go 127 = .ok (.ifCond .ne 71, 3) := by decide +kernel
theorem dX13_go_130 : decode cX13_go 130 = .ok (.iload_n 1, 1) := by decide +kernel
theorem dX13_go_131 : decode cX13_go 131 = .ok (.invokestatic 114, 3) := by decide +kernel
theorem dX13_go_134 : decode cX13_go 134 = .ok (.ifCond .ne 64, 3) := by decide +kernel
theorem dX13_go_137 : decode cX13_go 137 = .ok (.aload_n 0, 1) := by decide +kernel
theorem dX13_go_138 : decode cX13_go 138 = .ok (.iload_n 1, 1) := by decide +kernel
theorem dX13_go_139 : decode cX13_go 139 = .ok (.bipush 59, 2) := by decide +kernel
theorem dX13_go_141 : decode cX13_go 141 = .ok (.if_icmp .eq 33, 3) := by decide +kernel
theorem dX13_go_144 : decode cX13_go 144 = .ok (.iload_n 1, 1) := by decide +kernel
theorem dX13_go_145 : decode cX13_go 145 = .ok (.bipush 60, 2) := by decide +kernel
theorem dX13_go_147 : decode cX13_go 147 = .ok (.if_icmp .eq 27, 3) := by decide +kernel
theorem dX13_go_150 : decode cX13_go 150 = .ok (.iload_n 1, 1) := by decide +kernel
theorem dX13_go_151 : decode cX13_go 151 = .ok (.bipush 61, 2) := by decide +kernel
theorem dX13_go_153 : decode cX13_go 153 = .ok (.if_icmp .eq 21, 3) := by decide +kernel
theorem dX13_go_156 : decode cX13_go 156 = .ok (.iload_n 1, 1) := by decide +kernel
theorem dX13_go_157 : decode cX13_go 157 = .ok (.bipush 62, 2) := by decide +kernel
theorem dX13_go_159 : decode cX13_go 159 = .ok (.if_icmp .eq 15, 3) := by decide +kernel
theorem dX13_go_162 : decode cX13_go 162 = .ok (.iload_n 1, 1) := by decide +kernel
theorem dX13_go_163 : decode cX13_go 163 = .ok (.bipush 40, 2) := by decide +kernel
theorem dX13_go_165 : decode cX13_go 165 = .ok (.if_icmp .eq 9, 3) := by decide +kernel
theorem dX13_go_168 : decode cX13_go 168 = .ok (.iload_n 1, 1) := by decide +kernel
theorem dX13_go_169 : decode cX13_go 169 = .ok (.bipush 41, 2) := by decide +kernel
theorem dX13_go_171 : decode cX13_go 171 = .ok (.if_icmp .ne 7, 3) := by decide +kernel
theorem dX13_go_174 : decode cX13_go 174 = .ok (.iconst 4, 1) := by decide +kernel
theorem dX13_go_175 : decode cX13_go 175 = .ok (.goto 4, 3) := by decide +kernel
theorem dX13_go_178 : decode cX13_go 178 = .ok (.iconst 1, 1) := by decide +kernel
theorem dX13_go_179 : decode cX13_go 179 = .ok (.putfield 107, 3) := by decide +kernel
theorem dX13_go_182 : decode cX13_go 182 = .ok (.aload_n 0, 1) := by decide +kernel
theorem dX13_go_183 : decode cX13_go 183 = .ok (.iload_n 1, 1) := by decide +kernel
theorem dX13_go_184 : decode cX13_go 184 = .ok (.putfield 117, 3) := by decide +kernel
theorem dX13_go_187 : decode cX13_go 187 = .ok (.aload_n 0, 1) := by decide +kernel
theorem dX13_go_188 : decode cX13_go 188 = .ok (.dup, 1) := by decide +kernel
theorem dX13_go_189 : decode cX13_go 189 = .ok (.getfield 98, 3) := by decide +kernel
theorem dX13_go_192 : decode cX13_go 192 = .ok (.iconst 1, 1) := by decide +kernel
theorem dX13_go_193 : decode cX13_go 193 = .ok (.iadd, 1) := by decide +kernel
theorem dX13_go_194 : decode cX13_go 194 = .ok (.putfield 98, 3) := by decide +kernel
theorem dX13_go_197 : decode cX13_go 197 = .ok (.return_, 1) := by decide +kernel
theorem dX13_go_198 : decode cX13_go 198 = .ok (.iload_n 1, 1) := by decide +kernel
theorem dX13_go_199 : decode cX13_go 199 = .ok (.invokestatic 110, 3) := by decide +kernel
theorem dX13_go_202 : decode cX13_go 202 = .ok (.istore_n 2, 1) := by decide +kernel
theorem dX13_go_203 : decode cX13_go 203 = .ok (.iconst 1, 1) := by decide +kernel
theorem dX13_go_204 : decode cX13_go 204 = .ok (.istore_n 3, 1) := by decide +kernel
theorem dX13_go_205 : decode cX13_go 205 = .ok (.aload_n 0, 1) := by decide +kernel
theorem dX13_go_206 : decode cX13_go 206 = .ok (.lconst 0, 1) := by decide +kernel
theorem dX13_go_207 : decode cX13_go 207 = .ok (.putfield 120, 3) := by decide +kernel
theorem dX13_go_210 : decode cX13_go 210 = .ok (.aload_n 0, 1) := by decide +kernel
theorem dX13_go_211 : decode cX13_go 211 = .ok (.iconst 0, 1) := by decide +kernel
theorem dX13_go_212 : decode cX13_go 212 = .ok (.putfield 124, 3) := by decide +kernel
theorem dX13_go_215 : decode cX13_go 215 = .ok (.aload_n 0, 1) := by decide +kernel
theorem dX13_go_216 : decode cX13_go 216 = .ok (.aload_n 0, 1) := by decide +kernel
theorem dX13_go_217 : decode cX13_go 217 = .ok (.getfield 98, 3) := by decide +kernel
theorem dX13_go_220 : decode cX13_go 220 = .ok (.invokevirtual 127, 3) := by decide +kernel
theorem dX13_go_223 : decode cX13_go 223 = .ok (.invokestatic 110, 3) := by decide +kernel
theorem dX13_go_226 : decode cX13_go 226 = .ok (.ifCond .ne 17, 3) := by decide +kernel
theorem dX13_go_229 : decode cX13_go 229 = .ok (.aload_n 0, 1) := by decide +kernel
theorem dX13_go_230 : decode cX13_go 230 = .ok (.aload_n 0, 1) := by decide +kernel
theorem dX13_go_231 : decode cX13_go 231 = .ok (.getfield 98, 3) := by decide +kernel
theorem dX13_go_234 : decode cX13_go 234 = .ok (.invokevirtual 127, 3) := by decide +kernel
theorem dX13_go_237 : decode cX13_go 237 = .ok (.invokestatic 114, 3) := by decide +kernel
theorem dX13_go_240 : decode cX13_go 240 = .ok (.ifCond .eq 110, 3) := by decide +kernel
theorem dX13_go_243 : decode cX13_go 243 = .ok (.aload_n 0, 1) := by decide +kernel
theorem dX13_go_244 : decode cX13_go 244 = .ok (.getfield 7, 3) := by decide +kernel
theorem dX13_go_247 : decode cX13_go 247 = .ok (.aload_n 0, 1) := by decide +kernel
theorem dX13_go_248 : decode cX13_go 248 = .ok (.getfield 98, 3) := by decide +kernel
theorem dX13_go_251 : decode cX13_go 251 = .ok (.iaload, 1) := by decide +kernel
theorem dX13_go_252 : decode cX13_go 252 = .ok (.istore 4, 2) := by decide +kernel
theorem dX13_go_254 : decode cX13_go 254 = .ok (.iload_n 3, 1) := by decide +kernel
theorem dX13_go_255 : decode cX13_go 255 = .ok (.ifCond .eq 16, 3) := by decide +kernel
theorem dX13_go_258 : decode cX13_go 258 = .ok (.iload 4, 2) := by decide +kernel
theorem dX13_go_260 : decode cX13_go 260 = .ok (.invokestatic 110, 3) := by decide +kernel
theorem dX13_go_263 : decode cX13_go 263 = .ok (.iload_n 2, 1) := by decide +kernel
theorem dX13_go_264 : decode cX13_go 264 = .ok (.if_icmp .ne 7, 3) := by decide +kernel
theorem dX13_go_267 : decode cX13_go 267 = .ok (.iconst 1, 1) := by decide +kernel
theorem dX13_go_268 : decode cX13_go 268 = .ok (.goto 4, 3) := by decide +kernel
theorem dX13_go_271 : decode cX13_go 271 = .ok (.iconst 0, 1) := by decide +kernel
theorem dX13_go_272 : decode cX13_go 272 = .ok (.istore_n 3, 1) := by decide +kernel
theorem dX13_go_273 : decode cX13_go 273 = .ok (.aload_n 0, 1) := by decide +kernel
theorem dX13_go_274 : decode cX13_go 274 = .ok (.getfield 98, 3) := by decide +kernel
theorem dX13_go_277 : decode cX13_go 277 = .ok (.aload_n 0, 1) := by decide +kernel
theorem dX13_go_278 : decode cX13_go 278 = .ok (.getfield 101, 3) := by decide +kernel
theorem dX13_go_281 : decode cX13_go 281 = .ok (.isub, 1) := by decide +kernel
theorem dX13_go_282 : decode cX13_go 282 = .ok (.bipush 7, 2) := by decide +kernel
theorem dX13_go_284 : decode cX13_go 284 = .ok (.if_icmp .ge 23, 3) := by decide +kernel
theorem dX13_go_287 : decode cX13_go 287 = .ok (.aload_n 0, 1) := by decide +kernel
theorem dX13_go_288 : decode cX13_go 288 = .ok (.ldc2_w 131, 3) := by decide +kernel
theorem dX13_go_291 : decode cX13_go 291 = .ok (.aload_n 0, 1) := by decide +kernel
theorem dX13_go_292 : decode cX13_go 292 = .ok (.getfield 120, 3) := by decide +kernel
theorem dX13_go_295 : decode cX13_go 295 = .ok (.lmul, 1) := by decide +kernel
theorem dX13_go_296 : decode cX13_go 296 = .ok (.iload 4, 2) := by decide +kernel
theorem dX13_go_298 : decode cX13_go 298 = .ok (.i2l, 1) := by decide +kernel
theorem dX13_go_299 : decode cX13_go 299 = .ok (.ladd, 1) := by decide +kernel
theorem dX13_go_300 : decode cX13_go 300 = .ok (.ldc2_w 133, 3) := by decide +kernel
theorem dX13_go_303 : decode cX13_go 303 = .ok (.lsub, 1) := by decide +kernel
theorem dX13_go_304 : decode cX13_go 304 = .ok (.putfield 120, 3) := by decide +kernel
theorem dX13_go_307 : decode cX13_go 307 = .ok (.aload_n 0, 1) := by decide +kernel
theorem dX13_go_308 : decode cX13_go 308 = .ok (.getfield 98, 3) := by decide +kernel
theorem dX13_go_311 : decode cX13_go 311 = .ok (.aload_n 0, 1) := by decide +kernel
theorem dX13_go_312 : decode cX13_go 312 = .ok (.getfield 101, 3) := by decide +kernel
theorem dX13_go_315 : decode cX13_go 315 = .ok (.isub, 1) := by decide +kernel
theorem dX13_go_316 : decode cX13_go 316 = .ok (.iconst 3, 1) := by decide +kernel
theorem dX13_go_317 : decode cX13_go 317 = .ok (.if_icmp .ge 20, 3) := by decide +kernel
theorem dX13_go_320 : decode cX13_go 320 = .ok (.aload_n 0, 1) := by decide +kernel
theorem dX13_go_321 : decode cX13_go 321 = .ok (.bipush 10, 2) := by decide +kernel
theorem dX13_go_323 : decode cX13_go 323 = .ok (.aload_n 0, 1) := by decide +kernel
theorem dX13_go_324 : decode cX13_go 324 = .ok (.getfield 124, 3) := by decide +kernel
theorem dX13_go_327 : decode cX13_go 327 = .ok (.imul, 1) := by decide +kernel
theorem dX13_go_328 : decode cX13_go 328 = .ok (.iload 4, 2) := by decide +kernel
theorem dX13_go_330 : decode cX13_go 330 = .ok (.iadd, 1) := by decide +kernel
theorem dX13_go_331 : decode cX13_go 331 = .ok (.bipush 48, 2) := by decide +kernel
theorem dX13_go_333 : decode cX13_go 333 = .ok (.isub, 1) := by decide +kernel
theorem dX13_go_334 : decode cX13_go 334 = .ok (.putfield 124, 3) := by decide +kernel
theorem dX13_go_337 : decode cX13_go 337 = .ok (.aload_n 0, 1) := by decide +kernel
theorem dX13_go_338 : decode cX13_go 338 = .ok (.dup, 1) := by decide +kernel
theorem dX13_go_339 : decode cX13_go 339 = .ok (.getfield 98, 3) := by decide +kernel
theorem dX13_go_342 : decode cX13_go 342 = .ok (.iconst 1, 1) := by decide +kernel
theorem dX13_go_343 : decode cX13_go 343 = .ok (.iadd, 1) := by decide +kernel
theorem dX13_go_344 : decode cX13_go 344 = .ok (.putfield 98, 3) := by decide +kernel
theorem dX13_go_347 : decode cX13_go 347 = .ok (.goto (-132), 3) := by decide +kernel
theorem dX13_go_350 : decode cX13_go 350 = .ok (.aload_n 0, 1) := by decide +kernel
theorem dX13_go_351 : decode cX13_go 351 = .ok (.iload_n 3, 1) := by decide +kernel
theorem dX13_go_352 : decode cX13_go 352 = .ok (.ifCond .eq 25, 3) := by decide +kernel
theorem dX13_go_355 : decode cX13_go 355 = .ok (.aload_n 0, 1) := by decide +kernel
theorem dX13_go_356 : decode cX13_go 356 = .ok (.getfield 98, 3) := by decide +kernel
theorem dX13_go_359 : decode cX13_go 359 = .ok (.aload_n 0, 1) := by decide +kernel
theorem dX13_go_360 : decode cX13_go 360 = .ok (.getfield 101, 3) := by decide +kernel
theorem dX13_go_363 : decode cX13_go 363 = .ok (.isub, 1) := by decide +kernel
theorem dX13_go_364 : decode cX13_go 364 = .ok (.iload_n 2, 1) := by decide +kernel
theorem dX13_go_365 : decode cX13_go 365 = .ok (.ifCond .eq 8, 3) := by decide +kernel
theorem dX13_go_368 : decode cX13_go 368 = .ok (.bipush 7, 2) := by decide +kernel
theorem dX13_go_370 : decode cX13_go 370 = .ok (.goto 4, 3) := by decide +kernel
theorem dX13_go_373 : decode cX13_go 373 = .ok (.iconst 3, 1) := by decide +kernel
theorem dX13_go_374 : decode cX13_go 374 = .ok (.if_icmp .le 7, 3) := by decide +kernel
theorem dX13_go_377 : decode cX13_go 377 = .ok (.iconst 1, 1) := by decide +kernel
theorem dX13_go_378 : decode cX13_go 378 = .ok (.goto 12, 3) := by decide +kernel
theorem dX13_go_381 : decode cX13_go 381 = .ok (.iload_n 2, 1) := by decide +kernel
theorem dX13_go_382 : decode cX13_go 382 = .ok (.ifCond .eq 7, 3) := by decide +kernel
theorem dX13_go_385 : decode cX13_go 385 = .ok (.iconst 2, 1) := by decide +kernel
theorem dX13_go_386 : decode cX13_go 386 = .ok (.goto 4, 3) := by decide +kernel
theorem dX13_go_389 : decode cX13_go 389 = .ok (.iconst 3, 1) := by decide +kernel
theorem dX13_go_390 : decode cX13_go 390 = .ok (.putfield 107, 3) := by decide +kernel
theorem dX13_go_393 : decode cX13_go 393 = .ok (.return_, 1) := by decide +kernel
theorem bX13_go_0 {G : Gt} {d bc bs : Nat} {Q : QT} {l : Ls} {z : List Value} {h : Hp} (k : (tAld 0 (tGetf 11 5 (tAld 0 (tGetf 11 3 (tIf2 (fun x y => y ≤ x) (fun l z h => T G d bc bs mX13_go 52 l z h Q) (fun l z h => T G d bc bs mX13_go 11 l z h Q)))))) l z h) : T G d bc bs mX13_go 0 l z h Q := by
  refine R_aload_n dX13_go_0 rfl (fun l z h k => ?_) k
  refine R_getf (ci := 11) (f := 5) (C := RX13) (N := 49) (Tt := TX13) dX13_go_1 rfl i_X13 (by decide) w_1472 (fun l z h k => ?_) k
  refine R_aload_n dX13_go_4 rfl (fun l z h k => ?_) k
  refine R_getf (ci := 11) (f := 3) (C := RX13) (N := 49) (Tt := TX13) dX13_go_5 rfl i_X13 (by decide) w_1470 (fun l z h k => ?_) k
  exact R_icmp_ge dX13_go_8 (by decide) (fun _ _ _ k => k) (fun _ _ _ k => k) k
theorem bX13_go_11 {G : Gt} {d bc bs : Nat} {Q : QT} {l : Ls} {z : List Value} {h : Hp} (k : (tAld 0 (tGetf 11 1 (tAld 0 (tGetf 11 5 (tXald 0 (tPush (.int 32) (tIf2 (fun x y => x = y) (fun l z h => T G d bc bs mX13_go 39 l z h Q) (fun l z h => T G d bc bs mX13_go 25 l z h Q)))))))) l z h) : T G d bc bs mX13_go 11 l z h Q := by
  refine R_aload_n dX13_go_11 rfl (fun l z h k => ?_) k
  refine R_getf (ci := 11) (f := 1) (C := RX13) (N := 49) (Tt := TX13) dX13_go_12 rfl i_X13 (by decide) w_1468 (fun l z h k => ?_) k
  refine R_aload_n dX13_go_15 rfl (fun l z h k => ?_) k
  refine R_getf (ci := 11) (f := 5) (C := RX13) (N := 49) (Tt := TX13) dX13_go_16 rfl i_X13 (by decide) w_1472 (fun l z h k => ?_) k
  refine R_iaload dX13_go_19 (fun l z h k => ?_) k
  refine R_bipush dX13_go_20 (by decide) (fun l z h k => ?_) k
  exact R_icmp_eq dX13_go_22 (by decide) (fun _ _ _ k => k) (fun _ _ _ k => k) k
theorem bX13_go_25 {G : Gt} {d bc bs : Nat} {Q : QT} {l : Ls} {z : List Value} {h : Hp} (k : (tAld 0 (tGetf 11 1 (tAld 0 (tGetf 11 5 (tXald 0 (tPush (.int 10) (tIf2 (fun x y => x = y) (fun l z h => T G d bc bs mX13_go 39 l z h Q) (fun l z h => T G d bc bs mX13_go 52 l z h Q)))))))) l z h) : T G d bc bs mX13_go 25 l z h Q := by
  refine R_aload_n dX13_go_25 rfl (fun l z h k => ?_) k
  refine R_getf (ci := 11) (f := 1) (C := RX13) (N := 49) (Tt := TX13) dX13_go_26 rfl i_X13 (by decide) w_1468 (fun l z h k => ?_) k
  refine R_aload_n dX13_go_29 rfl (fun l z h k => ?_) k
  refine R_getf (ci := 11) (f := 5) (C := RX13) (N := 49) (Tt := TX13) dX13_go_30 rfl i_X13 (by decide) w_1472 (fun l z h k => ?_) k
  refine R_iaload dX13_go_33 (fun l z h k => ?_) k
  refine R_bipush dX13_go_34 (by decide) (fun l z h k => ?_) k
  exact R_icmp_ne dX13_go_36 (by decide) (fun _ _ _ k => k) (fun _ _ _ k => k) k
theorem bX13_go_39 {G : Gt} {d bc bs : Nat} {Q : QT} {l : Ls} {z : List Value} {h : Hp} (k : (tAld 0 (tDup (tGetf 11 5 (tPush (.int 1) (tB (fun x y => x + y) (tPutf isI 11 5 ((fun l z h => T G d bc bs mX13_go 0 l z h Q)))))))) l z h) : T G d bc bs mX13_go 39 l z h Q := by
  refine R_aload_n dX13_go_39 rfl (fun l z h k => ?_) k
  refine R_dup dX13_go_40 (fun l z h k => ?_) k
  refine R_getf (ci := 11) (f := 5) (C := RX13) (N := 49) (Tt := TX13) dX13_go_41 rfl i_X13 (by decide) w_1472 (fun l z h k => ?_) k
  refine R_iconst dX13_go_44 (by decide) (fun l z h k => ?_) k
  refine R_iadd dX13_go_45 (fun l z h k => ?_) k
  refine R_putf (ci := 11) (f := 5) (C := RX13) (N := 49) (Tt := TX13) tyX13 tyX13_ok nmX13 dX13_go_46 rfl i_X13 (by decide) w_1472 rfl (tyX13_ok 5 (by decide)) p_int (fun l z h k => ?_) k
  exact R_goto dX13_go_49 (by decide) (fun _ _ _ k => k) k
theorem bX13_go_52 {G : Gt} {d bc bs : Nat} {Q : QT} {l : Ls} {z : List Value} {h : Hp} (k : (tAld 0 (tAld 0 (tGetf 11 5 (tPutf isI 11 6 (tAld 0 (tGetf 11 3 (tAld 0 (tGetf 11 4 (tIf2 (fun x y => x ≤ y) (fun l z h => T G d bc bs mX13_go 96 l z h Q) (fun l z h => T G d bc bs mX13_go 71 l z h Q)))))))))) l z h) : T G d bc bs mX13_go 52 l z h Q := by
  refine R_aload_n dX13_go_52 rfl (fun l z h k => ?_) k
  refine R_aload_n dX13_go_53 rfl (fun l z h k => ?_) k
  refine R_getf (ci := 11) (f := 5) (C := RX13) (N := 49) (Tt := TX13) dX13_go_54 rfl i_X13 (by decide) w_1472 (fun l z h k => ?_) k
  refine R_putf (ci := 11) (f := 6) (C := RX13) (N := 49) (Tt := TX13) tyX13 tyX13_ok nmX13 dX13_go_57 rfl i_X13 (by decide) w_1473 rfl (tyX13_ok 6 (by decide)) p_int (fun l z h k => ?_) k
  refine R_aload_n dX13_go_60 rfl (fun l z h k => ?_) k
  refine R_getf (ci := 11) (f := 3) (C := RX13) (N := 49) (Tt := TX13) dX13_go_61 rfl i_X13 (by decide) w_1470 (fun l z h k => ?_) k
  refine R_aload_n dX13_go_64 rfl (fun l z h k => ?_) k
  refine R_getf (ci := 11) (f := 4) (C := RX13) (N := 49) (Tt := TX13) dX13_go_65 rfl i_X13 (by decide) w_1471 (fun l z h k => ?_) k
  exact R_icmp_le dX13_go_68 (by decide) (fun _ _ _ k => k) (fun _ _ _ k => k) k
theorem bX13_go_71 {G : Gt} {d bc bs : Nat} {Q : QT} {l : Ls} {z : List Value} {h : Hp} (k : (tAld 0 (tGetf 11 6 (tAld 0 (tGetf 11 4 (tIf2 (fun x y => x < y) (fun l z h => T G d bc bs mX13_go 96 l z h Q) (fun l z h => T G d bc bs mX13_go 82 l z h Q)))))) l z h) : T G d bc bs mX13_go 71 l z h Q := by
  refine R_aload_n dX13_go_71 rfl (fun l z h k => ?_) k
  refine R_getf (ci := 11) (f := 6) (C := RX13) (N := 49) (Tt := TX13) dX13_go_72 rfl i_X13 (by decide) w_1473 (fun l z h k => ?_) k
  refine R_aload_n dX13_go_75 rfl (fun l z h k => ?_) k
  refine R_getf (ci := 11) (f := 4) (C := RX13) (N := 49) (Tt := TX13) dX13_go_76 rfl i_X13 (by decide) w_1471 (fun l z h k => ?_) k
  exact R_icmp_lt dX13_go_79 (by decide) (fun _ _ _ k => k) (fun _ _ _ k => k) k
theorem bX13_go_82 {G : Gt} {d bc bs : Nat} {Q : QT} {l : Ls} {z : List Value} {h : Hp} (k : (tAld 0 (tAld 0 (tGetf 11 4 (tPutf isI 11 6 (tAld 0 (tPush (.int 1) (tPutf isI 11 7 (tRetV Q)))))))) l z h) : T G d bc bs mX13_go 82 l z h Q := by
  refine R_aload_n dX13_go_82 rfl (fun l z h k => ?_) k
  refine R_aload_n dX13_go_83 rfl (fun l z h k => ?_) k
  refine R_getf (ci := 11) (f := 4) (C := RX13) (N := 49) (Tt := TX13) dX13_go_84 rfl i_X13 (by decide) w_1471 (fun l z h k => ?_) k
  refine R_putf (ci := 11) (f := 6) (C := RX13) (N := 49) (Tt := TX13) tyX13 tyX13_ok nmX13 dX13_go_87 rfl i_X13 (by decide) w_1473 rfl (tyX13_ok 6 (by decide)) p_int (fun l z h k => ?_) k
  refine R_aload_n dX13_go_90 rfl (fun l z h k => ?_) k
  refine R_iconst dX13_go_91 (by decide) (fun l z h k => ?_) k
  refine R_putf (ci := 11) (f := 7) (C := RX13) (N := 49) (Tt := TX13) tyX13 tyX13_ok nmX13 dX13_go_92 rfl i_X13 (by decide) w_1474 rfl (tyX13_ok 7 (by decide)) p_int (fun l z h k => ?_) k
  exact R_vret dX13_go_95 rfl k
theorem bX13_go_96 {G : Gt} {d bc bs : Nat} {Q : QT} {l : Ls} {z : List Value} {h : Hp} (k : (tAld 0 (tGetf 11 5 (tAld 0 (tGetf 11 3 (tIf2 (fun x y => x < y) (fun l z h => T G d bc bs mX13_go 113 l z h Q) (fun l z h => T G d bc bs mX13_go 107 l z h Q)))))) l z h) : T G d bc bs mX13_go 96 l z h Q := by
  refine R_aload_n dX13_go_96 rfl (fun l z h k => ?_) k
  refine R_getf (ci := 11) (f := 5) (C := RX13) (N := 49) (Tt := TX13) dX13_go_97 rfl i_X13 (by decide) w_1472 (fun l z h k => ?_) k
  refine R_aload_n dX13_go_100 rfl (fun l z h k => ?_) k
  refine R_getf (ci := 11) (f := 3) (C := RX13) (N := 49) (Tt := TX13) dX13_go_101 rfl i_X13 (by decide) w_1470 (fun l z h k => ?_) k
  exact R_icmp_lt dX13_go_104 (by decide) (fun _ _ _ k => k) (fun _ _ _ k => k) k
theorem bX13_go_107 {G : Gt} {d bc bs : Nat} {Q : QT} {l : Ls} {z : List Value} {h : Hp} (k : (tAld 0 (tPush (.int 0) (tPutf isI 11 7 (tRetV Q)))) l z h) : T G d bc bs mX13_go 107 l z h Q := by
  refine R_aload_n dX13_go_107 rfl (fun l z h k => ?_) k
  refine R_iconst dX13_go_108 (by decide) (fun l z h k => ?_) k
  refine R_putf (ci := 11) (f := 7) (C := RX13) (N := 49) (Tt := TX13) tyX13 tyX13_ok nmX13 dX13_go_109 rfl i_X13 (by decide) w_1474 rfl (tyX13_ok 7 (by decide)) p_int (fun l z h k => ?_) k
  exact R_vret dX13_go_112 rfl k
theorem bX13_go_113 {G : Gt} {d bc bs : Nat} {Q : QT} {l : Ls} {z : List Value} {h : Hp} (k : (tAld 0 (tGetf 11 1 (tAld 0 (tGetf 11 5 (tXald 0 (tIst 1 (tIld 1 (tCS1 G d 0 0 mX13_isLetter (fun l z h => T G d bc bs mX13_go 127 l z h Q))))))))) l z h) : T G d bc bs mX13_go 113 l z h Q := by
  refine R_aload_n dX13_go_113 rfl (fun l z h k => ?_) k
  refine R_getf (ci := 11) (f := 1) (C := RX13) (N := 49) (Tt := TX13) dX13_go_114 rfl i_X13 (by decide) w_1468 (fun l z h k => ?_) k
  refine R_aload_n dX13_go_117 rfl (fun l z h k => ?_) k
  refine R_getf (ci := 11) (f := 5) (C := RX13) (N := 49) (Tt := TX13) dX13_go_118 rfl i_X13 (by decide) w_1472 (fun l z h k => ?_) k
  refine R_iaload dX13_go_121 (fun l z h k => ?_) k
  refine R_istore_n dX13_go_122 rfl (by decide) (fun l z h k => ?_) k
  refine R_iload_n dX13_go_123 rfl (fun l z h k => ?_) k
  exact R_cs1 (M := mX13_go) (pc := 124) (bc := bc) (bs := bs) (cb := 0) (cs := 0) (M' := mX13_isLetter) dX13_go_124 (by decide) w_1650 w_144 w_1648 w_1649 (by decide +kernel) (fun _ _ _ k => k) k
theorem bX13_go_127 {G : Gt} {d bc bs : Nat} {Q : QT} {l : Ls} {z : List Value} {h : Hp} (k : (tIf (fun x => x = 0) (fun l z h => T G d bc bs mX13_go 130 l z h Q) (fun l z h => T G d bc bs mX13_go 198 l z h Q)) l z h) : T G d bc bs mX13_go 127 l z h Q := by
  exact R_if_ne dX13_go_127 (by decide) (fun _ _ _ k => k) (fun _ _ _ k => k) k
theorem bX13_go_130 {G : Gt} {d bc bs : Nat} {Q : QT} {l : Ls} {z : List Value} {h : Hp} (k : (tIld 1 (tCS1 G d 0 0 mX13_isDigit (fun l z h => T G d bc bs mX13_go 134 l z h Q))) l z h) : T G d bc bs mX13_go 130 l z h Q := by
  refine R_iload_n dX13_go_130 rfl (fun l z h k => ?_) k
  exact R_cs1 (M := mX13_go) (pc := 131) (bc := bc) (bs := bs) (cb := 0) (cs := 0) (M' := mX13_isDigit) dX13_go_131 (by decide) w_1653 w_144 w_1651 w_1652 (by decide +kernel) (fun _ _ _ k => k) k
theorem bX13_go_134 {G : Gt} {d bc bs : Nat} {Q : QT} {l : Ls} {z : List Value} {h : Hp} (k : (tIf (fun x => x = 0) (fun l z h => T G d bc bs mX13_go 137 l z h Q) (fun l z h => T G d bc bs mX13_go 198 l z h Q)) l z h) : T G d bc bs mX13_go 134 l z h Q := by
  exact R_if_ne dX13_go_134 (by decide) (fun _ _ _ k => k) (fun _ _ _ k => k) k
theorem bX13_go_137 {G : Gt} {d bc bs : Nat} {Q : QT} {l : Ls} {z : List Value} {h : Hp} (k : (tAld 0 (tIld 1 (tPush (.int 59) (tIf2 (fun x y => x = y) (fun l z h => T G d bc bs mX13_go 174 l z h Q) (fun l z h => T G d bc bs mX13_go 144 l z h Q))))) l z h) : T G d bc bs mX13_go 137 l z h Q := by
  refine R_aload_n dX13_go_137 rfl (fun l z h k => ?_) k
  refine R_iload_n dX13_go_138 rfl (fun l z h k => ?_) k
  refine R_bipush dX13_go_139 (by decide) (fun l z h k => ?_) k
  exact R_icmp_eq dX13_go_141 (by decide) (fun _ _ _ k => k) (fun _ _ _ k => k) k
theorem bX13_go_144 {G : Gt} {d bc bs : Nat} {Q : QT} {l : Ls} {z : List Value} {h : Hp} (k : (tIld 1 (tPush (.int 60) (tIf2 (fun x y => x = y) (fun l z h => T G d bc bs mX13_go 174 l z h Q) (fun l z h => T G d bc bs mX13_go 150 l z h Q)))) l z h) : T G d bc bs mX13_go 144 l z h Q := by
  refine R_iload_n dX13_go_144 rfl (fun l z h k => ?_) k
  refine R_bipush dX13_go_145 (by decide) (fun l z h k => ?_) k
  exact R_icmp_eq dX13_go_147 (by decide) (fun _ _ _ k => k) (fun _ _ _ k => k) k
theorem bX13_go_150 {G : Gt} {d bc bs : Nat} {Q : QT} {l : Ls} {z : List Value} {h : Hp} (k : (tIld 1 (tPush (.int 61) (tIf2 (fun x y => x = y) (fun l z h => T G d bc bs mX13_go 174 l z h Q) (fun l z h => T G d bc bs mX13_go 156 l z h Q)))) l z h) : T G d bc bs mX13_go 150 l z h Q := by
  refine R_iload_n dX13_go_150 rfl (fun l z h k => ?_) k
  refine R_bipush dX13_go_151 (by decide) (fun l z h k => ?_) k
  exact R_icmp_eq dX13_go_153 (by decide) (fun _ _ _ k => k) (fun _ _ _ k => k) k
theorem bX13_go_156 {G : Gt} {d bc bs : Nat} {Q : QT} {l : Ls} {z : List Value} {h : Hp} (k : (tIld 1 (tPush (.int 62) (tIf2 (fun x y => x = y) (fun l z h => T G d bc bs mX13_go 174 l z h Q) (fun l z h => T G d bc bs mX13_go 162 l z h Q)))) l z h) : T G d bc bs mX13_go 156 l z h Q := by
  refine R_iload_n dX13_go_156 rfl (fun l z h k => ?_) k
  refine R_bipush dX13_go_157 (by decide) (fun l z h k => ?_) k
  exact R_icmp_eq dX13_go_159 (by decide) (fun _ _ _ k => k) (fun _ _ _ k => k) k
theorem bX13_go_162 {G : Gt} {d bc bs : Nat} {Q : QT} {l : Ls} {z : List Value} {h : Hp} (k : (tIld 1 (tPush (.int 40) (tIf2 (fun x y => x = y) (fun l z h => T G d bc bs mX13_go 174 l z h Q) (fun l z h => T G d bc bs mX13_go 168 l z h Q)))) l z h) : T G d bc bs mX13_go 162 l z h Q := by
  refine R_iload_n dX13_go_162 rfl (fun l z h k => ?_) k
  refine R_bipush dX13_go_163 (by decide) (fun l z h k => ?_) k
  exact R_icmp_eq dX13_go_165 (by decide) (fun _ _ _ k => k) (fun _ _ _ k => k) k
theorem bX13_go_168 {G : Gt} {d bc bs : Nat} {Q : QT} {l : Ls} {z : List Value} {h : Hp} (k : (tIld 1 (tPush (.int 41) (tIf2 (fun x y => x = y) (fun l z h => T G d bc bs mX13_go 174 l z h Q) (fun l z h => T G d bc bs mX13_go 178 l z h Q)))) l z h) : T G d bc bs mX13_go 168 l z h Q := by
  refine R_iload_n dX13_go_168 rfl (fun l z h k => ?_) k
  refine R_bipush dX13_go_169 (by decide) (fun l z h k => ?_) k
  exact R_icmp_ne dX13_go_171 (by decide) (fun _ _ _ k => k) (fun _ _ _ k => k) k
theorem bX13_go_174 {G : Gt} {d bc bs : Nat} {Q : QT} {l : Ls} {z : List Value} {h : Hp} (k : (tPush (.int 4) ((fun l z h => T G d bc bs mX13_go 179 l z h Q))) l z h) : T G d bc bs mX13_go 174 l z h Q := by
  refine R_iconst dX13_go_174 (by decide) (fun l z h k => ?_) k
  exact R_goto dX13_go_175 (by decide) (fun _ _ _ k => k) k
theorem bX13_go_178 {G : Gt} {d bc bs : Nat} {Q : QT} {l : Ls} {z : List Value} {h : Hp} (k : (tPush (.int 1) ((fun l z h => T G d bc bs mX13_go 179 l z h Q))) l z h) : T G d bc bs mX13_go 178 l z h Q := by
  refine R_iconst dX13_go_178 (by decide) (fun l z h k => ?_) k
  exact k
theorem bX13_go_179 {G : Gt} {d bc bs : Nat} {Q : QT} {l : Ls} {z : List Value} {h : Hp} (k : (tPutf isI 11 7 (tAld 0 (tIld 1 (tPutf isI 11 9 (tAld 0 (tDup (tGetf 11 5 (tPush (.int 1) (tB (fun x y => x + y) (tPutf isI 11 5 (tRetV Q))))))))))) l z h) : T G d bc bs mX13_go 179 l z h Q := by
  refine R_putf (ci := 11) (f := 7) (C := RX13) (N := 49) (Tt := TX13) tyX13 tyX13_ok nmX13 dX13_go_179 rfl i_X13 (by decide) w_1474 rfl (tyX13_ok 7 (by decide)) p_int (fun l z h k => ?_) k
  refine R_aload_n dX13_go_182 rfl (fun l z h k => ?_) k
  refine R_iload_n dX13_go_183 rfl (fun l z h k => ?_) k
  refine R_putf (ci := 11) (f := 9) (C := RX13) (N := 49) (Tt := TX13) tyX13 tyX13_ok nmX13 dX13_go_184 rfl i_X13 (by decide) w_1476 rfl (tyX13_ok 9 (by decide)) p_int (fun l z h k => ?_) k
  refine R_aload_n dX13_go_187 rfl (fun l z h k => ?_) k
  refine R_dup dX13_go_188 (fun l z h k => ?_) k
  refine R_getf (ci := 11) (f := 5) (C := RX13) (N := 49) (Tt := TX13) dX13_go_189 rfl i_X13 (by decide) w_1472 (fun l z h k => ?_) k
  refine R_iconst dX13_go_192 (by decide) (fun l z h k => ?_) k
  refine R_iadd dX13_go_193 (fun l z h k => ?_) k
  refine R_putf (ci := 11) (f := 5) (C := RX13) (N := 49) (Tt := TX13) tyX13 tyX13_ok nmX13 dX13_go_194 rfl i_X13 (by decide) w_1472 rfl (tyX13_ok 5 (by decide)) p_int (fun l z h k => ?_) k
  exact R_vret dX13_go_197 rfl k
theorem bX13_go_198 {G : Gt} {d bc bs : Nat} {Q : QT} {l : Ls} {z : List Value} {h : Hp} (k : (tIld 1 (tCS1 G d 0 0 mX13_isLetter (fun l z h => T G d bc bs mX13_go 202 l z h Q))) l z h) : T G d bc bs mX13_go 198 l z h Q := by
  refine R_iload_n dX13_go_198 rfl (fun l z h k => ?_) k
  exact R_cs1 (M := mX13_go) (pc := 199) (bc := bc) (bs := bs) (cb := 0) (cs := 0) (M' := mX13_isLetter) dX13_go_199 (by decide) w_1650 w_144 w_1648 w_1649 (by decide +kernel) (fun _ _ _ k => k) k
theorem bX13_go_202 {G : Gt} {d bc bs : Nat} {Q : QT} {l : Ls} {z : List Value} {h : Hp} (k : (tIst 2 (tPush (.int 1) (tIst 3 (tAld 0 (tPush (.long 0) (tPutf isL 11 12 (tAld 0 (tPush (.int 0) (tPutf isI 11 8 ((fun l z h => T G d bc bs mX13_go 215 l z h Q))))))))))) l z h) : T G d bc bs mX13_go 202 l z h Q := by
  refine R_istore_n dX13_go_202 rfl (by decide) (fun l z h k => ?_) k
  refine R_iconst dX13_go_203 (by decide) (fun l z h k => ?_) k
  refine R_istore_n dX13_go_204 rfl (by decide) (fun l z h k => ?_) k
  refine R_aload_n dX13_go_205 rfl (fun l z h k => ?_) k
  refine R_lconst dX13_go_206 (by decide) (fun l z h k => ?_) k
  refine R_putf (ci := 11) (f := 12) (C := RX13) (N := 49) (Tt := TX13) tyX13 tyX13_ok nmX13 dX13_go_207 rfl i_X13 (by decide) w_1479 rfl (tyX13_ok 12 (by decide)) p_long (fun l z h k => ?_) k
  refine R_aload_n dX13_go_210 rfl (fun l z h k => ?_) k
  refine R_iconst dX13_go_211 (by decide) (fun l z h k => ?_) k
  refine R_putf (ci := 11) (f := 8) (C := RX13) (N := 49) (Tt := TX13) tyX13 tyX13_ok nmX13 dX13_go_212 rfl i_X13 (by decide) w_1475 rfl (tyX13_ok 8 (by decide)) p_int (fun l z h k => ?_) k
  exact k
theorem bX13_go_215 {G : Gt} {d bc bs : Nat} {Q : QT} {l : Ls} {z : List Value} {h : Hp} (k : (tAld 0 (tAld 0 (tGetf 11 5 (tCV1 G d 0 0 11 mX13_tapeAt (fun l z h => T G d bc bs mX13_go 223 l z h Q))))) l z h) : T G d bc bs mX13_go 215 l z h Q := by
  refine R_aload_n dX13_go_215 rfl (fun l z h k => ?_) k
  refine R_aload_n dX13_go_216 rfl (fun l z h k => ?_) k
  refine R_getf (ci := 11) (f := 5) (C := RX13) (N := 49) (Tt := TX13) dX13_go_217 rfl i_X13 (by decide) w_1472 (fun l z h k => ?_) k
  exact R_cv1 (M := mX13_go) (pc := 220) (bc := bc) (bs := bs) (cb := 0) (cs := 0) (M' := mX13_tapeAt) dX13_go_220 rfl (by decide) w_1657 w_144 w_1654 w_1656 w_48 (by decide +kernel) (fun _ _ _ k => k) k
theorem bX13_go_223 {G : Gt} {d bc bs : Nat} {Q : QT} {l : Ls} {z : List Value} {h : Hp} (k : (tCS1 G d 0 0 mX13_isLetter (fun l z h => T G d bc bs mX13_go 226 l z h Q)) l z h) : T G d bc bs mX13_go 223 l z h Q := by
  exact R_cs1 (M := mX13_go) (pc := 223) (bc := bc) (bs := bs) (cb := 0) (cs := 0) (M' := mX13_isLetter) dX13_go_223 (by decide) w_1650 w_144 w_1648 w_1649 (by decide +kernel) (fun _ _ _ k => k) k
theorem bX13_go_226 {G : Gt} {d bc bs : Nat} {Q : QT} {l : Ls} {z : List Value} {h : Hp} (k : (tIf (fun x => x = 0) (fun l z h => T G d bc bs mX13_go 229 l z h Q) (fun l z h => T G d bc bs mX13_go 243 l z h Q)) l z h) : T G d bc bs mX13_go 226 l z h Q := by
  exact R_if_ne dX13_go_226 (by decide) (fun _ _ _ k => k) (fun _ _ _ k => k) k
theorem bX13_go_229 {G : Gt} {d bc bs : Nat} {Q : QT} {l : Ls} {z : List Value} {h : Hp} (k : (tAld 0 (tAld 0 (tGetf 11 5 (tCV1 G d 0 0 11 mX13_tapeAt (fun l z h => T G d bc bs mX13_go 237 l z h Q))))) l z h) : T G d bc bs mX13_go 229 l z h Q := by
  refine R_aload_n dX13_go_229 rfl (fun l z h k => ?_) k
  refine R_aload_n dX13_go_230 rfl (fun l z h k => ?_) k
  refine R_getf (ci := 11) (f := 5) (C := RX13) (N := 49) (Tt := TX13) dX13_go_231 rfl i_X13 (by decide) w_1472 (fun l z h k => ?_) k
  exact R_cv1 (M := mX13_go) (pc := 234) (bc := bc) (bs := bs) (cb := 0) (cs := 0) (M' := mX13_tapeAt) dX13_go_234 rfl (by decide) w_1657 w_144 w_1654 w_1656 w_48 (by decide +kernel) (fun _ _ _ k => k) k
theorem bX13_go_237 {G : Gt} {d bc bs : Nat} {Q : QT} {l : Ls} {z : List Value} {h : Hp} (k : (tCS1 G d 0 0 mX13_isDigit (fun l z h => T G d bc bs mX13_go 240 l z h Q)) l z h) : T G d bc bs mX13_go 237 l z h Q := by
  exact R_cs1 (M := mX13_go) (pc := 237) (bc := bc) (bs := bs) (cb := 0) (cs := 0) (M' := mX13_isDigit) dX13_go_237 (by decide) w_1653 w_144 w_1651 w_1652 (by decide +kernel) (fun _ _ _ k => k) k
theorem bX13_go_240 {G : Gt} {d bc bs : Nat} {Q : QT} {l : Ls} {z : List Value} {h : Hp} (k : (tIf (fun x => x = 0) (fun l z h => T G d bc bs mX13_go 350 l z h Q) (fun l z h => T G d bc bs mX13_go 243 l z h Q)) l z h) : T G d bc bs mX13_go 240 l z h Q := by
  exact R_if_eq dX13_go_240 (by decide) (fun _ _ _ k => k) (fun _ _ _ k => k) k
theorem bX13_go_243 {G : Gt} {d bc bs : Nat} {Q : QT} {l : Ls} {z : List Value} {h : Hp} (k : (tAld 0 (tGetf 11 1 (tAld 0 (tGetf 11 5 (tXald 0 (tIst 4 (tIld 3 (tIf (fun x => x = 0) (fun l z h => T G d bc bs mX13_go 271 l z h Q) (fun l z h => T G d bc bs mX13_go 258 l z h Q))))))))) l z h) : T G d bc bs mX13_go 243 l z h Q := by
  refine R_aload_n dX13_go_243 rfl (fun l z h k => ?_) k
  refine R_getf (ci := 11) (f := 1) (C := RX13) (N := 49) (Tt := TX13) dX13_go_244 rfl i_X13 (by decide) w_1468 (fun l z h k => ?_) k
  refine R_aload_n dX13_go_247 rfl (fun l z h k => ?_) k
  refine R_getf (ci := 11) (f := 5) (C := RX13) (N := 49) (Tt := TX13) dX13_go_248 rfl i_X13 (by decide) w_1472 (fun l z h k => ?_) k
  refine R_iaload dX13_go_251 (fun l z h k => ?_) k
  refine R_istore dX13_go_252 (by decide) (fun l z h k => ?_) k
  refine R_iload_n dX13_go_254 rfl (fun l z h k => ?_) k
  exact R_if_eq dX13_go_255 (by decide) (fun _ _ _ k => k) (fun _ _ _ k => k) k
theorem bX13_go_258 {G : Gt} {d bc bs : Nat} {Q : QT} {l : Ls} {z : List Value} {h : Hp} (k : (tIld 4 (tCS1 G d 0 0 mX13_isLetter (fun l z h => T G d bc bs mX13_go 263 l z h Q))) l z h) : T G d bc bs mX13_go 258 l z h Q := by
  refine R_iload dX13_go_258 (fun l z h k => ?_) k
  exact R_cs1 (M := mX13_go) (pc := 260) (bc := bc) (bs := bs) (cb := 0) (cs := 0) (M' := mX13_isLetter) dX13_go_260 (by decide) w_1650 w_144 w_1648 w_1649 (by decide +kernel) (fun _ _ _ k => k) k
theorem bX13_go_263 {G : Gt} {d bc bs : Nat} {Q : QT} {l : Ls} {z : List Value} {h : Hp} (k : (tIld 2 (tIf2 (fun x y => x = y) (fun l z h => T G d bc bs mX13_go 267 l z h Q) (fun l z h => T G d bc bs mX13_go 271 l z h Q))) l z h) : T G d bc bs mX13_go 263 l z h Q := by
  refine R_iload_n dX13_go_263 rfl (fun l z h k => ?_) k
  exact R_icmp_ne dX13_go_264 (by decide) (fun _ _ _ k => k) (fun _ _ _ k => k) k
theorem bX13_go_267 {G : Gt} {d bc bs : Nat} {Q : QT} {l : Ls} {z : List Value} {h : Hp} (k : (tPush (.int 1) ((fun l z h => T G d bc bs mX13_go 272 l z h Q))) l z h) : T G d bc bs mX13_go 267 l z h Q := by
  refine R_iconst dX13_go_267 (by decide) (fun l z h k => ?_) k
  exact R_goto dX13_go_268 (by decide) (fun _ _ _ k => k) k
theorem bX13_go_271 {G : Gt} {d bc bs : Nat} {Q : QT} {l : Ls} {z : List Value} {h : Hp} (k : (tPush (.int 0) ((fun l z h => T G d bc bs mX13_go 272 l z h Q))) l z h) : T G d bc bs mX13_go 271 l z h Q := by
  refine R_iconst dX13_go_271 (by decide) (fun l z h k => ?_) k
  exact k
theorem bX13_go_272 {G : Gt} {d bc bs : Nat} {Q : QT} {l : Ls} {z : List Value} {h : Hp} (k : (tIst 3 (tAld 0 (tGetf 11 5 (tAld 0 (tGetf 11 6 (tB (fun x y => x - y) (tPush (.int 7) (tIf2 (fun x y => y ≤ x) (fun l z h => T G d bc bs mX13_go 307 l z h Q) (fun l z h => T G d bc bs mX13_go 287 l z h Q))))))))) l z h) : T G d bc bs mX13_go 272 l z h Q := by
  refine R_istore_n dX13_go_272 rfl (by decide) (fun l z h k => ?_) k
  refine R_aload_n dX13_go_273 rfl (fun l z h k => ?_) k
  refine R_getf (ci := 11) (f := 5) (C := RX13) (N := 49) (Tt := TX13) dX13_go_274 rfl i_X13 (by decide) w_1472 (fun l z h k => ?_) k
  refine R_aload_n dX13_go_277 rfl (fun l z h k => ?_) k
  refine R_getf (ci := 11) (f := 6) (C := RX13) (N := 49) (Tt := TX13) dX13_go_278 rfl i_X13 (by decide) w_1473 (fun l z h k => ?_) k
  refine R_isub dX13_go_281 (fun l z h k => ?_) k
  refine R_bipush dX13_go_282 (by decide) (fun l z h k => ?_) k
  exact R_icmp_ge dX13_go_284 (by decide) (fun _ _ _ k => k) (fun _ _ _ k => k) k
theorem bX13_go_287 {G : Gt} {d bc bs : Nat} {Q : QT} {l : Ls} {z : List Value} {h : Hp} (k : (tAld 0 (tPush (.long 27) (tAld 0 (tGetf 11 12 (tLB (fun x y => x * y) (tIld 4 (tI2l (tLB (fun x y => x + y) (tPush (.long 96) (tLB (fun x y => x - y) (tPutf isL 11 12 ((fun l z h => T G d bc bs mX13_go 307 l z h Q))))))))))))) l z h) : T G d bc bs mX13_go 287 l z h Q := by
  refine R_aload_n dX13_go_287 rfl (fun l z h k => ?_) k
  refine R_ldc2 dX13_go_288 w_1658 (fun l z h k => ?_) k
  refine R_aload_n dX13_go_291 rfl (fun l z h k => ?_) k
  refine R_getf (ci := 11) (f := 12) (C := RX13) (N := 49) (Tt := TX13) dX13_go_292 rfl i_X13 (by decide) w_1479 (fun l z h k => ?_) k
  refine R_lmul dX13_go_295 (fun l z h k => ?_) k
  refine R_iload dX13_go_296 (fun l z h k => ?_) k
  refine R_i2l dX13_go_298 (fun l z h k => ?_) k
  refine R_ladd dX13_go_299 (fun l z h k => ?_) k
  refine R_ldc2 dX13_go_300 w_1659 (fun l z h k => ?_) k
  refine R_lsub dX13_go_303 (fun l z h k => ?_) k
  refine R_putf (ci := 11) (f := 12) (C := RX13) (N := 49) (Tt := TX13) tyX13 tyX13_ok nmX13 dX13_go_304 rfl i_X13 (by decide) w_1479 rfl (tyX13_ok 12 (by decide)) p_long (fun l z h k => ?_) k
  exact k
theorem bX13_go_307 {G : Gt} {d bc bs : Nat} {Q : QT} {l : Ls} {z : List Value} {h : Hp} (k : (tAld 0 (tGetf 11 5 (tAld 0 (tGetf 11 6 (tB (fun x y => x - y) (tPush (.int 3) (tIf2 (fun x y => y ≤ x) (fun l z h => T G d bc bs mX13_go 337 l z h Q) (fun l z h => T G d bc bs mX13_go 320 l z h Q)))))))) l z h) : T G d bc bs mX13_go 307 l z h Q := by
  refine R_aload_n dX13_go_307 rfl (fun l z h k => ?_) k
  refine R_getf (ci := 11) (f := 5) (C := RX13) (N := 49) (Tt := TX13) dX13_go_308 rfl i_X13 (by decide) w_1472 (fun l z h k => ?_) k
  refine R_aload_n dX13_go_311 rfl (fun l z h k => ?_) k
  refine R_getf (ci := 11) (f := 6) (C := RX13) (N := 49) (Tt := TX13) dX13_go_312 rfl i_X13 (by decide) w_1473 (fun l z h k => ?_) k
  refine R_isub dX13_go_315 (fun l z h k => ?_) k
  refine R_iconst dX13_go_316 (by decide) (fun l z h k => ?_) k
  exact R_icmp_ge dX13_go_317 (by decide) (fun _ _ _ k => k) (fun _ _ _ k => k) k
theorem bX13_go_320 {G : Gt} {d bc bs : Nat} {Q : QT} {l : Ls} {z : List Value} {h : Hp} (k : (tAld 0 (tPush (.int 10) (tAld 0 (tGetf 11 8 (tB (fun x y => x * y) (tIld 4 (tB (fun x y => x + y) (tPush (.int 48) (tB (fun x y => x - y) (tPutf isI 11 8 ((fun l z h => T G d bc bs mX13_go 337 l z h Q)))))))))))) l z h) : T G d bc bs mX13_go 320 l z h Q := by
  refine R_aload_n dX13_go_320 rfl (fun l z h k => ?_) k
  refine R_bipush dX13_go_321 (by decide) (fun l z h k => ?_) k
  refine R_aload_n dX13_go_323 rfl (fun l z h k => ?_) k
  refine R_getf (ci := 11) (f := 8) (C := RX13) (N := 49) (Tt := TX13) dX13_go_324 rfl i_X13 (by decide) w_1475 (fun l z h k => ?_) k
  refine R_imul dX13_go_327 (fun l z h k => ?_) k
  refine R_iload dX13_go_328 (fun l z h k => ?_) k
  refine R_iadd dX13_go_330 (fun l z h k => ?_) k
  refine R_bipush dX13_go_331 (by decide) (fun l z h k => ?_) k
  refine R_isub dX13_go_333 (fun l z h k => ?_) k
  refine R_putf (ci := 11) (f := 8) (C := RX13) (N := 49) (Tt := TX13) tyX13 tyX13_ok nmX13 dX13_go_334 rfl i_X13 (by decide) w_1475 rfl (tyX13_ok 8 (by decide)) p_int (fun l z h k => ?_) k
  exact k
theorem bX13_go_337 {G : Gt} {d bc bs : Nat} {Q : QT} {l : Ls} {z : List Value} {h : Hp} (k : (tAld 0 (tDup (tGetf 11 5 (tPush (.int 1) (tB (fun x y => x + y) (tPutf isI 11 5 ((fun l z h => T G d bc bs mX13_go 215 l z h Q)))))))) l z h) : T G d bc bs mX13_go 337 l z h Q := by
  refine R_aload_n dX13_go_337 rfl (fun l z h k => ?_) k
  refine R_dup dX13_go_338 (fun l z h k => ?_) k
  refine R_getf (ci := 11) (f := 5) (C := RX13) (N := 49) (Tt := TX13) dX13_go_339 rfl i_X13 (by decide) w_1472 (fun l z h k => ?_) k
  refine R_iconst dX13_go_342 (by decide) (fun l z h k => ?_) k
  refine R_iadd dX13_go_343 (fun l z h k => ?_) k
  refine R_putf (ci := 11) (f := 5) (C := RX13) (N := 49) (Tt := TX13) tyX13 tyX13_ok nmX13 dX13_go_344 rfl i_X13 (by decide) w_1472 rfl (tyX13_ok 5 (by decide)) p_int (fun l z h k => ?_) k
  exact R_goto dX13_go_347 (by decide) (fun _ _ _ k => k) k
theorem bX13_go_350 {G : Gt} {d bc bs : Nat} {Q : QT} {l : Ls} {z : List Value} {h : Hp} (k : (tAld 0 (tIld 3 (tIf (fun x => x = 0) (fun l z h => T G d bc bs mX13_go 377 l z h Q) (fun l z h => T G d bc bs mX13_go 355 l z h Q)))) l z h) : T G d bc bs mX13_go 350 l z h Q := by
  refine R_aload_n dX13_go_350 rfl (fun l z h k => ?_) k
  refine R_iload_n dX13_go_351 rfl (fun l z h k => ?_) k
  exact R_if_eq dX13_go_352 (by decide) (fun _ _ _ k => k) (fun _ _ _ k => k) k
theorem bX13_go_355 {G : Gt} {d bc bs : Nat} {Q : QT} {l : Ls} {z : List Value} {h : Hp} (k : (tAld 0 (tGetf 11 5 (tAld 0 (tGetf 11 6 (tB (fun x y => x - y) (tIld 2 (tIf (fun x => x = 0) (fun l z h => T G d bc bs mX13_go 373 l z h Q) (fun l z h => T G d bc bs mX13_go 368 l z h Q)))))))) l z h) : T G d bc bs mX13_go 355 l z h Q := by
  refine R_aload_n dX13_go_355 rfl (fun l z h k => ?_) k
  refine R_getf (ci := 11) (f := 5) (C := RX13) (N := 49) (Tt := TX13) dX13_go_356 rfl i_X13 (by decide) w_1472 (fun l z h k => ?_) k
  refine R_aload_n dX13_go_359 rfl (fun l z h k => ?_) k
  refine R_getf (ci := 11) (f := 6) (C := RX13) (N := 49) (Tt := TX13) dX13_go_360 rfl i_X13 (by decide) w_1473 (fun l z h k => ?_) k
  refine R_isub dX13_go_363 (fun l z h k => ?_) k
  refine R_iload_n dX13_go_364 rfl (fun l z h k => ?_) k
  exact R_if_eq dX13_go_365 (by decide) (fun _ _ _ k => k) (fun _ _ _ k => k) k
theorem bX13_go_368 {G : Gt} {d bc bs : Nat} {Q : QT} {l : Ls} {z : List Value} {h : Hp} (k : (tPush (.int 7) ((fun l z h => T G d bc bs mX13_go 374 l z h Q))) l z h) : T G d bc bs mX13_go 368 l z h Q := by
  refine R_bipush dX13_go_368 (by decide) (fun l z h k => ?_) k
  exact R_goto dX13_go_370 (by decide) (fun _ _ _ k => k) k
theorem bX13_go_373 {G : Gt} {d bc bs : Nat} {Q : QT} {l : Ls} {z : List Value} {h : Hp} (k : (tPush (.int 3) ((fun l z h => T G d bc bs mX13_go 374 l z h Q))) l z h) : T G d bc bs mX13_go 373 l z h Q := by
  refine R_iconst dX13_go_373 (by decide) (fun l z h k => ?_) k
  exact k
theorem bX13_go_374 {G : Gt} {d bc bs : Nat} {Q : QT} {l : Ls} {z : List Value} {h : Hp} (k : (tIf2 (fun x y => x ≤ y) (fun l z h => T G d bc bs mX13_go 381 l z h Q) (fun l z h => T G d bc bs mX13_go 377 l z h Q)) l z h) : T G d bc bs mX13_go 374 l z h Q := by
  exact R_icmp_le dX13_go_374 (by decide) (fun _ _ _ k => k) (fun _ _ _ k => k) k
theorem bX13_go_377 {G : Gt} {d bc bs : Nat} {Q : QT} {l : Ls} {z : List Value} {h : Hp} (k : (tPush (.int 1) ((fun l z h => T G d bc bs mX13_go 390 l z h Q))) l z h) : T G d bc bs mX13_go 377 l z h Q := by
  refine R_iconst dX13_go_377 (by decide) (fun l z h k => ?_) k
  exact R_goto dX13_go_378 (by decide) (fun _ _ _ k => k) k
theorem bX13_go_381 {G : Gt} {d bc bs : Nat} {Q : QT} {l : Ls} {z : List Value} {h : Hp} (k : (tIld 2 (tIf (fun x => x = 0) (fun l z h => T G d bc bs mX13_go 389 l z h Q) (fun l z h => T G d bc bs mX13_go 385 l z h Q))) l z h) : T G d bc bs mX13_go 381 l z h Q := by
  refine R_iload_n dX13_go_381 rfl (fun l z h k => ?_) k
  exact R_if_eq dX13_go_382 (by decide) (fun _ _ _ k => k) (fun _ _ _ k => k) k
theorem bX13_go_385 {G : Gt} {d bc bs : Nat} {Q : QT} {l : Ls} {z : List Value} {h : Hp} (k : (tPush (.int 2) ((fun l z h => T G d bc bs mX13_go 390 l z h Q))) l z h) : T G d bc bs mX13_go 385 l z h Q := by
  refine R_iconst dX13_go_385 (by decide) (fun l z h k => ?_) k
  exact R_goto dX13_go_386 (by decide) (fun _ _ _ k => k) k
theorem bX13_go_389 {G : Gt} {d bc bs : Nat} {Q : QT} {l : Ls} {z : List Value} {h : Hp} (k : (tPush (.int 3) ((fun l z h => T G d bc bs mX13_go 390 l z h Q))) l z h) : T G d bc bs mX13_go 389 l z h Q := by
  refine R_iconst dX13_go_389 (by decide) (fun l z h k => ?_) k
  exact k
theorem bX13_go_390 {G : Gt} {d bc bs : Nat} {Q : QT} {l : Ls} {z : List Value} {h : Hp} (k : (tPutf isI 11 7 (tRetV Q)) l z h) : T G d bc bs mX13_go 390 l z h Q := by
  refine R_putf (ci := 11) (f := 7) (C := RX13) (N := 49) (Tt := TX13) tyX13 tyX13_ok nmX13 dX13_go_390 rfl i_X13 (by decide) w_1474 rfl (tyX13_ok 7 (by decide)) p_int (fun l z h k => ?_) k
  exact R_vret dX13_go_393 rfl k
theorem dX13_spelt_0 : decode cX13_spelt 0 = .ok (.ldc2_w 131, 3) := by decide +kernel
theorem dX13_spelt_3 : decode cX13_spelt 3 = .ok (.iload_n 0, 1) := by decide +kernel
theorem dX13_spelt_4 : decode cX13_spelt 4 = .ok (.i2l, 1) := by decide +kernel
theorem dX13_spelt_5 : decode cX13_spelt 5 = .ok (.ldc2_w 133, 3) := by decide +kernel
theorem dX13_spelt_8 : decode cX13_spelt 8 = .ok (.lsub, 1) := by decide +kernel
theorem dX13_spelt_9 : decode cX13_spelt 9 = .ok (.lmul, 1) := by decide +kernel
theorem dX13_spelt_10 : decode cX13_spelt 10 = .ok (.iload_n 1, 1) := by decide +kernel
theorem dX13_spelt_11 : decode cX13_spelt 11 = .ok (.i2l, 1) := by decide +kernel
theorem dX13_spelt_12 : decode cX13_spelt 12 = .ok (.ladd, 1) := by decide +kernel
theorem dX13_spelt_13 : decode cX13_spelt 13 = .ok (.ldc2_w 133, 3) := by decide +kernel
theorem dX13_spelt_16 : decode cX13_spelt 16 = .ok (.lsub, 1) := by decide +kernel
theorem dX13_spelt_17 : decode cX13_spelt 17 = .ok (.lstore 7, 2) := by decide +kernel
theorem dX13_spelt_19 : decode cX13_spelt 19 = .ok (.iload_n 2, 1) := by decide +kernel
theorem dX13_spelt_20 : decode cX13_spelt 20 = .ok (.ifCond .le 18, 3) := by decide +kernel
theorem dX13_spelt_23 : decode cX13_spelt 23 = .ok (.ldc2_w 131, 3) := by decide +kernel
theorem dX13_spelt_26 : decode cX13_spelt 26 = .ok (.lload 7, 2) := by decide +kernel
theorem dX13_spelt_28 : decode cX13_spelt 28 = .ok (.lmul, 1) := by decide +kernel
theorem dX13_spelt_29 : decode cX13_spelt 29 = .ok (.iload_n 2, 1) := by decide +kernel
theorem dX13_spelt_30 : decode cX13_spelt 30 = .ok (.i2l, 1) := by decide +kernel
theorem dX13_spelt_31 : decode cX13_spelt 31 = .ok (.ladd, 1) := by decide +kernel
theorem dX13_spelt_32 : decode cX13_spelt 32 = .ok (.ldc2_w 133, 3) := by decide +kernel
theorem dX13_spelt_35 : decode cX13_spelt 35 = .ok (.lsub, 1) := by decide +kernel
theorem dX13_spelt_36 : decode cX13_spelt 36 = .ok (.lstore 7, 2) := by decide +kernel
theorem dX13_spelt_38 : decode cX13_spelt 38 = .ok (.iload_n 3, 1) := by decide +kernel
theorem dX13_spelt_39 : decode cX13_spelt 39 = .ok (.ifCond .le 18, 3) := by decide +kernel
theorem dX13_spelt_42 : decode cX13_spelt 42 = .ok (.ldc2_w 131, 3) := by decide +kernel
theorem dX13_spelt_45 : decode cX13_spelt 45 = .ok (.lload 7, 2) := by decide +kernel
theorem dX13_spelt_47 : decode cX13_spelt 47 = .ok (.lmul, 1) := by decide +kernel
theorem dX13_spelt_48 : decode cX13_spelt 48 = .ok (.iload_n 3, 1) := by decide +kernel
theorem dX13_spelt_49 : decode cX13_spelt 49 = .ok (.i2l, 1) := by decide +kernel
theorem dX13_spelt_50 : decode cX13_spelt 50 = .ok (.ladd, 1) := by decide +kernel
theorem dX13_spelt_51 : decode cX13_spelt 51 = .ok (.ldc2_w 133, 3) := by decide +kernel
theorem dX13_spelt_54 : decode cX13_spelt 54 = .ok (.lsub, 1) := by decide +kernel
theorem dX13_spelt_55 : decode cX13_spelt 55 = .ok (.lstore 7, 2) := by decide +kernel
theorem dX13_spelt_57 : decode cX13_spelt 57 = .ok (.iload 4, 2) := by decide +kernel
theorem dX13_spelt_59 : decode cX13_spelt 59 = .ok (.ifCond .le 19, 3) := by decide +kernel
theorem dX13_spelt_62 : decode cX13_spelt 62 = .ok (.ldc2_w 131, 3) := by decide +kernel
theorem dX13_spelt_65 : decode cX13_spelt 65 = .ok (.lload 7, 2) := by decide +kernel
theorem dX13_spelt_67 : decode cX13_spelt 67 = .ok (.lmul, 1) := by decide +kernel
theorem dX13_spelt_68 : decode cX13_spelt 68 = .ok (.iload 4, 2) := by decide +kernel
theorem dX13_spelt_70 : decode cX13_spelt 70 = .ok (.i2l, 1) := by decide +kernel
theorem dX13_spelt_71 : decode cX13_spelt 71 = .ok (.ladd, 1) := by decide +kernel
theorem dX13_spelt_72 : decode cX13_spelt 72 = .ok (.ldc2_w 133, 3) := by decide +kernel
theorem dX13_spelt_75 : decode cX13_spelt 75 = .ok (.lsub, 1) := by decide +kernel
theorem dX13_spelt_76 : decode cX13_spelt 76 = .ok (.lstore 7, 2) := by decide +kernel
theorem dX13_spelt_78 : decode cX13_spelt 78 = .ok (.iload 5, 2) := by decide +kernel
theorem dX13_spelt_80 : decode cX13_spelt 80 = .ok (.ifCond .le 19, 3) := by decide +kernel
theorem dX13_spelt_83 : decode cX13_spelt 83 = .ok (.ldc2_w 131, 3) := by decide +kernel
theorem dX13_spelt_86 : decode cX13_spelt 86 = .ok (.lload 7, 2) := by decide +kernel
theorem dX13_spelt_88 : decode cX13_spelt 88 = .ok (.lmul, 1) := by decide +kernel
theorem dX13_spelt_89 : decode cX13_spelt 89 = .ok (.iload 5, 2) := by decide +kernel
theorem dX13_spelt_91 : decode cX13_spelt 91 = .ok (.i2l, 1) := by decide +kernel
theorem dX13_spelt_92 : decode cX13_spelt 92 = .ok (.ladd, 1) := by decide +kernel
theorem dX13_spelt_93 : decode cX13_spelt 93 = .ok (.ldc2_w 133, 3) := by decide +kernel
theorem dX13_spelt_96 : decode cX13_spelt 96 = .ok (.lsub, 1) := by decide +kernel
theorem dX13_spelt_97 : decode cX13_spelt 97 = .ok (.lstore 7, 2) := by decide +kernel
theorem dX13_spelt_99 : decode cX13_spelt 99 = .ok (.iload 6, 2) := by decide +kernel
theorem dX13_spelt_101 : decode cX13_spelt 101 = .ok (.ifCond .le 19, 3) := by decide +kernel
theorem dX13_spelt_104 : decode cX13_spelt 104 = .ok (.ldc2_w 131, 3) := by decide +kernel
theorem dX13_spelt_107 : decode cX13_spelt 107 = .ok (.lload 7, 2) := by decide +kernel
theorem dX13_spelt_109 : decode cX13_spelt 109 = .ok (.lmul, 1) := by decide +kernel
theorem dX13_spelt_110 : decode cX13_spelt 110 = .ok (.iload 6, 2) := by decide +kernel
theorem dX13_spelt_112 : decode cX13_spelt 112 = .ok (.i2l, 1) := by decide +kernel
theorem dX13_spelt_113 : decode cX13_spelt 113 = .ok (.ladd, 1) := by decide +kernel
theorem dX13_spelt_114 : decode cX13_spelt 114 = .ok (.ldc2_w 133, 3) := by decide +kernel
theorem dX13_spelt_117 : decode cX13_spelt 117 = .ok (.lsub, 1) := by decide +kernel
theorem dX13_spelt_118 : decode cX13_spelt 118 = .ok (.lstore 7, 2) := by decide +kernel
theorem dX13_spelt_120 : decode cX13_spelt 120 = .ok (.lload 7, 2) := by decide +kernel
theorem dX13_spelt_122 : decode cX13_spelt 122 = .ok (.lreturn, 1) := by decide +kernel
theorem bX13_spelt_0 {G : Gt} {d bc bs : Nat} {Q : QT} {l : Ls} {z : List Value} {h : Hp} (k : (tPush (.long 27) (tIld 0 (tI2l (tPush (.long 96) (tLB (fun x y => x - y) (tLB (fun x y => x * y) (tIld 1 (tI2l (tLB (fun x y => x + y) (tPush (.long 96) (tLB (fun x y => x - y) (tLst 7 (tIld 2 (tIf (fun x => x ≤ 0) (fun l z h => T G d bc bs mX13_spelt 38 l z h Q) (fun l z h => T G d bc bs mX13_spelt 23 l z h Q))))))))))))))) l z h) : T G d bc bs mX13_spelt 0 l z h Q := by
  refine R_ldc2 dX13_spelt_0 w_1658 (fun l z h k => ?_) k
  refine R_iload_n dX13_spelt_3 rfl (fun l z h k => ?_) k
  refine R_i2l dX13_spelt_4 (fun l z h k => ?_) k
  refine R_ldc2 dX13_spelt_5 w_1659 (fun l z h k => ?_) k
  refine R_lsub dX13_spelt_8 (fun l z h k => ?_) k
  refine R_lmul dX13_spelt_9 (fun l z h k => ?_) k
  refine R_iload_n dX13_spelt_10 rfl (fun l z h k => ?_) k
  refine R_i2l dX13_spelt_11 (fun l z h k => ?_) k
  refine R_ladd dX13_spelt_12 (fun l z h k => ?_) k
  refine R_ldc2 dX13_spelt_13 w_1659 (fun l z h k => ?_) k
  refine R_lsub dX13_spelt_16 (fun l z h k => ?_) k
  refine R_lstore dX13_spelt_17 (by decide) (fun l z h k => ?_) k
  refine R_iload_n dX13_spelt_19 rfl (fun l z h k => ?_) k
  exact R_if_le dX13_spelt_20 (by decide) (fun _ _ _ k => k) (fun _ _ _ k => k) k
theorem bX13_spelt_23 {G : Gt} {d bc bs : Nat} {Q : QT} {l : Ls} {z : List Value} {h : Hp} (k : (tPush (.long 27) (tLld 7 (tLB (fun x y => x * y) (tIld 2 (tI2l (tLB (fun x y => x + y) (tPush (.long 96) (tLB (fun x y => x - y) (tLst 7 ((fun l z h => T G d bc bs mX13_spelt 38 l z h Q))))))))))) l z h) : T G d bc bs mX13_spelt 23 l z h Q := by
  refine R_ldc2 dX13_spelt_23 w_1658 (fun l z h k => ?_) k
  refine R_lload dX13_spelt_26 (fun l z h k => ?_) k
  refine R_lmul dX13_spelt_28 (fun l z h k => ?_) k
  refine R_iload_n dX13_spelt_29 rfl (fun l z h k => ?_) k
  refine R_i2l dX13_spelt_30 (fun l z h k => ?_) k
  refine R_ladd dX13_spelt_31 (fun l z h k => ?_) k
  refine R_ldc2 dX13_spelt_32 w_1659 (fun l z h k => ?_) k
  refine R_lsub dX13_spelt_35 (fun l z h k => ?_) k
  refine R_lstore dX13_spelt_36 (by decide) (fun l z h k => ?_) k
  exact k
theorem bX13_spelt_38 {G : Gt} {d bc bs : Nat} {Q : QT} {l : Ls} {z : List Value} {h : Hp} (k : (tIld 3 (tIf (fun x => x ≤ 0) (fun l z h => T G d bc bs mX13_spelt 57 l z h Q) (fun l z h => T G d bc bs mX13_spelt 42 l z h Q))) l z h) : T G d bc bs mX13_spelt 38 l z h Q := by
  refine R_iload_n dX13_spelt_38 rfl (fun l z h k => ?_) k
  exact R_if_le dX13_spelt_39 (by decide) (fun _ _ _ k => k) (fun _ _ _ k => k) k
theorem bX13_spelt_42 {G : Gt} {d bc bs : Nat} {Q : QT} {l : Ls} {z : List Value} {h : Hp} (k : (tPush (.long 27) (tLld 7 (tLB (fun x y => x * y) (tIld 3 (tI2l (tLB (fun x y => x + y) (tPush (.long 96) (tLB (fun x y => x - y) (tLst 7 ((fun l z h => T G d bc bs mX13_spelt 57 l z h Q))))))))))) l z h) : T G d bc bs mX13_spelt 42 l z h Q := by
  refine R_ldc2 dX13_spelt_42 w_1658 (fun l z h k => ?_) k
  refine R_lload dX13_spelt_45 (fun l z h k => ?_) k
  refine R_lmul dX13_spelt_47 (fun l z h k => ?_) k
  refine R_iload_n dX13_spelt_48 rfl (fun l z h k => ?_) k
  refine R_i2l dX13_spelt_49 (fun l z h k => ?_) k
  refine R_ladd dX13_spelt_50 (fun l z h k => ?_) k
  refine R_ldc2 dX13_spelt_51 w_1659 (fun l z h k => ?_) k
  refine R_lsub dX13_spelt_54 (fun l z h k => ?_) k
  refine R_lstore dX13_spelt_55 (by decide) (fun l z h k => ?_) k
  exact k
theorem bX13_spelt_57 {G : Gt} {d bc bs : Nat} {Q : QT} {l : Ls} {z : List Value} {h : Hp} (k : (tIld 4 (tIf (fun x => x ≤ 0) (fun l z h => T G d bc bs mX13_spelt 78 l z h Q) (fun l z h => T G d bc bs mX13_spelt 62 l z h Q))) l z h) : T G d bc bs mX13_spelt 57 l z h Q := by
  refine R_iload dX13_spelt_57 (fun l z h k => ?_) k
  exact R_if_le dX13_spelt_59 (by decide) (fun _ _ _ k => k) (fun _ _ _ k => k) k
theorem bX13_spelt_62 {G : Gt} {d bc bs : Nat} {Q : QT} {l : Ls} {z : List Value} {h : Hp} (k : (tPush (.long 27) (tLld 7 (tLB (fun x y => x * y) (tIld 4 (tI2l (tLB (fun x y => x + y) (tPush (.long 96) (tLB (fun x y => x - y) (tLst 7 ((fun l z h => T G d bc bs mX13_spelt 78 l z h Q))))))))))) l z h) : T G d bc bs mX13_spelt 62 l z h Q := by
  refine R_ldc2 dX13_spelt_62 w_1658 (fun l z h k => ?_) k
  refine R_lload dX13_spelt_65 (fun l z h k => ?_) k
  refine R_lmul dX13_spelt_67 (fun l z h k => ?_) k
  refine R_iload dX13_spelt_68 (fun l z h k => ?_) k
  refine R_i2l dX13_spelt_70 (fun l z h k => ?_) k
  refine R_ladd dX13_spelt_71 (fun l z h k => ?_) k
  refine R_ldc2 dX13_spelt_72 w_1659 (fun l z h k => ?_) k
  refine R_lsub dX13_spelt_75 (fun l z h k => ?_) k
  refine R_lstore dX13_spelt_76 (by decide) (fun l z h k => ?_) k
  exact k
theorem bX13_spelt_78 {G : Gt} {d bc bs : Nat} {Q : QT} {l : Ls} {z : List Value} {h : Hp} (k : (tIld 5 (tIf (fun x => x ≤ 0) (fun l z h => T G d bc bs mX13_spelt 99 l z h Q) (fun l z h => T G d bc bs mX13_spelt 83 l z h Q))) l z h) : T G d bc bs mX13_spelt 78 l z h Q := by
  refine R_iload dX13_spelt_78 (fun l z h k => ?_) k
  exact R_if_le dX13_spelt_80 (by decide) (fun _ _ _ k => k) (fun _ _ _ k => k) k
theorem bX13_spelt_83 {G : Gt} {d bc bs : Nat} {Q : QT} {l : Ls} {z : List Value} {h : Hp} (k : (tPush (.long 27) (tLld 7 (tLB (fun x y => x * y) (tIld 5 (tI2l (tLB (fun x y => x + y) (tPush (.long 96) (tLB (fun x y => x - y) (tLst 7 ((fun l z h => T G d bc bs mX13_spelt 99 l z h Q))))))))))) l z h) : T G d bc bs mX13_spelt 83 l z h Q := by
  refine R_ldc2 dX13_spelt_83 w_1658 (fun l z h k => ?_) k
  refine R_lload dX13_spelt_86 (fun l z h k => ?_) k
  refine R_lmul dX13_spelt_88 (fun l z h k => ?_) k
  refine R_iload dX13_spelt_89 (fun l z h k => ?_) k
  refine R_i2l dX13_spelt_91 (fun l z h k => ?_) k
  refine R_ladd dX13_spelt_92 (fun l z h k => ?_) k
  refine R_ldc2 dX13_spelt_93 w_1659 (fun l z h k => ?_) k
  refine R_lsub dX13_spelt_96 (fun l z h k => ?_) k
  refine R_lstore dX13_spelt_97 (by decide) (fun l z h k => ?_) k
  exact k
theorem bX13_spelt_99 {G : Gt} {d bc bs : Nat} {Q : QT} {l : Ls} {z : List Value} {h : Hp} (k : (tIld 6 (tIf (fun x => x ≤ 0) (fun l z h => T G d bc bs mX13_spelt 120 l z h Q) (fun l z h => T G d bc bs mX13_spelt 104 l z h Q))) l z h) : T G d bc bs mX13_spelt 99 l z h Q := by
  refine R_iload dX13_spelt_99 (fun l z h k => ?_) k
  exact R_if_le dX13_spelt_101 (by decide) (fun _ _ _ k => k) (fun _ _ _ k => k) k
theorem bX13_spelt_104 {G : Gt} {d bc bs : Nat} {Q : QT} {l : Ls} {z : List Value} {h : Hp} (k : (tPush (.long 27) (tLld 7 (tLB (fun x y => x * y) (tIld 6 (tI2l (tLB (fun x y => x + y) (tPush (.long 96) (tLB (fun x y => x - y) (tLst 7 ((fun l z h => T G d bc bs mX13_spelt 120 l z h Q))))))))))) l z h) : T G d bc bs mX13_spelt 104 l z h Q := by
  refine R_ldc2 dX13_spelt_104 w_1658 (fun l z h k => ?_) k
  refine R_lload dX13_spelt_107 (fun l z h k => ?_) k
  refine R_lmul dX13_spelt_109 (fun l z h k => ?_) k
  refine R_iload dX13_spelt_110 (fun l z h k => ?_) k
  refine R_i2l dX13_spelt_112 (fun l z h k => ?_) k
  refine R_ladd dX13_spelt_113 (fun l z h k => ?_) k
  refine R_ldc2 dX13_spelt_114 w_1659 (fun l z h k => ?_) k
  refine R_lsub dX13_spelt_117 (fun l z h k => ?_) k
  refine R_lstore dX13_spelt_118 (by decide) (fun l z h k => ?_) k
  exact k
theorem bX13_spelt_120 {G : Gt} {d bc bs : Nat} {Q : QT} {l : Ls} {z : List Value} {h : Hp} (k : (tLld 7 (tRetL Q)) l z h) : T G d bc bs mX13_spelt 120 l z h Q := by
  refine R_lload dX13_spelt_120 (fun l z h k => ?_) k
  exact R_lret dX13_spelt_122 rfl k
theorem dX13_wordOf_0 : decode cX13_wordOf 0 = .ok (.iload_n 0, 1) := by decide +kernel
theorem dX13_wordOf_1 : decode cX13_wordOf 1 = .ok (.tableswitch 458 0 22 #[107, 123, 140, 154, 169, 185, 200, 216, 232, 249, 263, 277, 290, 304, 318, 333, 350, 364, 378, 393, 409, 423, 440], 107) := by decide +kernel
theorem dX13_wordOf_108 : decode cX13_wordOf 108 = .ok (.bipush 116, 2) := by decide +kernel
theorem dX13_wordOf_110 : decode cX13_wordOf 110 = .ok (.bipush 104, 2) := by decide +kernel
theorem dX13_wordOf_112 : decode cX13_wordOf 112 = .ok (.bipush 105, 2) := by decide +kernel
theorem dX13_wordOf_114 : decode cX13_wordOf 114 = .ok (.bipush 110, 2) := by decide +kernel
theorem dX13_wordOf_116 : decode cX13_wordOf 116 = .ok (.bipush 103, 2) := by decide +kernel
theorem dX13_wordOf_118 : decode cX13_wordOf 118 = .ok (.iconst 0, 1) := by decide +kernel
theorem dX13_wordOf_119 : decode cX13_wordOf 119 = .ok (.iconst 0, 1) := by decide +kernel
theorem dX13_wordOf_120 : decode cX13_wordOf 120 = .ok (.invokestatic 135, 3) := by decide +kernel
theorem dX13_wordOf_123 : decode cX13_wordOf 123 = .ok (.lreturn, 1) := by decide +kernel
theorem dX13_wordOf_124 : decode cX13_wordOf 124 = .ok (.bipush 112, 2) := by decide +kernel
theorem dX13_wordOf_126 : decode cX13_wordOf 126 = .ok (.bipush 101, 2) := by decide +kernel
theorem dX13_wordOf_128 : decode cX13_wordOf 128 = .ok (.bipush 114, 2) := by decide +kernel
theorem dX13_wordOf_130 : decode cX13_wordOf 130 = .ok (.bipush 115, 2) := by decide +kernel
theorem dX13_wordOf_132 : decode cX13_wordOf 132 = .ok (.bipush 111, 2) := by decide +kernel
theorem dX13_wordOf_134 : decode cX13_wordOf 134 = .ok (.bipush 110, 2) := by decide +kernel
theorem dX13_wordOf_136 : decode cX13_wordOf 136 = .ok (.iconst 0, 1) := by decide +kernel
theorem dX13_wordOf_137 : decode cX13_wordOf 137 = .ok (.invokestatic 135, 3) := by decide +kernel
theorem dX13_wordOf_140 : decode cX13_wordOf 140 = .ok (.lreturn, 1) := by decide +kernel
theorem dX13_wordOf_141 : decode cX13_wordOf 141 = .ok (.bipush 104, 2) := by decide +kernel
theorem dX13_wordOf_143 : decode cX13_wordOf 143 = .ok (.bipush 97, 2) := by decide +kernel
theorem dX13_wordOf_145 : decode cX13_wordOf 145 = .ok (.bipush 115, 2) := by decide +kernel
theorem dX13_wordOf_147 : decode cX13_wordOf 147 = .ok (.iconst 0, 1) := by decide +kernel
theorem dX13_wordOf_148 : decode cX13_wordOf 148 = .ok (.iconst 0, 1) := by decide +kernel
theorem dX13_wordOf_149 : decode cX13_wordOf 149 = .ok (.iconst 0, 1) := by decide +kernel
theorem dX13_wordOf_150 : decode cX13_wordOf 150 = .ok (.iconst 0, 1) := by decide +kernel
theorem dX13_wordOf_151 : decode cX13_wordOf 151 = .ok (.invokestatic 135, 3) := by decide +kernel
theorem dX13_wordOf_154 : decode cX13_wordOf 154 = .ok (.lreturn, 1) := by decide +kernel
theorem dX13_wordOf_155 : decode cX13_wordOf 155 = .ok (.bipush 97, 2) := by decide +kernel
theorem dX13_wordOf_157 : decode cX13_wordOf 157 = .ok (.bipush 115, 2) := by decide +kernel
theorem dX13_wordOf_159 : decode cX13_wordOf 159 = .ok (.bipush 107, 2) := by decide +kernel
theorem dX13_wordOf_161 : decode cX13_wordOf 161 = .ok (.bipush 115, 2) := by decide +kernel
theorem dX13_wordOf_163 : decode cX13_wordOf 163 = .ok (.iconst 0, 1) := by decide +kernel
theorem dX13_wordOf_164 : decode cX13_wordOf 164 = .ok (.iconst 0, 1) := by decide +kernel
theorem dX13_wordOf_165 : decode cX13_wordOf 165 = .ok (.iconst 0, 1) := by decide +kernel
theorem dX13_wordOf_166 : decode cX13_wordOf 166 = .ok (.invokestatic 135, 3) := by decide +kernel
theorem dX13_wordOf_169 : decode cX13_wordOf 169 = .ok (.lreturn, 1) := by decide +kernel
theorem dX13_wordOf_170 : decode cX13_wordOf 170 = .ok (.bipush 109, 2) := by decide +kernel
theorem dX13_wordOf_172 : decode cX13_wordOf 172 = .ok (.bipush 101, 2) := by decide +kernel
theorem dX13_wordOf_174 : decode cX13_wordOf 174 = .ok (.bipush 101, 2) := by decide +kernel
theorem dX13_wordOf_176 : decode cX13_wordOf 176 = .ok (.bipush 116, 2) := by decide +kernel
theorem dX13_wordOf_178 : decode cX13_wordOf 178 = .ok (.bipush 115, 2) := by decide +kernel
theorem dX13_wordOf_180 : decode cX13_wordOf 180 = .ok (.iconst 0, 1) := by decide +kernel
theorem dX13_wordOf_181 : decode cX13_wordOf 181 = .ok (.iconst 0, 1) := by decide +kernel
theorem dX13_wordOf_182 : decode cX13_wordOf 182 = .ok (.invokestatic 135, 3) := by decide +kernel
theorem dX13_wordOf_185 : decode cX13_wordOf 185 = .ok (.lreturn, 1) := by decide +kernel
theorem dX13_wordOf_186 : decode cX13_wordOf 186 = .ok (.bipush 103, 2) := by decide +kernel
theorem dX13_wordOf_188 : decode cX13_wordOf 188 = .ok (.bipush 111, 2) := by decide +kernel
theorem dX13_wordOf_190 : decode cX13_wordOf 190 = .ok (.bipush 101, 2) := by decide +kernel
theorem dX13_wordOf_192 : decode cX13_wordOf 192 = .ok (.bipush 115, 2) := by decide +kernel
theorem dX13_wordOf_194 : decode cX13_wordOf 194 = .ok (.iconst 0, 1) := by decide +kernel
theorem dX13_wordOf_195 : decode cX13_wordOf 195 = .ok (.iconst 0, 1) := by decide +kernel
theorem dX13_wordOf_196 : decode cX13_wordOf 196 = .ok (.iconst 0, 1) := by decide +kernel
theorem dX13_wordOf_197 : decode cX13_wordOf 197 = .ok (.invokestatic 135, 3) := by decide +kernel
theorem dX13_wordOf_200 : decode cX13_wordOf 200 = .ok (.lreturn, 1) := by decide +kernel
theorem dX13_wordOf_201 : decode cX13_wordOf 201 = .ok (.bipush 106, 2) := by decide +kernel
theorem dX13_wordOf_203 : decode cX13_wordOf 203 = .ok (.bipush 111, 2) := by decide +kernel
theorem dX13_wordOf_205 : decode cX13_wordOf 205 = .ok (.bipush 105, 2) := by decide +kernel
theorem dX13_wordOf_207 : decode cX13_wordOf 207 = .ok (.bipush 110, 2) := by decide +kernel
theorem dX13_wordOf_209 : decode cX13_wordOf 209 = .ok (.bipush 115, 2) := by decide +kernel
theorem dX13_wordOf_211 : decode cX13_wordOf 211 = .ok (.iconst 0, 1) := by decide +kernel
theorem dX13_wordOf_212 : decode cX13_wordOf 212 = .ok (.iconst 0, 1) := by decide +kernel
theorem dX13_wordOf_213 : decode cX13_wordOf 213 = .ok (.invokestatic 135, 3) := by decide +kernel
theorem dX13_wordOf_216 : decode cX13_wordOf 216 = .ok (.lreturn, 1) := by decide +kernel
theorem dX13_wordOf_217 : decode cX13_wordOf 217 = .ok (.bipush 112, 2) := by decide +kernel
theorem dX13_wordOf_219 : decode cX13_wordOf 219 = .ok (.bipush 97, 2) := by decide +kernel
theorem dX13_wordOf_221 : decode cX13_wordOf 221 = .ok (.bipush 114, 2) := by decide +kernel
theorem dX13_wordOf_223 : decode cX13_wordOf 223 = .ok (.bipush 116, 2) := by decide +kernel
theorem dX13_wordOf_225 : decode cX13_wordOf 225 = .ok (.bipush 115, 2) := by decide +kernel
theorem dX13_wordOf_227 : decode cX13_wordOf 227 = .ok (.iconst 0, 1) := by decide +kernel
theorem dX13_wordOf_228 : decode cX13_wordOf 228 = .ok (.iconst 0, 1) := by decide +kernel
theorem dX13_wordOf_229 : decode cX13_wordOf 229 = .ok (.invokestatic 135, 3) := by decide +kernel
theorem dX13_wordOf_232 : decode cX13_wordOf 232 = .ok (.lreturn, 1) := by decide +kernel
theorem dX13_wordOf_233 : decode cX13_wordOf 233 = .ok (.bipush 116, 2) := by decide +kernel
theorem dX13_wordOf_235 : decode cX13_wordOf 235 = .ok (.bipush 114, 2) := by decide +kernel
theorem dX13_wordOf_237 : decode cX13_wordOf 237 = .ok (.bipush 97, 2) := by decide +kernel
theorem dX13_wordOf_239 : decode cX13_wordOf 239 = .ok (.bipush 100, 2) := by decide +kernel
theorem dX13_wordOf_241 : decode cX13_wordOf 241 = .ok (.bipush 101, 2) := by decide +kernel
theorem dX13_wordOf_243 : decode cX13_wordOf 243 = .ok (.bipush 115, 2) := by decide +kernel
theorem dX13_wordOf_245 : decode cX13_wordOf 245 = .ok (.iconst 0, 1) := by decide +kernel
theorem dX13_wordOf_246 : decode cX13_wordOf 246 = .ok (.invokestatic 135, 3) := by decide +kernel
theorem dX13_wordOf_249 : decode cX13_wordOf 249 = .ok (.lreturn, 1) := by decide +kernel
theorem dX13_wordOf_250 : decode cX13_wordOf 250 = .ok (.bipush 97, 2) := by decide +kernel
theorem dX13_wordOf_252 : decode cX13_wordOf 252 = .ok (.bipush 115, 2) := by decide +kernel
theorem dX13_wordOf_254 : decode cX13_wordOf 254 = .ok (.bipush 107, 2) := by decide +kernel
theorem dX13_wordOf_256 : decode cX13_wordOf 256 = .ok (.iconst 0, 1) := by decide +kernel
theorem dX13_wordOf_257 : decode cX13_wordOf 257 = .ok (.iconst 0, 1) := by decide +kernel
theorem dX13_wordOf_258 : decode cX13_wordOf 258 = .ok (.iconst 0, 1) := by decide +kernel
theorem dX13_wordOf_259 : decode cX13_wordOf 259 = .ok (.iconst 0, 1) := by decide +kernel
theorem dX13_wordOf_260 : decode cX13_wordOf 260 = .ok (.invokestatic 135, 3) := by decide +kernel
theorem dX13_wordOf_263 : decode cX13_wordOf 263 = .ok (.lreturn, 1) := by decide +kernel
theorem dX13_wordOf_264 : decode cX13_wordOf 264 = .ok (.bipush 100, 2) := by decide +kernel
theorem dX13_wordOf_266 : decode cX13_wordOf 266 = .ok (.bipush 97, 2) := by decide +kernel
theorem dX13_wordOf_268 : decode cX13_wordOf 268 = .ok (.bipush 121, 2) := by decide +kernel
theorem dX13_wordOf_270 : decode cX13_wordOf 270 = .ok (.iconst 0, 1) := by decide +kernel
theorem dX13_wordOf_271 : decode cX13_wordOf 271 = .ok (.iconst 0, 1) := by decide +kernel
theorem dX13_wordOf_272 : decode cX13_wordOf 272 = .ok (.iconst 0, 1) := by decide +kernel
theorem dX13_wordOf_273 : decode cX13_wordOf 273 = .ok (.iconst 0, 1) := by decide +kernel
theorem dX13_wordOf_274 : decode cX13_wordOf 274 = .ok (.invokestatic 135, 3) := by decide +kernel
theorem dX13_wordOf_277 : decode cX13_wordOf 277 = .ok (.lreturn, 1) := by decide +kernel
theorem dX13_wordOf_278 : decode cX13_wordOf 278 = .ok (.bipush 111, 2) := by decide +kernel
theorem dX13_wordOf_280 : decode cX13_wordOf 280 = .ok (.bipush 114, 2) := by decide +kernel
theorem dX13_wordOf_282 : decode cX13_wordOf 282 = .ok (.iconst 0, 1) := by decide +kernel
theorem dX13_wordOf_283 : decode cX13_wordOf 283 = .ok (.iconst 0, 1) := by decide +kernel
theorem dX13_wordOf_284 : decode cX13_wordOf 284 = .ok (.iconst 0, 1) := by decide +kernel
theorem dX13_wordOf_285 : decode cX13_wordOf 285 = .ok (.iconst 0, 1) := by decide +kernel
theorem dX13_wordOf_286 : decode cX13_wordOf 286 = .ok (.iconst 0, 1) := by decide +kernel
theorem dX13_wordOf_287 : decode cX13_wordOf 287 = .ok (.invokestatic 135, 3) := by decide +kernel
theorem dX13_wordOf_290 : decode cX13_wordOf 290 = .ok (.lreturn, 1) := by decide +kernel
theorem dX13_wordOf_291 : decode cX13_wordOf 291 = .ok (.bipush 97, 2) := by decide +kernel
theorem dX13_wordOf_293 : decode cX13_wordOf 293 = .ok (.bipush 110, 2) := by decide +kernel
theorem dX13_wordOf_295 : decode cX13_wordOf 295 = .ok (.bipush 100, 2) := by decide +kernel
theorem dX13_wordOf_297 : decode cX13_wordOf 297 = .ok (.iconst 0, 1) := by decide +kernel
theorem dX13_wordOf_298 : decode cX13_wordOf 298 = .ok (.iconst 0, 1) := by decide +kernel
theorem dX13_wordOf_299 : decode cX13_wordOf 299 = .ok (.iconst 0, 1) := by decide +kernel
theorem dX13_wordOf_300 : decode cX13_wordOf 300 = .ok (.iconst 0, 1) := by decide +kernel
theorem dX13_wordOf_301 : decode cX13_wordOf 301 = .ok (.invokestatic 135, 3) := by decide +kernel
theorem dX13_wordOf_304 : decode cX13_wordOf 304 = .ok (.lreturn, 1) := by decide +kernel
theorem dX13_wordOf_305 : decode cX13_wordOf 305 = .ok (.bipush 110, 2) := by decide +kernel
theorem dX13_wordOf_307 : decode cX13_wordOf 307 = .ok (.bipush 111, 2) := by decide +kernel
theorem dX13_wordOf_309 : decode cX13_wordOf 309 = .ok (.bipush 116, 2) := by decide +kernel
theorem dX13_wordOf_311 : decode cX13_wordOf 311 = .ok (.iconst 0, 1) := by decide +kernel
theorem dX13_wordOf_312 : decode cX13_wordOf 312 = .ok (.iconst 0, 1) := by decide +kernel
theorem dX13_wordOf_313 : decode cX13_wordOf 313 = .ok (.iconst 0, 1) := by decide +kernel
theorem dX13_wordOf_314 : decode cX13_wordOf 314 = .ok (.iconst 0, 1) := by decide +kernel
theorem dX13_wordOf_315 : decode cX13_wordOf 315 = .ok (.invokestatic 135, 3) := by decide +kernel
theorem dX13_wordOf_318 : decode cX13_wordOf 318 = .ok (.lreturn, 1) := by decide +kernel
theorem dX13_wordOf_319 : decode cX13_wordOf 319 = .ok (.bipush 110, 2) := by decide +kernel
theorem dX13_wordOf_321 : decode cX13_wordOf 321 = .ok (.bipush 101, 2) := by decide +kernel
theorem dX13_wordOf_323 : decode cX13_wordOf 323 = .ok (.bipush 97, 2) := by decide +kernel
theorem dX13_wordOf_325 : decode cX13_wordOf 325 = .ok (.bipush 114, 2) := by decide +kernel
theorem dX13_wordOf_327 : decode cX13_wordOf 327 = .ok (.iconst 0, 1) := by decide +kernel
theorem dX13_wordOf_328 : decode cX13_wordOf 328 = .ok (.iconst 0, 1) := by decide +kernel
theorem dX13_wordOf_329 : decode cX13_wordOf 329 = .ok (.iconst 0, 1) := by decide +kernel
theorem dX13_wordOf_330 : decode cX13_wordOf 330 = .ok (.invokestatic 135, 3) := by decide +kernel
theorem dX13_wordOf_333 : decode cX13_wordOf 333 = .ok (.lreturn, 1) := by decide +kernel
theorem dX13_wordOf_334 : decode cX13_wordOf 334 = .ok (.bipush 98, 2) := by decide +kernel
theorem dX13_wordOf_336 : decode cX13_wordOf 336 = .ok (.bipush 114, 2) := by decide +kernel
theorem dX13_wordOf_338 : decode cX13_wordOf 338 = .ok (.bipush 105, 2) := by decide +kernel
theorem dX13_wordOf_340 : decode cX13_wordOf 340 = .ok (.bipush 100, 2) := by decide +kernel
theorem dX13_wordOf_342 : decode cX13_wordOf 342 = .ok (.bipush 103, 2) := by decide +kernel
theorem dX13_wordOf_344 : decode cX13_wordOf 344 = .ok (.bipush 101, 2) := by decide +kernel
theorem dX13_wordOf_346 : decode cX13_wordOf 346 = .ok (.iconst 0, 1) := by decide +kernel
theorem dX13_wordOf_347 : decode cX13_wordOf 347 = .ok (.invokestatic 135, 3) := by decide +kernel
theorem dX13_wordOf_350 : decode cX13_wordOf 350 = .ok (.lreturn, 1) := by decide +kernel
theorem dX13_wordOf_351 : decode cX13_wordOf 351 = .ok (.bipush 102, 2) := by decide +kernel
theorem dX13_wordOf_353 : decode cX13_wordOf 353 = .ok (.bipush 97, 2) := by decide +kernel
theorem dX13_wordOf_355 : decode cX13_wordOf 355 = .ok (.bipush 114, 2) := by decide +kernel
theorem dX13_wordOf_357 : decode cX13_wordOf 357 = .ok (.iconst 0, 1) := by decide +kernel
theorem dX13_wordOf_358 : decode cX13_wordOf 358 = .ok (.iconst 0, 1) := by decide +kernel
theorem dX13_wordOf_359 : decode cX13_wordOf 359 = .ok (.iconst 0, 1) := by decide +kernel
theorem dX13_wordOf_360 : decode cX13_wordOf 360 = .ok (.iconst 0, 1) := by decide +kernel
theorem dX13_wordOf_361 : decode cX13_wordOf 361 = .ok (.invokestatic 135, 3) := by decide +kernel
theorem dX13_wordOf_364 : decode cX13_wordOf 364 = .ok (.lreturn, 1) := by decide +kernel
theorem dX13_wordOf_365 : decode cX13_wordOf 365 = .ok (.bipush 109, 2) := by decide +kernel
theorem dX13_wordOf_367 : decode cX13_wordOf 367 = .ok (.bipush 101, 2) := by decide +kernel
theorem dX13_wordOf_369 : decode cX13_wordOf 369 = .ok (.bipush 116, 2) := by decide +kernel
theorem dX13_wordOf_371 : decode cX13_wordOf 371 = .ok (.iconst 0, 1) := by decide +kernel
theorem dX13_wordOf_372 : decode cX13_wordOf 372 = .ok (.iconst 0, 1) := by decide +kernel
theorem dX13_wordOf_373 : decode cX13_wordOf 373 = .ok (.iconst 0, 1) := by decide +kernel
theorem dX13_wordOf_374 : decode cX13_wordOf 374 = .ok (.iconst 0, 1) := by decide +kernel
theorem dX13_wordOf_375 : decode cX13_wordOf 375 = .ok (.invokestatic 135, 3) := by decide +kernel
theorem dX13_wordOf_378 : decode cX13_wordOf 378 = .ok (.lreturn, 1) := by decide +kernel
theorem dX13_wordOf_379 : decode cX13_wordOf 379 = .ok (.bipush 112, 2) := by decide +kernel
theorem dX13_wordOf_381 : decode cX13_wordOf 381 = .ok (.bipush 97, 2) := by decide +kernel
theorem dX13_wordOf_383 : decode cX13_wordOf 383 = .ok (.bipush 121, 2) := by decide +kernel
theorem dX13_wordOf_385 : decode cX13_wordOf 385 = .ok (.bipush 115, 2) := by decide +kernel
theorem dX13_wordOf_387 : decode cX13_wordOf 387 = .ok (.iconst 0, 1) := by decide +kernel
theorem dX13_wordOf_388 : decode cX13_wordOf 388 = .ok (.iconst 0, 1) := by decide +kernel
theorem dX13_wordOf_389 : decode cX13_wordOf 389 = .ok (.iconst 0, 1) := by decide +kernel
theorem dX13_wordOf_390 : decode cX13_wordOf 390 = .ok (.invokestatic 135, 3) := by decide +kernel
theorem dX13_wordOf_393 : decode cX13_wordOf 393 = .ok (.lreturn, 1) := by decide +kernel
theorem dX13_wordOf_394 : decode cX13_wordOf 394 = .ok (.bipush 119, 2) := by decide +kernel
theorem dX13_wordOf_396 : decode cX13_wordOf 396 = .ok (.bipush 97, 2) := by decide +kernel
theorem dX13_wordOf_398 : decode cX13_wordOf 398 = .ok (.bipush 110, 2) := by decide +kernel
theorem dX13_wordOf_400 : decode cX13_wordOf 400 = .ok (.bipush 116, 2) := by decide +kernel
theorem dX13_wordOf_402 : decode cX13_wordOf 402 = .ok (.bipush 115, 2) := by decide +kernel
theorem dX13_wordOf_404 : decode cX13_wordOf 404 = .ok (.iconst 0, 1) := by decide +kernel
theorem dX13_wordOf_405 : decode cX13_wordOf 405 = .ok (.iconst 0, 1) := by decide +kernel
theorem dX13_wordOf_406 : decode cX13_wordOf 406 = .ok (.invokestatic 135, 3) := by decide +kernel
theorem dX13_wordOf_409 : decode cX13_wordOf 409 = .ok (.lreturn, 1) := by decide +kernel
theorem dX13_wordOf_410 : decode cX13_wordOf 410 = .ok (.bipush 97, 2) := by decide +kernel
theorem dX13_wordOf_412 : decode cX13_wordOf 412 = .ok (.bipush 108, 2) := by decide +kernel
theorem dX13_wordOf_414 : decode cX13_wordOf 414 = .ok (.bipush 108, 2) := by decide +kernel
theorem dX13_wordOf_416 : decode cX13_wordOf 416 = .ok (.iconst 0, 1) := by decide +kernel
theorem dX13_wordOf_417 : decode cX13_wordOf 417 = .ok (.iconst 0, 1) := by decide +kernel
theorem dX13_wordOf_418 : decode cX13_wordOf 418 = .ok (.iconst 0, 1) := by decide +kernel
theorem dX13_wordOf_419 : decode cX13_wordOf 419 = .ok (.iconst 0, 1) := by decide +kernel
theorem dX13_wordOf_420 : decode cX13_wordOf 420 = .ok (.invokestatic 135, 3) := by decide +kernel
theorem dX13_wordOf_423 : decode cX13_wordOf 423 = .ok (.lreturn, 1) := by decide +kernel
theorem dX13_wordOf_424 : decode cX13_wordOf 424 = .ok (.bipush 115, 2) := by decide +kernel
theorem dX13_wordOf_426 : decode cX13_wordOf 426 = .ok (.bipush 116, 2) := by decide +kernel
theorem dX13_wordOf_428 : decode cX13_wordOf 428 = .ok (.bipush 97, 2) := by decide +kernel
theorem dX13_wordOf_430 : decode cX13_wordOf 430 = .ok (.bipush 121, 2) := by decide +kernel
theorem dX13_wordOf_432 : decode cX13_wordOf 432 = .ok (.bipush 101, 2) := by decide +kernel
theorem dX13_wordOf_434 : decode cX13_wordOf 434 = .ok (.bipush 100, 2) := by decide +kernel
theorem dX13_wordOf_436 : decode cX13_wordOf 436 = .ok (.iconst 0, 1) := by decide +kernel
theorem dX13_wordOf_437 : decode cX13_wordOf 437 = .ok (.invokestatic 135, 3) := by decide +kernel
theorem dX13_wordOf_440 : decode cX13_wordOf 440 = .ok (.lreturn, 1) := by decide +kernel
theorem dX13_wordOf_441 : decode cX13_wordOf 441 = .ok (.bipush 99, 2) := by decide +kernel
theorem dX13_wordOf_443 : decode cX13_wordOf 443 = .ok (.bipush 114, 2) := by decide +kernel
theorem dX13_wordOf_445 : decode cX13_wordOf 445 = .ok (.bipush 111, 2) := by decide +kernel
theorem dX13_wordOf_447 : decode cX13_wordOf 447 = .ok (.bipush 115, 2) := by decide +kernel
theorem dX13_wordOf_449 : decode cX13_wordOf 449 = .ok (.bipush 115, 2) := by decide +kernel
theorem dX13_wordOf_451 : decode cX13_wordOf 451 = .ok (.bipush 101, 2) := by decide +kernel
theorem dX13_wordOf_453 : decode cX13_wordOf 453 = .ok (.bipush 100, 2) := by decide +kernel
theorem dX13_wordOf_455 : decode cX13_wordOf 455 = .ok (.invokestatic 135, 3) := by decide +kernel
theorem dX13_wordOf_458 : decode cX13_wordOf 458 = .ok (.lreturn, 1) := by decide +kernel
theorem dX13_wordOf_459 : decode cX13_wordOf 459 = .ok (.bipush 110, 2) := by decide +kernel
theorem dX13_wordOf_461 : decode cX13_wordOf 461 = .ok (.bipush 117, 2) := by decide +kernel
theorem dX13_wordOf_463 : decode cX13_wordOf 463 = .ok (.bipush 109, 2) := by decide +kernel
theorem dX13_wordOf_465 : decode cX13_wordOf 465 = .ok (.bipush 98, 2) := by decide +kernel
theorem dX13_wordOf_467 : decode cX13_wordOf 467 = .ok (.bipush 101, 2) := by decide +kernel
theorem dX13_wordOf_469 : decode cX13_wordOf 469 = .ok (.bipush 114, 2) := by decide +kernel
theorem dX13_wordOf_471 : decode cX13_wordOf 471 = .ok (.iconst 0, 1) := by decide +kernel
theorem dX13_wordOf_472 : decode cX13_wordOf 472 = .ok (.invokestatic 135, 3) := by decide +kernel
theorem dX13_wordOf_475 : decode cX13_wordOf 475 = .ok (.lreturn, 1) := by decide +kernel
theorem bX13_wordOf_0 {G : Gt} {d bc bs : Nat} {Q : QT} {l : Ls} {z : List Value} {h : Hp} (k : (tIld 0 (tSw 0 [108, 124, 141, 155, 170, 186, 201, 217, 233, 250, 264, 278, 291, 305, 319, 334, 351, 365, 379, 394, 410, 424, 441] 459 (fun t l z h => T G d bc bs mX13_wordOf t l z h Q))) l z h) : T G d bc bs mX13_wordOf 0 l z h Q := by
  refine R_iload_n dX13_wordOf_0 rfl (fun l z h k => ?_) k
  exact R_table dX13_wordOf_1 (by decide) (by decide) (by decide) (by decide) (by decide) (fun _ _ _ _ k => k) k
theorem bX13_wordOf_108 {G : Gt} {d bc bs : Nat} {Q : QT} {l : Ls} {z : List Value} {h : Hp} (k : (tPush (.int 116) (tPush (.int 104) (tPush (.int 105) (tPush (.int 110) (tPush (.int 103) (tPush (.int 0) (tPush (.int 0) (tCS7 G d 0 0 mX13_spelt (fun l z h => T G d bc bs mX13_wordOf 123 l z h Q))))))))) l z h) : T G d bc bs mX13_wordOf 108 l z h Q := by
  refine R_bipush dX13_wordOf_108 (by decide) (fun l z h k => ?_) k
  refine R_bipush dX13_wordOf_110 (by decide) (fun l z h k => ?_) k
  refine R_bipush dX13_wordOf_112 (by decide) (fun l z h k => ?_) k
  refine R_bipush dX13_wordOf_114 (by decide) (fun l z h k => ?_) k
  refine R_bipush dX13_wordOf_116 (by decide) (fun l z h k => ?_) k
  refine R_iconst dX13_wordOf_118 (by decide) (fun l z h k => ?_) k
  refine R_iconst dX13_wordOf_119 (by decide) (fun l z h k => ?_) k
  exact R_cs7 (M := mX13_wordOf) (pc := 120) (bc := bc) (bs := bs) (cb := 0) (cs := 0) (M' := mX13_spelt) dX13_wordOf_120 (by decide) w_1673 w_144 w_1671 w_1672 (by decide +kernel) (fun _ _ _ k => k) k
theorem bX13_wordOf_123 {G : Gt} {d bc bs : Nat} {Q : QT} {l : Ls} {z : List Value} {h : Hp} (k : (tRetL Q) l z h) : T G d bc bs mX13_wordOf 123 l z h Q := by
  exact R_lret dX13_wordOf_123 rfl k
theorem bX13_wordOf_124 {G : Gt} {d bc bs : Nat} {Q : QT} {l : Ls} {z : List Value} {h : Hp} (k : (tPush (.int 112) (tPush (.int 101) (tPush (.int 114) (tPush (.int 115) (tPush (.int 111) (tPush (.int 110) (tPush (.int 0) (tCS7 G d 0 0 mX13_spelt (fun l z h => T G d bc bs mX13_wordOf 140 l z h Q))))))))) l z h) : T G d bc bs mX13_wordOf 124 l z h Q := by
  refine R_bipush dX13_wordOf_124 (by decide) (fun l z h k => ?_) k
  refine R_bipush dX13_wordOf_126 (by decide) (fun l z h k => ?_) k
  refine R_bipush dX13_wordOf_128 (by decide) (fun l z h k => ?_) k
  refine R_bipush dX13_wordOf_130 (by decide) (fun l z h k => ?_) k
  refine R_bipush dX13_wordOf_132 (by decide) (fun l z h k => ?_) k
  refine R_bipush dX13_wordOf_134 (by decide) (fun l z h k => ?_) k
  refine R_iconst dX13_wordOf_136 (by decide) (fun l z h k => ?_) k
  exact R_cs7 (M := mX13_wordOf) (pc := 137) (bc := bc) (bs := bs) (cb := 0) (cs := 0) (M' := mX13_spelt) dX13_wordOf_137 (by decide) w_1673 w_144 w_1671 w_1672 (by decide +kernel) (fun _ _ _ k => k) k
theorem bX13_wordOf_140 {G : Gt} {d bc bs : Nat} {Q : QT} {l : Ls} {z : List Value} {h : Hp} (k : (tRetL Q) l z h) : T G d bc bs mX13_wordOf 140 l z h Q := by
  exact R_lret dX13_wordOf_140 rfl k
theorem bX13_wordOf_141 {G : Gt} {d bc bs : Nat} {Q : QT} {l : Ls} {z : List Value} {h : Hp} (k : (tPush (.int 104) (tPush (.int 97) (tPush (.int 115) (tPush (.int 0) (tPush (.int 0) (tPush (.int 0) (tPush (.int 0) (tCS7 G d 0 0 mX13_spelt (fun l z h => T G d bc bs mX13_wordOf 154 l z h Q))))))))) l z h) : T G d bc bs mX13_wordOf 141 l z h Q := by
  refine R_bipush dX13_wordOf_141 (by decide) (fun l z h k => ?_) k
  refine R_bipush dX13_wordOf_143 (by decide) (fun l z h k => ?_) k
  refine R_bipush dX13_wordOf_145 (by decide) (fun l z h k => ?_) k
  refine R_iconst dX13_wordOf_147 (by decide) (fun l z h k => ?_) k
  refine R_iconst dX13_wordOf_148 (by decide) (fun l z h k => ?_) k
  refine R_iconst dX13_wordOf_149 (by decide) (fun l z h k => ?_) k
  refine R_iconst dX13_wordOf_150 (by decide) (fun l z h k => ?_) k
  exact R_cs7 (M := mX13_wordOf) (pc := 151) (bc := bc) (bs := bs) (cb := 0) (cs := 0) (M' := mX13_spelt) dX13_wordOf_151 (by decide) w_1673 w_144 w_1671 w_1672 (by decide +kernel) (fun _ _ _ k => k) k
theorem bX13_wordOf_154 {G : Gt} {d bc bs : Nat} {Q : QT} {l : Ls} {z : List Value} {h : Hp} (k : (tRetL Q) l z h) : T G d bc bs mX13_wordOf 154 l z h Q := by
  exact R_lret dX13_wordOf_154 rfl k
theorem bX13_wordOf_155 {G : Gt} {d bc bs : Nat} {Q : QT} {l : Ls} {z : List Value} {h : Hp} (k : (tPush (.int 97) (tPush (.int 115) (tPush (.int 107) (tPush (.int 115) (tPush (.int 0) (tPush (.int 0) (tPush (.int 0) (tCS7 G d 0 0 mX13_spelt (fun l z h => T G d bc bs mX13_wordOf 169 l z h Q))))))))) l z h) : T G d bc bs mX13_wordOf 155 l z h Q := by
  refine R_bipush dX13_wordOf_155 (by decide) (fun l z h k => ?_) k
  refine R_bipush dX13_wordOf_157 (by decide) (fun l z h k => ?_) k
  refine R_bipush dX13_wordOf_159 (by decide) (fun l z h k => ?_) k
  refine R_bipush dX13_wordOf_161 (by decide) (fun l z h k => ?_) k
  refine R_iconst dX13_wordOf_163 (by decide) (fun l z h k => ?_) k
  refine R_iconst dX13_wordOf_164 (by decide) (fun l z h k => ?_) k
  refine R_iconst dX13_wordOf_165 (by decide) (fun l z h k => ?_) k
  exact R_cs7 (M := mX13_wordOf) (pc := 166) (bc := bc) (bs := bs) (cb := 0) (cs := 0) (M' := mX13_spelt) dX13_wordOf_166 (by decide) w_1673 w_144 w_1671 w_1672 (by decide +kernel) (fun _ _ _ k => k) k
theorem bX13_wordOf_169 {G : Gt} {d bc bs : Nat} {Q : QT} {l : Ls} {z : List Value} {h : Hp} (k : (tRetL Q) l z h) : T G d bc bs mX13_wordOf 169 l z h Q := by
  exact R_lret dX13_wordOf_169 rfl k
theorem bX13_wordOf_170 {G : Gt} {d bc bs : Nat} {Q : QT} {l : Ls} {z : List Value} {h : Hp} (k : (tPush (.int 109) (tPush (.int 101) (tPush (.int 101) (tPush (.int 116) (tPush (.int 115) (tPush (.int 0) (tPush (.int 0) (tCS7 G d 0 0 mX13_spelt (fun l z h => T G d bc bs mX13_wordOf 185 l z h Q))))))))) l z h) : T G d bc bs mX13_wordOf 170 l z h Q := by
  refine R_bipush dX13_wordOf_170 (by decide) (fun l z h k => ?_) k
  refine R_bipush dX13_wordOf_172 (by decide) (fun l z h k => ?_) k
  refine R_bipush dX13_wordOf_174 (by decide) (fun l z h k => ?_) k
  refine R_bipush dX13_wordOf_176 (by decide) (fun l z h k => ?_) k
  refine R_bipush dX13_wordOf_178 (by decide) (fun l z h k => ?_) k
  refine R_iconst dX13_wordOf_180 (by decide) (fun l z h k => ?_) k
  refine R_iconst dX13_wordOf_181 (by decide) (fun l z h k => ?_) k
  exact R_cs7 (M := mX13_wordOf) (pc := 182) (bc := bc) (bs := bs) (cb := 0) (cs := 0) (M' := mX13_spelt) dX13_wordOf_182 (by decide) w_1673 w_144 w_1671 w_1672 (by decide +kernel) (fun _ _ _ k => k) k
theorem bX13_wordOf_185 {G : Gt} {d bc bs : Nat} {Q : QT} {l : Ls} {z : List Value} {h : Hp} (k : (tRetL Q) l z h) : T G d bc bs mX13_wordOf 185 l z h Q := by
  exact R_lret dX13_wordOf_185 rfl k
theorem bX13_wordOf_186 {G : Gt} {d bc bs : Nat} {Q : QT} {l : Ls} {z : List Value} {h : Hp} (k : (tPush (.int 103) (tPush (.int 111) (tPush (.int 101) (tPush (.int 115) (tPush (.int 0) (tPush (.int 0) (tPush (.int 0) (tCS7 G d 0 0 mX13_spelt (fun l z h => T G d bc bs mX13_wordOf 200 l z h Q))))))))) l z h) : T G d bc bs mX13_wordOf 186 l z h Q := by
  refine R_bipush dX13_wordOf_186 (by decide) (fun l z h k => ?_) k
  refine R_bipush dX13_wordOf_188 (by decide) (fun l z h k => ?_) k
  refine R_bipush dX13_wordOf_190 (by decide) (fun l z h k => ?_) k
  refine R_bipush dX13_wordOf_192 (by decide) (fun l z h k => ?_) k
  refine R_iconst dX13_wordOf_194 (by decide) (fun l z h k => ?_) k
  refine R_iconst dX13_wordOf_195 (by decide) (fun l z h k => ?_) k
  refine R_iconst dX13_wordOf_196 (by decide) (fun l z h k => ?_) k
  exact R_cs7 (M := mX13_wordOf) (pc := 197) (bc := bc) (bs := bs) (cb := 0) (cs := 0) (M' := mX13_spelt) dX13_wordOf_197 (by decide) w_1673 w_144 w_1671 w_1672 (by decide +kernel) (fun _ _ _ k => k) k
theorem bX13_wordOf_200 {G : Gt} {d bc bs : Nat} {Q : QT} {l : Ls} {z : List Value} {h : Hp} (k : (tRetL Q) l z h) : T G d bc bs mX13_wordOf 200 l z h Q := by
  exact R_lret dX13_wordOf_200 rfl k
theorem bX13_wordOf_201 {G : Gt} {d bc bs : Nat} {Q : QT} {l : Ls} {z : List Value} {h : Hp} (k : (tPush (.int 106) (tPush (.int 111) (tPush (.int 105) (tPush (.int 110) (tPush (.int 115) (tPush (.int 0) (tPush (.int 0) (tCS7 G d 0 0 mX13_spelt (fun l z h => T G d bc bs mX13_wordOf 216 l z h Q))))))))) l z h) : T G d bc bs mX13_wordOf 201 l z h Q := by
  refine R_bipush dX13_wordOf_201 (by decide) (fun l z h k => ?_) k
  refine R_bipush dX13_wordOf_203 (by decide) (fun l z h k => ?_) k
  refine R_bipush dX13_wordOf_205 (by decide) (fun l z h k => ?_) k
  refine R_bipush dX13_wordOf_207 (by decide) (fun l z h k => ?_) k
  refine R_bipush dX13_wordOf_209 (by decide) (fun l z h k => ?_) k
  refine R_iconst dX13_wordOf_211 (by decide) (fun l z h k => ?_) k
  refine R_iconst dX13_wordOf_212 (by decide) (fun l z h k => ?_) k
  exact R_cs7 (M := mX13_wordOf) (pc := 213) (bc := bc) (bs := bs) (cb := 0) (cs := 0) (M' := mX13_spelt) dX13_wordOf_213 (by decide) w_1673 w_144 w_1671 w_1672 (by decide +kernel) (fun _ _ _ k => k) k
theorem bX13_wordOf_216 {G : Gt} {d bc bs : Nat} {Q : QT} {l : Ls} {z : List Value} {h : Hp} (k : (tRetL Q) l z h) : T G d bc bs mX13_wordOf 216 l z h Q := by
  exact R_lret dX13_wordOf_216 rfl k
theorem bX13_wordOf_217 {G : Gt} {d bc bs : Nat} {Q : QT} {l : Ls} {z : List Value} {h : Hp} (k : (tPush (.int 112) (tPush (.int 97) (tPush (.int 114) (tPush (.int 116) (tPush (.int 115) (tPush (.int 0) (tPush (.int 0) (tCS7 G d 0 0 mX13_spelt (fun l z h => T G d bc bs mX13_wordOf 232 l z h Q))))))))) l z h) : T G d bc bs mX13_wordOf 217 l z h Q := by
  refine R_bipush dX13_wordOf_217 (by decide) (fun l z h k => ?_) k
  refine R_bipush dX13_wordOf_219 (by decide) (fun l z h k => ?_) k
  refine R_bipush dX13_wordOf_221 (by decide) (fun l z h k => ?_) k
  refine R_bipush dX13_wordOf_223 (by decide) (fun l z h k => ?_) k
  refine R_bipush dX13_wordOf_225 (by decide) (fun l z h k => ?_) k
  refine R_iconst dX13_wordOf_227 (by decide) (fun l z h k => ?_) k
  refine R_iconst dX13_wordOf_228 (by decide) (fun l z h k => ?_) k
  exact R_cs7 (M := mX13_wordOf) (pc := 229) (bc := bc) (bs := bs) (cb := 0) (cs := 0) (M' := mX13_spelt) dX13_wordOf_229 (by decide) w_1673 w_144 w_1671 w_1672 (by decide +kernel) (fun _ _ _ k => k) k
theorem bX13_wordOf_232 {G : Gt} {d bc bs : Nat} {Q : QT} {l : Ls} {z : List Value} {h : Hp} (k : (tRetL Q) l z h) : T G d bc bs mX13_wordOf 232 l z h Q := by
  exact R_lret dX13_wordOf_232 rfl k
theorem bX13_wordOf_233 {G : Gt} {d bc bs : Nat} {Q : QT} {l : Ls} {z : List Value} {h : Hp} (k : (tPush (.int 116) (tPush (.int 114) (tPush (.int 97) (tPush (.int 100) (tPush (.int 101) (tPush (.int 115) (tPush (.int 0) (tCS7 G d 0 0 mX13_spelt (fun l z h => T G d bc bs mX13_wordOf 249 l z h Q))))))))) l z h) : T G d bc bs mX13_wordOf 233 l z h Q := by
  refine R_bipush dX13_wordOf_233 (by decide) (fun l z h k => ?_) k
  refine R_bipush dX13_wordOf_235 (by decide) (fun l z h k => ?_) k
  refine R_bipush dX13_wordOf_237 (by decide) (fun l z h k => ?_) k
  refine R_bipush dX13_wordOf_239 (by decide) (fun l z h k => ?_) k
  refine R_bipush dX13_wordOf_241 (by decide) (fun l z h k => ?_) k
  refine R_bipush dX13_wordOf_243 (by decide) (fun l z h k => ?_) k
  refine R_iconst dX13_wordOf_245 (by decide) (fun l z h k => ?_) k
  exact R_cs7 (M := mX13_wordOf) (pc := 246) (bc := bc) (bs := bs) (cb := 0) (cs := 0) (M' := mX13_spelt) dX13_wordOf_246 (by decide) w_1673 w_144 w_1671 w_1672 (by decide +kernel) (fun _ _ _ k => k) k
theorem bX13_wordOf_249 {G : Gt} {d bc bs : Nat} {Q : QT} {l : Ls} {z : List Value} {h : Hp} (k : (tRetL Q) l z h) : T G d bc bs mX13_wordOf 249 l z h Q := by
  exact R_lret dX13_wordOf_249 rfl k
theorem bX13_wordOf_250 {G : Gt} {d bc bs : Nat} {Q : QT} {l : Ls} {z : List Value} {h : Hp} (k : (tPush (.int 97) (tPush (.int 115) (tPush (.int 107) (tPush (.int 0) (tPush (.int 0) (tPush (.int 0) (tPush (.int 0) (tCS7 G d 0 0 mX13_spelt (fun l z h => T G d bc bs mX13_wordOf 263 l z h Q))))))))) l z h) : T G d bc bs mX13_wordOf 250 l z h Q := by
  refine R_bipush dX13_wordOf_250 (by decide) (fun l z h k => ?_) k
  refine R_bipush dX13_wordOf_252 (by decide) (fun l z h k => ?_) k
  refine R_bipush dX13_wordOf_254 (by decide) (fun l z h k => ?_) k
  refine R_iconst dX13_wordOf_256 (by decide) (fun l z h k => ?_) k
  refine R_iconst dX13_wordOf_257 (by decide) (fun l z h k => ?_) k
  refine R_iconst dX13_wordOf_258 (by decide) (fun l z h k => ?_) k
  refine R_iconst dX13_wordOf_259 (by decide) (fun l z h k => ?_) k
  exact R_cs7 (M := mX13_wordOf) (pc := 260) (bc := bc) (bs := bs) (cb := 0) (cs := 0) (M' := mX13_spelt) dX13_wordOf_260 (by decide) w_1673 w_144 w_1671 w_1672 (by decide +kernel) (fun _ _ _ k => k) k
theorem bX13_wordOf_263 {G : Gt} {d bc bs : Nat} {Q : QT} {l : Ls} {z : List Value} {h : Hp} (k : (tRetL Q) l z h) : T G d bc bs mX13_wordOf 263 l z h Q := by
  exact R_lret dX13_wordOf_263 rfl k
theorem bX13_wordOf_264 {G : Gt} {d bc bs : Nat} {Q : QT} {l : Ls} {z : List Value} {h : Hp} (k : (tPush (.int 100) (tPush (.int 97) (tPush (.int 121) (tPush (.int 0) (tPush (.int 0) (tPush (.int 0) (tPush (.int 0) (tCS7 G d 0 0 mX13_spelt (fun l z h => T G d bc bs mX13_wordOf 277 l z h Q))))))))) l z h) : T G d bc bs mX13_wordOf 264 l z h Q := by
  refine R_bipush dX13_wordOf_264 (by decide) (fun l z h k => ?_) k
  refine R_bipush dX13_wordOf_266 (by decide) (fun l z h k => ?_) k
  refine R_bipush dX13_wordOf_268 (by decide) (fun l z h k => ?_) k
  refine R_iconst dX13_wordOf_270 (by decide) (fun l z h k => ?_) k
  refine R_iconst dX13_wordOf_271 (by decide) (fun l z h k => ?_) k
  refine R_iconst dX13_wordOf_272 (by decide) (fun l z h k => ?_) k
  refine R_iconst dX13_wordOf_273 (by decide) (fun l z h k => ?_) k
  exact R_cs7 (M := mX13_wordOf) (pc := 274) (bc := bc) (bs := bs) (cb := 0) (cs := 0) (M' := mX13_spelt) dX13_wordOf_274 (by decide) w_1673 w_144 w_1671 w_1672 (by decide +kernel) (fun _ _ _ k => k) k
theorem bX13_wordOf_277 {G : Gt} {d bc bs : Nat} {Q : QT} {l : Ls} {z : List Value} {h : Hp} (k : (tRetL Q) l z h) : T G d bc bs mX13_wordOf 277 l z h Q := by
  exact R_lret dX13_wordOf_277 rfl k
theorem bX13_wordOf_278 {G : Gt} {d bc bs : Nat} {Q : QT} {l : Ls} {z : List Value} {h : Hp} (k : (tPush (.int 111) (tPush (.int 114) (tPush (.int 0) (tPush (.int 0) (tPush (.int 0) (tPush (.int 0) (tPush (.int 0) (tCS7 G d 0 0 mX13_spelt (fun l z h => T G d bc bs mX13_wordOf 290 l z h Q))))))))) l z h) : T G d bc bs mX13_wordOf 278 l z h Q := by
  refine R_bipush dX13_wordOf_278 (by decide) (fun l z h k => ?_) k
  refine R_bipush dX13_wordOf_280 (by decide) (fun l z h k => ?_) k
  refine R_iconst dX13_wordOf_282 (by decide) (fun l z h k => ?_) k
  refine R_iconst dX13_wordOf_283 (by decide) (fun l z h k => ?_) k
  refine R_iconst dX13_wordOf_284 (by decide) (fun l z h k => ?_) k
  refine R_iconst dX13_wordOf_285 (by decide) (fun l z h k => ?_) k
  refine R_iconst dX13_wordOf_286 (by decide) (fun l z h k => ?_) k
  exact R_cs7 (M := mX13_wordOf) (pc := 287) (bc := bc) (bs := bs) (cb := 0) (cs := 0) (M' := mX13_spelt) dX13_wordOf_287 (by decide) w_1673 w_144 w_1671 w_1672 (by decide +kernel) (fun _ _ _ k => k) k
theorem bX13_wordOf_290 {G : Gt} {d bc bs : Nat} {Q : QT} {l : Ls} {z : List Value} {h : Hp} (k : (tRetL Q) l z h) : T G d bc bs mX13_wordOf 290 l z h Q := by
  exact R_lret dX13_wordOf_290 rfl k
theorem bX13_wordOf_291 {G : Gt} {d bc bs : Nat} {Q : QT} {l : Ls} {z : List Value} {h : Hp} (k : (tPush (.int 97) (tPush (.int 110) (tPush (.int 100) (tPush (.int 0) (tPush (.int 0) (tPush (.int 0) (tPush (.int 0) (tCS7 G d 0 0 mX13_spelt (fun l z h => T G d bc bs mX13_wordOf 304 l z h Q))))))))) l z h) : T G d bc bs mX13_wordOf 291 l z h Q := by
  refine R_bipush dX13_wordOf_291 (by decide) (fun l z h k => ?_) k
  refine R_bipush dX13_wordOf_293 (by decide) (fun l z h k => ?_) k
  refine R_bipush dX13_wordOf_295 (by decide) (fun l z h k => ?_) k
  refine R_iconst dX13_wordOf_297 (by decide) (fun l z h k => ?_) k
  refine R_iconst dX13_wordOf_298 (by decide) (fun l z h k => ?_) k
  refine R_iconst dX13_wordOf_299 (by decide) (fun l z h k => ?_) k
  refine R_iconst dX13_wordOf_300 (by decide) (fun l z h k => ?_) k
  exact R_cs7 (M := mX13_wordOf) (pc := 301) (bc := bc) (bs := bs) (cb := 0) (cs := 0) (M' := mX13_spelt) dX13_wordOf_301 (by decide) w_1673 w_144 w_1671 w_1672 (by decide +kernel) (fun _ _ _ k => k) k
theorem bX13_wordOf_304 {G : Gt} {d bc bs : Nat} {Q : QT} {l : Ls} {z : List Value} {h : Hp} (k : (tRetL Q) l z h) : T G d bc bs mX13_wordOf 304 l z h Q := by
  exact R_lret dX13_wordOf_304 rfl k
theorem bX13_wordOf_305 {G : Gt} {d bc bs : Nat} {Q : QT} {l : Ls} {z : List Value} {h : Hp} (k : (tPush (.int 110) (tPush (.int 111) (tPush (.int 116) (tPush (.int 0) (tPush (.int 0) (tPush (.int 0) (tPush (.int 0) (tCS7 G d 0 0 mX13_spelt (fun l z h => T G d bc bs mX13_wordOf 318 l z h Q))))))))) l z h) : T G d bc bs mX13_wordOf 305 l z h Q := by
  refine R_bipush dX13_wordOf_305 (by decide) (fun l z h k => ?_) k
  refine R_bipush dX13_wordOf_307 (by decide) (fun l z h k => ?_) k
  refine R_bipush dX13_wordOf_309 (by decide) (fun l z h k => ?_) k
  refine R_iconst dX13_wordOf_311 (by decide) (fun l z h k => ?_) k
  refine R_iconst dX13_wordOf_312 (by decide) (fun l z h k => ?_) k
  refine R_iconst dX13_wordOf_313 (by decide) (fun l z h k => ?_) k
  refine R_iconst dX13_wordOf_314 (by decide) (fun l z h k => ?_) k
  exact R_cs7 (M := mX13_wordOf) (pc := 315) (bc := bc) (bs := bs) (cb := 0) (cs := 0) (M' := mX13_spelt) dX13_wordOf_315 (by decide) w_1673 w_144 w_1671 w_1672 (by decide +kernel) (fun _ _ _ k => k) k
theorem bX13_wordOf_318 {G : Gt} {d bc bs : Nat} {Q : QT} {l : Ls} {z : List Value} {h : Hp} (k : (tRetL Q) l z h) : T G d bc bs mX13_wordOf 318 l z h Q := by
  exact R_lret dX13_wordOf_318 rfl k
theorem bX13_wordOf_319 {G : Gt} {d bc bs : Nat} {Q : QT} {l : Ls} {z : List Value} {h : Hp} (k : (tPush (.int 110) (tPush (.int 101) (tPush (.int 97) (tPush (.int 114) (tPush (.int 0) (tPush (.int 0) (tPush (.int 0) (tCS7 G d 0 0 mX13_spelt (fun l z h => T G d bc bs mX13_wordOf 333 l z h Q))))))))) l z h) : T G d bc bs mX13_wordOf 319 l z h Q := by
  refine R_bipush dX13_wordOf_319 (by decide) (fun l z h k => ?_) k
  refine R_bipush dX13_wordOf_321 (by decide) (fun l z h k => ?_) k
  refine R_bipush dX13_wordOf_323 (by decide) (fun l z h k => ?_) k
  refine R_bipush dX13_wordOf_325 (by decide) (fun l z h k => ?_) k
  refine R_iconst dX13_wordOf_327 (by decide) (fun l z h k => ?_) k
  refine R_iconst dX13_wordOf_328 (by decide) (fun l z h k => ?_) k
  refine R_iconst dX13_wordOf_329 (by decide) (fun l z h k => ?_) k
  exact R_cs7 (M := mX13_wordOf) (pc := 330) (bc := bc) (bs := bs) (cb := 0) (cs := 0) (M' := mX13_spelt) dX13_wordOf_330 (by decide) w_1673 w_144 w_1671 w_1672 (by decide +kernel) (fun _ _ _ k => k) k
theorem bX13_wordOf_333 {G : Gt} {d bc bs : Nat} {Q : QT} {l : Ls} {z : List Value} {h : Hp} (k : (tRetL Q) l z h) : T G d bc bs mX13_wordOf 333 l z h Q := by
  exact R_lret dX13_wordOf_333 rfl k
theorem bX13_wordOf_334 {G : Gt} {d bc bs : Nat} {Q : QT} {l : Ls} {z : List Value} {h : Hp} (k : (tPush (.int 98) (tPush (.int 114) (tPush (.int 105) (tPush (.int 100) (tPush (.int 103) (tPush (.int 101) (tPush (.int 0) (tCS7 G d 0 0 mX13_spelt (fun l z h => T G d bc bs mX13_wordOf 350 l z h Q))))))))) l z h) : T G d bc bs mX13_wordOf 334 l z h Q := by
  refine R_bipush dX13_wordOf_334 (by decide) (fun l z h k => ?_) k
  refine R_bipush dX13_wordOf_336 (by decide) (fun l z h k => ?_) k
  refine R_bipush dX13_wordOf_338 (by decide) (fun l z h k => ?_) k
  refine R_bipush dX13_wordOf_340 (by decide) (fun l z h k => ?_) k
  refine R_bipush dX13_wordOf_342 (by decide) (fun l z h k => ?_) k
  refine R_bipush dX13_wordOf_344 (by decide) (fun l z h k => ?_) k
  refine R_iconst dX13_wordOf_346 (by decide) (fun l z h k => ?_) k
  exact R_cs7 (M := mX13_wordOf) (pc := 347) (bc := bc) (bs := bs) (cb := 0) (cs := 0) (M' := mX13_spelt) dX13_wordOf_347 (by decide) w_1673 w_144 w_1671 w_1672 (by decide +kernel) (fun _ _ _ k => k) k
theorem bX13_wordOf_350 {G : Gt} {d bc bs : Nat} {Q : QT} {l : Ls} {z : List Value} {h : Hp} (k : (tRetL Q) l z h) : T G d bc bs mX13_wordOf 350 l z h Q := by
  exact R_lret dX13_wordOf_350 rfl k
theorem bX13_wordOf_351 {G : Gt} {d bc bs : Nat} {Q : QT} {l : Ls} {z : List Value} {h : Hp} (k : (tPush (.int 102) (tPush (.int 97) (tPush (.int 114) (tPush (.int 0) (tPush (.int 0) (tPush (.int 0) (tPush (.int 0) (tCS7 G d 0 0 mX13_spelt (fun l z h => T G d bc bs mX13_wordOf 364 l z h Q))))))))) l z h) : T G d bc bs mX13_wordOf 351 l z h Q := by
  refine R_bipush dX13_wordOf_351 (by decide) (fun l z h k => ?_) k
  refine R_bipush dX13_wordOf_353 (by decide) (fun l z h k => ?_) k
  refine R_bipush dX13_wordOf_355 (by decide) (fun l z h k => ?_) k
  refine R_iconst dX13_wordOf_357 (by decide) (fun l z h k => ?_) k
  refine R_iconst dX13_wordOf_358 (by decide) (fun l z h k => ?_) k
  refine R_iconst dX13_wordOf_359 (by decide) (fun l z h k => ?_) k
  refine R_iconst dX13_wordOf_360 (by decide) (fun l z h k => ?_) k
  exact R_cs7 (M := mX13_wordOf) (pc := 361) (bc := bc) (bs := bs) (cb := 0) (cs := 0) (M' := mX13_spelt) dX13_wordOf_361 (by decide) w_1673 w_144 w_1671 w_1672 (by decide +kernel) (fun _ _ _ k => k) k
theorem bX13_wordOf_364 {G : Gt} {d bc bs : Nat} {Q : QT} {l : Ls} {z : List Value} {h : Hp} (k : (tRetL Q) l z h) : T G d bc bs mX13_wordOf 364 l z h Q := by
  exact R_lret dX13_wordOf_364 rfl k
theorem bX13_wordOf_365 {G : Gt} {d bc bs : Nat} {Q : QT} {l : Ls} {z : List Value} {h : Hp} (k : (tPush (.int 109) (tPush (.int 101) (tPush (.int 116) (tPush (.int 0) (tPush (.int 0) (tPush (.int 0) (tPush (.int 0) (tCS7 G d 0 0 mX13_spelt (fun l z h => T G d bc bs mX13_wordOf 378 l z h Q))))))))) l z h) : T G d bc bs mX13_wordOf 365 l z h Q := by
  refine R_bipush dX13_wordOf_365 (by decide) (fun l z h k => ?_) k
  refine R_bipush dX13_wordOf_367 (by decide) (fun l z h k => ?_) k
  refine R_bipush dX13_wordOf_369 (by decide) (fun l z h k => ?_) k
  refine R_iconst dX13_wordOf_371 (by decide) (fun l z h k => ?_) k
  refine R_iconst dX13_wordOf_372 (by decide) (fun l z h k => ?_) k
  refine R_iconst dX13_wordOf_373 (by decide) (fun l z h k => ?_) k
  refine R_iconst dX13_wordOf_374 (by decide) (fun l z h k => ?_) k
  exact R_cs7 (M := mX13_wordOf) (pc := 375) (bc := bc) (bs := bs) (cb := 0) (cs := 0) (M' := mX13_spelt) dX13_wordOf_375 (by decide) w_1673 w_144 w_1671 w_1672 (by decide +kernel) (fun _ _ _ k => k) k
theorem bX13_wordOf_378 {G : Gt} {d bc bs : Nat} {Q : QT} {l : Ls} {z : List Value} {h : Hp} (k : (tRetL Q) l z h) : T G d bc bs mX13_wordOf 378 l z h Q := by
  exact R_lret dX13_wordOf_378 rfl k
theorem bX13_wordOf_379 {G : Gt} {d bc bs : Nat} {Q : QT} {l : Ls} {z : List Value} {h : Hp} (k : (tPush (.int 112) (tPush (.int 97) (tPush (.int 121) (tPush (.int 115) (tPush (.int 0) (tPush (.int 0) (tPush (.int 0) (tCS7 G d 0 0 mX13_spelt (fun l z h => T G d bc bs mX13_wordOf 393 l z h Q))))))))) l z h) : T G d bc bs mX13_wordOf 379 l z h Q := by
  refine R_bipush dX13_wordOf_379 (by decide) (fun l z h k => ?_) k
  refine R_bipush dX13_wordOf_381 (by decide) (fun l z h k => ?_) k
  refine R_bipush dX13_wordOf_383 (by decide) (fun l z h k => ?_) k
  refine R_bipush dX13_wordOf_385 (by decide) (fun l z h k => ?_) k
  refine R_iconst dX13_wordOf_387 (by decide) (fun l z h k => ?_) k
  refine R_iconst dX13_wordOf_388 (by decide) (fun l z h k => ?_) k
  refine R_iconst dX13_wordOf_389 (by decide) (fun l z h k => ?_) k
  exact R_cs7 (M := mX13_wordOf) (pc := 390) (bc := bc) (bs := bs) (cb := 0) (cs := 0) (M' := mX13_spelt) dX13_wordOf_390 (by decide) w_1673 w_144 w_1671 w_1672 (by decide +kernel) (fun _ _ _ k => k) k
theorem bX13_wordOf_393 {G : Gt} {d bc bs : Nat} {Q : QT} {l : Ls} {z : List Value} {h : Hp} (k : (tRetL Q) l z h) : T G d bc bs mX13_wordOf 393 l z h Q := by
  exact R_lret dX13_wordOf_393 rfl k
theorem bX13_wordOf_394 {G : Gt} {d bc bs : Nat} {Q : QT} {l : Ls} {z : List Value} {h : Hp} (k : (tPush (.int 119) (tPush (.int 97) (tPush (.int 110) (tPush (.int 116) (tPush (.int 115) (tPush (.int 0) (tPush (.int 0) (tCS7 G d 0 0 mX13_spelt (fun l z h => T G d bc bs mX13_wordOf 409 l z h Q))))))))) l z h) : T G d bc bs mX13_wordOf 394 l z h Q := by
  refine R_bipush dX13_wordOf_394 (by decide) (fun l z h k => ?_) k
  refine R_bipush dX13_wordOf_396 (by decide) (fun l z h k => ?_) k
  refine R_bipush dX13_wordOf_398 (by decide) (fun l z h k => ?_) k
  refine R_bipush dX13_wordOf_400 (by decide) (fun l z h k => ?_) k
  refine R_bipush dX13_wordOf_402 (by decide) (fun l z h k => ?_) k
  refine R_iconst dX13_wordOf_404 (by decide) (fun l z h k => ?_) k
  refine R_iconst dX13_wordOf_405 (by decide) (fun l z h k => ?_) k
  exact R_cs7 (M := mX13_wordOf) (pc := 406) (bc := bc) (bs := bs) (cb := 0) (cs := 0) (M' := mX13_spelt) dX13_wordOf_406 (by decide) w_1673 w_144 w_1671 w_1672 (by decide +kernel) (fun _ _ _ k => k) k
theorem bX13_wordOf_409 {G : Gt} {d bc bs : Nat} {Q : QT} {l : Ls} {z : List Value} {h : Hp} (k : (tRetL Q) l z h) : T G d bc bs mX13_wordOf 409 l z h Q := by
  exact R_lret dX13_wordOf_409 rfl k
theorem bX13_wordOf_410 {G : Gt} {d bc bs : Nat} {Q : QT} {l : Ls} {z : List Value} {h : Hp} (k : (tPush (.int 97) (tPush (.int 108) (tPush (.int 108) (tPush (.int 0) (tPush (.int 0) (tPush (.int 0) (tPush (.int 0) (tCS7 G d 0 0 mX13_spelt (fun l z h => T G d bc bs mX13_wordOf 423 l z h Q))))))))) l z h) : T G d bc bs mX13_wordOf 410 l z h Q := by
  refine R_bipush dX13_wordOf_410 (by decide) (fun l z h k => ?_) k
  refine R_bipush dX13_wordOf_412 (by decide) (fun l z h k => ?_) k
  refine R_bipush dX13_wordOf_414 (by decide) (fun l z h k => ?_) k
  refine R_iconst dX13_wordOf_416 (by decide) (fun l z h k => ?_) k
  refine R_iconst dX13_wordOf_417 (by decide) (fun l z h k => ?_) k
  refine R_iconst dX13_wordOf_418 (by decide) (fun l z h k => ?_) k
  refine R_iconst dX13_wordOf_419 (by decide) (fun l z h k => ?_) k
  exact R_cs7 (M := mX13_wordOf) (pc := 420) (bc := bc) (bs := bs) (cb := 0) (cs := 0) (M' := mX13_spelt) dX13_wordOf_420 (by decide) w_1673 w_144 w_1671 w_1672 (by decide +kernel) (fun _ _ _ k => k) k
theorem bX13_wordOf_423 {G : Gt} {d bc bs : Nat} {Q : QT} {l : Ls} {z : List Value} {h : Hp} (k : (tRetL Q) l z h) : T G d bc bs mX13_wordOf 423 l z h Q := by
  exact R_lret dX13_wordOf_423 rfl k
theorem bX13_wordOf_424 {G : Gt} {d bc bs : Nat} {Q : QT} {l : Ls} {z : List Value} {h : Hp} (k : (tPush (.int 115) (tPush (.int 116) (tPush (.int 97) (tPush (.int 121) (tPush (.int 101) (tPush (.int 100) (tPush (.int 0) (tCS7 G d 0 0 mX13_spelt (fun l z h => T G d bc bs mX13_wordOf 440 l z h Q))))))))) l z h) : T G d bc bs mX13_wordOf 424 l z h Q := by
  refine R_bipush dX13_wordOf_424 (by decide) (fun l z h k => ?_) k
  refine R_bipush dX13_wordOf_426 (by decide) (fun l z h k => ?_) k
  refine R_bipush dX13_wordOf_428 (by decide) (fun l z h k => ?_) k
  refine R_bipush dX13_wordOf_430 (by decide) (fun l z h k => ?_) k
  refine R_bipush dX13_wordOf_432 (by decide) (fun l z h k => ?_) k
  refine R_bipush dX13_wordOf_434 (by decide) (fun l z h k => ?_) k
  refine R_iconst dX13_wordOf_436 (by decide) (fun l z h k => ?_) k
  exact R_cs7 (M := mX13_wordOf) (pc := 437) (bc := bc) (bs := bs) (cb := 0) (cs := 0) (M' := mX13_spelt) dX13_wordOf_437 (by decide) w_1673 w_144 w_1671 w_1672 (by decide +kernel) (fun _ _ _ k => k) k
theorem bX13_wordOf_440 {G : Gt} {d bc bs : Nat} {Q : QT} {l : Ls} {z : List Value} {h : Hp} (k : (tRetL Q) l z h) : T G d bc bs mX13_wordOf 440 l z h Q := by
  exact R_lret dX13_wordOf_440 rfl k
theorem bX13_wordOf_441 {G : Gt} {d bc bs : Nat} {Q : QT} {l : Ls} {z : List Value} {h : Hp} (k : (tPush (.int 99) (tPush (.int 114) (tPush (.int 111) (tPush (.int 115) (tPush (.int 115) (tPush (.int 101) (tPush (.int 100) (tCS7 G d 0 0 mX13_spelt (fun l z h => T G d bc bs mX13_wordOf 458 l z h Q))))))))) l z h) : T G d bc bs mX13_wordOf 441 l z h Q := by
  refine R_bipush dX13_wordOf_441 (by decide) (fun l z h k => ?_) k
  refine R_bipush dX13_wordOf_443 (by decide) (fun l z h k => ?_) k
  refine R_bipush dX13_wordOf_445 (by decide) (fun l z h k => ?_) k
  refine R_bipush dX13_wordOf_447 (by decide) (fun l z h k => ?_) k
  refine R_bipush dX13_wordOf_449 (by decide) (fun l z h k => ?_) k
  refine R_bipush dX13_wordOf_451 (by decide) (fun l z h k => ?_) k
  refine R_bipush dX13_wordOf_453 (by decide) (fun l z h k => ?_) k
  exact R_cs7 (M := mX13_wordOf) (pc := 455) (bc := bc) (bs := bs) (cb := 0) (cs := 0) (M' := mX13_spelt) dX13_wordOf_455 (by decide) w_1673 w_144 w_1671 w_1672 (by decide +kernel) (fun _ _ _ k => k) k
theorem bX13_wordOf_458 {G : Gt} {d bc bs : Nat} {Q : QT} {l : Ls} {z : List Value} {h : Hp} (k : (tRetL Q) l z h) : T G d bc bs mX13_wordOf 458 l z h Q := by
  exact R_lret dX13_wordOf_458 rfl k
theorem bX13_wordOf_459 {G : Gt} {d bc bs : Nat} {Q : QT} {l : Ls} {z : List Value} {h : Hp} (k : (tPush (.int 110) (tPush (.int 117) (tPush (.int 109) (tPush (.int 98) (tPush (.int 101) (tPush (.int 114) (tPush (.int 0) (tCS7 G d 0 0 mX13_spelt (fun l z h => T G d bc bs mX13_wordOf 475 l z h Q))))))))) l z h) : T G d bc bs mX13_wordOf 459 l z h Q := by
  refine R_bipush dX13_wordOf_459 (by decide) (fun l z h k => ?_) k
  refine R_bipush dX13_wordOf_461 (by decide) (fun l z h k => ?_) k
  refine R_bipush dX13_wordOf_463 (by decide) (fun l z h k => ?_) k
  refine R_bipush dX13_wordOf_465 (by decide) (fun l z h k => ?_) k
  refine R_bipush dX13_wordOf_467 (by decide) (fun l z h k => ?_) k
  refine R_bipush dX13_wordOf_469 (by decide) (fun l z h k => ?_) k
  refine R_iconst dX13_wordOf_471 (by decide) (fun l z h k => ?_) k
  exact R_cs7 (M := mX13_wordOf) (pc := 472) (bc := bc) (bs := bs) (cb := 0) (cs := 0) (M' := mX13_spelt) dX13_wordOf_472 (by decide) w_1673 w_144 w_1671 w_1672 (by decide +kernel) (fun _ _ _ k => k) k
theorem bX13_wordOf_475 {G : Gt} {d bc bs : Nat} {Q : QT} {l : Ls} {z : List Value} {h : Hp} (k : (tRetL Q) l z h) : T G d bc bs mX13_wordOf 475 l z h Q := by
  exact R_lret dX13_wordOf_475 rfl k
theorem dX13_isWord_0 : decode cX13_isWord 0 = .ok (.aload_n 0, 1) := by decide +kernel
theorem dX13_isWord_1 : decode cX13_isWord 1 = .ok (.getfield 107, 3) := by decide +kernel
theorem dX13_isWord_4 : decode cX13_isWord 4 = .ok (.iconst 2, 1) := by decide +kernel
theorem dX13_isWord_5 : decode cX13_isWord 5 = .ok (.if_icmp .ne 19, 3) := by decide +kernel
theorem dX13_isWord_8 : decode cX13_isWord 8 = .ok (.aload_n 0, 1) := by decide +kernel
theorem dX13_isWord_9 : decode cX13_isWord 9 = .ok (.getfield 120, 3) := by decide +kernel
theorem dX13_isWord_12 : decode cX13_isWord 12 = .ok (.iload_n 1, 1) := by decide +kernel
theorem dX13_isWord_13 : decode cX13_isWord 13 = .ok (.invokestatic 139, 3) := by decide +kernel
theorem dX13_isWord_16 : decode cX13_isWord 16 = .ok (.lcmp, 1) := by decide +kernel
theorem dX13_isWord_17 : decode cX13_isWord 17 = .ok (.ifCond .ne 7, 3) := by decide +kernel
theorem dX13_isWord_20 : decode cX13_isWord 20 = .ok (.iconst 1, 1) := by decide +kernel
theorem dX13_isWord_21 : decode cX13_isWord 21 = .ok (.goto 4, 3) := by decide +kernel
theorem dX13_isWord_24 : decode cX13_isWord 24 = .ok (.iconst 0, 1) := by decide +kernel
theorem dX13_isWord_25 : decode cX13_isWord 25 = .ok (.ireturn, 1) := by decide +kernel
theorem bX13_isWord_0 {G : Gt} {d bc bs : Nat} {Q : QT} {l : Ls} {z : List Value} {h : Hp} (k : (tAld 0 (tGetf 11 7 (tPush (.int 2) (tIf2 (fun x y => x = y) (fun l z h => T G d bc bs mX13_isWord 8 l z h Q) (fun l z h => T G d bc bs mX13_isWord 24 l z h Q))))) l z h) : T G d bc bs mX13_isWord 0 l z h Q := by
  refine R_aload_n dX13_isWord_0 rfl (fun l z h k => ?_) k
  refine R_getf (ci := 11) (f := 7) (C := RX13) (N := 49) (Tt := TX13) dX13_isWord_1 rfl i_X13 (by decide) w_1474 (fun l z h k => ?_) k
  refine R_iconst dX13_isWord_4 (by decide) (fun l z h k => ?_) k
  exact R_icmp_ne dX13_isWord_5 (by decide) (fun _ _ _ k => k) (fun _ _ _ k => k) k
theorem bX13_isWord_8 {G : Gt} {d bc bs : Nat} {Q : QT} {l : Ls} {z : List Value} {h : Hp} (k : (tAld 0 (tGetf 11 12 (tIld 1 (tCS1 G d 0 0 mX13_wordOf (fun l z h => T G d bc bs mX13_isWord 16 l z h Q))))) l z h) : T G d bc bs mX13_isWord 8 l z h Q := by
  refine R_aload_n dX13_isWord_8 rfl (fun l z h k => ?_) k
  refine R_getf (ci := 11) (f := 12) (C := RX13) (N := 49) (Tt := TX13) dX13_isWord_9 rfl i_X13 (by decide) w_1479 (fun l z h k => ?_) k
  refine R_iload_n dX13_isWord_12 rfl (fun l z h k => ?_) k
  exact R_cs1 (M := mX13_isWord) (pc := 13) (bc := bc) (bs := bs) (cb := 0) (cs := 0) (M' := mX13_wordOf) dX13_isWord_13 (by decide) w_1670 w_144 w_1668 w_1669 (by decide +kernel) (fun _ _ _ k => k) k
theorem bX13_isWord_16 {G : Gt} {d bc bs : Nat} {Q : QT} {l : Ls} {z : List Value} {h : Hp} (k : (tLcmp (tIf (fun x => x = 0) (fun l z h => T G d bc bs mX13_isWord 20 l z h Q) (fun l z h => T G d bc bs mX13_isWord 24 l z h Q))) l z h) : T G d bc bs mX13_isWord 16 l z h Q := by
  refine R_lcmp dX13_isWord_16 (fun l z h k => ?_) k
  exact R_if_ne dX13_isWord_17 (by decide) (fun _ _ _ k => k) (fun _ _ _ k => k) k
theorem bX13_isWord_20 {G : Gt} {d bc bs : Nat} {Q : QT} {l : Ls} {z : List Value} {h : Hp} (k : (tPush (.int 1) ((fun l z h => T G d bc bs mX13_isWord 25 l z h Q))) l z h) : T G d bc bs mX13_isWord 20 l z h Q := by
  refine R_iconst dX13_isWord_20 (by decide) (fun l z h k => ?_) k
  exact R_goto dX13_isWord_21 (by decide) (fun _ _ _ k => k) k
theorem bX13_isWord_24 {G : Gt} {d bc bs : Nat} {Q : QT} {l : Ls} {z : List Value} {h : Hp} (k : (tPush (.int 0) ((fun l z h => T G d bc bs mX13_isWord 25 l z h Q))) l z h) : T G d bc bs mX13_isWord 24 l z h Q := by
  refine R_iconst dX13_isWord_24 (by decide) (fun l z h k => ?_) k
  exact k
theorem bX13_isWord_25 {G : Gt} {d bc bs : Nat} {Q : QT} {l : Ls} {z : List Value} {h : Hp} (k : (tRetZ Q) l z h) : T G d bc bs mX13_isWord 25 l z h Q := by
  exact R_zret dX13_isWord_25 rfl k
theorem dX13_isSign_0 : decode cX13_isSign 0 = .ok (.aload_n 0, 1) := by decide +kernel
theorem dX13_isSign_1 : decode cX13_isSign 1 = .ok (.getfield 107, 3) := by decide +kernel
theorem dX13_isSign_4 : decode cX13_isSign 4 = .ok (.iconst 4, 1) := by decide +kernel
theorem dX13_isSign_5 : decode cX13_isSign 5 = .ok (.if_icmp .ne 15, 3) := by decide +kernel
theorem dX13_isSign_8 : decode cX13_isSign 8 = .ok (.aload_n 0, 1) := by decide +kernel
theorem dX13_isSign_9 : decode cX13_isSign 9 = .ok (.getfield 117, 3) := by decide +kernel
theorem dX13_isSign_12 : decode cX13_isSign 12 = .ok (.iload_n 1, 1) := by decide +kernel
theorem dX13_isSign_13 : decode cX13_isSign 13 = .ok (.if_icmp .ne 7, 3) := by decide +kernel
theorem dX13_isSign_16 : decode cX13_isSign 16 = .ok (.iconst 1, 1) := by decide +kernel
theorem dX13_isSign_17 : decode cX13_isSign 17 = .ok (.goto 4, 3) := by decide +kernel
theorem dX13_isSign_20 : decode cX13_isSign 20 = .ok (.iconst 0, 1) := by decide +kernel
theorem dX13_isSign_21 : decode cX13_isSign 21 = .ok (.ireturn, 1) := by decide +kernel
theorem bX13_isSign_0 {G : Gt} {d bc bs : Nat} {Q : QT} {l : Ls} {z : List Value} {h : Hp} (k : (tAld 0 (tGetf 11 7 (tPush (.int 4) (tIf2 (fun x y => x = y) (fun l z h => T G d bc bs mX13_isSign 8 l z h Q) (fun l z h => T G d bc bs mX13_isSign 20 l z h Q))))) l z h) : T G d bc bs mX13_isSign 0 l z h Q := by
  refine R_aload_n dX13_isSign_0 rfl (fun l z h k => ?_) k
  refine R_getf (ci := 11) (f := 7) (C := RX13) (N := 49) (Tt := TX13) dX13_isSign_1 rfl i_X13 (by decide) w_1474 (fun l z h k => ?_) k
  refine R_iconst dX13_isSign_4 (by decide) (fun l z h k => ?_) k
  exact R_icmp_ne dX13_isSign_5 (by decide) (fun _ _ _ k => k) (fun _ _ _ k => k) k
theorem bX13_isSign_8 {G : Gt} {d bc bs : Nat} {Q : QT} {l : Ls} {z : List Value} {h : Hp} (k : (tAld 0 (tGetf 11 9 (tIld 1 (tIf2 (fun x y => x = y) (fun l z h => T G d bc bs mX13_isSign 16 l z h Q) (fun l z h => T G d bc bs mX13_isSign 20 l z h Q))))) l z h) : T G d bc bs mX13_isSign 8 l z h Q := by
  refine R_aload_n dX13_isSign_8 rfl (fun l z h k => ?_) k
  refine R_getf (ci := 11) (f := 9) (C := RX13) (N := 49) (Tt := TX13) dX13_isSign_9 rfl i_X13 (by decide) w_1476 (fun l z h k => ?_) k
  refine R_iload_n dX13_isSign_12 rfl (fun l z h k => ?_) k
  exact R_icmp_ne dX13_isSign_13 (by decide) (fun _ _ _ k => k) (fun _ _ _ k => k) k
theorem bX13_isSign_16 {G : Gt} {d bc bs : Nat} {Q : QT} {l : Ls} {z : List Value} {h : Hp} (k : (tPush (.int 1) ((fun l z h => T G d bc bs mX13_isSign 21 l z h Q))) l z h) : T G d bc bs mX13_isSign 16 l z h Q := by
  refine R_iconst dX13_isSign_16 (by decide) (fun l z h k => ?_) k
  exact R_goto dX13_isSign_17 (by decide) (fun _ _ _ k => k) k
theorem bX13_isSign_20 {G : Gt} {d bc bs : Nat} {Q : QT} {l : Ls} {z : List Value} {h : Hp} (k : (tPush (.int 0) ((fun l z h => T G d bc bs mX13_isSign 21 l z h Q))) l z h) : T G d bc bs mX13_isSign 20 l z h Q := by
  refine R_iconst dX13_isSign_20 (by decide) (fun l z h k => ?_) k
  exact k
theorem bX13_isSign_21 {G : Gt} {d bc bs : Nat} {Q : QT} {l : Ls} {z : List Value} {h : Hp} (k : (tRetZ Q) l z h) : T G d bc bs mX13_isSign 21 l z h Q := by
  exact R_zret dX13_isSign_21 rfl k
theorem dX13_isName_0 : decode cX13_isName 0 = .ok (.aload_n 0, 1) := by decide +kernel
theorem dX13_isName_1 : decode cX13_isName 1 = .ok (.getfield 107, 3) := by decide +kernel
theorem dX13_isName_4 : decode cX13_isName 4 = .ok (.iconst 2, 1) := by decide +kernel
theorem dX13_isName_5 : decode cX13_isName 5 = .ok (.if_icmp .eq 5, 3) := by decide +kernel
theorem dX13_isName_8 : decode cX13_isName 8 = .ok (.iconst 0, 1) := by decide +kernel
theorem dX13_isName_9 : decode cX13_isName 9 = .ok (.ireturn, 1) := by decide +kernel
theorem dX13_isName_10 : decode cX13_isName 10 = .ok (.iconst 0, 1) := by decide +kernel
theorem dX13_isName_11 : decode cX13_isName 11 = .ok (.istore_n 1, 1) := by decide +kernel
theorem dX13_isName_12 : decode cX13_isName 12 = .ok (.iload_n 1, 1) := by decide +kernel
theorem dX13_isName_13 : decode cX13_isName 13 = .ok (.bipush 23, 2) := by decide +kernel
theorem dX13_isName_15 : decode cX13_isName 15 = .ok (.if_icmp .gt 23, 3) := by decide +kernel
theorem dX13_isName_18 : decode cX13_isName 18 = .ok (.aload_n 0, 1) := by decide +kernel
theorem dX13_isName_19 : decode cX13_isName 19 = .ok (.getfield 120, 3) := by decide +kernel
theorem dX13_isName_22 : decode cX13_isName 22 = .ok (.iload_n 1, 1) := by decide +kernel
theorem dX13_isName_23 : decode cX13_isName 23 = .ok (.invokestatic 139, 3) := by decide +kernel
theorem dX13_isName_26 : decode cX13_isName 26 = .ok (.lcmp, 1) := by decide +kernel
theorem dX13_isName_27 : decode cX13_isName 27 = .ok (.ifCond .ne 5, 3) := by decide +kernel
theorem dX13_isName_30 : decode cX13_isName 30 = .ok (.iconst 0, 1) := by decide +kernel
theorem dX13_isName_31 : decode cX13_isName 31 = .ok (.ireturn, 1) := by decide +kernel
theorem dX13_isName_32 : decode cX13_isName 32 = .ok (.iinc 1 1, 3) := by decide +kernel
theorem dX13_isName_35 : decode cX13_isName 35 = .ok (.goto (-23), 3) := by decide +kernel
theorem dX13_isName_38 : decode cX13_isName 38 = .ok (.iconst 1, 1) := by decide +kernel
theorem dX13_isName_39 : decode cX13_isName 39 = .ok (.ireturn, 1) := by decide +kernel
theorem bX13_isName_0 {G : Gt} {d bc bs : Nat} {Q : QT} {l : Ls} {z : List Value} {h : Hp} (k : (tAld 0 (tGetf 11 7 (tPush (.int 2) (tIf2 (fun x y => x = y) (fun l z h => T G d bc bs mX13_isName 10 l z h Q) (fun l z h => T G d bc bs mX13_isName 8 l z h Q))))) l z h) : T G d bc bs mX13_isName 0 l z h Q := by
  refine R_aload_n dX13_isName_0 rfl (fun l z h k => ?_) k
  refine R_getf (ci := 11) (f := 7) (C := RX13) (N := 49) (Tt := TX13) dX13_isName_1 rfl i_X13 (by decide) w_1474 (fun l z h k => ?_) k
  refine R_iconst dX13_isName_4 (by decide) (fun l z h k => ?_) k
  exact R_icmp_eq dX13_isName_5 (by decide) (fun _ _ _ k => k) (fun _ _ _ k => k) k
theorem bX13_isName_8 {G : Gt} {d bc bs : Nat} {Q : QT} {l : Ls} {z : List Value} {h : Hp} (k : (tPush (.int 0) (tRetZ Q)) l z h) : T G d bc bs mX13_isName 8 l z h Q := by
  refine R_iconst dX13_isName_8 (by decide) (fun l z h k => ?_) k
  exact R_zret dX13_isName_9 rfl k
theorem bX13_isName_10 {G : Gt} {d bc bs : Nat} {Q : QT} {l : Ls} {z : List Value} {h : Hp} (k : (tPush (.int 0) (tIst 1 ((fun l z h => T G d bc bs mX13_isName 12 l z h Q)))) l z h) : T G d bc bs mX13_isName 10 l z h Q := by
  refine R_iconst dX13_isName_10 (by decide) (fun l z h k => ?_) k
  refine R_istore_n dX13_isName_11 rfl (by decide) (fun l z h k => ?_) k
  exact k
theorem bX13_isName_12 {G : Gt} {d bc bs : Nat} {Q : QT} {l : Ls} {z : List Value} {h : Hp} (k : (tIld 1 (tPush (.int 23) (tIf2 (fun x y => y < x) (fun l z h => T G d bc bs mX13_isName 38 l z h Q) (fun l z h => T G d bc bs mX13_isName 18 l z h Q)))) l z h) : T G d bc bs mX13_isName 12 l z h Q := by
  refine R_iload_n dX13_isName_12 rfl (fun l z h k => ?_) k
  refine R_bipush dX13_isName_13 (by decide) (fun l z h k => ?_) k
  exact R_icmp_gt dX13_isName_15 (by decide) (fun _ _ _ k => k) (fun _ _ _ k => k) k
theorem bX13_isName_18 {G : Gt} {d bc bs : Nat} {Q : QT} {l : Ls} {z : List Value} {h : Hp} (k : (tAld 0 (tGetf 11 12 (tIld 1 (tCS1 G d 0 0 mX13_wordOf (fun l z h => T G d bc bs mX13_isName 26 l z h Q))))) l z h) : T G d bc bs mX13_isName 18 l z h Q := by
  refine R_aload_n dX13_isName_18 rfl (fun l z h k => ?_) k
  refine R_getf (ci := 11) (f := 12) (C := RX13) (N := 49) (Tt := TX13) dX13_isName_19 rfl i_X13 (by decide) w_1479 (fun l z h k => ?_) k
  refine R_iload_n dX13_isName_22 rfl (fun l z h k => ?_) k
  exact R_cs1 (M := mX13_isName) (pc := 23) (bc := bc) (bs := bs) (cb := 0) (cs := 0) (M' := mX13_wordOf) dX13_isName_23 (by decide) w_1670 w_144 w_1668 w_1669 (by decide +kernel) (fun _ _ _ k => k) k
theorem bX13_isName_26 {G : Gt} {d bc bs : Nat} {Q : QT} {l : Ls} {z : List Value} {h : Hp} (k : (tLcmp (tIf (fun x => x = 0) (fun l z h => T G d bc bs mX13_isName 30 l z h Q) (fun l z h => T G d bc bs mX13_isName 32 l z h Q))) l z h) : T G d bc bs mX13_isName 26 l z h Q := by
  refine R_lcmp dX13_isName_26 (fun l z h k => ?_) k
  exact R_if_ne dX13_isName_27 (by decide) (fun _ _ _ k => k) (fun _ _ _ k => k) k
theorem bX13_isName_30 {G : Gt} {d bc bs : Nat} {Q : QT} {l : Ls} {z : List Value} {h : Hp} (k : (tPush (.int 0) (tRetZ Q)) l z h) : T G d bc bs mX13_isName 30 l z h Q := by
  refine R_iconst dX13_isName_30 (by decide) (fun l z h k => ?_) k
  exact R_zret dX13_isName_31 rfl k
theorem bX13_isName_32 {G : Gt} {d bc bs : Nat} {Q : QT} {l : Ls} {z : List Value} {h : Hp} (k : (tInc 1 1 ((fun l z h => T G d bc bs mX13_isName 12 l z h Q))) l z h) : T G d bc bs mX13_isName 32 l z h Q := by
  refine R_iinc dX13_isName_32 (by decide) (by decide) (fun l z h k => ?_) k
  exact R_goto dX13_isName_35 (by decide) (fun _ _ _ k => k) k
theorem bX13_isName_38 {G : Gt} {d bc bs : Nat} {Q : QT} {l : Ls} {z : List Value} {h : Hp} (k : (tPush (.int 1) (tRetZ Q)) l z h) : T G d bc bs mX13_isName 38 l z h Q := by
  refine R_iconst dX13_isName_38 (by decide) (fun l z h k => ?_) k
  exact R_zret dX13_isName_39 rfl k
theorem dX13_bad_0 : decode cX13_bad 0 = .ok (.aload_n 0, 1) := by decide +kernel
theorem dX13_bad_1 : decode cX13_bad 1 = .ok (.aload_n 0, 1) := by decide +kernel
theorem dX13_bad_2 : decode cX13_bad 2 = .ok (.getfield 107, 3) := by decide +kernel
theorem dX13_bad_5 : decode cX13_bad 5 = .ok (.iconst 1, 1) := by decide +kernel
theorem dX13_bad_6 : decode cX13_bad 6 = .ok (.if_icmp .ne 7, 3) := by decide +kernel
theorem dX13_bad_9 : decode cX13_bad 9 = .ok (.iconst 1, 1) := by decide +kernel
theorem dX13_bad_10 : decode cX13_bad 10 = .ok (.goto 4, 3) := by decide +kernel
theorem dX13_bad_13 : decode cX13_bad 13 = .ok (.iload_n 1, 1) := by decide +kernel
theorem dX13_bad_14 : decode cX13_bad 14 = .ok (.putfield 143, 3) := by decide +kernel
theorem dX13_bad_17 : decode cX13_bad 17 = .ok (.aload_n 0, 1) := by decide +kernel
theorem dX13_bad_18 : decode cX13_bad 18 = .ok (.aload_n 0, 1) := by decide +kernel
theorem dX13_bad_19 : decode cX13_bad 19 = .ok (.getfield 101, 3) := by decide +kernel
theorem dX13_bad_22 : decode cX13_bad 22 = .ok (.putfield 146, 3) := by decide +kernel
theorem dX13_bad_25 : decode cX13_bad 25 = .ok (.iconst 0, 1) := by decide +kernel
theorem dX13_bad_26 : decode cX13_bad 26 = .ok (.ireturn, 1) := by decide +kernel
theorem bX13_bad_0 {G : Gt} {d bc bs : Nat} {Q : QT} {l : Ls} {z : List Value} {h : Hp} (k : (tAld 0 (tAld 0 (tGetf 11 7 (tPush (.int 1) (tIf2 (fun x y => x = y) (fun l z h => T G d bc bs mX13_bad 9 l z h Q) (fun l z h => T G d bc bs mX13_bad 13 l z h Q)))))) l z h) : T G d bc bs mX13_bad 0 l z h Q := by
  refine R_aload_n dX13_bad_0 rfl (fun l z h k => ?_) k
  refine R_aload_n dX13_bad_1 rfl (fun l z h k => ?_) k
  refine R_getf (ci := 11) (f := 7) (C := RX13) (N := 49) (Tt := TX13) dX13_bad_2 rfl i_X13 (by decide) w_1474 (fun l z h k => ?_) k
  refine R_iconst dX13_bad_5 (by decide) (fun l z h k => ?_) k
  exact R_icmp_ne dX13_bad_6 (by decide) (fun _ _ _ k => k) (fun _ _ _ k => k) k
theorem bX13_bad_9 {G : Gt} {d bc bs : Nat} {Q : QT} {l : Ls} {z : List Value} {h : Hp} (k : (tPush (.int 1) ((fun l z h => T G d bc bs mX13_bad 14 l z h Q))) l z h) : T G d bc bs mX13_bad 9 l z h Q := by
  refine R_iconst dX13_bad_9 (by decide) (fun l z h k => ?_) k
  exact R_goto dX13_bad_10 (by decide) (fun _ _ _ k => k) k
theorem bX13_bad_13 {G : Gt} {d bc bs : Nat} {Q : QT} {l : Ls} {z : List Value} {h : Hp} (k : (tIld 1 ((fun l z h => T G d bc bs mX13_bad 14 l z h Q))) l z h) : T G d bc bs mX13_bad 13 l z h Q := by
  refine R_iload_n dX13_bad_13 rfl (fun l z h k => ?_) k
  exact k
theorem bX13_bad_14 {G : Gt} {d bc bs : Nat} {Q : QT} {l : Ls} {z : List Value} {h : Hp} (k : (tPutf isI 11 10 (tAld 0 (tAld 0 (tGetf 11 6 (tPutf isI 11 11 (tPush (.int 0) (tRetZ Q))))))) l z h) : T G d bc bs mX13_bad 14 l z h Q := by
  refine R_putf (ci := 11) (f := 10) (C := RX13) (N := 49) (Tt := TX13) tyX13 tyX13_ok nmX13 dX13_bad_14 rfl i_X13 (by decide) w_1477 rfl (tyX13_ok 10 (by decide)) p_int (fun l z h k => ?_) k
  refine R_aload_n dX13_bad_17 rfl (fun l z h k => ?_) k
  refine R_aload_n dX13_bad_18 rfl (fun l z h k => ?_) k
  refine R_getf (ci := 11) (f := 6) (C := RX13) (N := 49) (Tt := TX13) dX13_bad_19 rfl i_X13 (by decide) w_1473 (fun l z h k => ?_) k
  refine R_putf (ci := 11) (f := 11) (C := RX13) (N := 49) (Tt := TX13) tyX13 tyX13_ok nmX13 dX13_bad_22 rfl i_X13 (by decide) w_1478 rfl (tyX13_ok 11 (by decide)) p_int (fun l z h k => ?_) k
  refine R_iconst dX13_bad_25 (by decide) (fun l z h k => ?_) k
  exact R_zret dX13_bad_26 rfl k
theorem dX13_readNumber_0 : decode cX13_readNumber 0 = .ok (.aload_n 0, 1) := by decide +kernel
theorem dX13_readNumber_1 : decode cX13_readNumber 1 = .ok (.getfield 107, 3) := by decide +kernel
theorem dX13_readNumber_4 : decode cX13_readNumber 4 = .ok (.iconst 3, 1) := by decide +kernel
theorem dX13_readNumber_5 : decode cX13_readNumber 5 = .ok (.if_icmp .eq 9, 3) := by decide +kernel
theorem dX13_readNumber_8 : decode cX13_readNumber 8 = .ok (.aload_n 0, 1) := by decide +kernel
theorem dX13_readNumber_9 : decode cX13_readNumber 9 = .ok (.iconst 1, 1) := by decide +kernel
theorem dX13_readNumber_10 : decode cX13_readNumber 10 = .ok (.invokevirtual 149, 3) := by decide +kernel
theorem dX13_readNumber_13 : decode cX13_readNumber 13 = .ok (.ireturn, 1) := by decide +kernel
theorem dX13_readNumber_14 : decode cX13_readNumber 14 = .ok (.aload_n 0, 1) := by decide +kernel
theorem dX13_readNumber_15 : decode cX13_readNumber 15 = .ok (.getfield 124, 3) := by decide +kernel
theorem dX13_readNumber_18 : decode cX13_readNumber 18 = .ok (.iload_n 1, 1) := by decide +kernel
theorem dX13_readNumber_19 : decode cX13_readNumber 19 = .ok (.iload_n 2, 1) := by decide +kernel
theorem dX13_readNumber_20 : decode cX13_readNumber 20 = .ok (.invokestatic 152, 3) := by decide +kernel
theorem dX13_readNumber_23 : decode cX13_readNumber 23 = .ok (.ifCond .ne 9, 3) := by decide +kernel
theorem dX13_readNumber_26 : decode cX13_readNumber 26 = .ok (.aload_n 0, 1) := by decide +kernel
theorem dX13_readNumber_27 : decode cX13_readNumber 27 = .ok (.iconst 2, 1) := by decide +kernel
theorem dX13_readNumber_28 : decode cX13_readNumber 28 = .ok (.invokevirtual 149, 3) := by decide +kernel
theorem dX13_readNumber_31 : decode cX13_readNumber 31 = .ok (.ireturn, 1) := by decide +kernel
theorem dX13_readNumber_32 : decode cX13_readNumber 32 = .ok (.aload_n 0, 1) := by decide +kernel
theorem dX13_readNumber_33 : decode cX13_readNumber 33 = .ok (.aload_n 0, 1) := by decide +kernel
theorem dX13_readNumber_34 : decode cX13_readNumber 34 = .ok (.getfield 124, 3) := by decide +kernel
theorem dX13_readNumber_37 : decode cX13_readNumber 37 = .ok (.putfield 156, 3) := by decide +kernel
theorem dX13_readNumber_40 : decode cX13_readNumber 40 = .ok (.aload_n 0, 1) := by decide +kernel
theorem dX13_readNumber_41 : decode cX13_readNumber 41 = .ok (.invokevirtual 159, 3) := by decide +kernel
theorem dX13_readNumber_44 : decode cX13_readNumber 44 = .ok (.iconst 1, 1) := by decide +kernel
theorem dX13_readNumber_45 : decode cX13_readNumber 45 = .ok (.ireturn, 1) := by decide +kernel
theorem bX13_readNumber_0 {G : Gt} {d bc bs : Nat} {Q : QT} {l : Ls} {z : List Value} {h : Hp} (k : (tAld 0 (tGetf 11 7 (tPush (.int 3) (tIf2 (fun x y => x = y) (fun l z h => T G d bc bs mX13_readNumber 14 l z h Q) (fun l z h => T G d bc bs mX13_readNumber 8 l z h Q))))) l z h) : T G d bc bs mX13_readNumber 0 l z h Q := by
  refine R_aload_n dX13_readNumber_0 rfl (fun l z h k => ?_) k
  refine R_getf (ci := 11) (f := 7) (C := RX13) (N := 49) (Tt := TX13) dX13_readNumber_1 rfl i_X13 (by decide) w_1474 (fun l z h k => ?_) k
  refine R_iconst dX13_readNumber_4 (by decide) (fun l z h k => ?_) k
  exact R_icmp_eq dX13_readNumber_5 (by decide) (fun _ _ _ k => k) (fun _ _ _ k => k) k
theorem bX13_readNumber_8 {G : Gt} {d bc bs : Nat} {Q : QT} {l : Ls} {z : List Value} {h : Hp} (k : (tAld 0 (tPush (.int 1) (tCV1 G d 0 0 11 mX13_bad (fun l z h => T G d bc bs mX13_readNumber 13 l z h Q)))) l z h) : T G d bc bs mX13_readNumber 8 l z h Q := by
  refine R_aload_n dX13_readNumber_8 rfl (fun l z h k => ?_) k
  refine R_iconst dX13_readNumber_9 (by decide) (fun l z h k => ?_) k
  exact R_cv1 (M := mX13_readNumber) (pc := 10) (bc := bc) (bs := bs) (cb := 0) (cs := 0) (M' := mX13_bad) dX13_readNumber_10 rfl (by decide) w_1685 w_144 w_1682 w_1684 w_53 (by decide +kernel) (fun _ _ _ k => k) k
theorem bX13_readNumber_13 {G : Gt} {d bc bs : Nat} {Q : QT} {l : Ls} {z : List Value} {h : Hp} (k : (tRetZ Q) l z h) : T G d bc bs mX13_readNumber 13 l z h Q := by
  exact R_zret dX13_readNumber_13 rfl k
theorem bX13_readNumber_14 {G : Gt} {d bc bs : Nat} {Q : QT} {l : Ls} {z : List Value} {h : Hp} (k : (tAld 0 (tGetf 11 8 (tIld 1 (tIld 2 (tCS3 G d 0 0 mX13_isIn (fun l z h => T G d bc bs mX13_readNumber 23 l z h Q)))))) l z h) : T G d bc bs mX13_readNumber 14 l z h Q := by
  refine R_aload_n dX13_readNumber_14 rfl (fun l z h k => ?_) k
  refine R_getf (ci := 11) (f := 8) (C := RX13) (N := 49) (Tt := TX13) dX13_readNumber_15 rfl i_X13 (by decide) w_1475 (fun l z h k => ?_) k
  refine R_iload_n dX13_readNumber_18 rfl (fun l z h k => ?_) k
  refine R_iload_n dX13_readNumber_19 rfl (fun l z h k => ?_) k
  exact R_cs3 (M := mX13_readNumber) (pc := 20) (bc := bc) (bs := bs) (cb := 0) (cs := 0) (M' := mX13_isIn) dX13_readNumber_20 (by decide) w_1711 w_144 w_1709 w_1710 (by decide +kernel) (fun _ _ _ k => k) k
theorem bX13_readNumber_23 {G : Gt} {d bc bs : Nat} {Q : QT} {l : Ls} {z : List Value} {h : Hp} (k : (tIf (fun x => x = 0) (fun l z h => T G d bc bs mX13_readNumber 26 l z h Q) (fun l z h => T G d bc bs mX13_readNumber 32 l z h Q)) l z h) : T G d bc bs mX13_readNumber 23 l z h Q := by
  exact R_if_ne dX13_readNumber_23 (by decide) (fun _ _ _ k => k) (fun _ _ _ k => k) k
theorem bX13_readNumber_26 {G : Gt} {d bc bs : Nat} {Q : QT} {l : Ls} {z : List Value} {h : Hp} (k : (tAld 0 (tPush (.int 2) (tCV1 G d 0 0 11 mX13_bad (fun l z h => T G d bc bs mX13_readNumber 31 l z h Q)))) l z h) : T G d bc bs mX13_readNumber 26 l z h Q := by
  refine R_aload_n dX13_readNumber_26 rfl (fun l z h k => ?_) k
  refine R_iconst dX13_readNumber_27 (by decide) (fun l z h k => ?_) k
  exact R_cv1 (M := mX13_readNumber) (pc := 28) (bc := bc) (bs := bs) (cb := 0) (cs := 0) (M' := mX13_bad) dX13_readNumber_28 rfl (by decide) w_1685 w_144 w_1682 w_1684 w_53 (by decide +kernel) (fun _ _ _ k => k) k
theorem bX13_readNumber_31 {G : Gt} {d bc bs : Nat} {Q : QT} {l : Ls} {z : List Value} {h : Hp} (k : (tRetZ Q) l z h) : T G d bc bs mX13_readNumber 31 l z h Q := by
  exact R_zret dX13_readNumber_31 rfl k
theorem bX13_readNumber_32 {G : Gt} {d bc bs : Nat} {Q : QT} {l : Ls} {z : List Value} {h : Hp} (k : (tAld 0 (tAld 0 (tGetf 11 8 (tPutf isI 11 13 (tAld 0 (tCV0 G d 0 0 11 mX13_go (fun l z h => T G d bc bs mX13_readNumber 44 l z h Q))))))) l z h) : T G d bc bs mX13_readNumber 32 l z h Q := by
  refine R_aload_n dX13_readNumber_32 rfl (fun l z h k => ?_) k
  refine R_aload_n dX13_readNumber_33 rfl (fun l z h k => ?_) k
  refine R_getf (ci := 11) (f := 8) (C := RX13) (N := 49) (Tt := TX13) dX13_readNumber_34 rfl i_X13 (by decide) w_1475 (fun l z h k => ?_) k
  refine R_putf (ci := 11) (f := 13) (C := RX13) (N := 49) (Tt := TX13) tyX13 tyX13_ok nmX13 dX13_readNumber_37 rfl i_X13 (by decide) w_1480 rfl (tyX13_ok 13 (by decide)) p_int (fun l z h k => ?_) k
  refine R_aload_n dX13_readNumber_40 rfl (fun l z h k => ?_) k
  exact R_cv0 (M := mX13_readNumber) (pc := 41) (bc := bc) (bs := bs) (cb := 0) (cs := 0) (M' := mX13_go) dX13_readNumber_41 rfl (by decide) w_1647 w_144 w_1644 w_1646 w_47 (by decide +kernel) (fun _ _ _ k => k) k
theorem bX13_readNumber_44 {G : Gt} {d bc bs : Nat} {Q : QT} {l : Ls} {z : List Value} {h : Hp} (k : (tPush (.int 1) (tRetZ Q)) l z h) : T G d bc bs mX13_readNumber 44 l z h Q := by
  refine R_iconst dX13_readNumber_44 (by decide) (fun l z h k => ?_) k
  exact R_zret dX13_readNumber_45 rfl k
theorem dX13_readEnd_0 : decode cX13_readEnd 0 = .ok (.aload_n 0, 1) := by decide +kernel
theorem dX13_readEnd_1 : decode cX13_readEnd 1 = .ok (.bipush 59, 2) := by decide +kernel
theorem dX13_readEnd_3 : decode cX13_readEnd 3 = .ok (.invokevirtual 162, 3) := by decide +kernel
theorem dX13_readEnd_6 : decode cX13_readEnd 6 = .ok (.ifCond .ne 9, 3) := by decide +kernel
theorem dX13_readEnd_9 : decode cX13_readEnd 9 = .ok (.aload_n 0, 1) := by decide +kernel
theorem dX13_readEnd_10 : decode cX13_readEnd 10 = .ok (.iconst 1, 1) := by decide +kernel
theorem dX13_readEnd_11 : decode cX13_readEnd 11 = .ok (.invokevirtual 149, 3) := by decide +kernel
theorem dX13_readEnd_14 : decode cX13_readEnd 14 = .ok (.ireturn, 1) := by decide +kernel
theorem dX13_readEnd_15 : decode cX13_readEnd 15 = .ok (.aload_n 0, 1) := by decide +kernel
theorem dX13_readEnd_16 : decode cX13_readEnd 16 = .ok (.invokevirtual 159, 3) := by decide +kernel
theorem dX13_readEnd_19 : decode cX13_readEnd 19 = .ok (.iconst 1, 1) := by decide +kernel
theorem dX13_readEnd_20 : decode cX13_readEnd 20 = .ok (.ireturn, 1) := by decide +kernel
theorem bX13_readEnd_0 {G : Gt} {d bc bs : Nat} {Q : QT} {l : Ls} {z : List Value} {h : Hp} (k : (tAld 0 (tPush (.int 59) (tCV1 G d 0 0 11 mX13_isSign (fun l z h => T G d bc bs mX13_readEnd 6 l z h Q)))) l z h) : T G d bc bs mX13_readEnd 0 l z h Q := by
  refine R_aload_n dX13_readEnd_0 rfl (fun l z h k => ?_) k
  refine R_bipush dX13_readEnd_1 (by decide) (fun l z h k => ?_) k
  exact R_cv1 (M := mX13_readEnd) (pc := 3) (bc := bc) (bs := bs) (cb := 0) (cs := 0) (M' := mX13_isSign) dX13_readEnd_3 rfl (by decide) w_1751 w_144 w_1748 w_1750 w_68 (by decide +kernel) (fun _ _ _ k => k) k
theorem bX13_readEnd_6 {G : Gt} {d bc bs : Nat} {Q : QT} {l : Ls} {z : List Value} {h : Hp} (k : (tIf (fun x => x = 0) (fun l z h => T G d bc bs mX13_readEnd 9 l z h Q) (fun l z h => T G d bc bs mX13_readEnd 15 l z h Q)) l z h) : T G d bc bs mX13_readEnd 6 l z h Q := by
  exact R_if_ne dX13_readEnd_6 (by decide) (fun _ _ _ k => k) (fun _ _ _ k => k) k
theorem bX13_readEnd_9 {G : Gt} {d bc bs : Nat} {Q : QT} {l : Ls} {z : List Value} {h : Hp} (k : (tAld 0 (tPush (.int 1) (tCV1 G d 0 0 11 mX13_bad (fun l z h => T G d bc bs mX13_readEnd 14 l z h Q)))) l z h) : T G d bc bs mX13_readEnd 9 l z h Q := by
  refine R_aload_n dX13_readEnd_9 rfl (fun l z h k => ?_) k
  refine R_iconst dX13_readEnd_10 (by decide) (fun l z h k => ?_) k
  exact R_cv1 (M := mX13_readEnd) (pc := 11) (bc := bc) (bs := bs) (cb := 0) (cs := 0) (M' := mX13_bad) dX13_readEnd_11 rfl (by decide) w_1685 w_144 w_1682 w_1684 w_53 (by decide +kernel) (fun _ _ _ k => k) k
theorem bX13_readEnd_14 {G : Gt} {d bc bs : Nat} {Q : QT} {l : Ls} {z : List Value} {h : Hp} (k : (tRetZ Q) l z h) : T G d bc bs mX13_readEnd 14 l z h Q := by
  exact R_zret dX13_readEnd_14 rfl k
theorem bX13_readEnd_15 {G : Gt} {d bc bs : Nat} {Q : QT} {l : Ls} {z : List Value} {h : Hp} (k : (tAld 0 (tCV0 G d 0 0 11 mX13_go (fun l z h => T G d bc bs mX13_readEnd 19 l z h Q))) l z h) : T G d bc bs mX13_readEnd 15 l z h Q := by
  refine R_aload_n dX13_readEnd_15 rfl (fun l z h k => ?_) k
  exact R_cv0 (M := mX13_readEnd) (pc := 16) (bc := bc) (bs := bs) (cb := 0) (cs := 0) (M' := mX13_go) dX13_readEnd_16 rfl (by decide) w_1647 w_144 w_1644 w_1646 w_47 (by decide +kernel) (fun _ _ _ k => k) k
theorem bX13_readEnd_19 {G : Gt} {d bc bs : Nat} {Q : QT} {l : Ls} {z : List Value} {h : Hp} (k : (tPush (.int 1) (tRetZ Q)) l z h) : T G d bc bs mX13_readEnd 19 l z h Q := by
  refine R_iconst dX13_readEnd_19 (by decide) (fun l z h k => ?_) k
  exact R_zret dX13_readEnd_20 rfl k
theorem dX13_begin_0 : decode cX13_begin 0 = .ok (.aload_n 0, 1) := by decide +kernel
theorem dX13_begin_1 : decode cX13_begin 1 = .ok (.iconst 0, 1) := by decide +kernel
theorem dX13_begin_2 : decode cX13_begin 2 = .ok (.putfield 85, 3) := by decide +kernel
theorem dX13_begin_5 : decode cX13_begin 5 = .ok (.aload_n 0, 1) := by decide +kernel
theorem dX13_begin_6 : decode cX13_begin 6 = .ok (.aload_n 0, 1) := by decide +kernel
theorem dX13_begin_7 : decode cX13_begin 7 = .ok (.invokevirtual 165, 3) := by decide +kernel
theorem dX13_begin_10 : decode cX13_begin 10 = .ok (.putfield 95, 3) := by decide +kernel
theorem dX13_begin_13 : decode cX13_begin 13 = .ok (.aload_n 0, 1) := by decide +kernel
theorem dX13_begin_14 : decode cX13_begin 14 = .ok (.iload_n 1, 1) := by decide +kernel
theorem dX13_begin_15 : decode cX13_begin 15 = .ok (.putfield 104, 3) := by decide +kernel
theorem dX13_begin_18 : decode cX13_begin 18 = .ok (.aload_n 0, 1) := by decide +kernel
theorem dX13_begin_19 : decode cX13_begin 19 = .ok (.iconst 0, 1) := by decide +kernel
theorem dX13_begin_20 : decode cX13_begin 20 = .ok (.putfield 143, 3) := by decide +kernel
theorem dX13_begin_23 : decode cX13_begin 23 = .ok (.aload_n 0, 1) := by decide +kernel
theorem dX13_begin_24 : decode cX13_begin 24 = .ok (.iconst 0, 1) := by decide +kernel
theorem dX13_begin_25 : decode cX13_begin 25 = .ok (.putfield 98, 3) := by decide +kernel
theorem dX13_begin_28 : decode cX13_begin 28 = .ok (.aload_n 0, 1) := by decide +kernel
theorem dX13_begin_29 : decode cX13_begin 29 = .ok (.invokevirtual 159, 3) := by decide +kernel
theorem dX13_begin_32 : decode cX13_begin 32 = .ok (.return_, 1) := by decide +kernel
theorem bX13_begin_0 {G : Gt} {d bc bs : Nat} {Q : QT} {l : Ls} {z : List Value} {h : Hp} (k : (tAld 0 (tPush (.int 0) (tPutf isI 11 0 (tAld 0 (tAld 0 (tCV0 G d 0 0 11 mX13_take (fun l z h => T G d bc bs mX13_begin 10 l z h Q))))))) l z h) : T G d bc bs mX13_begin 0 l z h Q := by
  refine R_aload_n dX13_begin_0 rfl (fun l z h k => ?_) k
  refine R_iconst dX13_begin_1 (by decide) (fun l z h k => ?_) k
  refine R_putf (ci := 11) (f := 0) (C := RX13) (N := 49) (Tt := TX13) tyX13 tyX13_ok nmX13 dX13_begin_2 rfl i_X13 (by decide) w_1467 rfl (tyX13_ok 0 (by decide)) p_int (fun l z h k => ?_) k
  refine R_aload_n dX13_begin_5 rfl (fun l z h k => ?_) k
  refine R_aload_n dX13_begin_6 rfl (fun l z h k => ?_) k
  exact R_cv0 (M := mX13_begin) (pc := 7) (bc := bc) (bs := bs) (cb := 0) (cs := 0) (M' := mX13_take) dX13_begin_7 rfl (by decide) w_1643 w_144 w_1640 w_1642 w_46 (by decide +kernel) (fun _ _ _ k => k) k
theorem bX13_begin_10 {G : Gt} {d bc bs : Nat} {Q : QT} {l : Ls} {z : List Value} {h : Hp} (k : (tPutf isI 11 3 (tAld 0 (tIld 1 (tPutf isI 11 4 (tAld 0 (tPush (.int 0) (tPutf isI 11 10 (tAld 0 (tPush (.int 0) (tPutf isI 11 5 (tAld 0 (tCV0 G d 0 0 11 mX13_go (fun l z h => T G d bc bs mX13_begin 32 l z h Q))))))))))))) l z h) : T G d bc bs mX13_begin 10 l z h Q := by
  refine R_putf (ci := 11) (f := 3) (C := RX13) (N := 49) (Tt := TX13) tyX13 tyX13_ok nmX13 dX13_begin_10 rfl i_X13 (by decide) w_1470 rfl (tyX13_ok 3 (by decide)) p_int (fun l z h k => ?_) k
  refine R_aload_n dX13_begin_13 rfl (fun l z h k => ?_) k
  refine R_iload_n dX13_begin_14 rfl (fun l z h k => ?_) k
  refine R_putf (ci := 11) (f := 4) (C := RX13) (N := 49) (Tt := TX13) tyX13 tyX13_ok nmX13 dX13_begin_15 rfl i_X13 (by decide) w_1471 rfl (tyX13_ok 4 (by decide)) p_int (fun l z h k => ?_) k
  refine R_aload_n dX13_begin_18 rfl (fun l z h k => ?_) k
  refine R_iconst dX13_begin_19 (by decide) (fun l z h k => ?_) k
  refine R_putf (ci := 11) (f := 10) (C := RX13) (N := 49) (Tt := TX13) tyX13 tyX13_ok nmX13 dX13_begin_20 rfl i_X13 (by decide) w_1477 rfl (tyX13_ok 10 (by decide)) p_int (fun l z h k => ?_) k
  refine R_aload_n dX13_begin_23 rfl (fun l z h k => ?_) k
  refine R_iconst dX13_begin_24 (by decide) (fun l z h k => ?_) k
  refine R_putf (ci := 11) (f := 5) (C := RX13) (N := 49) (Tt := TX13) tyX13 tyX13_ok nmX13 dX13_begin_25 rfl i_X13 (by decide) w_1472 rfl (tyX13_ok 5 (by decide)) p_int (fun l z h k => ?_) k
  refine R_aload_n dX13_begin_28 rfl (fun l z h k => ?_) k
  exact R_cv0 (M := mX13_begin) (pc := 29) (bc := bc) (bs := bs) (cb := 0) (cs := 0) (M' := mX13_go) dX13_begin_29 rfl (by decide) w_1647 w_144 w_1644 w_1646 w_47 (by decide +kernel) (fun _ _ _ k => k) k
theorem bX13_begin_32 {G : Gt} {d bc bs : Nat} {Q : QT} {l : Ls} {z : List Value} {h : Hp} (k : (tRetV Q) l z h) : T G d bc bs mX13_begin 32 l z h Q := by
  exact R_vret dX13_begin_32 rfl k
theorem dX13_startSo_0 : decode cX13_startSo 0 = .ok (.bipush 98, 2) := by decide +kernel
theorem dX13_startSo_2 : decode cX13_startSo 2 = .ok (.istore_n 1, 1) := by decide +kernel
theorem dX13_startSo_3 : decode cX13_startSo 3 = .ok (.iload_n 1, 1) := by decide +kernel
theorem dX13_startSo_4 : decode cX13_startSo 4 = .ok (.sipush 433, 3) := by decide +kernel
theorem dX13_startSo_7 : decode cX13_startSo 7 = .ok (.if_icmp .ge 16, 3) := by decide +kernel
theorem dX13_startSo_10 : decode cX13_startSo 10 = .ok (.aload_n 0, 1) := by decide +kernel
theorem dX13_startSo_11 : decode cX13_startSo 11 = .ok (.getfield 13, 3) := by decide +kernel
theorem dX13_startSo_14 : decode cX13_startSo 14 = .ok (.iload_n 1, 1) := by decide +kernel
theorem dX13_startSo_15 : decode cX13_startSo 15 = .ok (.iconst 0, 1) := by decide +kernel
theorem dX13_startSo_16 : decode cX13_startSo 16 = .ok (.iastore, 1) := by decide +kernel
theorem dX13_startSo_17 : decode cX13_startSo 17 = .ok (.iinc 1 1, 3) := by decide +kernel
theorem dX13_startSo_20 : decode cX13_startSo 20 = .ok (.goto (-17), 3) := by decide +kernel
theorem dX13_startSo_23 : decode cX13_startSo 23 = .ok (.iconst 0, 1) := by decide +kernel
theorem dX13_startSo_24 : decode cX13_startSo 24 = .ok (.istore_n 1, 1) := by decide +kernel
theorem dX13_startSo_25 : decode cX13_startSo 25 = .ok (.iload_n 1, 1) := by decide +kernel
theorem dX13_startSo_26 : decode cX13_startSo 26 = .ok (.bipush 8, 2) := by decide +kernel
theorem dX13_startSo_28 : decode cX13_startSo 28 = .ok (.if_icmp .ge 46, 3) := by decide +kernel
theorem dX13_startSo_31 : decode cX13_startSo 31 = .ok (.aload_n 0, 1) := by decide +kernel
theorem dX13_startSo_32 : decode cX13_startSo 32 = .ok (.getfield 13, 3) := by decide +kernel
theorem dX13_startSo_35 : decode cX13_startSo 35 = .ok (.bipush 99, 2) := by decide +kernel
theorem dX13_startSo_37 : decode cX13_startSo 37 = .ok (.iload_n 1, 1) := by decide +kernel
theorem dX13_startSo_38 : decode cX13_startSo 38 = .ok (.iadd, 1) := by decide +kernel
theorem dX13_startSo_39 : decode cX13_startSo 39 = .ok (.aload_n 0, 1) := by decide +kernel
theorem dX13_startSo_40 : decode cX13_startSo 40 = .ok (.getfield 13, 3) := by decide +kernel
theorem dX13_startSo_43 : decode cX13_startSo 43 = .ok (.bipush 14, 2) := by decide +kernel
theorem dX13_startSo_45 : decode cX13_startSo 45 = .ok (.iload_n 1, 1) := by decide +kernel
theorem dX13_startSo_46 : decode cX13_startSo 46 = .ok (.iadd, 1) := by decide +kernel
theorem dX13_startSo_47 : decode cX13_startSo 47 = .ok (.iaload, 1) := by decide +kernel
theorem dX13_startSo_48 : decode cX13_startSo 48 = .ok (.iastore, 1) := by decide +kernel
theorem dX13_startSo_49 : decode cX13_startSo 49 = .ok (.aload_n 0, 1) := by decide +kernel
theorem dX13_startSo_50 : decode cX13_startSo 50 = .ok (.getfield 13, 3) := by decide +kernel
theorem dX13_startSo_53 : decode cX13_startSo 53 = .ok (.sipush 183, 3) := by decide +kernel
theorem dX13_startSo_56 : decode cX13_startSo 56 = .ok (.iload_n 1, 1) := by decide +kernel
theorem dX13_startSo_57 : decode cX13_startSo 57 = .ok (.iadd, 1) := by decide +kernel
theorem dX13_startSo_58 : decode cX13_startSo 58 = .ok (.aload_n 0, 1) := by decide +kernel
theorem dX13_startSo_59 : decode cX13_startSo 59 = .ok (.getfield 13, 3) := by decide +kernel
theorem dX13_startSo_62 : decode cX13_startSo 62 = .ok (.bipush 90, 2) := by decide +kernel
theorem dX13_startSo_64 : decode cX13_startSo 64 = .ok (.iload_n 1, 1) := by decide +kernel
theorem dX13_startSo_65 : decode cX13_startSo 65 = .ok (.iadd, 1) := by decide +kernel
theorem dX13_startSo_66 : decode cX13_startSo 66 = .ok (.iaload, 1) := by decide +kernel
theorem dX13_startSo_67 : decode cX13_startSo 67 = .ok (.iastore, 1) := by decide +kernel
theorem dX13_startSo_68 : decode cX13_startSo 68 = .ok (.iinc 1 1, 3) := by decide +kernel
theorem dX13_startSo_71 : decode cX13_startSo 71 = .ok (.goto (-46), 3) := by decide +kernel
theorem dX13_startSo_74 : decode cX13_startSo 74 = .ok (.iconst 0, 1) := by decide +kernel
theorem dX13_startSo_75 : decode cX13_startSo 75 = .ok (.istore_n 1, 1) := by decide +kernel
theorem dX13_startSo_76 : decode cX13_startSo 76 = .ok (.iload_n 1, 1) := by decide +kernel
theorem dX13_startSo_77 : decode cX13_startSo 77 = .ok (.bipush 48, 2) := by decide +kernel
theorem dX13_startSo_79 : decode cX13_startSo 79 = .ok (.if_icmp .ge 27, 3) := by decide +kernel
theorem dX13_startSo_82 : decode cX13_startSo 82 = .ok (.aload_n 0, 1) := by decide +kernel
theorem dX13_startSo_83 : decode cX13_startSo 83 = .ok (.getfield 13, 3) := by decide +kernel
theorem dX13_startSo_86 : decode cX13_startSo 86 = .ok (.bipush 123, 2) := by decide +kernel
theorem dX13_startSo_88 : decode cX13_startSo 88 = .ok (.iload_n 1, 1) := by decide +kernel
theorem dX13_startSo_89 : decode cX13_startSo 89 = .ok (.iadd, 1) := by decide +kernel
theorem dX13_startSo_90 : decode cX13_startSo 90 = .ok (.aload_n 0, 1) := by decide +kernel
theorem dX13_startSo_91 : decode cX13_startSo 91 = .ok (.getfield 13, 3) := by decide +kernel
theorem dX13_startSo_94 : decode cX13_startSo 94 = .ok (.bipush 30, 2) := by decide +kernel
theorem dX13_startSo_96 : decode cX13_startSo 96 = .ok (.iload_n 1, 1) := by decide +kernel
theorem dX13_startSo_97 : decode cX13_startSo 97 = .ok (.iadd, 1) := by decide +kernel
theorem dX13_startSo_98 : decode cX13_startSo 98 = .ok (.iaload, 1) := by decide +kernel
theorem dX13_startSo_99 : decode cX13_startSo 99 = .ok (.iastore, 1) := by decide +kernel
theorem dX13_startSo_100 : decode cX13_startSo 100 = .ok (.iinc 1 1, 3) := by decide +kernel
theorem dX13_startSo_103 : decode cX13_startSo 103 = .ok (.goto (-27), 3) := by decide +kernel
theorem dX13_startSo_106 : decode cX13_startSo 106 = .ok (.iconst 0, 1) := by decide +kernel
theorem dX13_startSo_107 : decode cX13_startSo 107 = .ok (.istore_n 1, 1) := by decide +kernel
theorem dX13_startSo_108 : decode cX13_startSo 108 = .ok (.iload_n 1, 1) := by decide +kernel
theorem dX13_startSo_109 : decode cX13_startSo 109 = .ok (.bipush 12, 2) := by decide +kernel
theorem dX13_startSo_111 : decode cX13_startSo 111 = .ok (.if_icmp .ge 28, 3) := by decide +kernel
theorem dX13_startSo_114 : decode cX13_startSo 114 = .ok (.aload_n 0, 1) := by decide +kernel
theorem dX13_startSo_115 : decode cX13_startSo 115 = .ok (.getfield 13, 3) := by decide +kernel
theorem dX13_startSo_118 : decode cX13_startSo 118 = .ok (.sipush 171, 3) := by decide +kernel
theorem dX13_startSo_121 : decode cX13_startSo 121 = .ok (.iload_n 1, 1) := by decide +kernel
theorem dX13_startSo_122 : decode cX13_startSo 122 = .ok (.iadd, 1) := by decide +kernel
theorem dX13_startSo_123 : decode cX13_startSo 123 = .ok (.aload_n 0, 1) := by decide +kernel
theorem dX13_startSo_124 : decode cX13_startSo 124 = .ok (.getfield 13, 3) := by decide +kernel
theorem dX13_startSo_127 : decode cX13_startSo 127 = .ok (.bipush 78, 2) := by decide +kernel
theorem dX13_startSo_129 : decode cX13_startSo 129 = .ok (.iload_n 1, 1) := by decide +kernel
theorem dX13_startSo_130 : decode cX13_startSo 130 = .ok (.iadd, 1) := by decide +kernel
theorem dX13_startSo_131 : decode cX13_startSo 131 = .ok (.iaload, 1) := by decide +kernel
theorem dX13_startSo_132 : decode cX13_startSo 132 = .ok (.iastore, 1) := by decide +kernel
theorem dX13_startSo_133 : decode cX13_startSo 133 = .ok (.iinc 1 1, 3) := by decide +kernel
theorem dX13_startSo_136 : decode cX13_startSo 136 = .ok (.goto (-28), 3) := by decide +kernel
theorem dX13_startSo_139 : decode cX13_startSo 139 = .ok (.return_, 1) := by decide +kernel
theorem bX13_startSo_0 {G : Gt} {d bc bs : Nat} {Q : QT} {l : Ls} {z : List Value} {h : Hp} (k : (tPush (.int 98) (tIst 1 ((fun l z h => T G d bc bs mX13_startSo 3 l z h Q)))) l z h) : T G d bc bs mX13_startSo 0 l z h Q := by
  refine R_bipush dX13_startSo_0 (by decide) (fun l z h k => ?_) k
  refine R_istore_n dX13_startSo_2 rfl (by decide) (fun l z h k => ?_) k
  exact k
theorem bX13_startSo_3 {G : Gt} {d bc bs : Nat} {Q : QT} {l : Ls} {z : List Value} {h : Hp} (k : (tIld 1 (tPush (.int 433) (tIf2 (fun x y => y ≤ x) (fun l z h => T G d bc bs mX13_startSo 23 l z h Q) (fun l z h => T G d bc bs mX13_startSo 10 l z h Q)))) l z h) : T G d bc bs mX13_startSo 3 l z h Q := by
  refine R_iload_n dX13_startSo_3 rfl (fun l z h k => ?_) k
  refine R_sipush dX13_startSo_4 (by decide) (fun l z h k => ?_) k
  exact R_icmp_ge dX13_startSo_7 (by decide) (fun _ _ _ k => k) (fun _ _ _ k => k) k
theorem bX13_startSo_10 {G : Gt} {d bc bs : Nat} {Q : QT} {l : Ls} {z : List Value} {h : Hp} (k : (tAld 0 (tGetf 11 14 (tIld 1 (tPush (.int 0) (tXast 0 (tInc 1 1 ((fun l z h => T G d bc bs mX13_startSo 3 l z h Q)))))))) l z h) : T G d bc bs mX13_startSo 10 l z h Q := by
  refine R_aload_n dX13_startSo_10 rfl (fun l z h k => ?_) k
  refine R_getf (ci := 11) (f := 14) (C := RX13) (N := 49) (Tt := TX13) dX13_startSo_11 rfl i_X13 (by decide) w_1481 (fun l z h k => ?_) k
  refine R_iload_n dX13_startSo_14 rfl (fun l z h k => ?_) k
  refine R_iconst dX13_startSo_15 (by decide) (fun l z h k => ?_) k
  refine R_iastore dX13_startSo_16 (fun l z h k => ?_) k
  refine R_iinc dX13_startSo_17 (by decide) (by decide) (fun l z h k => ?_) k
  exact R_goto dX13_startSo_20 (by decide) (fun _ _ _ k => k) k
theorem bX13_startSo_23 {G : Gt} {d bc bs : Nat} {Q : QT} {l : Ls} {z : List Value} {h : Hp} (k : (tPush (.int 0) (tIst 1 ((fun l z h => T G d bc bs mX13_startSo 25 l z h Q)))) l z h) : T G d bc bs mX13_startSo 23 l z h Q := by
  refine R_iconst dX13_startSo_23 (by decide) (fun l z h k => ?_) k
  refine R_istore_n dX13_startSo_24 rfl (by decide) (fun l z h k => ?_) k
  exact k
theorem bX13_startSo_25 {G : Gt} {d bc bs : Nat} {Q : QT} {l : Ls} {z : List Value} {h : Hp} (k : (tIld 1 (tPush (.int 8) (tIf2 (fun x y => y ≤ x) (fun l z h => T G d bc bs mX13_startSo 74 l z h Q) (fun l z h => T G d bc bs mX13_startSo 31 l z h Q)))) l z h) : T G d bc bs mX13_startSo 25 l z h Q := by
  refine R_iload_n dX13_startSo_25 rfl (fun l z h k => ?_) k
  refine R_bipush dX13_startSo_26 (by decide) (fun l z h k => ?_) k
  exact R_icmp_ge dX13_startSo_28 (by decide) (fun _ _ _ k => k) (fun _ _ _ k => k) k
theorem bX13_startSo_31 {G : Gt} {d bc bs : Nat} {Q : QT} {l : Ls} {z : List Value} {h : Hp} (k : (tAld 0 (tGetf 11 14 (tPush (.int 99) (tIld 1 (tB (fun x y => x + y) (tAld 0 (tGetf 11 14 (tPush (.int 14) (tIld 1 (tB (fun x y => x + y) (tXald 0 (tXast 0 (tAld 0 (tGetf 11 14 (tPush (.int 183) (tIld 1 (tB (fun x y => x + y) (tAld 0 (tGetf 11 14 (tPush (.int 90) (tIld 1 (tB (fun x y => x + y) (tXald 0 (tXast 0 (tInc 1 1 ((fun l z h => T G d bc bs mX13_startSo 25 l z h Q))))))))))))))))))))))))))) l z h) : T G d bc bs mX13_startSo 31 l z h Q := by
  refine R_aload_n dX13_startSo_31 rfl (fun l z h k => ?_) k
  refine R_getf (ci := 11) (f := 14) (C := RX13) (N := 49) (Tt := TX13) dX13_startSo_32 rfl i_X13 (by decide) w_1481 (fun l z h k => ?_) k
  refine R_bipush dX13_startSo_35 (by decide) (fun l z h k => ?_) k
  refine R_iload_n dX13_startSo_37 rfl (fun l z h k => ?_) k
  refine R_iadd dX13_startSo_38 (fun l z h k => ?_) k
  refine R_aload_n dX13_startSo_39 rfl (fun l z h k => ?_) k
  refine R_getf (ci := 11) (f := 14) (C := RX13) (N := 49) (Tt := TX13) dX13_startSo_40 rfl i_X13 (by decide) w_1481 (fun l z h k => ?_) k
  refine R_bipush dX13_startSo_43 (by decide) (fun l z h k => ?_) k
  refine R_iload_n dX13_startSo_45 rfl (fun l z h k => ?_) k
  refine R_iadd dX13_startSo_46 (fun l z h k => ?_) k
  refine R_iaload dX13_startSo_47 (fun l z h k => ?_) k
  refine R_iastore dX13_startSo_48 (fun l z h k => ?_) k
  refine R_aload_n dX13_startSo_49 rfl (fun l z h k => ?_) k
  refine R_getf (ci := 11) (f := 14) (C := RX13) (N := 49) (Tt := TX13) dX13_startSo_50 rfl i_X13 (by decide) w_1481 (fun l z h k => ?_) k
  refine R_sipush dX13_startSo_53 (by decide) (fun l z h k => ?_) k
  refine R_iload_n dX13_startSo_56 rfl (fun l z h k => ?_) k
  refine R_iadd dX13_startSo_57 (fun l z h k => ?_) k
  refine R_aload_n dX13_startSo_58 rfl (fun l z h k => ?_) k
  refine R_getf (ci := 11) (f := 14) (C := RX13) (N := 49) (Tt := TX13) dX13_startSo_59 rfl i_X13 (by decide) w_1481 (fun l z h k => ?_) k
  refine R_bipush dX13_startSo_62 (by decide) (fun l z h k => ?_) k
  refine R_iload_n dX13_startSo_64 rfl (fun l z h k => ?_) k
  refine R_iadd dX13_startSo_65 (fun l z h k => ?_) k
  refine R_iaload dX13_startSo_66 (fun l z h k => ?_) k
  refine R_iastore dX13_startSo_67 (fun l z h k => ?_) k
  refine R_iinc dX13_startSo_68 (by decide) (by decide) (fun l z h k => ?_) k
  exact R_goto dX13_startSo_71 (by decide) (fun _ _ _ k => k) k
theorem bX13_startSo_74 {G : Gt} {d bc bs : Nat} {Q : QT} {l : Ls} {z : List Value} {h : Hp} (k : (tPush (.int 0) (tIst 1 ((fun l z h => T G d bc bs mX13_startSo 76 l z h Q)))) l z h) : T G d bc bs mX13_startSo 74 l z h Q := by
  refine R_iconst dX13_startSo_74 (by decide) (fun l z h k => ?_) k
  refine R_istore_n dX13_startSo_75 rfl (by decide) (fun l z h k => ?_) k
  exact k
theorem bX13_startSo_76 {G : Gt} {d bc bs : Nat} {Q : QT} {l : Ls} {z : List Value} {h : Hp} (k : (tIld 1 (tPush (.int 48) (tIf2 (fun x y => y ≤ x) (fun l z h => T G d bc bs mX13_startSo 106 l z h Q) (fun l z h => T G d bc bs mX13_startSo 82 l z h Q)))) l z h) : T G d bc bs mX13_startSo 76 l z h Q := by
  refine R_iload_n dX13_startSo_76 rfl (fun l z h k => ?_) k
  refine R_bipush dX13_startSo_77 (by decide) (fun l z h k => ?_) k
  exact R_icmp_ge dX13_startSo_79 (by decide) (fun _ _ _ k => k) (fun _ _ _ k => k) k
theorem bX13_startSo_82 {G : Gt} {d bc bs : Nat} {Q : QT} {l : Ls} {z : List Value} {h : Hp} (k : (tAld 0 (tGetf 11 14 (tPush (.int 123) (tIld 1 (tB (fun x y => x + y) (tAld 0 (tGetf 11 14 (tPush (.int 30) (tIld 1 (tB (fun x y => x + y) (tXald 0 (tXast 0 (tInc 1 1 ((fun l z h => T G d bc bs mX13_startSo 76 l z h Q))))))))))))))) l z h) : T G d bc bs mX13_startSo 82 l z h Q := by
  refine R_aload_n dX13_startSo_82 rfl (fun l z h k => ?_) k
  refine R_getf (ci := 11) (f := 14) (C := RX13) (N := 49) (Tt := TX13) dX13_startSo_83 rfl i_X13 (by decide) w_1481 (fun l z h k => ?_) k
  refine R_bipush dX13_startSo_86 (by decide) (fun l z h k => ?_) k
  refine R_iload_n dX13_startSo_88 rfl (fun l z h k => ?_) k
  refine R_iadd dX13_startSo_89 (fun l z h k => ?_) k
  refine R_aload_n dX13_startSo_90 rfl (fun l z h k => ?_) k
  refine R_getf (ci := 11) (f := 14) (C := RX13) (N := 49) (Tt := TX13) dX13_startSo_91 rfl i_X13 (by decide) w_1481 (fun l z h k => ?_) k
  refine R_bipush dX13_startSo_94 (by decide) (fun l z h k => ?_) k
  refine R_iload_n dX13_startSo_96 rfl (fun l z h k => ?_) k
  refine R_iadd dX13_startSo_97 (fun l z h k => ?_) k
  refine R_iaload dX13_startSo_98 (fun l z h k => ?_) k
  refine R_iastore dX13_startSo_99 (fun l z h k => ?_) k
  refine R_iinc dX13_startSo_100 (by decide) (by decide) (fun l z h k => ?_) k
  exact R_goto dX13_startSo_103 (by decide) (fun _ _ _ k => k) k
theorem bX13_startSo_106 {G : Gt} {d bc bs : Nat} {Q : QT} {l : Ls} {z : List Value} {h : Hp} (k : (tPush (.int 0) (tIst 1 ((fun l z h => T G d bc bs mX13_startSo 108 l z h Q)))) l z h) : T G d bc bs mX13_startSo 106 l z h Q := by
  refine R_iconst dX13_startSo_106 (by decide) (fun l z h k => ?_) k
  refine R_istore_n dX13_startSo_107 rfl (by decide) (fun l z h k => ?_) k
  exact k
theorem bX13_startSo_108 {G : Gt} {d bc bs : Nat} {Q : QT} {l : Ls} {z : List Value} {h : Hp} (k : (tIld 1 (tPush (.int 12) (tIf2 (fun x y => y ≤ x) (fun l z h => T G d bc bs mX13_startSo 139 l z h Q) (fun l z h => T G d bc bs mX13_startSo 114 l z h Q)))) l z h) : T G d bc bs mX13_startSo 108 l z h Q := by
  refine R_iload_n dX13_startSo_108 rfl (fun l z h k => ?_) k
  refine R_bipush dX13_startSo_109 (by decide) (fun l z h k => ?_) k
  exact R_icmp_ge dX13_startSo_111 (by decide) (fun _ _ _ k => k) (fun _ _ _ k => k) k
theorem bX13_startSo_114 {G : Gt} {d bc bs : Nat} {Q : QT} {l : Ls} {z : List Value} {h : Hp} (k : (tAld 0 (tGetf 11 14 (tPush (.int 171) (tIld 1 (tB (fun x y => x + y) (tAld 0 (tGetf 11 14 (tPush (.int 78) (tIld 1 (tB (fun x y => x + y) (tXald 0 (tXast 0 (tInc 1 1 ((fun l z h => T G d bc bs mX13_startSo 108 l z h Q))))))))))))))) l z h) : T G d bc bs mX13_startSo 114 l z h Q := by
  refine R_aload_n dX13_startSo_114 rfl (fun l z h k => ?_) k
  refine R_getf (ci := 11) (f := 14) (C := RX13) (N := 49) (Tt := TX13) dX13_startSo_115 rfl i_X13 (by decide) w_1481 (fun l z h k => ?_) k
  refine R_sipush dX13_startSo_118 (by decide) (fun l z h k => ?_) k
  refine R_iload_n dX13_startSo_121 rfl (fun l z h k => ?_) k
  refine R_iadd dX13_startSo_122 (fun l z h k => ?_) k
  refine R_aload_n dX13_startSo_123 rfl (fun l z h k => ?_) k
  refine R_getf (ci := 11) (f := 14) (C := RX13) (N := 49) (Tt := TX13) dX13_startSo_124 rfl i_X13 (by decide) w_1481 (fun l z h k => ?_) k
  refine R_bipush dX13_startSo_127 (by decide) (fun l z h k => ?_) k
  refine R_iload_n dX13_startSo_129 rfl (fun l z h k => ?_) k
  refine R_iadd dX13_startSo_130 (fun l z h k => ?_) k
  refine R_iaload dX13_startSo_131 (fun l z h k => ?_) k
  refine R_iastore dX13_startSo_132 (fun l z h k => ?_) k
  refine R_iinc dX13_startSo_133 (by decide) (by decide) (fun l z h k => ?_) k
  exact R_goto dX13_startSo_136 (by decide) (fun _ _ _ k => k) k
theorem bX13_startSo_139 {G : Gt} {d bc bs : Nat} {Q : QT} {l : Ls} {z : List Value} {h : Hp} (k : (tRetV Q) l z h) : T G d bc bs mX13_startSo 139 l z h Q := by
  exact R_vret dX13_startSo_139 rfl k
theorem dX13_findIn_0 : decode cX13_findIn 0 = .ok (.iconst 0, 1) := by decide +kernel
theorem dX13_findIn_1 : decode cX13_findIn 1 = .ok (.istore 5, 2) := by decide +kernel
theorem dX13_findIn_3 : decode cX13_findIn 3 = .ok (.iload 5, 2) := by decide +kernel
theorem dX13_findIn_5 : decode cX13_findIn 5 = .ok (.iload_n 2, 1) := by decide +kernel
theorem dX13_findIn_6 : decode cX13_findIn 6 = .ok (.if_icmp .ge 23, 3) := by decide +kernel
theorem dX13_findIn_9 : decode cX13_findIn 9 = .ok (.aload_n 0, 1) := by decide +kernel
theorem dX13_findIn_10 : decode cX13_findIn 10 = .ok (.iload_n 1, 1) := by decide +kernel
theorem dX13_findIn_11 : decode cX13_findIn 11 = .ok (.iload 5, 2) := by decide +kernel
theorem dX13_findIn_13 : decode cX13_findIn 13 = .ok (.iadd, 1) := by decide +kernel
theorem dX13_findIn_14 : decode cX13_findIn 14 = .ok (.laload, 1) := by decide +kernel
theorem dX13_findIn_15 : decode cX13_findIn 15 = .ok (.lload_n 3, 1) := by decide +kernel
theorem dX13_findIn_16 : decode cX13_findIn 16 = .ok (.lcmp, 1) := by decide +kernel
theorem dX13_findIn_17 : decode cX13_findIn 17 = .ok (.ifCond .ne 6, 3) := by decide +kernel
theorem dX13_findIn_20 : decode cX13_findIn 20 = .ok (.iload 5, 2) := by decide +kernel
theorem dX13_findIn_22 : decode cX13_findIn 22 = .ok (.ireturn, 1) := by decide +kernel
theorem dX13_findIn_23 : decode cX13_findIn 23 = .ok (.iinc 5 1, 3) := by decide +kernel
theorem dX13_findIn_26 : decode cX13_findIn 26 = .ok (.goto (-23), 3) := by decide +kernel
theorem dX13_findIn_29 : decode cX13_findIn 29 = .ok (.iconst (-1), 1) := by decide +kernel
theorem dX13_findIn_30 : decode cX13_findIn 30 = .ok (.ireturn, 1) := by decide +kernel
theorem bX13_findIn_0 {G : Gt} {d bc bs : Nat} {Q : QT} {l : Ls} {z : List Value} {h : Hp} (k : (tPush (.int 0) (tIst 5 ((fun l z h => T G d bc bs mX13_findIn 3 l z h Q)))) l z h) : T G d bc bs mX13_findIn 0 l z h Q := by
  refine R_iconst dX13_findIn_0 (by decide) (fun l z h k => ?_) k
  refine R_istore dX13_findIn_1 (by decide) (fun l z h k => ?_) k
  exact k
theorem bX13_findIn_3 {G : Gt} {d bc bs : Nat} {Q : QT} {l : Ls} {z : List Value} {h : Hp} (k : (tIld 5 (tIld 2 (tIf2 (fun x y => y ≤ x) (fun l z h => T G d bc bs mX13_findIn 29 l z h Q) (fun l z h => T G d bc bs mX13_findIn 9 l z h Q)))) l z h) : T G d bc bs mX13_findIn 3 l z h Q := by
  refine R_iload dX13_findIn_3 (fun l z h k => ?_) k
  refine R_iload_n dX13_findIn_5 rfl (fun l z h k => ?_) k
  exact R_icmp_ge dX13_findIn_6 (by decide) (fun _ _ _ k => k) (fun _ _ _ k => k) k
theorem bX13_findIn_9 {G : Gt} {d bc bs : Nat} {Q : QT} {l : Ls} {z : List Value} {h : Hp} (k : (tAld 0 (tIld 1 (tIld 5 (tB (fun x y => x + y) (tJald (tLld 3 (tLcmp (tIf (fun x => x = 0) (fun l z h => T G d bc bs mX13_findIn 20 l z h Q) (fun l z h => T G d bc bs mX13_findIn 23 l z h Q))))))))) l z h) : T G d bc bs mX13_findIn 9 l z h Q := by
  refine R_aload_n dX13_findIn_9 rfl (fun l z h k => ?_) k
  refine R_iload_n dX13_findIn_10 rfl (fun l z h k => ?_) k
  refine R_iload dX13_findIn_11 (fun l z h k => ?_) k
  refine R_iadd dX13_findIn_13 (fun l z h k => ?_) k
  refine R_laload dX13_findIn_14 (fun l z h k => ?_) k
  refine R_lload_n dX13_findIn_15 rfl (fun l z h k => ?_) k
  refine R_lcmp dX13_findIn_16 (fun l z h k => ?_) k
  exact R_if_ne dX13_findIn_17 (by decide) (fun _ _ _ k => k) (fun _ _ _ k => k) k
theorem bX13_findIn_20 {G : Gt} {d bc bs : Nat} {Q : QT} {l : Ls} {z : List Value} {h : Hp} (k : (tIld 5 (tRetI Q)) l z h) : T G d bc bs mX13_findIn 20 l z h Q := by
  refine R_iload dX13_findIn_20 (fun l z h k => ?_) k
  exact R_iret dX13_findIn_22 rfl k
theorem bX13_findIn_23 {G : Gt} {d bc bs : Nat} {Q : QT} {l : Ls} {z : List Value} {h : Hp} (k : (tInc 5 1 ((fun l z h => T G d bc bs mX13_findIn 3 l z h Q))) l z h) : T G d bc bs mX13_findIn 23 l z h Q := by
  refine R_iinc dX13_findIn_23 (by decide) (by decide) (fun l z h k => ?_) k
  exact R_goto dX13_findIn_26 (by decide) (fun _ _ _ k => k) k
theorem bX13_findIn_29 {G : Gt} {d bc bs : Nat} {Q : QT} {l : Ls} {z : List Value} {h : Hp} (k : (tPush (.int (-1)) (tRetI Q)) l z h) : T G d bc bs mX13_findIn 29 l z h Q := by
  refine R_iconst dX13_findIn_29 (by decide) (fun l z h k => ?_) k
  exact R_iret dX13_findIn_30 rfl k
theorem dX13_readNew_0 : decode cX13_readNew 0 = .ok (.aload_n 0, 1) := by decide +kernel
theorem dX13_readNew_1 : decode cX13_readNew 1 = .ok (.invokevirtual 169, 3) := by decide +kernel
theorem dX13_readNew_4 : decode cX13_readNew 4 = .ok (.ifCond .ne 9, 3) := by decide +kernel
theorem dX13_readNew_7 : decode cX13_readNew 7 = .ok (.aload_n 0, 1) := by decide +kernel
theorem dX13_readNew_8 : decode cX13_readNew 8 = .ok (.iconst 1, 1) := by decide +kernel
theorem dX13_readNew_9 : decode cX13_readNew 9 = .ok (.invokevirtual 149, 3) := by decide +kernel
theorem dX13_readNew_12 : decode cX13_readNew 12 = .ok (.ireturn, 1) := by decide +kernel
theorem dX13_readNew_13 : decode cX13_readNew 13 = .ok (.aload_n 0, 1) := by decide +kernel
theorem dX13_readNew_14 : decode cX13_readNew 14 = .ok (.getfield 35, 3) := by decide +kernel
theorem dX13_readNew_17 : decode cX13_readNew 17 = .ok (.iconst 0, 1) := by decide +kernel
theorem dX13_readNew_18 : decode cX13_readNew 18 = .ok (.aload_n 0, 1) := by decide +kernel
theorem dX13_readNew_19 : decode cX13_readNew 19 = .ok (.getfield 16, 3) := by decide +kernel
theorem dX13_readNew_22 : decode cX13_readNew 22 = .ok (.iconst 0, 1) := by decide +kernel
theorem dX13_readNew_23 : decode cX13_readNew 23 = .ok (.iaload, 1) := by decide +kernel
theorem dX13_readNew_24 : decode cX13_readNew 24 = .ok (.aload_n 0, 1) := by decide +kernel
theorem dX13_readNew_25 : decode cX13_readNew 25 = .ok (.getfield 120, 3) := by decide +kernel
theorem dX13_readNew_28 : decode cX13_readNew 28 = .ok (.invokestatic 173, 3) := by decide +kernel
theorem dX13_readNew_31 : decode cX13_readNew 31 = .ok (.iconst (-1), 1) := by decide +kernel
theorem dX13_readNew_32 : decode cX13_readNew 32 = .ok (.if_icmp .ne 26, 3) := by decide +kernel
theorem dX13_readNew_35 : decode cX13_readNew 35 = .ok (.aload_n 0, 1) := by decide +kernel
theorem dX13_readNew_36 : decode cX13_readNew 36 = .ok (.getfield 35, 3) := by decide +kernel
theorem dX13_readNew_39 : decode cX13_readNew 39 = .ok (.bipush 6, 2) := by decide +kernel
theorem dX13_readNew_41 : decode cX13_readNew 41 = .ok (.aload_n 0, 1) := by decide +kernel
theorem dX13_readNew_42 : decode cX13_readNew 42 = .ok (.getfield 16, 3) := by decide +kernel
theorem dX13_readNew_45 : decode cX13_readNew 45 = .ok (.iconst 1, 1) := by decide +kernel
theorem dX13_readNew_46 : decode cX13_readNew 46 = .ok (.iaload, 1) := by decide +kernel
theorem dX13_readNew_47 : decode cX13_readNew 47 = .ok (.aload_n 0, 1) := by decide +kernel
theorem dX13_readNew_48 : decode cX13_readNew 48 = .ok (.getfield 120, 3) := by decide +kernel
theorem dX13_readNew_51 : decode cX13_readNew 51 = .ok (.invokestatic 173, 3) := by decide +kernel
theorem dX13_readNew_54 : decode cX13_readNew 54 = .ok (.iconst (-1), 1) := by decide +kernel
theorem dX13_readNew_55 : decode cX13_readNew 55 = .ok (.if_icmp .eq 9, 3) := by decide +kernel
theorem dX13_readNew_58 : decode cX13_readNew 58 = .ok (.aload_n 0, 1) := by decide +kernel
theorem dX13_readNew_59 : decode cX13_readNew 59 = .ok (.iconst 3, 1) := by decide +kernel
theorem dX13_readNew_60 : decode cX13_readNew 60 = .ok (.invokevirtual 149, 3) := by decide +kernel
theorem dX13_readNew_63 : decode cX13_readNew 63 = .ok (.ireturn, 1) := by decide +kernel
theorem dX13_readNew_64 : decode cX13_readNew 64 = .ok (.aload_n 0, 1) := by decide +kernel
theorem dX13_readNew_65 : decode cX13_readNew 65 = .ok (.getfield 35, 3) := by decide +kernel
theorem dX13_readNew_68 : decode cX13_readNew 68 = .ok (.iload_n 1, 1) := by decide +kernel
theorem dX13_readNew_69 : decode cX13_readNew 69 = .ok (.aload_n 0, 1) := by decide +kernel
theorem dX13_readNew_70 : decode cX13_readNew 70 = .ok (.getfield 120, 3) := by decide +kernel
theorem dX13_readNew_73 : decode cX13_readNew 73 = .ok (.lastore, 1) := by decide +kernel
theorem dX13_readNew_74 : decode cX13_readNew 74 = .ok (.aload_n 0, 1) := by decide +kernel
theorem dX13_readNew_75 : decode cX13_readNew 75 = .ok (.invokevirtual 159, 3) := by decide +kernel
theorem dX13_readNew_78 : decode cX13_readNew 78 = .ok (.iconst 1, 1) := by decide +kernel
theorem dX13_readNew_79 : decode cX13_readNew 79 = .ok (.ireturn, 1) := by decide +kernel
theorem bX13_readNew_0 {G : Gt} {d bc bs : Nat} {Q : QT} {l : Ls} {z : List Value} {h : Hp} (k : (tAld 0 (tCV0 G d 0 0 11 mX13_isName (fun l z h => T G d bc bs mX13_readNew 4 l z h Q))) l z h) : T G d bc bs mX13_readNew 0 l z h Q := by
  refine R_aload_n dX13_readNew_0 rfl (fun l z h k => ?_) k
  exact R_cv0 (M := mX13_readNew) (pc := 1) (bc := bc) (bs := bs) (cb := 0) (cs := 0) (M' := mX13_isName) dX13_readNew_1 rfl (by decide) w_1693 w_144 w_1690 w_1692 w_55 (by decide +kernel) (fun _ _ _ k => k) k
theorem bX13_readNew_4 {G : Gt} {d bc bs : Nat} {Q : QT} {l : Ls} {z : List Value} {h : Hp} (k : (tIf (fun x => x = 0) (fun l z h => T G d bc bs mX13_readNew 7 l z h Q) (fun l z h => T G d bc bs mX13_readNew 13 l z h Q)) l z h) : T G d bc bs mX13_readNew 4 l z h Q := by
  exact R_if_ne dX13_readNew_4 (by decide) (fun _ _ _ k => k) (fun _ _ _ k => k) k
theorem bX13_readNew_7 {G : Gt} {d bc bs : Nat} {Q : QT} {l : Ls} {z : List Value} {h : Hp} (k : (tAld 0 (tPush (.int 1) (tCV1 G d 0 0 11 mX13_bad (fun l z h => T G d bc bs mX13_readNew 12 l z h Q)))) l z h) : T G d bc bs mX13_readNew 7 l z h Q := by
  refine R_aload_n dX13_readNew_7 rfl (fun l z h k => ?_) k
  refine R_iconst dX13_readNew_8 (by decide) (fun l z h k => ?_) k
  exact R_cv1 (M := mX13_readNew) (pc := 9) (bc := bc) (bs := bs) (cb := 0) (cs := 0) (M' := mX13_bad) dX13_readNew_9 rfl (by decide) w_1685 w_144 w_1682 w_1684 w_53 (by decide +kernel) (fun _ _ _ k => k) k
theorem bX13_readNew_12 {G : Gt} {d bc bs : Nat} {Q : QT} {l : Ls} {z : List Value} {h : Hp} (k : (tRetZ Q) l z h) : T G d bc bs mX13_readNew 12 l z h Q := by
  exact R_zret dX13_readNew_12 rfl k
theorem bX13_readNew_13 {G : Gt} {d bc bs : Nat} {Q : QT} {l : Ls} {z : List Value} {h : Hp} (k : (tAld 0 (tGetf 11 21 (tPush (.int 0) (tAld 0 (tGetf 11 15 (tPush (.int 0) (tXald 0 (tAld 0 (tGetf 11 12 (tCS4 G d 0 0 mX13_findIn (fun l z h => T G d bc bs mX13_readNew 31 l z h Q))))))))))) l z h) : T G d bc bs mX13_readNew 13 l z h Q := by
  refine R_aload_n dX13_readNew_13 rfl (fun l z h k => ?_) k
  refine R_getf (ci := 11) (f := 21) (C := RX13) (N := 49) (Tt := TX13) dX13_readNew_14 rfl i_X13 (by decide) w_1488 (fun l z h k => ?_) k
  refine R_iconst dX13_readNew_17 (by decide) (fun l z h k => ?_) k
  refine R_aload_n dX13_readNew_18 rfl (fun l z h k => ?_) k
  refine R_getf (ci := 11) (f := 15) (C := RX13) (N := 49) (Tt := TX13) dX13_readNew_19 rfl i_X13 (by decide) w_1482 (fun l z h k => ?_) k
  refine R_iconst dX13_readNew_22 (by decide) (fun l z h k => ?_) k
  refine R_iaload dX13_readNew_23 (fun l z h k => ?_) k
  refine R_aload_n dX13_readNew_24 rfl (fun l z h k => ?_) k
  refine R_getf (ci := 11) (f := 12) (C := RX13) (N := 49) (Tt := TX13) dX13_readNew_25 rfl i_X13 (by decide) w_1479 (fun l z h k => ?_) k
  exact R_cs4 (M := mX13_readNew) (pc := 28) (bc := bc) (bs := bs) (cb := 0) (cs := 0) (M' := mX13_findIn) dX13_readNew_28 (by decide) w_1696 w_144 w_1694 w_1695 (by decide +kernel) (fun _ _ _ k => k) k
theorem bX13_readNew_31 {G : Gt} {d bc bs : Nat} {Q : QT} {l : Ls} {z : List Value} {h : Hp} (k : (tPush (.int (-1)) (tIf2 (fun x y => x = y) (fun l z h => T G d bc bs mX13_readNew 35 l z h Q) (fun l z h => T G d bc bs mX13_readNew 58 l z h Q))) l z h) : T G d bc bs mX13_readNew 31 l z h Q := by
  refine R_iconst dX13_readNew_31 (by decide) (fun l z h k => ?_) k
  exact R_icmp_ne dX13_readNew_32 (by decide) (fun _ _ _ k => k) (fun _ _ _ k => k) k
theorem bX13_readNew_35 {G : Gt} {d bc bs : Nat} {Q : QT} {l : Ls} {z : List Value} {h : Hp} (k : (tAld 0 (tGetf 11 21 (tPush (.int 6) (tAld 0 (tGetf 11 15 (tPush (.int 1) (tXald 0 (tAld 0 (tGetf 11 12 (tCS4 G d 0 0 mX13_findIn (fun l z h => T G d bc bs mX13_readNew 54 l z h Q))))))))))) l z h) : T G d bc bs mX13_readNew 35 l z h Q := by
  refine R_aload_n dX13_readNew_35 rfl (fun l z h k => ?_) k
  refine R_getf (ci := 11) (f := 21) (C := RX13) (N := 49) (Tt := TX13) dX13_readNew_36 rfl i_X13 (by decide) w_1488 (fun l z h k => ?_) k
  refine R_bipush dX13_readNew_39 (by decide) (fun l z h k => ?_) k
  refine R_aload_n dX13_readNew_41 rfl (fun l z h k => ?_) k
  refine R_getf (ci := 11) (f := 15) (C := RX13) (N := 49) (Tt := TX13) dX13_readNew_42 rfl i_X13 (by decide) w_1482 (fun l z h k => ?_) k
  refine R_iconst dX13_readNew_45 (by decide) (fun l z h k => ?_) k
  refine R_iaload dX13_readNew_46 (fun l z h k => ?_) k
  refine R_aload_n dX13_readNew_47 rfl (fun l z h k => ?_) k
  refine R_getf (ci := 11) (f := 12) (C := RX13) (N := 49) (Tt := TX13) dX13_readNew_48 rfl i_X13 (by decide) w_1479 (fun l z h k => ?_) k
  exact R_cs4 (M := mX13_readNew) (pc := 51) (bc := bc) (bs := bs) (cb := 0) (cs := 0) (M' := mX13_findIn) dX13_readNew_51 (by decide) w_1696 w_144 w_1694 w_1695 (by decide +kernel) (fun _ _ _ k => k) k
theorem bX13_readNew_54 {G : Gt} {d bc bs : Nat} {Q : QT} {l : Ls} {z : List Value} {h : Hp} (k : (tPush (.int (-1)) (tIf2 (fun x y => x = y) (fun l z h => T G d bc bs mX13_readNew 64 l z h Q) (fun l z h => T G d bc bs mX13_readNew 58 l z h Q))) l z h) : T G d bc bs mX13_readNew 54 l z h Q := by
  refine R_iconst dX13_readNew_54 (by decide) (fun l z h k => ?_) k
  exact R_icmp_eq dX13_readNew_55 (by decide) (fun _ _ _ k => k) (fun _ _ _ k => k) k
theorem bX13_readNew_58 {G : Gt} {d bc bs : Nat} {Q : QT} {l : Ls} {z : List Value} {h : Hp} (k : (tAld 0 (tPush (.int 3) (tCV1 G d 0 0 11 mX13_bad (fun l z h => T G d bc bs mX13_readNew 63 l z h Q)))) l z h) : T G d bc bs mX13_readNew 58 l z h Q := by
  refine R_aload_n dX13_readNew_58 rfl (fun l z h k => ?_) k
  refine R_iconst dX13_readNew_59 (by decide) (fun l z h k => ?_) k
  exact R_cv1 (M := mX13_readNew) (pc := 60) (bc := bc) (bs := bs) (cb := 0) (cs := 0) (M' := mX13_bad) dX13_readNew_60 rfl (by decide) w_1685 w_144 w_1682 w_1684 w_53 (by decide +kernel) (fun _ _ _ k => k) k
theorem bX13_readNew_63 {G : Gt} {d bc bs : Nat} {Q : QT} {l : Ls} {z : List Value} {h : Hp} (k : (tRetZ Q) l z h) : T G d bc bs mX13_readNew 63 l z h Q := by
  exact R_zret dX13_readNew_63 rfl k
theorem bX13_readNew_64 {G : Gt} {d bc bs : Nat} {Q : QT} {l : Ls} {z : List Value} {h : Hp} (k : (tAld 0 (tGetf 11 21 (tIld 1 (tAld 0 (tGetf 11 12 (tJast (tAld 0 (tCV0 G d 0 0 11 mX13_go (fun l z h => T G d bc bs mX13_readNew 78 l z h Q))))))))) l z h) : T G d bc bs mX13_readNew 64 l z h Q := by
  refine R_aload_n dX13_readNew_64 rfl (fun l z h k => ?_) k
  refine R_getf (ci := 11) (f := 21) (C := RX13) (N := 49) (Tt := TX13) dX13_readNew_65 rfl i_X13 (by decide) w_1488 (fun l z h k => ?_) k
  refine R_iload_n dX13_readNew_68 rfl (fun l z h k => ?_) k
  refine R_aload_n dX13_readNew_69 rfl (fun l z h k => ?_) k
  refine R_getf (ci := 11) (f := 12) (C := RX13) (N := 49) (Tt := TX13) dX13_readNew_70 rfl i_X13 (by decide) w_1479 (fun l z h k => ?_) k
  refine R_lastore dX13_readNew_73 (fun l z h k => ?_) k
  refine R_aload_n dX13_readNew_74 rfl (fun l z h k => ?_) k
  exact R_cv0 (M := mX13_readNew) (pc := 75) (bc := bc) (bs := bs) (cb := 0) (cs := 0) (M' := mX13_go) dX13_readNew_75 rfl (by decide) w_1647 w_144 w_1644 w_1646 w_47 (by decide +kernel) (fun _ _ _ k => k) k
theorem bX13_readNew_78 {G : Gt} {d bc bs : Nat} {Q : QT} {l : Ls} {z : List Value} {h : Hp} (k : (tPush (.int 1) (tRetZ Q)) l z h) : T G d bc bs mX13_readNew 78 l z h Q := by
  refine R_iconst dX13_readNew_78 (by decide) (fun l z h k => ?_) k
  exact R_zret dX13_readNew_79 rfl k
theorem dX13_isOne_0 : decode cX13_isOne 0 = .ok (.aload_n 0, 1) := by decide +kernel
theorem dX13_isOne_1 : decode cX13_isOne 1 = .ok (.invokevirtual 169, 3) := by decide +kernel
theorem dX13_isOne_4 : decode cX13_isOne 4 = .ok (.ifCond .ne 9, 3) := by decide +kernel
theorem dX13_isOne_7 : decode cX13_isOne 7 = .ok (.aload_n 0, 1) := by decide +kernel
theorem dX13_isOne_8 : decode cX13_isOne 8 = .ok (.iconst 1, 1) := by decide +kernel
theorem dX13_isOne_9 : decode cX13_isOne 9 = .ok (.invokevirtual 149, 3) := by decide +kernel
theorem dX13_isOne_12 : decode cX13_isOne 12 = .ok (.ireturn, 1) := by decide +kernel
theorem dX13_isOne_13 : decode cX13_isOne 13 = .ok (.aload_n 0, 1) := by decide +kernel
theorem dX13_isOne_14 : decode cX13_isOne 14 = .ok (.aload_n 0, 1) := by decide +kernel
theorem dX13_isOne_15 : decode cX13_isOne 15 = .ok (.getfield 35, 3) := by decide +kernel
theorem dX13_isOne_18 : decode cX13_isOne 18 = .ok (.iload_n 1, 1) := by decide +kernel
theorem dX13_isOne_19 : decode cX13_isOne 19 = .ok (.iload_n 2, 1) := by decide +kernel
theorem dX13_isOne_20 : decode cX13_isOne 20 = .ok (.aload_n 0, 1) := by decide +kernel
theorem dX13_isOne_21 : decode cX13_isOne 21 = .ok (.getfield 120, 3) := by decide +kernel
theorem dX13_isOne_24 : decode cX13_isOne 24 = .ok (.invokestatic 173, 3) := by decide +kernel
theorem dX13_isOne_27 : decode cX13_isOne 27 = .ok (.putfield 156, 3) := by decide +kernel
theorem dX13_isOne_30 : decode cX13_isOne 30 = .ok (.aload_n 0, 1) := by decide +kernel
theorem dX13_isOne_31 : decode cX13_isOne 31 = .ok (.getfield 156, 3) := by decide +kernel
theorem dX13_isOne_34 : decode cX13_isOne 34 = .ok (.iconst (-1), 1) := by decide +kernel
theorem dX13_isOne_35 : decode cX13_isOne 35 = .ok (.if_icmp .ne 11, 3) := by decide +kernel
theorem dX13_isOne_38 : decode cX13_isOne 38 = .ok (.aload_n 0, 1) := by decide +kernel
theorem dX13_isOne_39 : decode cX13_isOne 39 = .ok (.iconst 3, 1) := by decide +kernel
theorem dX13_isOne_40 : decode cX13_isOne 40 = .ok (.invokevirtual 149, 3) := by decide +kernel
theorem dX13_isOne_43 : decode cX13_isOne 43 = .ok (.ifCond .eq 7, 3) := by decide +kernel
theorem dX13_isOne_46 : decode cX13_isOne 46 = .ok (.iconst 1, 1) := by decide +kernel
theorem dX13_isOne_47 : decode cX13_isOne 47 = .ok (.goto 4, 3) := by decide +kernel
theorem dX13_isOne_50 : decode cX13_isOne 50 = .ok (.iconst 0, 1) := by decide +kernel
theorem dX13_isOne_51 : decode cX13_isOne 51 = .ok (.ireturn, 1) := by decide +kernel
theorem bX13_isOne_0 {G : Gt} {d bc bs : Nat} {Q : QT} {l : Ls} {z : List Value} {h : Hp} (k : (tAld 0 (tCV0 G d 0 0 11 mX13_isName (fun l z h => T G d bc bs mX13_isOne 4 l z h Q))) l z h) : T G d bc bs mX13_isOne 0 l z h Q := by
  refine R_aload_n dX13_isOne_0 rfl (fun l z h k => ?_) k
  exact R_cv0 (M := mX13_isOne) (pc := 1) (bc := bc) (bs := bs) (cb := 0) (cs := 0) (M' := mX13_isName) dX13_isOne_1 rfl (by decide) w_1693 w_144 w_1690 w_1692 w_55 (by decide +kernel) (fun _ _ _ k => k) k
theorem bX13_isOne_4 {G : Gt} {d bc bs : Nat} {Q : QT} {l : Ls} {z : List Value} {h : Hp} (k : (tIf (fun x => x = 0) (fun l z h => T G d bc bs mX13_isOne 7 l z h Q) (fun l z h => T G d bc bs mX13_isOne 13 l z h Q)) l z h) : T G d bc bs mX13_isOne 4 l z h Q := by
  exact R_if_ne dX13_isOne_4 (by decide) (fun _ _ _ k => k) (fun _ _ _ k => k) k
theorem bX13_isOne_7 {G : Gt} {d bc bs : Nat} {Q : QT} {l : Ls} {z : List Value} {h : Hp} (k : (tAld 0 (tPush (.int 1) (tCV1 G d 0 0 11 mX13_bad (fun l z h => T G d bc bs mX13_isOne 12 l z h Q)))) l z h) : T G d bc bs mX13_isOne 7 l z h Q := by
  refine R_aload_n dX13_isOne_7 rfl (fun l z h k => ?_) k
  refine R_iconst dX13_isOne_8 (by decide) (fun l z h k => ?_) k
  exact R_cv1 (M := mX13_isOne) (pc := 9) (bc := bc) (bs := bs) (cb := 0) (cs := 0) (M' := mX13_bad) dX13_isOne_9 rfl (by decide) w_1685 w_144 w_1682 w_1684 w_53 (by decide +kernel) (fun _ _ _ k => k) k
theorem bX13_isOne_12 {G : Gt} {d bc bs : Nat} {Q : QT} {l : Ls} {z : List Value} {h : Hp} (k : (tRetZ Q) l z h) : T G d bc bs mX13_isOne 12 l z h Q := by
  exact R_zret dX13_isOne_12 rfl k
theorem bX13_isOne_13 {G : Gt} {d bc bs : Nat} {Q : QT} {l : Ls} {z : List Value} {h : Hp} (k : (tAld 0 (tAld 0 (tGetf 11 21 (tIld 1 (tIld 2 (tAld 0 (tGetf 11 12 (tCS4 G d 0 0 mX13_findIn (fun l z h => T G d bc bs mX13_isOne 27 l z h Q))))))))) l z h) : T G d bc bs mX13_isOne 13 l z h Q := by
  refine R_aload_n dX13_isOne_13 rfl (fun l z h k => ?_) k
  refine R_aload_n dX13_isOne_14 rfl (fun l z h k => ?_) k
  refine R_getf (ci := 11) (f := 21) (C := RX13) (N := 49) (Tt := TX13) dX13_isOne_15 rfl i_X13 (by decide) w_1488 (fun l z h k => ?_) k
  refine R_iload_n dX13_isOne_18 rfl (fun l z h k => ?_) k
  refine R_iload_n dX13_isOne_19 rfl (fun l z h k => ?_) k
  refine R_aload_n dX13_isOne_20 rfl (fun l z h k => ?_) k
  refine R_getf (ci := 11) (f := 12) (C := RX13) (N := 49) (Tt := TX13) dX13_isOne_21 rfl i_X13 (by decide) w_1479 (fun l z h k => ?_) k
  exact R_cs4 (M := mX13_isOne) (pc := 24) (bc := bc) (bs := bs) (cb := 0) (cs := 0) (M' := mX13_findIn) dX13_isOne_24 (by decide) w_1696 w_144 w_1694 w_1695 (by decide +kernel) (fun _ _ _ k => k) k
theorem bX13_isOne_27 {G : Gt} {d bc bs : Nat} {Q : QT} {l : Ls} {z : List Value} {h : Hp} (k : (tPutf isI 11 13 (tAld 0 (tGetf 11 13 (tPush (.int (-1)) (tIf2 (fun x y => x = y) (fun l z h => T G d bc bs mX13_isOne 38 l z h Q) (fun l z h => T G d bc bs mX13_isOne 46 l z h Q)))))) l z h) : T G d bc bs mX13_isOne 27 l z h Q := by
  refine R_putf (ci := 11) (f := 13) (C := RX13) (N := 49) (Tt := TX13) tyX13 tyX13_ok nmX13 dX13_isOne_27 rfl i_X13 (by decide) w_1480 rfl (tyX13_ok 13 (by decide)) p_int (fun l z h k => ?_) k
  refine R_aload_n dX13_isOne_30 rfl (fun l z h k => ?_) k
  refine R_getf (ci := 11) (f := 13) (C := RX13) (N := 49) (Tt := TX13) dX13_isOne_31 rfl i_X13 (by decide) w_1480 (fun l z h k => ?_) k
  refine R_iconst dX13_isOne_34 (by decide) (fun l z h k => ?_) k
  exact R_icmp_ne dX13_isOne_35 (by decide) (fun _ _ _ k => k) (fun _ _ _ k => k) k
theorem bX13_isOne_38 {G : Gt} {d bc bs : Nat} {Q : QT} {l : Ls} {z : List Value} {h : Hp} (k : (tAld 0 (tPush (.int 3) (tCV1 G d 0 0 11 mX13_bad (fun l z h => T G d bc bs mX13_isOne 43 l z h Q)))) l z h) : T G d bc bs mX13_isOne 38 l z h Q := by
  refine R_aload_n dX13_isOne_38 rfl (fun l z h k => ?_) k
  refine R_iconst dX13_isOne_39 (by decide) (fun l z h k => ?_) k
  exact R_cv1 (M := mX13_isOne) (pc := 40) (bc := bc) (bs := bs) (cb := 0) (cs := 0) (M' := mX13_bad) dX13_isOne_40 rfl (by decide) w_1685 w_144 w_1682 w_1684 w_53 (by decide +kernel) (fun _ _ _ k => k) k
theorem bX13_isOne_43 {G : Gt} {d bc bs : Nat} {Q : QT} {l : Ls} {z : List Value} {h : Hp} (k : (tIf (fun x => x = 0) (fun l z h => T G d bc bs mX13_isOne 50 l z h Q) (fun l z h => T G d bc bs mX13_isOne 46 l z h Q)) l z h) : T G d bc bs mX13_isOne 43 l z h Q := by
  exact R_if_eq dX13_isOne_43 (by decide) (fun _ _ _ k => k) (fun _ _ _ k => k) k
theorem bX13_isOne_46 {G : Gt} {d bc bs : Nat} {Q : QT} {l : Ls} {z : List Value} {h : Hp} (k : (tPush (.int 1) ((fun l z h => T G d bc bs mX13_isOne 51 l z h Q))) l z h) : T G d bc bs mX13_isOne 46 l z h Q := by
  refine R_iconst dX13_isOne_46 (by decide) (fun l z h k => ?_) k
  exact R_goto dX13_isOne_47 (by decide) (fun _ _ _ k => k) k
theorem bX13_isOne_50 {G : Gt} {d bc bs : Nat} {Q : QT} {l : Ls} {z : List Value} {h : Hp} (k : (tPush (.int 0) ((fun l z h => T G d bc bs mX13_isOne 51 l z h Q))) l z h) : T G d bc bs mX13_isOne 50 l z h Q := by
  refine R_iconst dX13_isOne_50 (by decide) (fun l z h k => ?_) k
  exact k
theorem bX13_isOne_51 {G : Gt} {d bc bs : Nat} {Q : QT} {l : Ls} {z : List Value} {h : Hp} (k : (tRetZ Q) l z h) : T G d bc bs mX13_isOne 51 l z h Q := by
  exact R_zret dX13_isOne_51 rfl k
theorem dX13_readFirst_0 : decode cX13_readFirst 0 = .ok (.aload_n 0, 1) := by decide +kernel
theorem dX13_readFirst_1 : decode cX13_readFirst 1 = .ok (.getfield 16, 3) := by decide +kernel
theorem dX13_readFirst_4 : decode cX13_readFirst 4 = .ok (.iload_n 1, 1) := by decide +kernel
theorem dX13_readFirst_5 : decode cX13_readFirst 5 = .ok (.iaload, 1) := by decide +kernel
theorem dX13_readFirst_6 : decode cX13_readFirst 6 = .ok (.iload_n 2, 1) := by decide +kernel
theorem dX13_readFirst_7 : decode cX13_readFirst 7 = .ok (.if_icmp .ne 9, 3) := by decide +kernel
theorem dX13_readFirst_10 : decode cX13_readFirst 10 = .ok (.aload_n 0, 1) := by decide +kernel
theorem dX13_readFirst_11 : decode cX13_readFirst 11 = .ok (.iconst 4, 1) := by decide +kernel
theorem dX13_readFirst_12 : decode cX13_readFirst 12 = .ok (.invokevirtual 149, 3) := by decide +kernel
theorem dX13_readFirst_15 : decode cX13_readFirst 15 = .ok (.ireturn, 1) := by decide +kernel
theorem dX13_readFirst_16 : decode cX13_readFirst 16 = .ok (.aload_n 0, 1) := by decide +kernel
theorem dX13_readFirst_17 : decode cX13_readFirst 17 = .ok (.invokevirtual 159, 3) := by decide +kernel
theorem dX13_readFirst_20 : decode cX13_readFirst 20 = .ok (.iconst 1, 1) := by decide +kernel
theorem dX13_readFirst_21 : decode cX13_readFirst 21 = .ok (.ireturn, 1) := by decide +kernel
theorem bX13_readFirst_0 {G : Gt} {d bc bs : Nat} {Q : QT} {l : Ls} {z : List Value} {h : Hp} (k : (tAld 0 (tGetf 11 15 (tIld 1 (tXald 0 (tIld 2 (tIf2 (fun x y => x = y) (fun l z h => T G d bc bs mX13_readFirst 10 l z h Q) (fun l z h => T G d bc bs mX13_readFirst 16 l z h Q))))))) l z h) : T G d bc bs mX13_readFirst 0 l z h Q := by
  refine R_aload_n dX13_readFirst_0 rfl (fun l z h k => ?_) k
  refine R_getf (ci := 11) (f := 15) (C := RX13) (N := 49) (Tt := TX13) dX13_readFirst_1 rfl i_X13 (by decide) w_1482 (fun l z h k => ?_) k
  refine R_iload_n dX13_readFirst_4 rfl (fun l z h k => ?_) k
  refine R_iaload dX13_readFirst_5 (fun l z h k => ?_) k
  refine R_iload_n dX13_readFirst_6 rfl (fun l z h k => ?_) k
  exact R_icmp_ne dX13_readFirst_7 (by decide) (fun _ _ _ k => k) (fun _ _ _ k => k) k
theorem bX13_readFirst_10 {G : Gt} {d bc bs : Nat} {Q : QT} {l : Ls} {z : List Value} {h : Hp} (k : (tAld 0 (tPush (.int 4) (tCV1 G d 0 0 11 mX13_bad (fun l z h => T G d bc bs mX13_readFirst 15 l z h Q)))) l z h) : T G d bc bs mX13_readFirst 10 l z h Q := by
  refine R_aload_n dX13_readFirst_10 rfl (fun l z h k => ?_) k
  refine R_iconst dX13_readFirst_11 (by decide) (fun l z h k => ?_) k
  exact R_cv1 (M := mX13_readFirst) (pc := 12) (bc := bc) (bs := bs) (cb := 0) (cs := 0) (M' := mX13_bad) dX13_readFirst_12 rfl (by decide) w_1685 w_144 w_1682 w_1684 w_53 (by decide +kernel) (fun _ _ _ k => k) k
theorem bX13_readFirst_15 {G : Gt} {d bc bs : Nat} {Q : QT} {l : Ls} {z : List Value} {h : Hp} (k : (tRetZ Q) l z h) : T G d bc bs mX13_readFirst 15 l z h Q := by
  exact R_zret dX13_readFirst_15 rfl k
theorem bX13_readFirst_16 {G : Gt} {d bc bs : Nat} {Q : QT} {l : Ls} {z : List Value} {h : Hp} (k : (tAld 0 (tCV0 G d 0 0 11 mX13_go (fun l z h => T G d bc bs mX13_readFirst 20 l z h Q))) l z h) : T G d bc bs mX13_readFirst 16 l z h Q := by
  refine R_aload_n dX13_readFirst_16 rfl (fun l z h k => ?_) k
  exact R_cv0 (M := mX13_readFirst) (pc := 17) (bc := bc) (bs := bs) (cb := 0) (cs := 0) (M' := mX13_go) dX13_readFirst_17 rfl (by decide) w_1647 w_144 w_1644 w_1646 w_47 (by decide +kernel) (fun _ _ _ k => k) k
theorem bX13_readFirst_20 {G : Gt} {d bc bs : Nat} {Q : QT} {l : Ls} {z : List Value} {h : Hp} (k : (tPush (.int 1) (tRetZ Q)) l z h) : T G d bc bs mX13_readFirst 20 l z h Q := by
  refine R_iconst dX13_readFirst_20 (by decide) (fun l z h k => ?_) k
  exact R_zret dX13_readFirst_21 rfl k
theorem dX13_put_0 : decode cX13_put 0 = .ok (.iload_n 2, 1) := by decide +kernel
theorem dX13_put_1 : decode cX13_put 1 = .ok (.ifCond .eq 13, 3) := by decide +kernel
theorem dX13_put_4 : decode cX13_put 4 = .ok (.aload_n 0, 1) := by decide +kernel
theorem dX13_put_5 : decode cX13_put 5 = .ok (.getfield 16, 3) := by decide +kernel
theorem dX13_put_8 : decode cX13_put 8 = .ok (.iload_n 1, 1) := by decide +kernel
theorem dX13_put_9 : decode cX13_put 9 = .ok (.aload_n 0, 1) := by decide +kernel
theorem dX13_put_10 : decode cX13_put 10 = .ok (.getfield 156, 3) := by decide +kernel
theorem dX13_put_13 : decode cX13_put 13 = .ok (.iastore, 1) := by decide +kernel
theorem dX13_put_14 : decode cX13_put 14 = .ok (.iload_n 2, 1) := by decide +kernel
theorem dX13_put_15 : decode cX13_put 15 = .ok (.ireturn, 1) := by decide +kernel
theorem bX13_put_0 {G : Gt} {d bc bs : Nat} {Q : QT} {l : Ls} {z : List Value} {h : Hp} (k : (tIld 2 (tIf (fun x => x = 0) (fun l z h => T G d bc bs mX13_put 14 l z h Q) (fun l z h => T G d bc bs mX13_put 4 l z h Q))) l z h) : T G d bc bs mX13_put 0 l z h Q := by
  refine R_iload_n dX13_put_0 rfl (fun l z h k => ?_) k
  exact R_if_eq dX13_put_1 (by decide) (fun _ _ _ k => k) (fun _ _ _ k => k) k
theorem bX13_put_4 {G : Gt} {d bc bs : Nat} {Q : QT} {l : Ls} {z : List Value} {h : Hp} (k : (tAld 0 (tGetf 11 15 (tIld 1 (tAld 0 (tGetf 11 13 (tXast 0 ((fun l z h => T G d bc bs mX13_put 14 l z h Q)))))))) l z h) : T G d bc bs mX13_put 4 l z h Q := by
  refine R_aload_n dX13_put_4 rfl (fun l z h k => ?_) k
  refine R_getf (ci := 11) (f := 15) (C := RX13) (N := 49) (Tt := TX13) dX13_put_5 rfl i_X13 (by decide) w_1482 (fun l z h k => ?_) k
  refine R_iload_n dX13_put_8 rfl (fun l z h k => ?_) k
  refine R_aload_n dX13_put_9 rfl (fun l z h k => ?_) k
  refine R_getf (ci := 11) (f := 13) (C := RX13) (N := 49) (Tt := TX13) dX13_put_10 rfl i_X13 (by decide) w_1480 (fun l z h k => ?_) k
  refine R_iastore dX13_put_13 (fun l z h k => ?_) k
  exact k
theorem bX13_put_14 {G : Gt} {d bc bs : Nat} {Q : QT} {l : Ls} {z : List Value} {h : Hp} (k : (tIld 2 (tRetZ Q)) l z h) : T G d bc bs mX13_put 14 l z h Q := by
  refine R_iload_n dX13_put_14 rfl (fun l z h k => ?_) k
  exact R_zret dX13_put_15 rfl k
theorem dX13_readSide_0 : decode cX13_readSide 0 = .ok (.aload_n 0, 1) := by decide +kernel
theorem dX13_readSide_1 : decode cX13_readSide 1 = .ok (.bipush 14, 2) := by decide +kernel
theorem dX13_readSide_3 : decode cX13_readSide 3 = .ok (.invokevirtual 177, 3) := by decide +kernel
theorem dX13_readSide_6 : decode cX13_readSide 6 = .ok (.ifCond .ne 18, 3) := by decide +kernel
theorem dX13_readSide_9 : decode cX13_readSide 9 = .ok (.aload_n 0, 1) := by decide +kernel
theorem dX13_readSide_10 : decode cX13_readSide 10 = .ok (.bipush 16, 2) := by decide +kernel
theorem dX13_readSide_12 : decode cX13_readSide 12 = .ok (.invokevirtual 177, 3) := by decide +kernel
theorem dX13_readSide_15 : decode cX13_readSide 15 = .ok (.ifCond .ne 9, 3) := by decide +kernel
theorem dX13_readSide_18 : decode cX13_readSide 18 = .ok (.aload_n 0, 1) := by decide +kernel
theorem dX13_readSide_19 : decode cX13_readSide 19 = .ok (.iconst 1, 1) := by decide +kernel
theorem dX13_readSide_20 : decode cX13_readSide 20 = .ok (.invokevirtual 149, 3) := by decide +kernel
theorem dX13_readSide_23 : decode cX13_readSide 23 = .ok (.ireturn, 1) := by decide +kernel
theorem dX13_readSide_24 : decode cX13_readSide 24 = .ok (.aload_n 0, 1) := by decide +kernel
theorem dX13_readSide_25 : decode cX13_readSide 25 = .ok (.aload_n 0, 1) := by decide +kernel
theorem dX13_readSide_26 : decode cX13_readSide 26 = .ok (.bipush 14, 2) := by decide +kernel
theorem dX13_readSide_28 : decode cX13_readSide 28 = .ok (.invokevirtual 177, 3) := by decide +kernel
theorem dX13_readSide_31 : decode cX13_readSide 31 = .ok (.ifCond .eq 7, 3) := by decide +kernel
theorem dX13_readSide_34 : decode cX13_readSide 34 = .ok (.iconst 0, 1) := by decide +kernel
theorem dX13_readSide_35 : decode cX13_readSide 35 = .ok (.goto 4, 3) := by decide +kernel
theorem dX13_readSide_38 : decode cX13_readSide 38 = .ok (.iconst 1, 1) := by decide +kernel
theorem dX13_readSide_39 : decode cX13_readSide 39 = .ok (.putfield 156, 3) := by decide +kernel
theorem dX13_readSide_42 : decode cX13_readSide 42 = .ok (.aload_n 0, 1) := by decide +kernel
theorem dX13_readSide_43 : decode cX13_readSide 43 = .ok (.invokevirtual 159, 3) := by decide +kernel
theorem dX13_readSide_46 : decode cX13_readSide 46 = .ok (.iconst 1, 1) := by decide +kernel
theorem dX13_readSide_47 : decode cX13_readSide 47 = .ok (.ireturn, 1) := by decide +kernel
theorem bX13_readSide_0 {G : Gt} {d bc bs : Nat} {Q : QT} {l : Ls} {z : List Value} {h : Hp} (k : (tAld 0 (tPush (.int 14) (tCV1 G d 0 0 11 mX13_isWord (fun l z h => T G d bc bs mX13_readSide 6 l z h Q)))) l z h) : T G d bc bs mX13_readSide 0 l z h Q := by
  refine R_aload_n dX13_readSide_0 rfl (fun l z h k => ?_) k
  refine R_bipush dX13_readSide_1 (by decide) (fun l z h k => ?_) k
  exact R_cv1 (M := mX13_readSide) (pc := 3) (bc := bc) (bs := bs) (cb := 0) (cs := 0) (M' := mX13_isWord) dX13_readSide_3 rfl (by decide) w_1667 w_144 w_1664 w_1666 w_50 (by decide +kernel) (fun _ _ _ k => k) k
theorem bX13_readSide_6 {G : Gt} {d bc bs : Nat} {Q : QT} {l : Ls} {z : List Value} {h : Hp} (k : (tIf (fun x => x = 0) (fun l z h => T G d bc bs mX13_readSide 9 l z h Q) (fun l z h => T G d bc bs mX13_readSide 24 l z h Q)) l z h) : T G d bc bs mX13_readSide 6 l z h Q := by
  exact R_if_ne dX13_readSide_6 (by decide) (fun _ _ _ k => k) (fun _ _ _ k => k) k
theorem bX13_readSide_9 {G : Gt} {d bc bs : Nat} {Q : QT} {l : Ls} {z : List Value} {h : Hp} (k : (tAld 0 (tPush (.int 16) (tCV1 G d 0 0 11 mX13_isWord (fun l z h => T G d bc bs mX13_readSide 15 l z h Q)))) l z h) : T G d bc bs mX13_readSide 9 l z h Q := by
  refine R_aload_n dX13_readSide_9 rfl (fun l z h k => ?_) k
  refine R_bipush dX13_readSide_10 (by decide) (fun l z h k => ?_) k
  exact R_cv1 (M := mX13_readSide) (pc := 12) (bc := bc) (bs := bs) (cb := 0) (cs := 0) (M' := mX13_isWord) dX13_readSide_12 rfl (by decide) w_1667 w_144 w_1664 w_1666 w_50 (by decide +kernel) (fun _ _ _ k => k) k
theorem bX13_readSide_15 {G : Gt} {d bc bs : Nat} {Q : QT} {l : Ls} {z : List Value} {h : Hp} (k : (tIf (fun x => x = 0) (fun l z h => T G d bc bs mX13_readSide 18 l z h Q) (fun l z h => T G d bc bs mX13_readSide 24 l z h Q)) l z h) : T G d bc bs mX13_readSide 15 l z h Q := by
  exact R_if_ne dX13_readSide_15 (by decide) (fun _ _ _ k => k) (fun _ _ _ k => k) k
theorem bX13_readSide_18 {G : Gt} {d bc bs : Nat} {Q : QT} {l : Ls} {z : List Value} {h : Hp} (k : (tAld 0 (tPush (.int 1) (tCV1 G d 0 0 11 mX13_bad (fun l z h => T G d bc bs mX13_readSide 23 l z h Q)))) l z h) : T G d bc bs mX13_readSide 18 l z h Q := by
  refine R_aload_n dX13_readSide_18 rfl (fun l z h k => ?_) k
  refine R_iconst dX13_readSide_19 (by decide) (fun l z h k => ?_) k
  exact R_cv1 (M := mX13_readSide) (pc := 20) (bc := bc) (bs := bs) (cb := 0) (cs := 0) (M' := mX13_bad) dX13_readSide_20 rfl (by decide) w_1685 w_144 w_1682 w_1684 w_53 (by decide +kernel) (fun _ _ _ k => k) k
theorem bX13_readSide_23 {G : Gt} {d bc bs : Nat} {Q : QT} {l : Ls} {z : List Value} {h : Hp} (k : (tRetZ Q) l z h) : T G d bc bs mX13_readSide 23 l z h Q := by
  exact R_zret dX13_readSide_23 rfl k
theorem bX13_readSide_24 {G : Gt} {d bc bs : Nat} {Q : QT} {l : Ls} {z : List Value} {h : Hp} (k : (tAld 0 (tAld 0 (tPush (.int 14) (tCV1 G d 0 0 11 mX13_isWord (fun l z h => T G d bc bs mX13_readSide 31 l z h Q))))) l z h) : T G d bc bs mX13_readSide 24 l z h Q := by
  refine R_aload_n dX13_readSide_24 rfl (fun l z h k => ?_) k
  refine R_aload_n dX13_readSide_25 rfl (fun l z h k => ?_) k
  refine R_bipush dX13_readSide_26 (by decide) (fun l z h k => ?_) k
  exact R_cv1 (M := mX13_readSide) (pc := 28) (bc := bc) (bs := bs) (cb := 0) (cs := 0) (M' := mX13_isWord) dX13_readSide_28 rfl (by decide) w_1667 w_144 w_1664 w_1666 w_50 (by decide +kernel) (fun _ _ _ k => k) k
theorem bX13_readSide_31 {G : Gt} {d bc bs : Nat} {Q : QT} {l : Ls} {z : List Value} {h : Hp} (k : (tIf (fun x => x = 0) (fun l z h => T G d bc bs mX13_readSide 38 l z h Q) (fun l z h => T G d bc bs mX13_readSide 34 l z h Q)) l z h) : T G d bc bs mX13_readSide 31 l z h Q := by
  exact R_if_eq dX13_readSide_31 (by decide) (fun _ _ _ k => k) (fun _ _ _ k => k) k
theorem bX13_readSide_34 {G : Gt} {d bc bs : Nat} {Q : QT} {l : Ls} {z : List Value} {h : Hp} (k : (tPush (.int 0) ((fun l z h => T G d bc bs mX13_readSide 39 l z h Q))) l z h) : T G d bc bs mX13_readSide 34 l z h Q := by
  refine R_iconst dX13_readSide_34 (by decide) (fun l z h k => ?_) k
  exact R_goto dX13_readSide_35 (by decide) (fun _ _ _ k => k) k
theorem bX13_readSide_38 {G : Gt} {d bc bs : Nat} {Q : QT} {l : Ls} {z : List Value} {h : Hp} (k : (tPush (.int 1) ((fun l z h => T G d bc bs mX13_readSide 39 l z h Q))) l z h) : T G d bc bs mX13_readSide 38 l z h Q := by
  refine R_iconst dX13_readSide_38 (by decide) (fun l z h k => ?_) k
  exact k
theorem bX13_readSide_39 {G : Gt} {d bc bs : Nat} {Q : QT} {l : Ls} {z : List Value} {h : Hp} (k : (tPutf isI 11 13 (tAld 0 (tCV0 G d 0 0 11 mX13_go (fun l z h => T G d bc bs mX13_readSide 46 l z h Q)))) l z h) : T G d bc bs mX13_readSide 39 l z h Q := by
  refine R_putf (ci := 11) (f := 13) (C := RX13) (N := 49) (Tt := TX13) tyX13 tyX13_ok nmX13 dX13_readSide_39 rfl i_X13 (by decide) w_1480 rfl (tyX13_ok 13 (by decide)) p_int (fun l z h k => ?_) k
  refine R_aload_n dX13_readSide_42 rfl (fun l z h k => ?_) k
  exact R_cv0 (M := mX13_readSide) (pc := 43) (bc := bc) (bs := bs) (cb := 0) (cs := 0) (M' := mX13_go) dX13_readSide_43 rfl (by decide) w_1647 w_144 w_1644 w_1646 w_47 (by decide +kernel) (fun _ _ _ k => k) k
theorem bX13_readSide_46 {G : Gt} {d bc bs : Nat} {Q : QT} {l : Ls} {z : List Value} {h : Hp} (k : (tPush (.int 1) (tRetZ Q)) l z h) : T G d bc bs mX13_readSide 46 l z h Q := by
  refine R_iconst dX13_readSide_46 (by decide) (fun l z h k => ?_) k
  exact R_zret dX13_readSide_47 rfl k
theorem dX13_readSpot_0 : decode cX13_readSpot 0 = .ok (.bipush 14, 2) := by decide +kernel
theorem dX13_readSpot_2 : decode cX13_readSpot 2 = .ok (.istore_n 1, 1) := by decide +kernel
theorem dX13_readSpot_3 : decode cX13_readSpot 3 = .ok (.iload_n 1, 1) := by decide +kernel
theorem dX13_readSpot_4 : decode cX13_readSpot 4 = .ok (.bipush 16, 2) := by decide +kernel
theorem dX13_readSpot_6 : decode cX13_readSpot 6 = .ok (.if_icmp .gt 17, 3) := by decide +kernel
theorem dX13_readSpot_9 : decode cX13_readSpot 9 = .ok (.aload_n 0, 1) := by decide +kernel
theorem dX13_readSpot_10 : decode cX13_readSpot 10 = .ok (.iload_n 1, 1) := by decide +kernel
theorem dX13_readSpot_11 : decode cX13_readSpot 11 = .ok (.invokevirtual 177, 3) := by decide +kernel
theorem dX13_readSpot_14 : decode cX13_readSpot 14 = .ok (.ifCond .ne 9, 3) := by decide +kernel
theorem dX13_readSpot_17 : decode cX13_readSpot 17 = .ok (.iinc 1 1, 3) := by decide +kernel
theorem dX13_readSpot_20 : decode cX13_readSpot 20 = .ok (.goto (-17), 3) := by decide +kernel
theorem dX13_readSpot_23 : decode cX13_readSpot 23 = .ok (.iload_n 1, 1) := by decide +kernel
theorem dX13_readSpot_24 : decode cX13_readSpot 24 = .ok (.bipush 16, 2) := by decide +kernel
theorem dX13_readSpot_26 : decode cX13_readSpot 26 = .ok (.if_icmp .le 9, 3) := by decide +kernel
theorem dX13_readSpot_29 : decode cX13_readSpot 29 = .ok (.aload_n 0, 1) := by decide +kernel
theorem dX13_readSpot_30 : decode cX13_readSpot 30 = .ok (.iconst 1, 1) := by decide +kernel
theorem dX13_readSpot_31 : decode cX13_readSpot 31 = .ok (.invokevirtual 149, 3) := by decide +kernel
theorem dX13_readSpot_34 : decode cX13_readSpot 34 = .ok (.ireturn, 1) := by decide +kernel
theorem dX13_readSpot_35 : decode cX13_readSpot 35 = .ok (.aload_n 0, 1) := by decide +kernel
theorem dX13_readSpot_36 : decode cX13_readSpot 36 = .ok (.iload_n 1, 1) := by decide +kernel
theorem dX13_readSpot_37 : decode cX13_readSpot 37 = .ok (.bipush 14, 2) := by decide +kernel
theorem dX13_readSpot_39 : decode cX13_readSpot 39 = .ok (.isub, 1) := by decide +kernel
theorem dX13_readSpot_40 : decode cX13_readSpot 40 = .ok (.putfield 156, 3) := by decide +kernel
theorem dX13_readSpot_43 : decode cX13_readSpot 43 = .ok (.aload_n 0, 1) := by decide +kernel
theorem dX13_readSpot_44 : decode cX13_readSpot 44 = .ok (.invokevirtual 159, 3) := by decide +kernel
theorem dX13_readSpot_47 : decode cX13_readSpot 47 = .ok (.iconst 1, 1) := by decide +kernel
theorem dX13_readSpot_48 : decode cX13_readSpot 48 = .ok (.ireturn, 1) := by decide +kernel
theorem bX13_readSpot_0 {G : Gt} {d bc bs : Nat} {Q : QT} {l : Ls} {z : List Value} {h : Hp} (k : (tPush (.int 14) (tIst 1 ((fun l z h => T G d bc bs mX13_readSpot 3 l z h Q)))) l z h) : T G d bc bs mX13_readSpot 0 l z h Q := by
  refine R_bipush dX13_readSpot_0 (by decide) (fun l z h k => ?_) k
  refine R_istore_n dX13_readSpot_2 rfl (by decide) (fun l z h k => ?_) k
  exact k
theorem bX13_readSpot_3 {G : Gt} {d bc bs : Nat} {Q : QT} {l : Ls} {z : List Value} {h : Hp} (k : (tIld 1 (tPush (.int 16) (tIf2 (fun x y => y < x) (fun l z h => T G d bc bs mX13_readSpot 23 l z h Q) (fun l z h => T G d bc bs mX13_readSpot 9 l z h Q)))) l z h) : T G d bc bs mX13_readSpot 3 l z h Q := by
  refine R_iload_n dX13_readSpot_3 rfl (fun l z h k => ?_) k
  refine R_bipush dX13_readSpot_4 (by decide) (fun l z h k => ?_) k
  exact R_icmp_gt dX13_readSpot_6 (by decide) (fun _ _ _ k => k) (fun _ _ _ k => k) k
theorem bX13_readSpot_9 {G : Gt} {d bc bs : Nat} {Q : QT} {l : Ls} {z : List Value} {h : Hp} (k : (tAld 0 (tIld 1 (tCV1 G d 0 0 11 mX13_isWord (fun l z h => T G d bc bs mX13_readSpot 14 l z h Q)))) l z h) : T G d bc bs mX13_readSpot 9 l z h Q := by
  refine R_aload_n dX13_readSpot_9 rfl (fun l z h k => ?_) k
  refine R_iload_n dX13_readSpot_10 rfl (fun l z h k => ?_) k
  exact R_cv1 (M := mX13_readSpot) (pc := 11) (bc := bc) (bs := bs) (cb := 0) (cs := 0) (M' := mX13_isWord) dX13_readSpot_11 rfl (by decide) w_1667 w_144 w_1664 w_1666 w_50 (by decide +kernel) (fun _ _ _ k => k) k
theorem bX13_readSpot_14 {G : Gt} {d bc bs : Nat} {Q : QT} {l : Ls} {z : List Value} {h : Hp} (k : (tIf (fun x => x = 0) (fun l z h => T G d bc bs mX13_readSpot 17 l z h Q) (fun l z h => T G d bc bs mX13_readSpot 23 l z h Q)) l z h) : T G d bc bs mX13_readSpot 14 l z h Q := by
  exact R_if_ne dX13_readSpot_14 (by decide) (fun _ _ _ k => k) (fun _ _ _ k => k) k
theorem bX13_readSpot_17 {G : Gt} {d bc bs : Nat} {Q : QT} {l : Ls} {z : List Value} {h : Hp} (k : (tInc 1 1 ((fun l z h => T G d bc bs mX13_readSpot 3 l z h Q))) l z h) : T G d bc bs mX13_readSpot 17 l z h Q := by
  refine R_iinc dX13_readSpot_17 (by decide) (by decide) (fun l z h k => ?_) k
  exact R_goto dX13_readSpot_20 (by decide) (fun _ _ _ k => k) k
theorem bX13_readSpot_23 {G : Gt} {d bc bs : Nat} {Q : QT} {l : Ls} {z : List Value} {h : Hp} (k : (tIld 1 (tPush (.int 16) (tIf2 (fun x y => x ≤ y) (fun l z h => T G d bc bs mX13_readSpot 35 l z h Q) (fun l z h => T G d bc bs mX13_readSpot 29 l z h Q)))) l z h) : T G d bc bs mX13_readSpot 23 l z h Q := by
  refine R_iload_n dX13_readSpot_23 rfl (fun l z h k => ?_) k
  refine R_bipush dX13_readSpot_24 (by decide) (fun l z h k => ?_) k
  exact R_icmp_le dX13_readSpot_26 (by decide) (fun _ _ _ k => k) (fun _ _ _ k => k) k
theorem bX13_readSpot_29 {G : Gt} {d bc bs : Nat} {Q : QT} {l : Ls} {z : List Value} {h : Hp} (k : (tAld 0 (tPush (.int 1) (tCV1 G d 0 0 11 mX13_bad (fun l z h => T G d bc bs mX13_readSpot 34 l z h Q)))) l z h) : T G d bc bs mX13_readSpot 29 l z h Q := by
  refine R_aload_n dX13_readSpot_29 rfl (fun l z h k => ?_) k
  refine R_iconst dX13_readSpot_30 (by decide) (fun l z h k => ?_) k
  exact R_cv1 (M := mX13_readSpot) (pc := 31) (bc := bc) (bs := bs) (cb := 0) (cs := 0) (M' := mX13_bad) dX13_readSpot_31 rfl (by decide) w_1685 w_144 w_1682 w_1684 w_53 (by decide +kernel) (fun _ _ _ k => k) k
theorem bX13_readSpot_34 {G : Gt} {d bc bs : Nat} {Q : QT} {l : Ls} {z : List Value} {h : Hp} (k : (tRetZ Q) l z h) : T G d bc bs mX13_readSpot 34 l z h Q := by
  exact R_zret dX13_readSpot_34 rfl k
theorem bX13_readSpot_35 {G : Gt} {d bc bs : Nat} {Q : QT} {l : Ls} {z : List Value} {h : Hp} (k : (tAld 0 (tIld 1 (tPush (.int 14) (tB (fun x y => x - y) (tPutf isI 11 13 (tAld 0 (tCV0 G d 0 0 11 mX13_go (fun l z h => T G d bc bs mX13_readSpot 47 l z h Q)))))))) l z h) : T G d bc bs mX13_readSpot 35 l z h Q := by
  refine R_aload_n dX13_readSpot_35 rfl (fun l z h k => ?_) k
  refine R_iload_n dX13_readSpot_36 rfl (fun l z h k => ?_) k
  refine R_bipush dX13_readSpot_37 (by decide) (fun l z h k => ?_) k
  refine R_isub dX13_readSpot_39 (fun l z h k => ?_) k
  refine R_putf (ci := 11) (f := 13) (C := RX13) (N := 49) (Tt := TX13) tyX13 tyX13_ok nmX13 dX13_readSpot_40 rfl i_X13 (by decide) w_1480 rfl (tyX13_ok 13 (by decide)) p_int (fun l z h k => ?_) k
  refine R_aload_n dX13_readSpot_43 rfl (fun l z h k => ?_) k
  exact R_cv0 (M := mX13_readSpot) (pc := 44) (bc := bc) (bs := bs) (cb := 0) (cs := 0) (M' := mX13_go) dX13_readSpot_44 rfl (by decide) w_1647 w_144 w_1644 w_1646 w_47 (by decide +kernel) (fun _ _ _ k => k) k
theorem bX13_readSpot_47 {G : Gt} {d bc bs : Nat} {Q : QT} {l : Ls} {z : List Value} {h : Hp} (k : (tPush (.int 1) (tRetZ Q)) l z h) : T G d bc bs mX13_readSpot 47 l z h Q := by
  refine R_iconst dX13_readSpot_47 (by decide) (fun l z h k => ?_) k
  exact R_zret dX13_readSpot_48 rfl k
theorem dX13_readThing_0 : decode cX13_readThing 0 = .ok (.aload_n 0, 1) := by decide +kernel
theorem dX13_readThing_1 : decode cX13_readThing 1 = .ok (.iconst 0, 1) := by decide +kernel
theorem dX13_readThing_2 : decode cX13_readThing 2 = .ok (.bipush 6, 2) := by decide +kernel
theorem dX13_readThing_4 : decode cX13_readThing 4 = .ok (.invokevirtual 180, 3) := by decide +kernel
theorem dX13_readThing_7 : decode cX13_readThing 7 = .ok (.ifCond .ne 5, 3) := by decide +kernel
theorem dX13_readThing_10 : decode cX13_readThing 10 = .ok (.iconst 0, 1) := by decide +kernel
theorem dX13_readThing_11 : decode cX13_readThing 11 = .ok (.ireturn, 1) := by decide +kernel
theorem dX13_readThing_12 : decode cX13_readThing 12 = .ok (.aload_n 0, 1) := by decide +kernel
theorem dX13_readThing_13 : decode cX13_readThing 13 = .ok (.getfield 16, 3) := by decide +kernel
theorem dX13_readThing_16 : decode cX13_readThing 16 = .ok (.iconst 0, 1) := by decide +kernel
theorem dX13_readThing_17 : decode cX13_readThing 17 = .ok (.iaload, 1) := by decide +kernel
theorem dX13_readThing_18 : decode cX13_readThing 18 = .ok (.istore_n 1, 1) := by decide +kernel
theorem dX13_readThing_19 : decode cX13_readThing 19 = .ok (.aload_n 0, 1) := by decide +kernel
theorem dX13_readThing_20 : decode cX13_readThing 20 = .ok (.iload_n 1, 1) := by decide +kernel
theorem dX13_readThing_21 : decode cX13_readThing 21 = .ok (.invokevirtual 184, 3) := by decide +kernel
theorem dX13_readThing_24 : decode cX13_readThing 24 = .ok (.ifCond .eq 35, 3) := by decide +kernel
theorem dX13_readThing_27 : decode cX13_readThing 27 = .ok (.aload_n 0, 1) := by decide +kernel
theorem dX13_readThing_28 : decode cX13_readThing 28 = .ok (.iconst 2, 1) := by decide +kernel
theorem dX13_readThing_29 : decode cX13_readThing 29 = .ok (.iload_n 1, 1) := by decide +kernel
theorem dX13_readThing_30 : decode cX13_readThing 30 = .ok (.iadd, 1) := by decide +kernel
theorem dX13_readThing_31 : decode cX13_readThing 31 = .ok (.aload_n 0, 1) := by decide +kernel
theorem dX13_readThing_32 : decode cX13_readThing 32 = .ok (.invokevirtual 187, 3) := by decide +kernel
theorem dX13_readThing_35 : decode cX13_readThing 35 = .ok (.invokevirtual 190, 3) := by decide +kernel
theorem dX13_readThing_38 : decode cX13_readThing 38 = .ok (.ifCond .eq 21, 3) := by decide +kernel
theorem dX13_readThing_41 : decode cX13_readThing 41 = .ok (.aload_n 0, 1) := by decide +kernel
theorem dX13_readThing_42 : decode cX13_readThing 42 = .ok (.bipush 8, 2) := by decide +kernel
theorem dX13_readThing_44 : decode cX13_readThing 44 = .ok (.iload_n 1, 1) := by decide +kernel
theorem dX13_readThing_45 : decode cX13_readThing 45 = .ok (.iadd, 1) := by decide +kernel
theorem dX13_readThing_46 : decode cX13_readThing 46 = .ok (.aload_n 0, 1) := by decide +kernel
theorem dX13_readThing_47 : decode cX13_readThing 47 = .ok (.iconst 1, 1) := by decide +kernel
theorem dX13_readThing_48 : decode cX13_readThing 48 = .ok (.bipush 9, 2) := by decide +kernel
theorem dX13_readThing_50 : decode cX13_readThing 50 = .ok (.invokevirtual 194, 3) := by decide +kernel
theorem dX13_readThing_53 : decode cX13_readThing 53 = .ok (.invokevirtual 190, 3) := by decide +kernel
theorem dX13_readThing_56 : decode cX13_readThing 56 = .ok (.ifCond .ne 5, 3) := by decide +kernel
theorem dX13_readThing_59 : decode cX13_readThing 59 = .ok (.iconst 0, 1) := by decide +kernel
theorem dX13_readThing_60 : decode cX13_readThing 60 = .ok (.ireturn, 1) := by decide +kernel
theorem dX13_readThing_61 : decode cX13_readThing 61 = .ok (.aload_n 0, 1) := by decide +kernel
theorem dX13_readThing_62 : decode cX13_readThing 62 = .ok (.getfield 16, 3) := by decide +kernel
theorem dX13_readThing_65 : decode cX13_readThing 65 = .ok (.iconst 0, 1) := by decide +kernel
theorem dX13_readThing_66 : decode cX13_readThing 66 = .ok (.dup2, 1) := by decide +kernel
theorem dX13_readThing_67 : decode cX13_readThing 67 = .ok (.iaload, 1) := by decide +kernel
theorem dX13_readThing_68 : decode cX13_readThing 68 = .ok (.iconst 1, 1) := by decide +kernel
theorem dX13_readThing_69 : decode cX13_readThing 69 = .ok (.iadd, 1) := by decide +kernel
theorem dX13_readThing_70 : decode cX13_readThing 70 = .ok (.iastore, 1) := by decide +kernel
theorem dX13_readThing_71 : decode cX13_readThing 71 = .ok (.iconst 1, 1) := by decide +kernel
theorem dX13_readThing_72 : decode cX13_readThing 72 = .ok (.ireturn, 1) := by decide +kernel
theorem bX13_readThing_0 {G : Gt} {d bc bs : Nat} {Q : QT} {l : Ls} {z : List Value} {h : Hp} (k : (tAld 0 (tPush (.int 0) (tPush (.int 6) (tCV2 G d 0 0 11 mX13_readFirst (fun l z h => T G d bc bs mX13_readThing 7 l z h Q))))) l z h) : T G d bc bs mX13_readThing 0 l z h Q := by
  refine R_aload_n dX13_readThing_0 rfl (fun l z h k => ?_) k
  refine R_iconst dX13_readThing_1 (by decide) (fun l z h k => ?_) k
  refine R_bipush dX13_readThing_2 (by decide) (fun l z h k => ?_) k
  exact R_cv2 (M := mX13_readThing) (pc := 4) (bc := bc) (bs := bs) (cb := 0) (cs := 0) (M' := mX13_readFirst) dX13_readThing_4 rfl (by decide) w_1681 w_144 w_1678 w_1680 w_52 (by decide +kernel) (fun _ _ _ k => k) k
theorem bX13_readThing_7 {G : Gt} {d bc bs : Nat} {Q : QT} {l : Ls} {z : List Value} {h : Hp} (k : (tIf (fun x => x = 0) (fun l z h => T G d bc bs mX13_readThing 10 l z h Q) (fun l z h => T G d bc bs mX13_readThing 12 l z h Q)) l z h) : T G d bc bs mX13_readThing 7 l z h Q := by
  exact R_if_ne dX13_readThing_7 (by decide) (fun _ _ _ k => k) (fun _ _ _ k => k) k
theorem bX13_readThing_10 {G : Gt} {d bc bs : Nat} {Q : QT} {l : Ls} {z : List Value} {h : Hp} (k : (tPush (.int 0) (tRetZ Q)) l z h) : T G d bc bs mX13_readThing 10 l z h Q := by
  refine R_iconst dX13_readThing_10 (by decide) (fun l z h k => ?_) k
  exact R_zret dX13_readThing_11 rfl k
theorem bX13_readThing_12 {G : Gt} {d bc bs : Nat} {Q : QT} {l : Ls} {z : List Value} {h : Hp} (k : (tAld 0 (tGetf 11 15 (tPush (.int 0) (tXald 0 (tIst 1 (tAld 0 (tIld 1 (tCV1 G d 0 0 11 mX13_readNew (fun l z h => T G d bc bs mX13_readThing 24 l z h Q))))))))) l z h) : T G d bc bs mX13_readThing 12 l z h Q := by
  refine R_aload_n dX13_readThing_12 rfl (fun l z h k => ?_) k
  refine R_getf (ci := 11) (f := 15) (C := RX13) (N := 49) (Tt := TX13) dX13_readThing_13 rfl i_X13 (by decide) w_1482 (fun l z h k => ?_) k
  refine R_iconst dX13_readThing_16 (by decide) (fun l z h k => ?_) k
  refine R_iaload dX13_readThing_17 (fun l z h k => ?_) k
  refine R_istore_n dX13_readThing_18 rfl (by decide) (fun l z h k => ?_) k
  refine R_aload_n dX13_readThing_19 rfl (fun l z h k => ?_) k
  refine R_iload_n dX13_readThing_20 rfl (fun l z h k => ?_) k
  exact R_cv1 (M := mX13_readThing) (pc := 21) (bc := bc) (bs := bs) (cb := 0) (cs := 0) (M' := mX13_readNew) dX13_readThing_21 rfl (by decide) w_1689 w_144 w_1686 w_1688 w_54 (by decide +kernel) (fun _ _ _ k => k) k
theorem bX13_readThing_24 {G : Gt} {d bc bs : Nat} {Q : QT} {l : Ls} {z : List Value} {h : Hp} (k : (tIf (fun x => x = 0) (fun l z h => T G d bc bs mX13_readThing 59 l z h Q) (fun l z h => T G d bc bs mX13_readThing 27 l z h Q)) l z h) : T G d bc bs mX13_readThing 24 l z h Q := by
  exact R_if_eq dX13_readThing_24 (by decide) (fun _ _ _ k => k) (fun _ _ _ k => k) k
theorem bX13_readThing_27 {G : Gt} {d bc bs : Nat} {Q : QT} {l : Ls} {z : List Value} {h : Hp} (k : (tAld 0 (tPush (.int 2) (tIld 1 (tB (fun x y => x + y) (tAld 0 (tCV0 G d 0 0 11 mX13_readSide (fun l z h => T G d bc bs mX13_readThing 35 l z h Q))))))) l z h) : T G d bc bs mX13_readThing 27 l z h Q := by
  refine R_aload_n dX13_readThing_27 rfl (fun l z h k => ?_) k
  refine R_iconst dX13_readThing_28 (by decide) (fun l z h k => ?_) k
  refine R_iload_n dX13_readThing_29 rfl (fun l z h k => ?_) k
  refine R_iadd dX13_readThing_30 (fun l z h k => ?_) k
  refine R_aload_n dX13_readThing_31 rfl (fun l z h k => ?_) k
  exact R_cv0 (M := mX13_readThing) (pc := 32) (bc := bc) (bs := bs) (cb := 0) (cs := 0) (M' := mX13_readSide) dX13_readThing_32 rfl (by decide) w_1700 w_144 w_1697 w_1699 w_56 (by decide +kernel) (fun _ _ _ k => k) k
theorem bX13_readThing_35 {G : Gt} {d bc bs : Nat} {Q : QT} {l : Ls} {z : List Value} {h : Hp} (k : (tCV2 G d 0 0 11 mX13_put (fun l z h => T G d bc bs mX13_readThing 38 l z h Q)) l z h) : T G d bc bs mX13_readThing 35 l z h Q := by
  exact R_cv2 (M := mX13_readThing) (pc := 35) (bc := bc) (bs := bs) (cb := 0) (cs := 0) (M' := mX13_put) dX13_readThing_35 rfl (by decide) w_1704 w_144 w_1701 w_1703 w_57 (by decide +kernel) (fun _ _ _ k => k) k
theorem bX13_readThing_38 {G : Gt} {d bc bs : Nat} {Q : QT} {l : Ls} {z : List Value} {h : Hp} (k : (tIf (fun x => x = 0) (fun l z h => T G d bc bs mX13_readThing 59 l z h Q) (fun l z h => T G d bc bs mX13_readThing 41 l z h Q)) l z h) : T G d bc bs mX13_readThing 38 l z h Q := by
  exact R_if_eq dX13_readThing_38 (by decide) (fun _ _ _ k => k) (fun _ _ _ k => k) k
theorem bX13_readThing_41 {G : Gt} {d bc bs : Nat} {Q : QT} {l : Ls} {z : List Value} {h : Hp} (k : (tAld 0 (tPush (.int 8) (tIld 1 (tB (fun x y => x + y) (tAld 0 (tPush (.int 1) (tPush (.int 9) (tCV2 G d 0 0 11 mX13_readNumber (fun l z h => T G d bc bs mX13_readThing 53 l z h Q))))))))) l z h) : T G d bc bs mX13_readThing 41 l z h Q := by
  refine R_aload_n dX13_readThing_41 rfl (fun l z h k => ?_) k
  refine R_bipush dX13_readThing_42 (by decide) (fun l z h k => ?_) k
  refine R_iload_n dX13_readThing_44 rfl (fun l z h k => ?_) k
  refine R_iadd dX13_readThing_45 (fun l z h k => ?_) k
  refine R_aload_n dX13_readThing_46 rfl (fun l z h k => ?_) k
  refine R_iconst dX13_readThing_47 (by decide) (fun l z h k => ?_) k
  refine R_bipush dX13_readThing_48 (by decide) (fun l z h k => ?_) k
  exact R_cv2 (M := mX13_readThing) (pc := 50) (bc := bc) (bs := bs) (cb := 0) (cs := 0) (M' := mX13_readNumber) dX13_readThing_50 rfl (by decide) w_1708 w_144 w_1705 w_1707 w_58 (by decide +kernel) (fun _ _ _ k => k) k
theorem bX13_readThing_53 {G : Gt} {d bc bs : Nat} {Q : QT} {l : Ls} {z : List Value} {h : Hp} (k : (tCV2 G d 0 0 11 mX13_put (fun l z h => T G d bc bs mX13_readThing 56 l z h Q)) l z h) : T G d bc bs mX13_readThing 53 l z h Q := by
  exact R_cv2 (M := mX13_readThing) (pc := 53) (bc := bc) (bs := bs) (cb := 0) (cs := 0) (M' := mX13_put) dX13_readThing_53 rfl (by decide) w_1704 w_144 w_1701 w_1703 w_57 (by decide +kernel) (fun _ _ _ k => k) k
theorem bX13_readThing_56 {G : Gt} {d bc bs : Nat} {Q : QT} {l : Ls} {z : List Value} {h : Hp} (k : (tIf (fun x => x = 0) (fun l z h => T G d bc bs mX13_readThing 59 l z h Q) (fun l z h => T G d bc bs mX13_readThing 61 l z h Q)) l z h) : T G d bc bs mX13_readThing 56 l z h Q := by
  exact R_if_ne dX13_readThing_56 (by decide) (fun _ _ _ k => k) (fun _ _ _ k => k) k
theorem bX13_readThing_59 {G : Gt} {d bc bs : Nat} {Q : QT} {l : Ls} {z : List Value} {h : Hp} (k : (tPush (.int 0) (tRetZ Q)) l z h) : T G d bc bs mX13_readThing 59 l z h Q := by
  refine R_iconst dX13_readThing_59 (by decide) (fun l z h k => ?_) k
  exact R_zret dX13_readThing_60 rfl k
theorem bX13_readThing_61 {G : Gt} {d bc bs : Nat} {Q : QT} {l : Ls} {z : List Value} {h : Hp} (k : (tAld 0 (tGetf 11 15 (tPush (.int 0) (tDup2 (tXald 0 (tPush (.int 1) (tB (fun x y => x + y) (tXast 0 (tPush (.int 1) (tRetZ Q)))))))))) l z h) : T G d bc bs mX13_readThing 61 l z h Q := by
  refine R_aload_n dX13_readThing_61 rfl (fun l z h k => ?_) k
  refine R_getf (ci := 11) (f := 15) (C := RX13) (N := 49) (Tt := TX13) dX13_readThing_62 rfl i_X13 (by decide) w_1482 (fun l z h k => ?_) k
  refine R_iconst dX13_readThing_65 (by decide) (fun l z h k => ?_) k
  refine R_dup2 dX13_readThing_66 (fun l z h k => ?_) k
  refine R_iaload dX13_readThing_67 (fun l z h k => ?_) k
  refine R_iconst dX13_readThing_68 (by decide) (fun l z h k => ?_) k
  refine R_iadd dX13_readThing_69 (fun l z h k => ?_) k
  refine R_iastore dX13_readThing_70 (fun l z h k => ?_) k
  refine R_iconst dX13_readThing_71 (by decide) (fun l z h k => ?_) k
  exact R_zret dX13_readThing_72 rfl k
theorem dX13_readPerson_0 : decode cX13_readPerson 0 = .ok (.aload_n 0, 1) := by decide +kernel
theorem dX13_readPerson_1 : decode cX13_readPerson 1 = .ok (.iconst 1, 1) := by decide +kernel
theorem dX13_readPerson_2 : decode cX13_readPerson 2 = .ok (.bipush 8, 2) := by decide +kernel
theorem dX13_readPerson_4 : decode cX13_readPerson 4 = .ok (.invokevirtual 180, 3) := by decide +kernel
theorem dX13_readPerson_7 : decode cX13_readPerson 7 = .ok (.ifCond .ne 5, 3) := by decide +kernel
theorem dX13_readPerson_10 : decode cX13_readPerson 10 = .ok (.iconst 0, 1) := by decide +kernel
theorem dX13_readPerson_11 : decode cX13_readPerson 11 = .ok (.ireturn, 1) := by decide +kernel
theorem dX13_readPerson_12 : decode cX13_readPerson 12 = .ok (.aload_n 0, 1) := by decide +kernel
theorem dX13_readPerson_13 : decode cX13_readPerson 13 = .ok (.getfield 16, 3) := by decide +kernel
theorem dX13_readPerson_16 : decode cX13_readPerson 16 = .ok (.iconst 1, 1) := by decide +kernel
theorem dX13_readPerson_17 : decode cX13_readPerson 17 = .ok (.iaload, 1) := by decide +kernel
theorem dX13_readPerson_18 : decode cX13_readPerson 18 = .ok (.istore_n 1, 1) := by decide +kernel
theorem dX13_readPerson_19 : decode cX13_readPerson 19 = .ok (.aload_n 0, 1) := by decide +kernel
theorem dX13_readPerson_20 : decode cX13_readPerson 20 = .ok (.bipush 6, 2) := by decide +kernel
theorem dX13_readPerson_22 : decode cX13_readPerson 22 = .ok (.iload_n 1, 1) := by decide +kernel
theorem dX13_readPerson_23 : decode cX13_readPerson 23 = .ok (.iadd, 1) := by decide +kernel
theorem dX13_readPerson_24 : decode cX13_readPerson 24 = .ok (.invokevirtual 184, 3) := by decide +kernel
theorem dX13_readPerson_27 : decode cX13_readPerson 27 = .ok (.ifCond .eq 33, 3) := by decide +kernel
theorem dX13_readPerson_30 : decode cX13_readPerson 30 = .ok (.aload_n 0, 1) := by decide +kernel
theorem dX13_readPerson_31 : decode cX13_readPerson 31 = .ok (.bipush 14, 2) := by decide +kernel
theorem dX13_readPerson_33 : decode cX13_readPerson 33 = .ok (.iload_n 1, 1) := by decide +kernel
theorem dX13_readPerson_34 : decode cX13_readPerson 34 = .ok (.iadd, 1) := by decide +kernel
theorem dX13_readPerson_35 : decode cX13_readPerson 35 = .ok (.aload_n 0, 1) := by decide +kernel
theorem dX13_readPerson_36 : decode cX13_readPerson 36 = .ok (.invokevirtual 197, 3) := by decide +kernel
theorem dX13_readPerson_39 : decode cX13_readPerson 39 = .ok (.invokevirtual 190, 3) := by decide +kernel
theorem dX13_readPerson_42 : decode cX13_readPerson 42 = .ok (.ifCond .eq 18, 3) := by decide +kernel
theorem dX13_readPerson_45 : decode cX13_readPerson 45 = .ok (.aload_n 0, 1) := by decide +kernel
theorem dX13_readPerson_46 : decode cX13_readPerson 46 = .ok (.bipush 22, 2) := by decide +kernel
theorem dX13_readPerson_48 : decode cX13_readPerson 48 = .ok (.iload_n 1, 1) := by decide +kernel
theorem dX13_readPerson_49 : decode cX13_readPerson 49 = .ok (.iadd, 1) := by decide +kernel
theorem dX13_readPerson_50 : decode cX13_readPerson 50 = .ok (.aload_n 0, 1) := by decide +kernel
theorem dX13_readPerson_51 : decode cX13_readPerson 51 = .ok (.invokevirtual 187, 3) := by decide +kernel
theorem dX13_readPerson_54 : decode cX13_readPerson 54 = .ok (.invokevirtual 190, 3) := by decide +kernel
theorem dX13_readPerson_57 : decode cX13_readPerson 57 = .ok (.ifCond .ne 5, 3) := by decide +kernel
theorem dX13_readPerson_60 : decode cX13_readPerson 60 = .ok (.iconst 0, 1) := by decide +kernel
theorem dX13_readPerson_61 : decode cX13_readPerson 61 = .ok (.ireturn, 1) := by decide +kernel
theorem dX13_readPerson_62 : decode cX13_readPerson 62 = .ok (.aload_n 0, 1) := by decide +kernel
theorem dX13_readPerson_63 : decode cX13_readPerson 63 = .ok (.getfield 16, 3) := by decide +kernel
theorem dX13_readPerson_66 : decode cX13_readPerson 66 = .ok (.bipush 90, 2) := by decide +kernel
theorem dX13_readPerson_68 : decode cX13_readPerson 68 = .ok (.iload_n 1, 1) := by decide +kernel
theorem dX13_readPerson_69 : decode cX13_readPerson 69 = .ok (.iadd, 1) := by decide +kernel
theorem dX13_readPerson_70 : decode cX13_readPerson 70 = .ok (.iconst (-1), 1) := by decide +kernel
theorem dX13_readPerson_71 : decode cX13_readPerson 71 = .ok (.iastore, 1) := by decide +kernel
theorem dX13_readPerson_72 : decode cX13_readPerson 72 = .ok (.aload_n 0, 1) := by decide +kernel
theorem dX13_readPerson_73 : decode cX13_readPerson 73 = .ok (.getfield 16, 3) := by decide +kernel
theorem dX13_readPerson_76 : decode cX13_readPerson 76 = .ok (.iconst 1, 1) := by decide +kernel
theorem dX13_readPerson_77 : decode cX13_readPerson 77 = .ok (.dup2, 1) := by decide +kernel
theorem dX13_readPerson_78 : decode cX13_readPerson 78 = .ok (.iaload, 1) := by decide +kernel
theorem dX13_readPerson_79 : decode cX13_readPerson 79 = .ok (.iconst 1, 1) := by decide +kernel
theorem dX13_readPerson_80 : decode cX13_readPerson 80 = .ok (.iadd, 1) := by decide +kernel
theorem dX13_readPerson_81 : decode cX13_readPerson 81 = .ok (.iastore, 1) := by decide +kernel
theorem dX13_readPerson_82 : decode cX13_readPerson 82 = .ok (.iconst 1, 1) := by decide +kernel
theorem dX13_readPerson_83 : decode cX13_readPerson 83 = .ok (.ireturn, 1) := by decide +kernel
theorem bX13_readPerson_0 {G : Gt} {d bc bs : Nat} {Q : QT} {l : Ls} {z : List Value} {h : Hp} (k : (tAld 0 (tPush (.int 1) (tPush (.int 8) (tCV2 G d 0 0 11 mX13_readFirst (fun l z h => T G d bc bs mX13_readPerson 7 l z h Q))))) l z h) : T G d bc bs mX13_readPerson 0 l z h Q := by
  refine R_aload_n dX13_readPerson_0 rfl (fun l z h k => ?_) k
  refine R_iconst dX13_readPerson_1 (by decide) (fun l z h k => ?_) k
  refine R_bipush dX13_readPerson_2 (by decide) (fun l z h k => ?_) k
  exact R_cv2 (M := mX13_readPerson) (pc := 4) (bc := bc) (bs := bs) (cb := 0) (cs := 0) (M' := mX13_readFirst) dX13_readPerson_4 rfl (by decide) w_1681 w_144 w_1678 w_1680 w_52 (by decide +kernel) (fun _ _ _ k => k) k
theorem bX13_readPerson_7 {G : Gt} {d bc bs : Nat} {Q : QT} {l : Ls} {z : List Value} {h : Hp} (k : (tIf (fun x => x = 0) (fun l z h => T G d bc bs mX13_readPerson 10 l z h Q) (fun l z h => T G d bc bs mX13_readPerson 12 l z h Q)) l z h) : T G d bc bs mX13_readPerson 7 l z h Q := by
  exact R_if_ne dX13_readPerson_7 (by decide) (fun _ _ _ k => k) (fun _ _ _ k => k) k
theorem bX13_readPerson_10 {G : Gt} {d bc bs : Nat} {Q : QT} {l : Ls} {z : List Value} {h : Hp} (k : (tPush (.int 0) (tRetZ Q)) l z h) : T G d bc bs mX13_readPerson 10 l z h Q := by
  refine R_iconst dX13_readPerson_10 (by decide) (fun l z h k => ?_) k
  exact R_zret dX13_readPerson_11 rfl k
theorem bX13_readPerson_12 {G : Gt} {d bc bs : Nat} {Q : QT} {l : Ls} {z : List Value} {h : Hp} (k : (tAld 0 (tGetf 11 15 (tPush (.int 1) (tXald 0 (tIst 1 (tAld 0 (tPush (.int 6) (tIld 1 (tB (fun x y => x + y) (tCV1 G d 0 0 11 mX13_readNew (fun l z h => T G d bc bs mX13_readPerson 27 l z h Q))))))))))) l z h) : T G d bc bs mX13_readPerson 12 l z h Q := by
  refine R_aload_n dX13_readPerson_12 rfl (fun l z h k => ?_) k
  refine R_getf (ci := 11) (f := 15) (C := RX13) (N := 49) (Tt := TX13) dX13_readPerson_13 rfl i_X13 (by decide) w_1482 (fun l z h k => ?_) k
  refine R_iconst dX13_readPerson_16 (by decide) (fun l z h k => ?_) k
  refine R_iaload dX13_readPerson_17 (fun l z h k => ?_) k
  refine R_istore_n dX13_readPerson_18 rfl (by decide) (fun l z h k => ?_) k
  refine R_aload_n dX13_readPerson_19 rfl (fun l z h k => ?_) k
  refine R_bipush dX13_readPerson_20 (by decide) (fun l z h k => ?_) k
  refine R_iload_n dX13_readPerson_22 rfl (fun l z h k => ?_) k
  refine R_iadd dX13_readPerson_23 (fun l z h k => ?_) k
  exact R_cv1 (M := mX13_readPerson) (pc := 24) (bc := bc) (bs := bs) (cb := 0) (cs := 0) (M' := mX13_readNew) dX13_readPerson_24 rfl (by decide) w_1689 w_144 w_1686 w_1688 w_54 (by decide +kernel) (fun _ _ _ k => k) k
theorem bX13_readPerson_27 {G : Gt} {d bc bs : Nat} {Q : QT} {l : Ls} {z : List Value} {h : Hp} (k : (tIf (fun x => x = 0) (fun l z h => T G d bc bs mX13_readPerson 60 l z h Q) (fun l z h => T G d bc bs mX13_readPerson 30 l z h Q)) l z h) : T G d bc bs mX13_readPerson 27 l z h Q := by
  exact R_if_eq dX13_readPerson_27 (by decide) (fun _ _ _ k => k) (fun _ _ _ k => k) k
theorem bX13_readPerson_30 {G : Gt} {d bc bs : Nat} {Q : QT} {l : Ls} {z : List Value} {h : Hp} (k : (tAld 0 (tPush (.int 14) (tIld 1 (tB (fun x y => x + y) (tAld 0 (tCV0 G d 0 0 11 mX13_readSpot (fun l z h => T G d bc bs mX13_readPerson 39 l z h Q))))))) l z h) : T G d bc bs mX13_readPerson 30 l z h Q := by
  refine R_aload_n dX13_readPerson_30 rfl (fun l z h k => ?_) k
  refine R_bipush dX13_readPerson_31 (by decide) (fun l z h k => ?_) k
  refine R_iload_n dX13_readPerson_33 rfl (fun l z h k => ?_) k
  refine R_iadd dX13_readPerson_34 (fun l z h k => ?_) k
  refine R_aload_n dX13_readPerson_35 rfl (fun l z h k => ?_) k
  exact R_cv0 (M := mX13_readPerson) (pc := 36) (bc := bc) (bs := bs) (cb := 0) (cs := 0) (M' := mX13_readSpot) dX13_readPerson_36 rfl (by decide) w_1719 w_144 w_1716 w_1718 w_60 (by decide +kernel) (fun _ _ _ k => k) k
theorem bX13_readPerson_39 {G : Gt} {d bc bs : Nat} {Q : QT} {l : Ls} {z : List Value} {h : Hp} (k : (tCV2 G d 0 0 11 mX13_put (fun l z h => T G d bc bs mX13_readPerson 42 l z h Q)) l z h) : T G d bc bs mX13_readPerson 39 l z h Q := by
  exact R_cv2 (M := mX13_readPerson) (pc := 39) (bc := bc) (bs := bs) (cb := 0) (cs := 0) (M' := mX13_put) dX13_readPerson_39 rfl (by decide) w_1704 w_144 w_1701 w_1703 w_57 (by decide +kernel) (fun _ _ _ k => k) k
theorem bX13_readPerson_42 {G : Gt} {d bc bs : Nat} {Q : QT} {l : Ls} {z : List Value} {h : Hp} (k : (tIf (fun x => x = 0) (fun l z h => T G d bc bs mX13_readPerson 60 l z h Q) (fun l z h => T G d bc bs mX13_readPerson 45 l z h Q)) l z h) : T G d bc bs mX13_readPerson 42 l z h Q := by
  exact R_if_eq dX13_readPerson_42 (by decide) (fun _ _ _ k => k) (fun _ _ _ k => k) k
theorem bX13_readPerson_45 {G : Gt} {d bc bs : Nat} {Q : QT} {l : Ls} {z : List Value} {h : Hp} (k : (tAld 0 (tPush (.int 22) (tIld 1 (tB (fun x y => x + y) (tAld 0 (tCV0 G d 0 0 11 mX13_readSide (fun l z h => T G d bc bs mX13_readPerson 54 l z h Q))))))) l z h) : T G d bc bs mX13_readPerson 45 l z h Q := by
  refine R_aload_n dX13_readPerson_45 rfl (fun l z h k => ?_) k
  refine R_bipush dX13_readPerson_46 (by decide) (fun l z h k => ?_) k
  refine R_iload_n dX13_readPerson_48 rfl (fun l z h k => ?_) k
  refine R_iadd dX13_readPerson_49 (fun l z h k => ?_) k
  refine R_aload_n dX13_readPerson_50 rfl (fun l z h k => ?_) k
  exact R_cv0 (M := mX13_readPerson) (pc := 51) (bc := bc) (bs := bs) (cb := 0) (cs := 0) (M' := mX13_readSide) dX13_readPerson_51 rfl (by decide) w_1700 w_144 w_1697 w_1699 w_56 (by decide +kernel) (fun _ _ _ k => k) k
theorem bX13_readPerson_54 {G : Gt} {d bc bs : Nat} {Q : QT} {l : Ls} {z : List Value} {h : Hp} (k : (tCV2 G d 0 0 11 mX13_put (fun l z h => T G d bc bs mX13_readPerson 57 l z h Q)) l z h) : T G d bc bs mX13_readPerson 54 l z h Q := by
  exact R_cv2 (M := mX13_readPerson) (pc := 54) (bc := bc) (bs := bs) (cb := 0) (cs := 0) (M' := mX13_put) dX13_readPerson_54 rfl (by decide) w_1704 w_144 w_1701 w_1703 w_57 (by decide +kernel) (fun _ _ _ k => k) k
theorem bX13_readPerson_57 {G : Gt} {d bc bs : Nat} {Q : QT} {l : Ls} {z : List Value} {h : Hp} (k : (tIf (fun x => x = 0) (fun l z h => T G d bc bs mX13_readPerson 60 l z h Q) (fun l z h => T G d bc bs mX13_readPerson 62 l z h Q)) l z h) : T G d bc bs mX13_readPerson 57 l z h Q := by
  exact R_if_ne dX13_readPerson_57 (by decide) (fun _ _ _ k => k) (fun _ _ _ k => k) k
theorem bX13_readPerson_60 {G : Gt} {d bc bs : Nat} {Q : QT} {l : Ls} {z : List Value} {h : Hp} (k : (tPush (.int 0) (tRetZ Q)) l z h) : T G d bc bs mX13_readPerson 60 l z h Q := by
  refine R_iconst dX13_readPerson_60 (by decide) (fun l z h k => ?_) k
  exact R_zret dX13_readPerson_61 rfl k
theorem bX13_readPerson_62 {G : Gt} {d bc bs : Nat} {Q : QT} {l : Ls} {z : List Value} {h : Hp} (k : (tAld 0 (tGetf 11 15 (tPush (.int 90) (tIld 1 (tB (fun x y => x + y) (tPush (.int (-1)) (tXast 0 (tAld 0 (tGetf 11 15 (tPush (.int 1) (tDup2 (tXald 0 (tPush (.int 1) (tB (fun x y => x + y) (tXast 0 (tPush (.int 1) (tRetZ Q))))))))))))))))) l z h) : T G d bc bs mX13_readPerson 62 l z h Q := by
  refine R_aload_n dX13_readPerson_62 rfl (fun l z h k => ?_) k
  refine R_getf (ci := 11) (f := 15) (C := RX13) (N := 49) (Tt := TX13) dX13_readPerson_63 rfl i_X13 (by decide) w_1482 (fun l z h k => ?_) k
  refine R_bipush dX13_readPerson_66 (by decide) (fun l z h k => ?_) k
  refine R_iload_n dX13_readPerson_68 rfl (fun l z h k => ?_) k
  refine R_iadd dX13_readPerson_69 (fun l z h k => ?_) k
  refine R_iconst dX13_readPerson_70 (by decide) (fun l z h k => ?_) k
  refine R_iastore dX13_readPerson_71 (fun l z h k => ?_) k
  refine R_aload_n dX13_readPerson_72 rfl (fun l z h k => ?_) k
  refine R_getf (ci := 11) (f := 15) (C := RX13) (N := 49) (Tt := TX13) dX13_readPerson_73 rfl i_X13 (by decide) w_1482 (fun l z h k => ?_) k
  refine R_iconst dX13_readPerson_76 (by decide) (fun l z h k => ?_) k
  refine R_dup2 dX13_readPerson_77 (fun l z h k => ?_) k
  refine R_iaload dX13_readPerson_78 (fun l z h k => ?_) k
  refine R_iconst dX13_readPerson_79 (by decide) (fun l z h k => ?_) k
  refine R_iadd dX13_readPerson_80 (fun l z h k => ?_) k
  refine R_iastore dX13_readPerson_81 (fun l z h k => ?_) k
  refine R_iconst dX13_readPerson_82 (by decide) (fun l z h k => ?_) k
  exact R_zret dX13_readPerson_83 rfl k
theorem dX13_readMany_0 : decode cX13_readMany 0 = .ok (.aload_n 0, 1) := by decide +kernel
theorem dX13_readMany_1 : decode cX13_readMany 1 = .ok (.iconst 0, 1) := by decide +kernel
theorem dX13_readMany_2 : decode cX13_readMany 2 = .ok (.aload_n 0, 1) := by decide +kernel
theorem dX13_readMany_3 : decode cX13_readMany 3 = .ok (.getfield 16, 3) := by decide +kernel
theorem dX13_readMany_6 : decode cX13_readMany 6 = .ok (.iconst 0, 1) := by decide +kernel
theorem dX13_readMany_7 : decode cX13_readMany 7 = .ok (.iaload, 1) := by decide +kernel
theorem dX13_readMany_8 : decode cX13_readMany 8 = .ok (.invokevirtual 200, 3) := by decide +kernel
theorem dX13_readMany_11 : decode cX13_readMany 11 = .ok (.ifCond .ne 5, 3) := by decide +kernel
theorem dX13_readMany_14 : decode cX13_readMany 14 = .ok (.iconst 0, 1) := by decide +kernel
theorem dX13_readMany_15 : decode cX13_readMany 15 = .ok (.ireturn, 1) := by decide +kernel
theorem dX13_readMany_16 : decode cX13_readMany 16 = .ok (.iload_n 2, 1) := by decide +kernel
theorem dX13_readMany_17 : decode cX13_readMany 17 = .ok (.aload_n 0, 1) := by decide +kernel
theorem dX13_readMany_18 : decode cX13_readMany 18 = .ok (.getfield 156, 3) := by decide +kernel
theorem dX13_readMany_21 : decode cX13_readMany 21 = .ok (.iadd, 1) := by decide +kernel
theorem dX13_readMany_22 : decode cX13_readMany 22 = .ok (.istore 4, 2) := by decide +kernel
theorem dX13_readMany_24 : decode cX13_readMany 24 = .ok (.aload_n 1, 1) := by decide +kernel
theorem dX13_readMany_25 : decode cX13_readMany 25 = .ok (.iload 4, 2) := by decide +kernel
theorem dX13_readMany_27 : decode cX13_readMany 27 = .ok (.baload, 1) := by decide +kernel
theorem dX13_readMany_28 : decode cX13_readMany 28 = .ok (.ifCond .eq 9, 3) := by decide +kernel
theorem dX13_readMany_31 : decode cX13_readMany 31 = .ok (.aload_n 0, 1) := by decide +kernel
theorem dX13_readMany_32 : decode cX13_readMany 32 = .ok (.iconst 3, 1) := by decide +kernel
theorem dX13_readMany_33 : decode cX13_readMany 33 = .ok (.invokevirtual 149, 3) := by decide +kernel
theorem dX13_readMany_36 : decode cX13_readMany 36 = .ok (.ireturn, 1) := by decide +kernel
theorem dX13_readMany_37 : decode cX13_readMany 37 = .ok (.aload_n 1, 1) := by decide +kernel
theorem dX13_readMany_38 : decode cX13_readMany 38 = .ok (.iload 4, 2) := by decide +kernel
theorem dX13_readMany_40 : decode cX13_readMany 40 = .ok (.iconst 1, 1) := by decide +kernel
theorem dX13_readMany_41 : decode cX13_readMany 41 = .ok (.bastore, 1) := by decide +kernel
theorem dX13_readMany_42 : decode cX13_readMany 42 = .ok (.aload_n 0, 1) := by decide +kernel
theorem dX13_readMany_43 : decode cX13_readMany 43 = .ok (.invokevirtual 159, 3) := by decide +kernel
theorem dX13_readMany_46 : decode cX13_readMany 46 = .ok (.aload_n 0, 1) := by decide +kernel
theorem dX13_readMany_47 : decode cX13_readMany 47 = .ok (.iload_n 3, 1) := by decide +kernel
theorem dX13_readMany_48 : decode cX13_readMany 48 = .ok (.iload 4, 2) := by decide +kernel
theorem dX13_readMany_50 : decode cX13_readMany 50 = .ok (.iadd, 1) := by decide +kernel
theorem dX13_readMany_51 : decode cX13_readMany 51 = .ok (.aload_n 0, 1) := by decide +kernel
theorem dX13_readMany_52 : decode cX13_readMany 52 = .ok (.iconst 1, 1) := by decide +kernel
theorem dX13_readMany_53 : decode cX13_readMany 53 = .ok (.bipush 12, 2) := by decide +kernel
theorem dX13_readMany_55 : decode cX13_readMany 55 = .ok (.invokevirtual 194, 3) := by decide +kernel
theorem dX13_readMany_58 : decode cX13_readMany 58 = .ok (.invokevirtual 190, 3) := by decide +kernel
theorem dX13_readMany_61 : decode cX13_readMany 61 = .ok (.ireturn, 1) := by decide +kernel
theorem bX13_readMany_0 {G : Gt} {d bc bs : Nat} {Q : QT} {l : Ls} {z : List Value} {h : Hp} (k : (tAld 0 (tPush (.int 0) (tAld 0 (tGetf 11 15 (tPush (.int 0) (tXald 0 (tCV2 G d 0 0 11 mX13_isOne (fun l z h => T G d bc bs mX13_readMany 11 l z h Q)))))))) l z h) : T G d bc bs mX13_readMany 0 l z h Q := by
  refine R_aload_n dX13_readMany_0 rfl (fun l z h k => ?_) k
  refine R_iconst dX13_readMany_1 (by decide) (fun l z h k => ?_) k
  refine R_aload_n dX13_readMany_2 rfl (fun l z h k => ?_) k
  refine R_getf (ci := 11) (f := 15) (C := RX13) (N := 49) (Tt := TX13) dX13_readMany_3 rfl i_X13 (by decide) w_1482 (fun l z h k => ?_) k
  refine R_iconst dX13_readMany_6 (by decide) (fun l z h k => ?_) k
  refine R_iaload dX13_readMany_7 (fun l z h k => ?_) k
  exact R_cv2 (M := mX13_readMany) (pc := 8) (bc := bc) (bs := bs) (cb := 0) (cs := 0) (M' := mX13_isOne) dX13_readMany_8 rfl (by decide) w_1727 w_144 w_1724 w_1726 w_62 (by decide +kernel) (fun _ _ _ k => k) k
theorem bX13_readMany_11 {G : Gt} {d bc bs : Nat} {Q : QT} {l : Ls} {z : List Value} {h : Hp} (k : (tIf (fun x => x = 0) (fun l z h => T G d bc bs mX13_readMany 14 l z h Q) (fun l z h => T G d bc bs mX13_readMany 16 l z h Q)) l z h) : T G d bc bs mX13_readMany 11 l z h Q := by
  exact R_if_ne dX13_readMany_11 (by decide) (fun _ _ _ k => k) (fun _ _ _ k => k) k
theorem bX13_readMany_14 {G : Gt} {d bc bs : Nat} {Q : QT} {l : Ls} {z : List Value} {h : Hp} (k : (tPush (.int 0) (tRetZ Q)) l z h) : T G d bc bs mX13_readMany 14 l z h Q := by
  refine R_iconst dX13_readMany_14 (by decide) (fun l z h k => ?_) k
  exact R_zret dX13_readMany_15 rfl k
theorem bX13_readMany_16 {G : Gt} {d bc bs : Nat} {Q : QT} {l : Ls} {z : List Value} {h : Hp} (k : (tIld 2 (tAld 0 (tGetf 11 13 (tB (fun x y => x + y) (tIst 4 (tAld 1 (tIld 4 (tXald 1 (tIf (fun x => x = 0) (fun l z h => T G d bc bs mX13_readMany 37 l z h Q) (fun l z h => T G d bc bs mX13_readMany 31 l z h Q)))))))))) l z h) : T G d bc bs mX13_readMany 16 l z h Q := by
  refine R_iload_n dX13_readMany_16 rfl (fun l z h k => ?_) k
  refine R_aload_n dX13_readMany_17 rfl (fun l z h k => ?_) k
  refine R_getf (ci := 11) (f := 13) (C := RX13) (N := 49) (Tt := TX13) dX13_readMany_18 rfl i_X13 (by decide) w_1480 (fun l z h k => ?_) k
  refine R_iadd dX13_readMany_21 (fun l z h k => ?_) k
  refine R_istore dX13_readMany_22 (by decide) (fun l z h k => ?_) k
  refine R_aload_n dX13_readMany_24 rfl (fun l z h k => ?_) k
  refine R_iload dX13_readMany_25 (fun l z h k => ?_) k
  refine R_zaload dX13_readMany_27 (fun l z h k => ?_) k
  exact R_if_eq dX13_readMany_28 (by decide) (fun _ _ _ k => k) (fun _ _ _ k => k) k
theorem bX13_readMany_31 {G : Gt} {d bc bs : Nat} {Q : QT} {l : Ls} {z : List Value} {h : Hp} (k : (tAld 0 (tPush (.int 3) (tCV1 G d 0 0 11 mX13_bad (fun l z h => T G d bc bs mX13_readMany 36 l z h Q)))) l z h) : T G d bc bs mX13_readMany 31 l z h Q := by
  refine R_aload_n dX13_readMany_31 rfl (fun l z h k => ?_) k
  refine R_iconst dX13_readMany_32 (by decide) (fun l z h k => ?_) k
  exact R_cv1 (M := mX13_readMany) (pc := 33) (bc := bc) (bs := bs) (cb := 0) (cs := 0) (M' := mX13_bad) dX13_readMany_33 rfl (by decide) w_1685 w_144 w_1682 w_1684 w_53 (by decide +kernel) (fun _ _ _ k => k) k
theorem bX13_readMany_36 {G : Gt} {d bc bs : Nat} {Q : QT} {l : Ls} {z : List Value} {h : Hp} (k : (tRetZ Q) l z h) : T G d bc bs mX13_readMany 36 l z h Q := by
  exact R_zret dX13_readMany_36 rfl k
theorem bX13_readMany_37 {G : Gt} {d bc bs : Nat} {Q : QT} {l : Ls} {z : List Value} {h : Hp} (k : (tAld 1 (tIld 4 (tPush (.int 1) (tZast (tAld 0 (tCV0 G d 0 0 11 mX13_go (fun l z h => T G d bc bs mX13_readMany 46 l z h Q))))))) l z h) : T G d bc bs mX13_readMany 37 l z h Q := by
  refine R_aload_n dX13_readMany_37 rfl (fun l z h k => ?_) k
  refine R_iload dX13_readMany_38 (fun l z h k => ?_) k
  refine R_iconst dX13_readMany_40 (by decide) (fun l z h k => ?_) k
  refine R_zastore dX13_readMany_41 (fun l z h k => ?_) k
  refine R_aload_n dX13_readMany_42 rfl (fun l z h k => ?_) k
  exact R_cv0 (M := mX13_readMany) (pc := 43) (bc := bc) (bs := bs) (cb := 0) (cs := 0) (M' := mX13_go) dX13_readMany_43 rfl (by decide) w_1647 w_144 w_1644 w_1646 w_47 (by decide +kernel) (fun _ _ _ k => k) k
theorem bX13_readMany_46 {G : Gt} {d bc bs : Nat} {Q : QT} {l : Ls} {z : List Value} {h : Hp} (k : (tAld 0 (tIld 3 (tIld 4 (tB (fun x y => x + y) (tAld 0 (tPush (.int 1) (tPush (.int 12) (tCV2 G d 0 0 11 mX13_readNumber (fun l z h => T G d bc bs mX13_readMany 58 l z h Q))))))))) l z h) : T G d bc bs mX13_readMany 46 l z h Q := by
  refine R_aload_n dX13_readMany_46 rfl (fun l z h k => ?_) k
  refine R_iload_n dX13_readMany_47 rfl (fun l z h k => ?_) k
  refine R_iload dX13_readMany_48 (fun l z h k => ?_) k
  refine R_iadd dX13_readMany_50 (fun l z h k => ?_) k
  refine R_aload_n dX13_readMany_51 rfl (fun l z h k => ?_) k
  refine R_iconst dX13_readMany_52 (by decide) (fun l z h k => ?_) k
  refine R_bipush dX13_readMany_53 (by decide) (fun l z h k => ?_) k
  exact R_cv2 (M := mX13_readMany) (pc := 55) (bc := bc) (bs := bs) (cb := 0) (cs := 0) (M' := mX13_readNumber) dX13_readMany_55 rfl (by decide) w_1708 w_144 w_1705 w_1707 w_58 (by decide +kernel) (fun _ _ _ k => k) k
theorem bX13_readMany_58 {G : Gt} {d bc bs : Nat} {Q : QT} {l : Ls} {z : List Value} {h : Hp} (k : (tCV2 G d 0 0 11 mX13_put (fun l z h => T G d bc bs mX13_readMany 61 l z h Q)) l z h) : T G d bc bs mX13_readMany 58 l z h Q := by
  exact R_cv2 (M := mX13_readMany) (pc := 58) (bc := bc) (bs := bs) (cb := 0) (cs := 0) (M' := mX13_put) dX13_readMany_58 rfl (by decide) w_1704 w_144 w_1701 w_1703 w_57 (by decide +kernel) (fun _ _ _ k => k) k
theorem bX13_readMany_61 {G : Gt} {d bc bs : Nat} {Q : QT} {l : Ls} {z : List Value} {h : Hp} (k : (tRetZ Q) l z h) : T G d bc bs mX13_readMany 61 l z h Q := by
  exact R_zret dX13_readMany_61 rfl k
theorem dX13_readHas_0 : decode cX13_readHas 0 = .ok (.aload_n 0, 1) := by decide +kernel
theorem dX13_readHas_1 : decode cX13_readHas 1 = .ok (.invokevirtual 159, 3) := by decide +kernel
theorem dX13_readHas_4 : decode cX13_readHas 4 = .ok (.aload_n 0, 1) := by decide +kernel
theorem dX13_readHas_5 : decode cX13_readHas 5 = .ok (.bipush 6, 2) := by decide +kernel
theorem dX13_readHas_7 : decode cX13_readHas 7 = .ok (.aload_n 0, 1) := by decide +kernel
theorem dX13_readHas_8 : decode cX13_readHas 8 = .ok (.getfield 16, 3) := by decide +kernel
theorem dX13_readHas_11 : decode cX13_readHas 11 = .ok (.iconst 1, 1) := by decide +kernel
theorem dX13_readHas_12 : decode cX13_readHas 12 = .ok (.iaload, 1) := by decide +kernel
theorem dX13_readHas_13 : decode cX13_readHas 13 = .ok (.invokevirtual 200, 3) := by decide +kernel
theorem dX13_readHas_16 : decode cX13_readHas 16 = .ok (.ifCond .ne 5, 3) := by decide +kernel
theorem dX13_readHas_19 : decode cX13_readHas 19 = .ok (.iconst 0, 1) := by decide +kernel
theorem dX13_readHas_20 : decode cX13_readHas 20 = .ok (.ireturn, 1) := by decide +kernel
theorem dX13_readHas_21 : decode cX13_readHas 21 = .ok (.bipush 6, 2) := by decide +kernel
theorem dX13_readHas_23 : decode cX13_readHas 23 = .ok (.aload_n 0, 1) := by decide +kernel
theorem dX13_readHas_24 : decode cX13_readHas 24 = .ok (.getfield 156, 3) := by decide +kernel
theorem dX13_readHas_27 : decode cX13_readHas 27 = .ok (.imul, 1) := by decide +kernel
theorem dX13_readHas_28 : decode cX13_readHas 28 = .ok (.istore_n 1, 1) := by decide +kernel
theorem dX13_readHas_29 : decode cX13_readHas 29 = .ok (.aload_n 0, 1) := by decide +kernel
theorem dX13_readHas_30 : decode cX13_readHas 30 = .ok (.invokevirtual 159, 3) := by decide +kernel
theorem dX13_readHas_33 : decode cX13_readHas 33 = .ok (.aload_n 0, 1) := by decide +kernel
theorem dX13_readHas_34 : decode cX13_readHas 34 = .ok (.aload_n 0, 1) := by decide +kernel
theorem dX13_readHas_35 : decode cX13_readHas 35 = .ok (.getfield 48, 3) := by decide +kernel
theorem dX13_readHas_38 : decode cX13_readHas 38 = .ok (.iload_n 1, 1) := by decide +kernel
theorem dX13_readHas_39 : decode cX13_readHas 39 = .ok (.bipush 30, 2) := by decide +kernel
theorem dX13_readHas_41 : decode cX13_readHas 41 = .ok (.invokevirtual 203, 3) := by decide +kernel
theorem dX13_readHas_44 : decode cX13_readHas 44 = .ok (.ireturn, 1) := by decide +kernel
theorem bX13_readHas_0 {G : Gt} {d bc bs : Nat} {Q : QT} {l : Ls} {z : List Value} {h : Hp} (k : (tAld 0 (tCV0 G d 0 0 11 mX13_go (fun l z h => T G d bc bs mX13_readHas 4 l z h Q))) l z h) : T G d bc bs mX13_readHas 0 l z h Q := by
  refine R_aload_n dX13_readHas_0 rfl (fun l z h k => ?_) k
  exact R_cv0 (M := mX13_readHas) (pc := 1) (bc := bc) (bs := bs) (cb := 0) (cs := 0) (M' := mX13_go) dX13_readHas_1 rfl (by decide) w_1647 w_144 w_1644 w_1646 w_47 (by decide +kernel) (fun _ _ _ k => k) k
theorem bX13_readHas_4 {G : Gt} {d bc bs : Nat} {Q : QT} {l : Ls} {z : List Value} {h : Hp} (k : (tAld 0 (tPush (.int 6) (tAld 0 (tGetf 11 15 (tPush (.int 1) (tXald 0 (tCV2 G d 0 0 11 mX13_isOne (fun l z h => T G d bc bs mX13_readHas 16 l z h Q)))))))) l z h) : T G d bc bs mX13_readHas 4 l z h Q := by
  refine R_aload_n dX13_readHas_4 rfl (fun l z h k => ?_) k
  refine R_bipush dX13_readHas_5 (by decide) (fun l z h k => ?_) k
  refine R_aload_n dX13_readHas_7 rfl (fun l z h k => ?_) k
  refine R_getf (ci := 11) (f := 15) (C := RX13) (N := 49) (Tt := TX13) dX13_readHas_8 rfl i_X13 (by decide) w_1482 (fun l z h k => ?_) k
  refine R_iconst dX13_readHas_11 (by decide) (fun l z h k => ?_) k
  refine R_iaload dX13_readHas_12 (fun l z h k => ?_) k
  exact R_cv2 (M := mX13_readHas) (pc := 13) (bc := bc) (bs := bs) (cb := 0) (cs := 0) (M' := mX13_isOne) dX13_readHas_13 rfl (by decide) w_1727 w_144 w_1724 w_1726 w_62 (by decide +kernel) (fun _ _ _ k => k) k
theorem bX13_readHas_16 {G : Gt} {d bc bs : Nat} {Q : QT} {l : Ls} {z : List Value} {h : Hp} (k : (tIf (fun x => x = 0) (fun l z h => T G d bc bs mX13_readHas 19 l z h Q) (fun l z h => T G d bc bs mX13_readHas 21 l z h Q)) l z h) : T G d bc bs mX13_readHas 16 l z h Q := by
  exact R_if_ne dX13_readHas_16 (by decide) (fun _ _ _ k => k) (fun _ _ _ k => k) k
theorem bX13_readHas_19 {G : Gt} {d bc bs : Nat} {Q : QT} {l : Ls} {z : List Value} {h : Hp} (k : (tPush (.int 0) (tRetZ Q)) l z h) : T G d bc bs mX13_readHas 19 l z h Q := by
  refine R_iconst dX13_readHas_19 (by decide) (fun l z h k => ?_) k
  exact R_zret dX13_readHas_20 rfl k
theorem bX13_readHas_21 {G : Gt} {d bc bs : Nat} {Q : QT} {l : Ls} {z : List Value} {h : Hp} (k : (tPush (.int 6) (tAld 0 (tGetf 11 13 (tB (fun x y => x * y) (tIst 1 (tAld 0 (tCV0 G d 0 0 11 mX13_go (fun l z h => T G d bc bs mX13_readHas 33 l z h Q)))))))) l z h) : T G d bc bs mX13_readHas 21 l z h Q := by
  refine R_bipush dX13_readHas_21 (by decide) (fun l z h k => ?_) k
  refine R_aload_n dX13_readHas_23 rfl (fun l z h k => ?_) k
  refine R_getf (ci := 11) (f := 13) (C := RX13) (N := 49) (Tt := TX13) dX13_readHas_24 rfl i_X13 (by decide) w_1480 (fun l z h k => ?_) k
  refine R_imul dX13_readHas_27 (fun l z h k => ?_) k
  refine R_istore_n dX13_readHas_28 rfl (by decide) (fun l z h k => ?_) k
  refine R_aload_n dX13_readHas_29 rfl (fun l z h k => ?_) k
  exact R_cv0 (M := mX13_readHas) (pc := 30) (bc := bc) (bs := bs) (cb := 0) (cs := 0) (M' := mX13_go) dX13_readHas_30 rfl (by decide) w_1647 w_144 w_1644 w_1646 w_47 (by decide +kernel) (fun _ _ _ k => k) k
theorem bX13_readHas_33 {G : Gt} {d bc bs : Nat} {Q : QT} {l : Ls} {z : List Value} {h : Hp} (k : (tAld 0 (tAld 0 (tGetf 11 25 (tIld 1 (tPush (.int 30) (tCV3 G d 0 0 11 mX13_readMany (fun l z h => T G d bc bs mX13_readHas 44 l z h Q))))))) l z h) : T G d bc bs mX13_readHas 33 l z h Q := by
  refine R_aload_n dX13_readHas_33 rfl (fun l z h k => ?_) k
  refine R_aload_n dX13_readHas_34 rfl (fun l z h k => ?_) k
  refine R_getf (ci := 11) (f := 25) (C := RX13) (N := 49) (Tt := TX13) dX13_readHas_35 rfl i_X13 (by decide) w_1492 (fun l z h k => ?_) k
  refine R_iload_n dX13_readHas_38 rfl (fun l z h k => ?_) k
  refine R_bipush dX13_readHas_39 (by decide) (fun l z h k => ?_) k
  exact R_cv3 (M := mX13_readHas) (pc := 41) (bc := bc) (bs := bs) (cb := 0) (cs := 0) (M' := mX13_readMany) dX13_readHas_41 rfl (by decide) w_1731 w_144 w_1728 w_1730 w_63 (by decide +kernel) (fun _ _ _ k => k) k
theorem bX13_readHas_44 {G : Gt} {d bc bs : Nat} {Q : QT} {l : Ls} {z : List Value} {h : Hp} (k : (tRetZ Q) l z h) : T G d bc bs mX13_readHas 44 l z h Q := by
  exact R_zret dX13_readHas_44 rfl k
theorem dX13_readAsks_0 : decode cX13_readAsks 0 = .ok (.aload_n 0, 1) := by decide +kernel
theorem dX13_readAsks_1 : decode cX13_readAsks 1 = .ok (.invokevirtual 159, 3) := by decide +kernel
theorem dX13_readAsks_4 : decode cX13_readAsks 4 = .ok (.aload_n 0, 1) := by decide +kernel
theorem dX13_readAsks_5 : decode cX13_readAsks 5 = .ok (.invokevirtual 187, 3) := by decide +kernel
theorem dX13_readAsks_8 : decode cX13_readAsks 8 = .ok (.ifCond .eq 27, 3) := by decide +kernel
theorem dX13_readAsks_11 : decode cX13_readAsks 11 = .ok (.aload_n 0, 1) := by decide +kernel
theorem dX13_readAsks_12 : decode cX13_readAsks 12 = .ok (.aload_n 0, 1) := by decide +kernel
theorem dX13_readAsks_13 : decode cX13_readAsks 13 = .ok (.getfield 45, 3) := by decide +kernel
theorem dX13_readAsks_16 : decode cX13_readAsks 16 = .ok (.bipush 6, 2) := by decide +kernel
theorem dX13_readAsks_18 : decode cX13_readAsks 18 = .ok (.aload_n 0, 1) := by decide +kernel
theorem dX13_readAsks_19 : decode cX13_readAsks 19 = .ok (.getfield 156, 3) := by decide +kernel
theorem dX13_readAsks_22 : decode cX13_readAsks 22 = .ok (.imul, 1) := by decide +kernel
theorem dX13_readAsks_23 : decode cX13_readAsks 23 = .ok (.bipush 78, 2) := by decide +kernel
theorem dX13_readAsks_25 : decode cX13_readAsks 25 = .ok (.invokevirtual 203, 3) := by decide +kernel
theorem dX13_readAsks_28 : decode cX13_readAsks 28 = .ok (.ifCond .eq 7, 3) := by decide +kernel
theorem dX13_readAsks_31 : decode cX13_readAsks 31 = .ok (.iconst 1, 1) := by decide +kernel
theorem dX13_readAsks_32 : decode cX13_readAsks 32 = .ok (.goto 4, 3) := by decide +kernel
theorem dX13_readAsks_35 : decode cX13_readAsks 35 = .ok (.iconst 0, 1) := by decide +kernel
theorem dX13_readAsks_36 : decode cX13_readAsks 36 = .ok (.ireturn, 1) := by decide +kernel
theorem bX13_readAsks_0 {G : Gt} {d bc bs : Nat} {Q : QT} {l : Ls} {z : List Value} {h : Hp} (k : (tAld 0 (tCV0 G d 0 0 11 mX13_go (fun l z h => T G d bc bs mX13_readAsks 4 l z h Q))) l z h) : T G d bc bs mX13_readAsks 0 l z h Q := by
  refine R_aload_n dX13_readAsks_0 rfl (fun l z h k => ?_) k
  exact R_cv0 (M := mX13_readAsks) (pc := 1) (bc := bc) (bs := bs) (cb := 0) (cs := 0) (M' := mX13_go) dX13_readAsks_1 rfl (by decide) w_1647 w_144 w_1644 w_1646 w_47 (by decide +kernel) (fun _ _ _ k => k) k
theorem bX13_readAsks_4 {G : Gt} {d bc bs : Nat} {Q : QT} {l : Ls} {z : List Value} {h : Hp} (k : (tAld 0 (tCV0 G d 0 0 11 mX13_readSide (fun l z h => T G d bc bs mX13_readAsks 8 l z h Q))) l z h) : T G d bc bs mX13_readAsks 4 l z h Q := by
  refine R_aload_n dX13_readAsks_4 rfl (fun l z h k => ?_) k
  exact R_cv0 (M := mX13_readAsks) (pc := 5) (bc := bc) (bs := bs) (cb := 0) (cs := 0) (M' := mX13_readSide) dX13_readAsks_5 rfl (by decide) w_1700 w_144 w_1697 w_1699 w_56 (by decide +kernel) (fun _ _ _ k => k) k
theorem bX13_readAsks_8 {G : Gt} {d bc bs : Nat} {Q : QT} {l : Ls} {z : List Value} {h : Hp} (k : (tIf (fun x => x = 0) (fun l z h => T G d bc bs mX13_readAsks 35 l z h Q) (fun l z h => T G d bc bs mX13_readAsks 11 l z h Q)) l z h) : T G d bc bs mX13_readAsks 8 l z h Q := by
  exact R_if_eq dX13_readAsks_8 (by decide) (fun _ _ _ k => k) (fun _ _ _ k => k) k
theorem bX13_readAsks_11 {G : Gt} {d bc bs : Nat} {Q : QT} {l : Ls} {z : List Value} {h : Hp} (k : (tAld 0 (tAld 0 (tGetf 11 24 (tPush (.int 6) (tAld 0 (tGetf 11 13 (tB (fun x y => x * y) (tPush (.int 78) (tCV3 G d 0 0 11 mX13_readMany (fun l z h => T G d bc bs mX13_readAsks 28 l z h Q)))))))))) l z h) : T G d bc bs mX13_readAsks 11 l z h Q := by
  refine R_aload_n dX13_readAsks_11 rfl (fun l z h k => ?_) k
  refine R_aload_n dX13_readAsks_12 rfl (fun l z h k => ?_) k
  refine R_getf (ci := 11) (f := 24) (C := RX13) (N := 49) (Tt := TX13) dX13_readAsks_13 rfl i_X13 (by decide) w_1491 (fun l z h k => ?_) k
  refine R_bipush dX13_readAsks_16 (by decide) (fun l z h k => ?_) k
  refine R_aload_n dX13_readAsks_18 rfl (fun l z h k => ?_) k
  refine R_getf (ci := 11) (f := 13) (C := RX13) (N := 49) (Tt := TX13) dX13_readAsks_19 rfl i_X13 (by decide) w_1480 (fun l z h k => ?_) k
  refine R_imul dX13_readAsks_22 (fun l z h k => ?_) k
  refine R_bipush dX13_readAsks_23 (by decide) (fun l z h k => ?_) k
  exact R_cv3 (M := mX13_readAsks) (pc := 25) (bc := bc) (bs := bs) (cb := 0) (cs := 0) (M' := mX13_readMany) dX13_readAsks_25 rfl (by decide) w_1731 w_144 w_1728 w_1730 w_63 (by decide +kernel) (fun _ _ _ k => k) k
theorem bX13_readAsks_28 {G : Gt} {d bc bs : Nat} {Q : QT} {l : Ls} {z : List Value} {h : Hp} (k : (tIf (fun x => x = 0) (fun l z h => T G d bc bs mX13_readAsks 35 l z h Q) (fun l z h => T G d bc bs mX13_readAsks 31 l z h Q)) l z h) : T G d bc bs mX13_readAsks 28 l z h Q := by
  exact R_if_eq dX13_readAsks_28 (by decide) (fun _ _ _ k => k) (fun _ _ _ k => k) k
theorem bX13_readAsks_31 {G : Gt} {d bc bs : Nat} {Q : QT} {l : Ls} {z : List Value} {h : Hp} (k : (tPush (.int 1) ((fun l z h => T G d bc bs mX13_readAsks 36 l z h Q))) l z h) : T G d bc bs mX13_readAsks 31 l z h Q := by
  refine R_iconst dX13_readAsks_31 (by decide) (fun l z h k => ?_) k
  exact R_goto dX13_readAsks_32 (by decide) (fun _ _ _ k => k) k
theorem bX13_readAsks_35 {G : Gt} {d bc bs : Nat} {Q : QT} {l : Ls} {z : List Value} {h : Hp} (k : (tPush (.int 0) ((fun l z h => T G d bc bs mX13_readAsks 36 l z h Q))) l z h) : T G d bc bs mX13_readAsks 35 l z h Q := by
  refine R_iconst dX13_readAsks_35 (by decide) (fun l z h k => ?_) k
  exact k
theorem bX13_readAsks_36 {G : Gt} {d bc bs : Nat} {Q : QT} {l : Ls} {z : List Value} {h : Hp} (k : (tRetZ Q) l z h) : T G d bc bs mX13_readAsks 36 l z h Q := by
  exact R_zret dX13_readAsks_36 rfl k
theorem dX13_isAlone_0 : decode cX13_isAlone 0 = .ok (.aload_n 0, 1) := by decide +kernel
theorem dX13_isAlone_1 : decode cX13_isAlone 1 = .ok (.bipush 6, 2) := by decide +kernel
theorem dX13_isAlone_3 : decode cX13_isAlone 3 = .ok (.aload_n 0, 1) := by decide +kernel
theorem dX13_isAlone_4 : decode cX13_isAlone 4 = .ok (.getfield 16, 3) := by decide +kernel
theorem dX13_isAlone_7 : decode cX13_isAlone 7 = .ok (.iconst 1, 1) := by decide +kernel
theorem dX13_isAlone_8 : decode cX13_isAlone 8 = .ok (.iaload, 1) := by decide +kernel
theorem dX13_isAlone_9 : decode cX13_isAlone 9 = .ok (.invokevirtual 200, 3) := by decide +kernel
theorem dX13_isAlone_12 : decode cX13_isAlone 12 = .ok (.ifCond .ne 5, 3) := by decide +kernel
theorem dX13_isAlone_15 : decode cX13_isAlone 15 = .ok (.iconst 0, 1) := by decide +kernel
theorem dX13_isAlone_16 : decode cX13_isAlone 16 = .ok (.ireturn, 1) := by decide +kernel
theorem dX13_isAlone_17 : decode cX13_isAlone 17 = .ok (.aload_n 0, 1) := by decide +kernel
theorem dX13_isAlone_18 : decode cX13_isAlone 18 = .ok (.getfield 16, 3) := by decide +kernel
theorem dX13_isAlone_21 : decode cX13_isAlone 21 = .ok (.bipush 90, 2) := by decide +kernel
theorem dX13_isAlone_23 : decode cX13_isAlone 23 = .ok (.aload_n 0, 1) := by decide +kernel
theorem dX13_isAlone_24 : decode cX13_isAlone 24 = .ok (.getfield 156, 3) := by decide +kernel
theorem dX13_isAlone_27 : decode cX13_isAlone 27 = .ok (.iadd, 1) := by decide +kernel
theorem dX13_isAlone_28 : decode cX13_isAlone 28 = .ok (.iaload, 1) := by decide +kernel
theorem dX13_isAlone_29 : decode cX13_isAlone 29 = .ok (.iconst (-1), 1) := by decide +kernel
theorem dX13_isAlone_30 : decode cX13_isAlone 30 = .ok (.if_icmp .eq 11, 3) := by decide +kernel
theorem dX13_isAlone_33 : decode cX13_isAlone 33 = .ok (.aload_n 0, 1) := by decide +kernel
theorem dX13_isAlone_34 : decode cX13_isAlone 34 = .ok (.iconst 3, 1) := by decide +kernel
theorem dX13_isAlone_35 : decode cX13_isAlone 35 = .ok (.invokevirtual 149, 3) := by decide +kernel
theorem dX13_isAlone_38 : decode cX13_isAlone 38 = .ok (.ifCond .eq 7, 3) := by decide +kernel
theorem dX13_isAlone_41 : decode cX13_isAlone 41 = .ok (.iconst 1, 1) := by decide +kernel
theorem dX13_isAlone_42 : decode cX13_isAlone 42 = .ok (.goto 4, 3) := by decide +kernel
theorem dX13_isAlone_45 : decode cX13_isAlone 45 = .ok (.iconst 0, 1) := by decide +kernel
theorem dX13_isAlone_46 : decode cX13_isAlone 46 = .ok (.ireturn, 1) := by decide +kernel
theorem bX13_isAlone_0 {G : Gt} {d bc bs : Nat} {Q : QT} {l : Ls} {z : List Value} {h : Hp} (k : (tAld 0 (tPush (.int 6) (tAld 0 (tGetf 11 15 (tPush (.int 1) (tXald 0 (tCV2 G d 0 0 11 mX13_isOne (fun l z h => T G d bc bs mX13_isAlone 12 l z h Q)))))))) l z h) : T G d bc bs mX13_isAlone 0 l z h Q := by
  refine R_aload_n dX13_isAlone_0 rfl (fun l z h k => ?_) k
  refine R_bipush dX13_isAlone_1 (by decide) (fun l z h k => ?_) k
  refine R_aload_n dX13_isAlone_3 rfl (fun l z h k => ?_) k
  refine R_getf (ci := 11) (f := 15) (C := RX13) (N := 49) (Tt := TX13) dX13_isAlone_4 rfl i_X13 (by decide) w_1482 (fun l z h k => ?_) k
  refine R_iconst dX13_isAlone_7 (by decide) (fun l z h k => ?_) k
  refine R_iaload dX13_isAlone_8 (fun l z h k => ?_) k
  exact R_cv2 (M := mX13_isAlone) (pc := 9) (bc := bc) (bs := bs) (cb := 0) (cs := 0) (M' := mX13_isOne) dX13_isAlone_9 rfl (by decide) w_1727 w_144 w_1724 w_1726 w_62 (by decide +kernel) (fun _ _ _ k => k) k
theorem bX13_isAlone_12 {G : Gt} {d bc bs : Nat} {Q : QT} {l : Ls} {z : List Value} {h : Hp} (k : (tIf (fun x => x = 0) (fun l z h => T G d bc bs mX13_isAlone 15 l z h Q) (fun l z h => T G d bc bs mX13_isAlone 17 l z h Q)) l z h) : T G d bc bs mX13_isAlone 12 l z h Q := by
  exact R_if_ne dX13_isAlone_12 (by decide) (fun _ _ _ k => k) (fun _ _ _ k => k) k
theorem bX13_isAlone_15 {G : Gt} {d bc bs : Nat} {Q : QT} {l : Ls} {z : List Value} {h : Hp} (k : (tPush (.int 0) (tRetZ Q)) l z h) : T G d bc bs mX13_isAlone 15 l z h Q := by
  refine R_iconst dX13_isAlone_15 (by decide) (fun l z h k => ?_) k
  exact R_zret dX13_isAlone_16 rfl k
theorem bX13_isAlone_17 {G : Gt} {d bc bs : Nat} {Q : QT} {l : Ls} {z : List Value} {h : Hp} (k : (tAld 0 (tGetf 11 15 (tPush (.int 90) (tAld 0 (tGetf 11 13 (tB (fun x y => x + y) (tXald 0 (tPush (.int (-1)) (tIf2 (fun x y => x = y) (fun l z h => T G d bc bs mX13_isAlone 41 l z h Q) (fun l z h => T G d bc bs mX13_isAlone 33 l z h Q)))))))))) l z h) : T G d bc bs mX13_isAlone 17 l z h Q := by
  refine R_aload_n dX13_isAlone_17 rfl (fun l z h k => ?_) k
  refine R_getf (ci := 11) (f := 15) (C := RX13) (N := 49) (Tt := TX13) dX13_isAlone_18 rfl i_X13 (by decide) w_1482 (fun l z h k => ?_) k
  refine R_bipush dX13_isAlone_21 (by decide) (fun l z h k => ?_) k
  refine R_aload_n dX13_isAlone_23 rfl (fun l z h k => ?_) k
  refine R_getf (ci := 11) (f := 13) (C := RX13) (N := 49) (Tt := TX13) dX13_isAlone_24 rfl i_X13 (by decide) w_1480 (fun l z h k => ?_) k
  refine R_iadd dX13_isAlone_27 (fun l z h k => ?_) k
  refine R_iaload dX13_isAlone_28 (fun l z h k => ?_) k
  refine R_iconst dX13_isAlone_29 (by decide) (fun l z h k => ?_) k
  exact R_icmp_eq dX13_isAlone_30 (by decide) (fun _ _ _ k => k) (fun _ _ _ k => k) k
theorem bX13_isAlone_33 {G : Gt} {d bc bs : Nat} {Q : QT} {l : Ls} {z : List Value} {h : Hp} (k : (tAld 0 (tPush (.int 3) (tCV1 G d 0 0 11 mX13_bad (fun l z h => T G d bc bs mX13_isAlone 38 l z h Q)))) l z h) : T G d bc bs mX13_isAlone 33 l z h Q := by
  refine R_aload_n dX13_isAlone_33 rfl (fun l z h k => ?_) k
  refine R_iconst dX13_isAlone_34 (by decide) (fun l z h k => ?_) k
  exact R_cv1 (M := mX13_isAlone) (pc := 35) (bc := bc) (bs := bs) (cb := 0) (cs := 0) (M' := mX13_bad) dX13_isAlone_35 rfl (by decide) w_1685 w_144 w_1682 w_1684 w_53 (by decide +kernel) (fun _ _ _ k => k) k
theorem bX13_isAlone_38 {G : Gt} {d bc bs : Nat} {Q : QT} {l : Ls} {z : List Value} {h : Hp} (k : (tIf (fun x => x = 0) (fun l z h => T G d bc bs mX13_isAlone 45 l z h Q) (fun l z h => T G d bc bs mX13_isAlone 41 l z h Q)) l z h) : T G d bc bs mX13_isAlone 38 l z h Q := by
  exact R_if_eq dX13_isAlone_38 (by decide) (fun _ _ _ k => k) (fun _ _ _ k => k) k
theorem bX13_isAlone_41 {G : Gt} {d bc bs : Nat} {Q : QT} {l : Ls} {z : List Value} {h : Hp} (k : (tPush (.int 1) ((fun l z h => T G d bc bs mX13_isAlone 46 l z h Q))) l z h) : T G d bc bs mX13_isAlone 41 l z h Q := by
  refine R_iconst dX13_isAlone_41 (by decide) (fun l z h k => ?_) k
  exact R_goto dX13_isAlone_42 (by decide) (fun _ _ _ k => k) k
theorem bX13_isAlone_45 {G : Gt} {d bc bs : Nat} {Q : QT} {l : Ls} {z : List Value} {h : Hp} (k : (tPush (.int 0) ((fun l z h => T G d bc bs mX13_isAlone 46 l z h Q))) l z h) : T G d bc bs mX13_isAlone 45 l z h Q := by
  refine R_iconst dX13_isAlone_45 (by decide) (fun l z h k => ?_) k
  exact k
theorem bX13_isAlone_46 {G : Gt} {d bc bs : Nat} {Q : QT} {l : Ls} {z : List Value} {h : Hp} (k : (tRetZ Q) l z h) : T G d bc bs mX13_isAlone 46 l z h Q := by
  exact R_zret dX13_isAlone_46 rfl k
theorem dX13_readMeets_0 : decode cX13_readMeets 0 = .ok (.aload_n 0, 1) := by decide +kernel
theorem dX13_readMeets_1 : decode cX13_readMeets 1 = .ok (.invokevirtual 159, 3) := by decide +kernel
theorem dX13_readMeets_4 : decode cX13_readMeets 4 = .ok (.aload_n 0, 1) := by decide +kernel
theorem dX13_readMeets_5 : decode cX13_readMeets 5 = .ok (.invokevirtual 207, 3) := by decide +kernel
theorem dX13_readMeets_8 : decode cX13_readMeets 8 = .ok (.ifCond .ne 5, 3) := by decide +kernel
theorem dX13_readMeets_11 : decode cX13_readMeets 11 = .ok (.iconst 0, 1) := by decide +kernel
theorem dX13_readMeets_12 : decode cX13_readMeets 12 = .ok (.ireturn, 1) := by decide +kernel
theorem dX13_readMeets_13 : decode cX13_readMeets 13 = .ok (.aload_n 0, 1) := by decide +kernel
theorem dX13_readMeets_14 : decode cX13_readMeets 14 = .ok (.getfield 156, 3) := by decide +kernel
theorem dX13_readMeets_17 : decode cX13_readMeets 17 = .ok (.istore_n 1, 1) := by decide +kernel
theorem dX13_readMeets_18 : decode cX13_readMeets 18 = .ok (.aload_n 0, 1) := by decide +kernel
theorem dX13_readMeets_19 : decode cX13_readMeets 19 = .ok (.invokevirtual 159, 3) := by decide +kernel
theorem dX13_readMeets_22 : decode cX13_readMeets 22 = .ok (.aload_n 0, 1) := by decide +kernel
theorem dX13_readMeets_23 : decode cX13_readMeets 23 = .ok (.invokevirtual 207, 3) := by decide +kernel
theorem dX13_readMeets_26 : decode cX13_readMeets 26 = .ok (.ifCond .ne 5, 3) := by decide +kernel
theorem dX13_readMeets_29 : decode cX13_readMeets 29 = .ok (.iconst 0, 1) := by decide +kernel
theorem dX13_readMeets_30 : decode cX13_readMeets 30 = .ok (.ireturn, 1) := by decide +kernel
theorem dX13_readMeets_31 : decode cX13_readMeets 31 = .ok (.aload_n 0, 1) := by decide +kernel
theorem dX13_readMeets_32 : decode cX13_readMeets 32 = .ok (.getfield 156, 3) := by decide +kernel
theorem dX13_readMeets_35 : decode cX13_readMeets 35 = .ok (.iload_n 1, 1) := by decide +kernel
theorem dX13_readMeets_36 : decode cX13_readMeets 36 = .ok (.if_icmp .ne 9, 3) := by decide +kernel
theorem dX13_readMeets_39 : decode cX13_readMeets 39 = .ok (.aload_n 0, 1) := by decide +kernel
theorem dX13_readMeets_40 : decode cX13_readMeets 40 = .ok (.iconst 3, 1) := by decide +kernel
theorem dX13_readMeets_41 : decode cX13_readMeets 41 = .ok (.invokevirtual 149, 3) := by decide +kernel
theorem dX13_readMeets_44 : decode cX13_readMeets 44 = .ok (.ireturn, 1) := by decide +kernel
theorem dX13_readMeets_45 : decode cX13_readMeets 45 = .ok (.aload_n 0, 1) := by decide +kernel
theorem dX13_readMeets_46 : decode cX13_readMeets 46 = .ok (.getfield 16, 3) := by decide +kernel
theorem dX13_readMeets_49 : decode cX13_readMeets 49 = .ok (.bipush 90, 2) := by decide +kernel
theorem dX13_readMeets_51 : decode cX13_readMeets 51 = .ok (.iload_n 1, 1) := by decide +kernel
theorem dX13_readMeets_52 : decode cX13_readMeets 52 = .ok (.iadd, 1) := by decide +kernel
theorem dX13_readMeets_53 : decode cX13_readMeets 53 = .ok (.aload_n 0, 1) := by decide +kernel
theorem dX13_readMeets_54 : decode cX13_readMeets 54 = .ok (.getfield 156, 3) := by decide +kernel
theorem dX13_readMeets_57 : decode cX13_readMeets 57 = .ok (.iastore, 1) := by decide +kernel
theorem dX13_readMeets_58 : decode cX13_readMeets 58 = .ok (.aload_n 0, 1) := by decide +kernel
theorem dX13_readMeets_59 : decode cX13_readMeets 59 = .ok (.getfield 16, 3) := by decide +kernel
theorem dX13_readMeets_62 : decode cX13_readMeets 62 = .ok (.bipush 90, 2) := by decide +kernel
theorem dX13_readMeets_64 : decode cX13_readMeets 64 = .ok (.aload_n 0, 1) := by decide +kernel
theorem dX13_readMeets_65 : decode cX13_readMeets 65 = .ok (.getfield 156, 3) := by decide +kernel
theorem dX13_readMeets_68 : decode cX13_readMeets 68 = .ok (.iadd, 1) := by decide +kernel
theorem dX13_readMeets_69 : decode cX13_readMeets 69 = .ok (.iload_n 1, 1) := by decide +kernel
theorem dX13_readMeets_70 : decode cX13_readMeets 70 = .ok (.iastore, 1) := by decide +kernel
theorem dX13_readMeets_71 : decode cX13_readMeets 71 = .ok (.aload_n 0, 1) := by decide +kernel
theorem dX13_readMeets_72 : decode cX13_readMeets 72 = .ok (.invokevirtual 159, 3) := by decide +kernel
theorem dX13_readMeets_75 : decode cX13_readMeets 75 = .ok (.iconst 1, 1) := by decide +kernel
theorem dX13_readMeets_76 : decode cX13_readMeets 76 = .ok (.ireturn, 1) := by decide +kernel
theorem bX13_readMeets_0 {G : Gt} {d bc bs : Nat} {Q : QT} {l : Ls} {z : List Value} {h : Hp} (k : (tAld 0 (tCV0 G d 0 0 11 mX13_go (fun l z h => T G d bc bs mX13_readMeets 4 l z h Q))) l z h) : T G d bc bs mX13_readMeets 0 l z h Q := by
  refine R_aload_n dX13_readMeets_0 rfl (fun l z h k => ?_) k
  exact R_cv0 (M := mX13_readMeets) (pc := 1) (bc := bc) (bs := bs) (cb := 0) (cs := 0) (M' := mX13_go) dX13_readMeets_1 rfl (by decide) w_1647 w_144 w_1644 w_1646 w_47 (by decide +kernel) (fun _ _ _ k => k) k
theorem bX13_readMeets_4 {G : Gt} {d bc bs : Nat} {Q : QT} {l : Ls} {z : List Value} {h : Hp} (k : (tAld 0 (tCV0 G d 0 0 11 mX13_isAlone (fun l z h => T G d bc bs mX13_readMeets 8 l z h Q))) l z h) : T G d bc bs mX13_readMeets 4 l z h Q := by
  refine R_aload_n dX13_readMeets_4 rfl (fun l z h k => ?_) k
  exact R_cv0 (M := mX13_readMeets) (pc := 5) (bc := bc) (bs := bs) (cb := 0) (cs := 0) (M' := mX13_isAlone) dX13_readMeets_5 rfl (by decide) w_1743 w_144 w_1740 w_1742 w_66 (by decide +kernel) (fun _ _ _ k => k) k
theorem bX13_readMeets_8 {G : Gt} {d bc bs : Nat} {Q : QT} {l : Ls} {z : List Value} {h : Hp} (k : (tIf (fun x => x = 0) (fun l z h => T G d bc bs mX13_readMeets 11 l z h Q) (fun l z h => T G d bc bs mX13_readMeets 13 l z h Q)) l z h) : T G d bc bs mX13_readMeets 8 l z h Q := by
  exact R_if_ne dX13_readMeets_8 (by decide) (fun _ _ _ k => k) (fun _ _ _ k => k) k
theorem bX13_readMeets_11 {G : Gt} {d bc bs : Nat} {Q : QT} {l : Ls} {z : List Value} {h : Hp} (k : (tPush (.int 0) (tRetZ Q)) l z h) : T G d bc bs mX13_readMeets 11 l z h Q := by
  refine R_iconst dX13_readMeets_11 (by decide) (fun l z h k => ?_) k
  exact R_zret dX13_readMeets_12 rfl k
theorem bX13_readMeets_13 {G : Gt} {d bc bs : Nat} {Q : QT} {l : Ls} {z : List Value} {h : Hp} (k : (tAld 0 (tGetf 11 13 (tIst 1 (tAld 0 (tCV0 G d 0 0 11 mX13_go (fun l z h => T G d bc bs mX13_readMeets 22 l z h Q)))))) l z h) : T G d bc bs mX13_readMeets 13 l z h Q := by
  refine R_aload_n dX13_readMeets_13 rfl (fun l z h k => ?_) k
  refine R_getf (ci := 11) (f := 13) (C := RX13) (N := 49) (Tt := TX13) dX13_readMeets_14 rfl i_X13 (by decide) w_1480 (fun l z h k => ?_) k
  refine R_istore_n dX13_readMeets_17 rfl (by decide) (fun l z h k => ?_) k
  refine R_aload_n dX13_readMeets_18 rfl (fun l z h k => ?_) k
  exact R_cv0 (M := mX13_readMeets) (pc := 19) (bc := bc) (bs := bs) (cb := 0) (cs := 0) (M' := mX13_go) dX13_readMeets_19 rfl (by decide) w_1647 w_144 w_1644 w_1646 w_47 (by decide +kernel) (fun _ _ _ k => k) k
theorem bX13_readMeets_22 {G : Gt} {d bc bs : Nat} {Q : QT} {l : Ls} {z : List Value} {h : Hp} (k : (tAld 0 (tCV0 G d 0 0 11 mX13_isAlone (fun l z h => T G d bc bs mX13_readMeets 26 l z h Q))) l z h) : T G d bc bs mX13_readMeets 22 l z h Q := by
  refine R_aload_n dX13_readMeets_22 rfl (fun l z h k => ?_) k
  exact R_cv0 (M := mX13_readMeets) (pc := 23) (bc := bc) (bs := bs) (cb := 0) (cs := 0) (M' := mX13_isAlone) dX13_readMeets_23 rfl (by decide) w_1743 w_144 w_1740 w_1742 w_66 (by decide +kernel) (fun _ _ _ k => k) k
theorem bX13_readMeets_26 {G : Gt} {d bc bs : Nat} {Q : QT} {l : Ls} {z : List Value} {h : Hp} (k : (tIf (fun x => x = 0) (fun l z h => T G d bc bs mX13_readMeets 29 l z h Q) (fun l z h => T G d bc bs mX13_readMeets 31 l z h Q)) l z h) : T G d bc bs mX13_readMeets 26 l z h Q := by
  exact R_if_ne dX13_readMeets_26 (by decide) (fun _ _ _ k => k) (fun _ _ _ k => k) k
theorem bX13_readMeets_29 {G : Gt} {d bc bs : Nat} {Q : QT} {l : Ls} {z : List Value} {h : Hp} (k : (tPush (.int 0) (tRetZ Q)) l z h) : T G d bc bs mX13_readMeets 29 l z h Q := by
  refine R_iconst dX13_readMeets_29 (by decide) (fun l z h k => ?_) k
  exact R_zret dX13_readMeets_30 rfl k
theorem bX13_readMeets_31 {G : Gt} {d bc bs : Nat} {Q : QT} {l : Ls} {z : List Value} {h : Hp} (k : (tAld 0 (tGetf 11 13 (tIld 1 (tIf2 (fun x y => x = y) (fun l z h => T G d bc bs mX13_readMeets 39 l z h Q) (fun l z h => T G d bc bs mX13_readMeets 45 l z h Q))))) l z h) : T G d bc bs mX13_readMeets 31 l z h Q := by
  refine R_aload_n dX13_readMeets_31 rfl (fun l z h k => ?_) k
  refine R_getf (ci := 11) (f := 13) (C := RX13) (N := 49) (Tt := TX13) dX13_readMeets_32 rfl i_X13 (by decide) w_1480 (fun l z h k => ?_) k
  refine R_iload_n dX13_readMeets_35 rfl (fun l z h k => ?_) k
  exact R_icmp_ne dX13_readMeets_36 (by decide) (fun _ _ _ k => k) (fun _ _ _ k => k) k
theorem bX13_readMeets_39 {G : Gt} {d bc bs : Nat} {Q : QT} {l : Ls} {z : List Value} {h : Hp} (k : (tAld 0 (tPush (.int 3) (tCV1 G d 0 0 11 mX13_bad (fun l z h => T G d bc bs mX13_readMeets 44 l z h Q)))) l z h) : T G d bc bs mX13_readMeets 39 l z h Q := by
  refine R_aload_n dX13_readMeets_39 rfl (fun l z h k => ?_) k
  refine R_iconst dX13_readMeets_40 (by decide) (fun l z h k => ?_) k
  exact R_cv1 (M := mX13_readMeets) (pc := 41) (bc := bc) (bs := bs) (cb := 0) (cs := 0) (M' := mX13_bad) dX13_readMeets_41 rfl (by decide) w_1685 w_144 w_1682 w_1684 w_53 (by decide +kernel) (fun _ _ _ k => k) k
theorem bX13_readMeets_44 {G : Gt} {d bc bs : Nat} {Q : QT} {l : Ls} {z : List Value} {h : Hp} (k : (tRetZ Q) l z h) : T G d bc bs mX13_readMeets 44 l z h Q := by
  exact R_zret dX13_readMeets_44 rfl k
theorem bX13_readMeets_45 {G : Gt} {d bc bs : Nat} {Q : QT} {l : Ls} {z : List Value} {h : Hp} (k : (tAld 0 (tGetf 11 15 (tPush (.int 90) (tIld 1 (tB (fun x y => x + y) (tAld 0 (tGetf 11 13 (tXast 0 (tAld 0 (tGetf 11 15 (tPush (.int 90) (tAld 0 (tGetf 11 13 (tB (fun x y => x + y) (tIld 1 (tXast 0 (tAld 0 (tCV0 G d 0 0 11 mX13_go (fun l z h => T G d bc bs mX13_readMeets 75 l z h Q))))))))))))))))))) l z h) : T G d bc bs mX13_readMeets 45 l z h Q := by
  refine R_aload_n dX13_readMeets_45 rfl (fun l z h k => ?_) k
  refine R_getf (ci := 11) (f := 15) (C := RX13) (N := 49) (Tt := TX13) dX13_readMeets_46 rfl i_X13 (by decide) w_1482 (fun l z h k => ?_) k
  refine R_bipush dX13_readMeets_49 (by decide) (fun l z h k => ?_) k
  refine R_iload_n dX13_readMeets_51 rfl (fun l z h k => ?_) k
  refine R_iadd dX13_readMeets_52 (fun l z h k => ?_) k
  refine R_aload_n dX13_readMeets_53 rfl (fun l z h k => ?_) k
  refine R_getf (ci := 11) (f := 13) (C := RX13) (N := 49) (Tt := TX13) dX13_readMeets_54 rfl i_X13 (by decide) w_1480 (fun l z h k => ?_) k
  refine R_iastore dX13_readMeets_57 (fun l z h k => ?_) k
  refine R_aload_n dX13_readMeets_58 rfl (fun l z h k => ?_) k
  refine R_getf (ci := 11) (f := 15) (C := RX13) (N := 49) (Tt := TX13) dX13_readMeets_59 rfl i_X13 (by decide) w_1482 (fun l z h k => ?_) k
  refine R_bipush dX13_readMeets_62 (by decide) (fun l z h k => ?_) k
  refine R_aload_n dX13_readMeets_64 rfl (fun l z h k => ?_) k
  refine R_getf (ci := 11) (f := 13) (C := RX13) (N := 49) (Tt := TX13) dX13_readMeets_65 rfl i_X13 (by decide) w_1480 (fun l z h k => ?_) k
  refine R_iadd dX13_readMeets_68 (fun l z h k => ?_) k
  refine R_iload_n dX13_readMeets_69 rfl (fun l z h k => ?_) k
  refine R_iastore dX13_readMeets_70 (fun l z h k => ?_) k
  refine R_aload_n dX13_readMeets_71 rfl (fun l z h k => ?_) k
  exact R_cv0 (M := mX13_readMeets) (pc := 72) (bc := bc) (bs := bs) (cb := 0) (cs := 0) (M' := mX13_go) dX13_readMeets_72 rfl (by decide) w_1647 w_144 w_1644 w_1646 w_47 (by decide +kernel) (fun _ _ _ k => k) k
theorem bX13_readMeets_75 {G : Gt} {d bc bs : Nat} {Q : QT} {l : Ls} {z : List Value} {h : Hp} (k : (tPush (.int 1) (tRetZ Q)) l z h) : T G d bc bs mX13_readMeets 75 l z h Q := by
  refine R_iconst dX13_readMeets_75 (by decide) (fun l z h k => ?_) k
  exact R_zret dX13_readMeets_76 rfl k
theorem dX13_readLine_0 : decode cX13_readLine 0 = .ok (.aload_n 0, 1) := by decide +kernel
theorem dX13_readLine_1 : decode cX13_readLine 1 = .ok (.iconst 0, 1) := by decide +kernel
theorem dX13_readLine_2 : decode cX13_readLine 2 = .ok (.invokevirtual 177, 3) := by decide +kernel
theorem dX13_readLine_5 : decode cX13_readLine 5 = .ok (.ifCond .eq 8, 3) := by decide +kernel
theorem dX13_readLine_8 : decode cX13_readLine 8 = .ok (.aload_n 0, 1) := by decide +kernel
theorem dX13_readLine_9 : decode cX13_readLine 9 = .ok (.invokevirtual 210, 3) := by decide +kernel
theorem dX13_readLine_12 : decode cX13_readLine 12 = .ok (.ireturn, 1) := by decide +kernel
theorem dX13_readLine_13 : decode cX13_readLine 13 = .ok (.aload_n 0, 1) := by decide +kernel
theorem dX13_readLine_14 : decode cX13_readLine 14 = .ok (.iconst 1, 1) := by decide +kernel
theorem dX13_readLine_15 : decode cX13_readLine 15 = .ok (.invokevirtual 177, 3) := by decide +kernel
theorem dX13_readLine_18 : decode cX13_readLine 18 = .ok (.ifCond .eq 8, 3) := by decide +kernel
theorem dX13_readLine_21 : decode cX13_readLine 21 = .ok (.aload_n 0, 1) := by decide +kernel
theorem dX13_readLine_22 : decode cX13_readLine 22 = .ok (.invokevirtual 213, 3) := by decide +kernel
theorem dX13_readLine_25 : decode cX13_readLine 25 = .ok (.ireturn, 1) := by decide +kernel
theorem dX13_readLine_26 : decode cX13_readLine 26 = .ok (.aload_n 0, 1) := by decide +kernel
theorem dX13_readLine_27 : decode cX13_readLine 27 = .ok (.iconst 2, 1) := by decide +kernel
theorem dX13_readLine_28 : decode cX13_readLine 28 = .ok (.invokevirtual 177, 3) := by decide +kernel
theorem dX13_readLine_31 : decode cX13_readLine 31 = .ok (.ifCond .eq 8, 3) := by decide +kernel
theorem dX13_readLine_34 : decode cX13_readLine 34 = .ok (.aload_n 0, 1) := by decide +kernel
theorem dX13_readLine_35 : decode cX13_readLine 35 = .ok (.invokevirtual 216, 3) := by decide +kernel
theorem dX13_readLine_38 : decode cX13_readLine 38 = .ok (.ireturn, 1) := by decide +kernel
theorem dX13_readLine_39 : decode cX13_readLine 39 = .ok (.aload_n 0, 1) := by decide +kernel
theorem dX13_readLine_40 : decode cX13_readLine 40 = .ok (.iconst 3, 1) := by decide +kernel
theorem dX13_readLine_41 : decode cX13_readLine 41 = .ok (.invokevirtual 177, 3) := by decide +kernel
theorem dX13_readLine_44 : decode cX13_readLine 44 = .ok (.ifCond .eq 8, 3) := by decide +kernel
theorem dX13_readLine_47 : decode cX13_readLine 47 = .ok (.aload_n 0, 1) := by decide +kernel
theorem dX13_readLine_48 : decode cX13_readLine 48 = .ok (.invokevirtual 219, 3) := by decide +kernel
theorem dX13_readLine_51 : decode cX13_readLine 51 = .ok (.ireturn, 1) := by decide +kernel
theorem dX13_readLine_52 : decode cX13_readLine 52 = .ok (.aload_n 0, 1) := by decide +kernel
theorem dX13_readLine_53 : decode cX13_readLine 53 = .ok (.iconst 4, 1) := by decide +kernel
theorem dX13_readLine_54 : decode cX13_readLine 54 = .ok (.invokevirtual 177, 3) := by decide +kernel
theorem dX13_readLine_57 : decode cX13_readLine 57 = .ok (.ifCond .eq 10, 3) := by decide +kernel
theorem dX13_readLine_60 : decode cX13_readLine 60 = .ok (.aload_n 0, 1) := by decide +kernel
theorem dX13_readLine_61 : decode cX13_readLine 61 = .ok (.invokevirtual 222, 3) := by decide +kernel
theorem dX13_readLine_64 : decode cX13_readLine 64 = .ok (.goto 8, 3) := by decide +kernel
theorem dX13_readLine_67 : decode cX13_readLine 67 = .ok (.aload_n 0, 1) := by decide +kernel
theorem dX13_readLine_68 : decode cX13_readLine 68 = .ok (.iconst 1, 1) := by decide +kernel
theorem dX13_readLine_69 : decode cX13_readLine 69 = .ok (.invokevirtual 149, 3) := by decide +kernel
theorem dX13_readLine_72 : decode cX13_readLine 72 = .ok (.ireturn, 1) := by decide +kernel
theorem bX13_readLine_0 {G : Gt} {d bc bs : Nat} {Q : QT} {l : Ls} {z : List Value} {h : Hp} (k : (tAld 0 (tPush (.int 0) (tCV1 G d 0 0 11 mX13_isWord (fun l z h => T G d bc bs mX13_readLine 5 l z h Q)))) l z h) : T G d bc bs mX13_readLine 0 l z h Q := by
  refine R_aload_n dX13_readLine_0 rfl (fun l z h k => ?_) k
  refine R_iconst dX13_readLine_1 (by decide) (fun l z h k => ?_) k
  exact R_cv1 (M := mX13_readLine) (pc := 2) (bc := bc) (bs := bs) (cb := 0) (cs := 0) (M' := mX13_isWord) dX13_readLine_2 rfl (by decide) w_1667 w_144 w_1664 w_1666 w_50 (by decide +kernel) (fun _ _ _ k => k) k
theorem bX13_readLine_5 {G : Gt} {d bc bs : Nat} {Q : QT} {l : Ls} {z : List Value} {h : Hp} (k : (tIf (fun x => x = 0) (fun l z h => T G d bc bs mX13_readLine 13 l z h Q) (fun l z h => T G d bc bs mX13_readLine 8 l z h Q)) l z h) : T G d bc bs mX13_readLine 5 l z h Q := by
  exact R_if_eq dX13_readLine_5 (by decide) (fun _ _ _ k => k) (fun _ _ _ k => k) k
theorem bX13_readLine_8 {G : Gt} {d bc bs : Nat} {Q : QT} {l : Ls} {z : List Value} {h : Hp} (k : (tAld 0 (tCV0 G d 0 0 11 mX13_readThing (fun l z h => T G d bc bs mX13_readLine 12 l z h Q))) l z h) : T G d bc bs mX13_readLine 8 l z h Q := by
  refine R_aload_n dX13_readLine_8 rfl (fun l z h k => ?_) k
  exact R_cv0 (M := mX13_readLine) (pc := 9) (bc := bc) (bs := bs) (cb := 0) (cs := 0) (M' := mX13_readThing) dX13_readLine_9 rfl (by decide) w_1677 w_144 w_1674 w_1676 w_51 (by decide +kernel) (fun _ _ _ k => k) k
theorem bX13_readLine_12 {G : Gt} {d bc bs : Nat} {Q : QT} {l : Ls} {z : List Value} {h : Hp} (k : (tRetZ Q) l z h) : T G d bc bs mX13_readLine 12 l z h Q := by
  exact R_zret dX13_readLine_12 rfl k
theorem bX13_readLine_13 {G : Gt} {d bc bs : Nat} {Q : QT} {l : Ls} {z : List Value} {h : Hp} (k : (tAld 0 (tPush (.int 1) (tCV1 G d 0 0 11 mX13_isWord (fun l z h => T G d bc bs mX13_readLine 18 l z h Q)))) l z h) : T G d bc bs mX13_readLine 13 l z h Q := by
  refine R_aload_n dX13_readLine_13 rfl (fun l z h k => ?_) k
  refine R_iconst dX13_readLine_14 (by decide) (fun l z h k => ?_) k
  exact R_cv1 (M := mX13_readLine) (pc := 15) (bc := bc) (bs := bs) (cb := 0) (cs := 0) (M' := mX13_isWord) dX13_readLine_15 rfl (by decide) w_1667 w_144 w_1664 w_1666 w_50 (by decide +kernel) (fun _ _ _ k => k) k
theorem bX13_readLine_18 {G : Gt} {d bc bs : Nat} {Q : QT} {l : Ls} {z : List Value} {h : Hp} (k : (tIf (fun x => x = 0) (fun l z h => T G d bc bs mX13_readLine 26 l z h Q) (fun l z h => T G d bc bs mX13_readLine 21 l z h Q)) l z h) : T G d bc bs mX13_readLine 18 l z h Q := by
  exact R_if_eq dX13_readLine_18 (by decide) (fun _ _ _ k => k) (fun _ _ _ k => k) k
theorem bX13_readLine_21 {G : Gt} {d bc bs : Nat} {Q : QT} {l : Ls} {z : List Value} {h : Hp} (k : (tAld 0 (tCV0 G d 0 0 11 mX13_readPerson (fun l z h => T G d bc bs mX13_readLine 25 l z h Q))) l z h) : T G d bc bs mX13_readLine 21 l z h Q := by
  refine R_aload_n dX13_readLine_21 rfl (fun l z h k => ?_) k
  exact R_cv0 (M := mX13_readLine) (pc := 22) (bc := bc) (bs := bs) (cb := 0) (cs := 0) (M' := mX13_readPerson) dX13_readLine_22 rfl (by decide) w_1715 w_144 w_1712 w_1714 w_59 (by decide +kernel) (fun _ _ _ k => k) k
theorem bX13_readLine_25 {G : Gt} {d bc bs : Nat} {Q : QT} {l : Ls} {z : List Value} {h : Hp} (k : (tRetZ Q) l z h) : T G d bc bs mX13_readLine 25 l z h Q := by
  exact R_zret dX13_readLine_25 rfl k
theorem bX13_readLine_26 {G : Gt} {d bc bs : Nat} {Q : QT} {l : Ls} {z : List Value} {h : Hp} (k : (tAld 0 (tPush (.int 2) (tCV1 G d 0 0 11 mX13_isWord (fun l z h => T G d bc bs mX13_readLine 31 l z h Q)))) l z h) : T G d bc bs mX13_readLine 26 l z h Q := by
  refine R_aload_n dX13_readLine_26 rfl (fun l z h k => ?_) k
  refine R_iconst dX13_readLine_27 (by decide) (fun l z h k => ?_) k
  exact R_cv1 (M := mX13_readLine) (pc := 28) (bc := bc) (bs := bs) (cb := 0) (cs := 0) (M' := mX13_isWord) dX13_readLine_28 rfl (by decide) w_1667 w_144 w_1664 w_1666 w_50 (by decide +kernel) (fun _ _ _ k => k) k
theorem bX13_readLine_31 {G : Gt} {d bc bs : Nat} {Q : QT} {l : Ls} {z : List Value} {h : Hp} (k : (tIf (fun x => x = 0) (fun l z h => T G d bc bs mX13_readLine 39 l z h Q) (fun l z h => T G d bc bs mX13_readLine 34 l z h Q)) l z h) : T G d bc bs mX13_readLine 31 l z h Q := by
  exact R_if_eq dX13_readLine_31 (by decide) (fun _ _ _ k => k) (fun _ _ _ k => k) k
theorem bX13_readLine_34 {G : Gt} {d bc bs : Nat} {Q : QT} {l : Ls} {z : List Value} {h : Hp} (k : (tAld 0 (tCV0 G d 0 0 11 mX13_readHas (fun l z h => T G d bc bs mX13_readLine 38 l z h Q))) l z h) : T G d bc bs mX13_readLine 34 l z h Q := by
  refine R_aload_n dX13_readLine_34 rfl (fun l z h k => ?_) k
  exact R_cv0 (M := mX13_readLine) (pc := 35) (bc := bc) (bs := bs) (cb := 0) (cs := 0) (M' := mX13_readHas) dX13_readLine_35 rfl (by decide) w_1723 w_144 w_1720 w_1722 w_61 (by decide +kernel) (fun _ _ _ k => k) k
theorem bX13_readLine_38 {G : Gt} {d bc bs : Nat} {Q : QT} {l : Ls} {z : List Value} {h : Hp} (k : (tRetZ Q) l z h) : T G d bc bs mX13_readLine 38 l z h Q := by
  exact R_zret dX13_readLine_38 rfl k
theorem bX13_readLine_39 {G : Gt} {d bc bs : Nat} {Q : QT} {l : Ls} {z : List Value} {h : Hp} (k : (tAld 0 (tPush (.int 3) (tCV1 G d 0 0 11 mX13_isWord (fun l z h => T G d bc bs mX13_readLine 44 l z h Q)))) l z h) : T G d bc bs mX13_readLine 39 l z h Q := by
  refine R_aload_n dX13_readLine_39 rfl (fun l z h k => ?_) k
  refine R_iconst dX13_readLine_40 (by decide) (fun l z h k => ?_) k
  exact R_cv1 (M := mX13_readLine) (pc := 41) (bc := bc) (bs := bs) (cb := 0) (cs := 0) (M' := mX13_isWord) dX13_readLine_41 rfl (by decide) w_1667 w_144 w_1664 w_1666 w_50 (by decide +kernel) (fun _ _ _ k => k) k
theorem bX13_readLine_44 {G : Gt} {d bc bs : Nat} {Q : QT} {l : Ls} {z : List Value} {h : Hp} (k : (tIf (fun x => x = 0) (fun l z h => T G d bc bs mX13_readLine 52 l z h Q) (fun l z h => T G d bc bs mX13_readLine 47 l z h Q)) l z h) : T G d bc bs mX13_readLine 44 l z h Q := by
  exact R_if_eq dX13_readLine_44 (by decide) (fun _ _ _ k => k) (fun _ _ _ k => k) k
theorem bX13_readLine_47 {G : Gt} {d bc bs : Nat} {Q : QT} {l : Ls} {z : List Value} {h : Hp} (k : (tAld 0 (tCV0 G d 0 0 11 mX13_readAsks (fun l z h => T G d bc bs mX13_readLine 51 l z h Q))) l z h) : T G d bc bs mX13_readLine 47 l z h Q := by
  refine R_aload_n dX13_readLine_47 rfl (fun l z h k => ?_) k
  exact R_cv0 (M := mX13_readLine) (pc := 48) (bc := bc) (bs := bs) (cb := 0) (cs := 0) (M' := mX13_readAsks) dX13_readLine_48 rfl (by decide) w_1735 w_144 w_1732 w_1734 w_64 (by decide +kernel) (fun _ _ _ k => k) k
theorem bX13_readLine_51 {G : Gt} {d bc bs : Nat} {Q : QT} {l : Ls} {z : List Value} {h : Hp} (k : (tRetZ Q) l z h) : T G d bc bs mX13_readLine 51 l z h Q := by
  exact R_zret dX13_readLine_51 rfl k
theorem bX13_readLine_52 {G : Gt} {d bc bs : Nat} {Q : QT} {l : Ls} {z : List Value} {h : Hp} (k : (tAld 0 (tPush (.int 4) (tCV1 G d 0 0 11 mX13_isWord (fun l z h => T G d bc bs mX13_readLine 57 l z h Q)))) l z h) : T G d bc bs mX13_readLine 52 l z h Q := by
  refine R_aload_n dX13_readLine_52 rfl (fun l z h k => ?_) k
  refine R_iconst dX13_readLine_53 (by decide) (fun l z h k => ?_) k
  exact R_cv1 (M := mX13_readLine) (pc := 54) (bc := bc) (bs := bs) (cb := 0) (cs := 0) (M' := mX13_isWord) dX13_readLine_54 rfl (by decide) w_1667 w_144 w_1664 w_1666 w_50 (by decide +kernel) (fun _ _ _ k => k) k
theorem bX13_readLine_57 {G : Gt} {d bc bs : Nat} {Q : QT} {l : Ls} {z : List Value} {h : Hp} (k : (tIf (fun x => x = 0) (fun l z h => T G d bc bs mX13_readLine 67 l z h Q) (fun l z h => T G d bc bs mX13_readLine 60 l z h Q)) l z h) : T G d bc bs mX13_readLine 57 l z h Q := by
  exact R_if_eq dX13_readLine_57 (by decide) (fun _ _ _ k => k) (fun _ _ _ k => k) k
theorem bX13_readLine_60 {G : Gt} {d bc bs : Nat} {Q : QT} {l : Ls} {z : List Value} {h : Hp} (k : (tAld 0 (tCV0 G d 0 0 11 mX13_readMeets (fun l z h => T G d bc bs mX13_readLine 64 l z h Q))) l z h) : T G d bc bs mX13_readLine 60 l z h Q := by
  refine R_aload_n dX13_readLine_60 rfl (fun l z h k => ?_) k
  exact R_cv0 (M := mX13_readLine) (pc := 61) (bc := bc) (bs := bs) (cb := 0) (cs := 0) (M' := mX13_readMeets) dX13_readLine_61 rfl (by decide) w_1739 w_144 w_1736 w_1738 w_65 (by decide +kernel) (fun _ _ _ k => k) k
theorem bX13_readLine_64 {G : Gt} {d bc bs : Nat} {Q : QT} {l : Ls} {z : List Value} {h : Hp} (k : (fun l z h => T G d bc bs mX13_readLine 72 l z h Q) l z h) : T G d bc bs mX13_readLine 64 l z h Q := by
  exact R_goto dX13_readLine_64 (by decide) (fun _ _ _ k => k) k
theorem bX13_readLine_67 {G : Gt} {d bc bs : Nat} {Q : QT} {l : Ls} {z : List Value} {h : Hp} (k : (tAld 0 (tPush (.int 1) (tCV1 G d 0 0 11 mX13_bad (fun l z h => T G d bc bs mX13_readLine 72 l z h Q)))) l z h) : T G d bc bs mX13_readLine 67 l z h Q := by
  refine R_aload_n dX13_readLine_67 rfl (fun l z h k => ?_) k
  refine R_iconst dX13_readLine_68 (by decide) (fun l z h k => ?_) k
  exact R_cv1 (M := mX13_readLine) (pc := 69) (bc := bc) (bs := bs) (cb := 0) (cs := 0) (M' := mX13_bad) dX13_readLine_69 rfl (by decide) w_1685 w_144 w_1682 w_1684 w_53 (by decide +kernel) (fun _ _ _ k => k) k
theorem bX13_readLine_72 {G : Gt} {d bc bs : Nat} {Q : QT} {l : Ls} {z : List Value} {h : Hp} (k : (tRetZ Q) l z h) : T G d bc bs mX13_readLine 72 l z h Q := by
  exact R_zret dX13_readLine_72 rfl k
