theorem dX12_init_0 : decode cX12_init 0 = .ok (.aload_n 0, 1) := by decide +kernel
theorem dX12_init_1 : decode cX12_init 1 = .ok (.invokespecial 1, 3) := by decide +kernel
theorem dX12_init_4 : decode cX12_init 4 = .ok (.aload_n 0, 1) := by decide +kernel
theorem dX12_init_5 : decode cX12_init 5 = .ok (.new 7, 3) := by decide +kernel
theorem dX12_init_8 : decode cX12_init 8 = .ok (.dup, 1) := by decide +kernel
theorem dX12_init_9 : decode cX12_init 9 = .ok (.invokespecial 9, 3) := by decide +kernel
theorem dX12_init_12 : decode cX12_init 12 = .ok (.putfield 10, 3) := by decide +kernel
theorem dX12_init_15 : decode cX12_init 15 = .ok (.aload_n 0, 1) := by decide +kernel
theorem dX12_init_16 : decode cX12_init 16 = .ok (.new 16, 3) := by decide +kernel
theorem dX12_init_19 : decode cX12_init 19 = .ok (.dup, 1) := by decide +kernel
theorem dX12_init_20 : decode cX12_init 20 = .ok (.aload_n 0, 1) := by decide +kernel
theorem dX12_init_21 : decode cX12_init 21 = .ok (.getfield 10, 3) := by decide +kernel
theorem dX12_init_24 : decode cX12_init 24 = .ok (.invokespecial 18, 3) := by decide +kernel
theorem dX12_init_27 : decode cX12_init 27 = .ok (.putfield 21, 3) := by decide +kernel
theorem dX12_init_30 : decode cX12_init 30 = .ok (.aload_n 0, 1) := by decide +kernel
theorem dX12_init_31 : decode cX12_init 31 = .ok (.new 25, 3) := by decide +kernel
theorem dX12_init_34 : decode cX12_init 34 = .ok (.dup, 1) := by decide +kernel
theorem dX12_init_35 : decode cX12_init 35 = .ok (.aload_n 0, 1) := by decide +kernel
theorem dX12_init_36 : decode cX12_init 36 = .ok (.getfield 21, 3) := by decide +kernel
theorem dX12_init_39 : decode cX12_init 39 = .ok (.invokespecial 27, 3) := by decide +kernel
theorem dX12_init_42 : decode cX12_init 42 = .ok (.putfield 30, 3) := by decide +kernel
theorem dX12_init_45 : decode cX12_init 45 = .ok (.aload_n 0, 1) := by decide +kernel
theorem dX12_init_46 : decode cX12_init 46 = .ok (.new 34, 3) := by decide +kernel
theorem dX12_init_49 : decode cX12_init 49 = .ok (.dup, 1) := by decide +kernel
theorem dX12_init_50 : decode cX12_init 50 = .ok (.aload_n 0, 1) := by decide +kernel
theorem dX12_init_51 : decode cX12_init 51 = .ok (.getfield 21, 3) := by decide +kernel
theorem dX12_init_54 : decode cX12_init 54 = .ok (.invokespecial 36, 3) := by decide +kernel
theorem dX12_init_57 : decode cX12_init 57 = .ok (.putfield 37, 3) := by decide +kernel
theorem dX12_init_60 : decode cX12_init 60 = .ok (.aload_n 0, 1) := by decide +kernel
theorem dX12_init_61 : decode cX12_init 61 = .ok (.new 41, 3) := by decide +kernel
theorem dX12_init_64 : decode cX12_init 64 = .ok (.dup, 1) := by decide +kernel
theorem dX12_init_65 : decode cX12_init 65 = .ok (.invokespecial 43, 3) := by decide +kernel
theorem dX12_init_68 : decode cX12_init 68 = .ok (.putfield 44, 3) := by decide +kernel
theorem dX12_init_71 : decode cX12_init 71 = .ok (.aload_n 0, 1) := by decide +kernel
theorem dX12_init_72 : decode cX12_init 72 = .ok (.new 48, 3) := by decide +kernel
theorem dX12_init_75 : decode cX12_init 75 = .ok (.dup, 1) := by decide +kernel
theorem dX12_init_76 : decode cX12_init 76 = .ok (.invokespecial 50, 3) := by decide +kernel
theorem dX12_init_79 : decode cX12_init 79 = .ok (.putfield 51, 3) := by decide +kernel
theorem dX12_init_82 : decode cX12_init 82 = .ok (.aload_n 0, 1) := by decide +kernel
theorem dX12_init_83 : decode cX12_init 83 = .ok (.new 55, 3) := by decide +kernel
theorem dX12_init_86 : decode cX12_init 86 = .ok (.dup, 1) := by decide +kernel
theorem dX12_init_87 : decode cX12_init 87 = .ok (.invokespecial 57, 3) := by decide +kernel
theorem dX12_init_90 : decode cX12_init 90 = .ok (.putfield 58, 3) := by decide +kernel
theorem dX12_init_93 : decode cX12_init 93 = .ok (.aload_n 0, 1) := by decide +kernel
theorem dX12_init_94 : decode cX12_init 94 = .ok (.new 55, 3) := by decide +kernel
theorem dX12_init_97 : decode cX12_init 97 = .ok (.dup, 1) := by decide +kernel
theorem dX12_init_98 : decode cX12_init 98 = .ok (.invokespecial 57, 3) := by decide +kernel
theorem dX12_init_101 : decode cX12_init 101 = .ok (.putfield 62, 3) := by decide +kernel
theorem dX12_init_104 : decode cX12_init 104 = .ok (.aload_n 0, 1) := by decide +kernel
theorem dX12_init_105 : decode cX12_init 105 = .ok (.iconst 2, 1) := by decide +kernel
theorem dX12_init_106 : decode cX12_init 106 = .ok (.anewarray 41, 3) := by decide +kernel
theorem dX12_init_109 : decode cX12_init 109 = .ok (.putfield 65, 3) := by decide +kernel
theorem dX12_init_112 : decode cX12_init 112 = .ok (.aload_n 0, 1) := by decide +kernel
theorem dX12_init_113 : decode cX12_init 113 = .ok (.iconst 2, 1) := by decide +kernel
theorem dX12_init_114 : decode cX12_init 114 = .ok (.anewarray 55, 3) := by decide +kernel
theorem dX12_init_117 : decode cX12_init 117 = .ok (.putfield 69, 3) := by decide +kernel
theorem dX12_init_120 : decode cX12_init 120 = .ok (.aload_n 0, 1) := by decide +kernel
theorem dX12_init_121 : decode cX12_init 121 = .ok (.new 73, 3) := by decide +kernel
theorem dX12_init_124 : decode cX12_init 124 = .ok (.dup, 1) := by decide +kernel
theorem dX12_init_125 : decode cX12_init 125 = .ok (.invokespecial 75, 3) := by decide +kernel
theorem dX12_init_128 : decode cX12_init 128 = .ok (.putfield 76, 3) := by decide +kernel
theorem dX12_init_131 : decode cX12_init 131 = .ok (.aload_n 0, 1) := by decide +kernel
theorem dX12_init_132 : decode cX12_init 132 = .ok (.new 80, 3) := by decide +kernel
theorem dX12_init_135 : decode cX12_init 135 = .ok (.dup, 1) := by decide +kernel
theorem dX12_init_136 : decode cX12_init 136 = .ok (.aload_n 0, 1) := by decide +kernel
theorem dX12_init_137 : decode cX12_init 137 = .ok (.getfield 76, 3) := by decide +kernel
theorem dX12_init_140 : decode cX12_init 140 = .ok (.invokespecial 82, 3) := by decide +kernel
theorem dX12_init_143 : decode cX12_init 143 = .ok (.putfield 85, 3) := by decide +kernel
theorem dX12_init_146 : decode cX12_init 146 = .ok (.aload_n 0, 1) := by decide +kernel
theorem dX12_init_147 : decode cX12_init 147 = .ok (.new 89, 3) := by decide +kernel
theorem dX12_init_150 : decode cX12_init 150 = .ok (.dup, 1) := by decide +kernel
theorem dX12_init_151 : decode cX12_init 151 = .ok (.invokespecial 91, 3) := by decide +kernel
theorem dX12_init_154 : decode cX12_init 154 = .ok (.putfield 92, 3) := by decide +kernel
theorem dX12_init_157 : decode cX12_init 157 = .ok (.aload_n 0, 1) := by decide +kernel
theorem dX12_init_158 : decode cX12_init 158 = .ok (.bipush 24, 2) := by decide +kernel
theorem dX12_init_160 : decode cX12_init 160 = .ok (.newarray .int, 2) := by decide +kernel
theorem dX12_init_162 : decode cX12_init 162 = .ok (.putfield 96, 3) := by decide +kernel
theorem dX12_init_165 : decode cX12_init 165 = .ok (.return_, 1) := by decide +kernel
theorem bX12_init_0 {G : Gt} {d bc bs : Nat} {Q : QT} {l : Ls} {z : List Value} {h : Hp} (hd1 : 1 ≤ d) (k : (tAld 0 (tObj ((fun l z h => T G d bc bs mX12_init 4 l z h Q)))) l z h) : T G d bc bs mX12_init 0 l z h Q := by
  refine R_aload_n dX12_init_0 rfl (fun l z h k => ?_) k
  refine R_obj dX12_init_1 hd1 w_162 w_163 w_164 (fun l z h k => ?_) k
  exact k
theorem bX12_init_4 {G : Gt} {d bc bs : Nat} {Q : QT} {l : Ls} {z : List Value} {h : Hp} (k : (tAld 0 (tNew 7 [.null, .int 0] (tDup (tCI0 G d 1 940 mX8_init (fun l z h => T G d bc bs mX12_init 12 l z h Q))))) l z h) : T G d (bc + 1 + 1) (bs + 940 + 2) mX12_init 4 l z h Q := by
  refine R_aload_n dX12_init_4 rfl (fun l z h k => ?_) k
  refine R_new (ci := 7) (C := RX8) (N := 2) (Tt := TX8) (fs := [.null, .int 0]) tyX8 tyX8_ok dX12_init_5 rfl i_X8 w_165 w_166 w_131 rfl (fun j hj => by rcases (show j = 0 ∨ j = 1 by omega) with rfl | rfl <;> rfl) (fun l z h k => ?_) k
  refine R_dup dX12_init_8 (fun l z h k => ?_) k
  exact R_ciN0 (M := mX12_init) (pc := 9) (bc := bc) (bs := bs) (cb := 1) (cs := 940) (M' := mX8_init) dX12_init_9 (by decide) rfl w_169 w_131 n_167 w_168 rfl (by decide +kernel) (fun _ _ _ k => k) k
theorem bX12_init_12 {G : Gt} {d bc bs : Nat} {Q : QT} {l : Ls} {z : List Value} {h : Hp} (k : (tPutf isA 10 0 (tAld 0 (tNew 8 [.null, .null, .null, .null, .null, .int 0, .int 0, .int 0, .null, .int 0, .int 0] (tDup (tAld 0 (tGetf 10 0 (tCI1 G d 4 3764 mX9_init (fun l z h => T G d bc bs mX12_init 27 l z h Q)))))))) l z h) : T G d (bc + 4 + 1) (bs + 3764 + 11) mX12_init 12 l z h Q := by
  refine R_putF (ci := 10) (f := 0) (C := RX12) (N := 16) (Tt := TX12) tyX12 tyX12_ok nmX12 dX12_init_12 rfl i_X12 (by decide) w_485 rfl rfl rfl (tyX12_ok 0 (by decide)) (p_ref rfl) (fun l z h k => ?_) k
  refine R_aload_n dX12_init_15 rfl (fun l z h k => ?_) k
  refine R_new (ci := 8) (C := RX9) (N := 11) (Tt := TX9) (fs := [.null, .null, .null, .null, .null, .int 0, .int 0, .int 0, .null, .int 0, .int 0]) tyX9 tyX9_ok dX12_init_16 rfl i_X9 w_184 w_185 w_132 rfl (fun j hj => by rcases (show j = 0 ∨ j = 1 ∨ j = 2 ∨ j = 3 ∨ j = 4 ∨ j = 5 ∨ j = 6 ∨ j = 7 ∨ j = 8 ∨ j = 9 ∨ j = 10 by omega) with rfl | rfl | rfl | rfl | rfl | rfl | rfl | rfl | rfl | rfl | rfl <;> rfl) (fun l z h k => ?_) k
  refine R_dup dX12_init_19 (fun l z h k => ?_) k
  refine R_aload_n dX12_init_20 rfl (fun l z h k => ?_) k
  refine R_getf (ci := 10) (f := 0) (C := RX12) (N := 16) (Tt := TX12) dX12_init_21 rfl i_X12 (by decide) w_485 (fun l z h k => ?_) k
  exact R_ci1 (M := mX12_init) (pc := 24) (bc := bc) (bs := bs) (cb := 4) (cs := 3764) (M' := mX9_init) dX12_init_24 (by decide) rfl w_188 w_132 w_186 w_187 rfl (by decide +kernel) (fun _ _ _ k => k) k
theorem bX12_init_27 {G : Gt} {d bc bs : Nat} {Q : QT} {l : Ls} {z : List Value} {h : Hp} (k : (tPutf isA 10 1 (tAld 0 (tNew 1 [.null, .null] (tDup (tAld 0 (tGetf 10 1 (tCI1 G d 12 140 mX2_init (fun l z h => T G d bc bs mX12_init 42 l z h Q)))))))) l z h) : T G d (bc + 12 + 1) (bs + 140 + 2) mX12_init 27 l z h Q := by
  refine R_putF (ci := 10) (f := 1) (C := RX12) (N := 16) (Tt := TX12) tyX12 tyX12_ok nmX12 dX12_init_27 rfl i_X12 (by decide) w_486 rfl rfl rfl (tyX12_ok 1 (by decide)) (p_ref rfl) (fun l z h k => ?_) k
  refine R_aload_n dX12_init_30 rfl (fun l z h k => ?_) k
  refine R_new (ci := 1) (C := RX2) (N := 2) (Tt := TX2) (fs := [.null, .null]) tyX2 tyX2_ok dX12_init_31 rfl i_X2 w_236 w_237 w_135 rfl (fun j hj => by rcases (show j = 0 ∨ j = 1 by omega) with rfl | rfl <;> rfl) (fun l z h k => ?_) k
  refine R_dup dX12_init_34 (fun l z h k => ?_) k
  refine R_aload_n dX12_init_35 rfl (fun l z h k => ?_) k
  refine R_getf (ci := 10) (f := 1) (C := RX12) (N := 16) (Tt := TX12) dX12_init_36 rfl i_X12 (by decide) w_486 (fun l z h k => ?_) k
  exact R_ci1 (M := mX12_init) (pc := 39) (bc := bc) (bs := bs) (cb := 12) (cs := 140) (M' := mX2_init) dX12_init_39 (by decide) rfl w_240 w_135 w_238 w_239 rfl (by decide +kernel) (fun _ _ _ k => k) k
theorem bX12_init_42 {G : Gt} {d bc bs : Nat} {Q : QT} {l : Ls} {z : List Value} {h : Hp} (k : (tPutf isA 10 2 (tAld 0 (tNew 0 [.null, .null, .null, .int 0, .null, .null] (tDup (tAld 0 (tGetf 10 1 (tCI1 G d 55 384 mX1_init (fun l z h => T G d bc bs mX12_init 57 l z h Q)))))))) l z h) : T G d (bc + 55 + 1) (bs + 384 + 6) mX12_init 42 l z h Q := by
  refine R_putF (ci := 10) (f := 2) (C := RX12) (N := 16) (Tt := TX12) tyX12 tyX12_ok nmX12 dX12_init_42 rfl i_X12 (by decide) w_487 rfl rfl rfl (tyX12_ok 2 (by decide)) (p_ref rfl) (fun l z h k => ?_) k
  refine R_aload_n dX12_init_45 rfl (fun l z h k => ?_) k
  refine R_new (ci := 0) (C := RX1) (N := 6) (Tt := TX1) (fs := [.null, .null, .null, .int 0, .null, .null]) tyX1 tyX1_ok dX12_init_46 rfl i_X1 w_328 w_329 w_137 rfl (fun j hj => by rcases (show j = 0 ∨ j = 1 ∨ j = 2 ∨ j = 3 ∨ j = 4 ∨ j = 5 by omega) with rfl | rfl | rfl | rfl | rfl | rfl <;> rfl) (fun l z h k => ?_) k
  refine R_dup dX12_init_49 (fun l z h k => ?_) k
  refine R_aload_n dX12_init_50 rfl (fun l z h k => ?_) k
  refine R_getf (ci := 10) (f := 1) (C := RX12) (N := 16) (Tt := TX12) dX12_init_51 rfl i_X12 (by decide) w_486 (fun l z h k => ?_) k
  exact R_ci1 (M := mX12_init) (pc := 54) (bc := bc) (bs := bs) (cb := 55) (cs := 384) (M' := mX1_init) dX12_init_54 (by decide) rfl w_332 w_137 w_330 w_331 rfl (by decide +kernel) (fun _ _ _ k => k) k
theorem bX12_init_57 {G : Gt} {d bc bs : Nat} {Q : QT} {l : Ls} {z : List Value} {h : Hp} (k : (tPutf isA 10 3 (tAld 0 (tNew 9 [.int 0, .int 0, .int 0, .null, .null, .null, .null, .null, .null, .null, .null, .null, .null, .null] (tDup (tCI0 G d 11 126 mX11_init (fun l z h => T G d bc bs mX12_init 68 l z h Q)))))) l z h) : T G d (bc + 11 + 1) (bs + 126 + 14) mX12_init 57 l z h Q := by
  refine R_putF (ci := 10) (f := 3) (C := RX12) (N := 16) (Tt := TX12) tyX12 tyX12_ok nmX12 dX12_init_57 rfl i_X12 (by decide) w_488 rfl rfl rfl (tyX12_ok 3 (by decide)) (p_ref rfl) (fun l z h k => ?_) k
  refine R_aload_n dX12_init_60 rfl (fun l z h k => ?_) k
  refine R_new (ci := 9) (C := RX11) (N := 14) (Tt := TX11) (fs := [.int 0, .int 0, .int 0, .null, .null, .null, .null, .null, .null, .null, .null, .null, .null, .null]) tyX11 tyX11_ok dX12_init_61 rfl i_X11 w_364 w_243 w_136 rfl (fun j hj => by rcases (show j = 0 ∨ j = 1 ∨ j = 2 ∨ j = 3 ∨ j = 4 ∨ j = 5 ∨ j = 6 ∨ j = 7 ∨ j = 8 ∨ j = 9 ∨ j = 10 ∨ j = 11 ∨ j = 12 ∨ j = 13 by omega) with rfl | rfl | rfl | rfl | rfl | rfl | rfl | rfl | rfl | rfl | rfl | rfl | rfl | rfl <;> rfl) (fun l z h k => ?_) k
  refine R_dup dX12_init_64 (fun l z h k => ?_) k
  exact R_ciN0 (M := mX12_init) (pc := 65) (bc := bc) (bs := bs) (cb := 11) (cs := 126) (M' := mX11_init) dX12_init_65 (by decide) rfl w_246 w_136 n_365 w_245 rfl (by decide +kernel) (fun _ _ _ k => k) k
theorem bX12_init_68 {G : Gt} {d bc bs : Nat} {Q : QT} {l : Ls} {z : List Value} {h : Hp} (k : (tPutf isA 10 4 (tAld 0 (tNew 5 [.null, .int 0, .int 0] (tDup (tCI0 G d 109 1269 mX6_init (fun l z h => T G d bc bs mX12_init 79 l z h Q)))))) l z h) : T G d (bc + 109 + 1) (bs + 1269 + 3) mX12_init 68 l z h Q := by
  refine R_putF (ci := 10) (f := 4) (C := RX12) (N := 16) (Tt := TX12) tyX12 tyX12_ok nmX12 dX12_init_68 rfl i_X12 (by decide) w_489 rfl rfl rfl (tyX12_ok 4 (by decide)) (p_ref rfl) (fun l z h k => ?_) k
  refine R_aload_n dX12_init_71 rfl (fun l z h k => ?_) k
  refine R_new (ci := 5) (C := RX6) (N := 3) (Tt := TX6) (fs := [.null, .int 0, .int 0]) tyX6 tyX6_ok dX12_init_72 rfl i_X6 w_366 w_367 w_139 rfl (fun j hj => by rcases (show j = 0 ∨ j = 1 ∨ j = 2 by omega) with rfl | rfl | rfl <;> rfl) (fun l z h k => ?_) k
  refine R_dup dX12_init_75 (fun l z h k => ?_) k
  exact R_ci0 (M := mX12_init) (pc := 76) (bc := bc) (bs := bs) (cb := 109) (cs := 1269) (M' := mX6_init) dX12_init_76 (by decide) rfl w_370 w_139 w_368 w_369 rfl (by decide +kernel) (fun _ _ _ k => k) k
theorem bX12_init_79 {G : Gt} {d bc bs : Nat} {Q : QT} {l : Ls} {z : List Value} {h : Hp} (k : (tPutf isA 10 5 (tAld 0 (tNew 6 [.int 0, .int 0, .null, .null, .null, .null, .int 0] (tDup (tCI0 G d 4 160 mX7_init (fun l z h => T G d bc bs mX12_init 90 l z h Q)))))) l z h) : T G d (bc + 4 + 1) (bs + 160 + 7) mX12_init 79 l z h Q := by
  refine R_putF (ci := 10) (f := 5) (C := RX12) (N := 16) (Tt := TX12) tyX12 tyX12_ok nmX12 dX12_init_79 rfl i_X12 (by decide) w_490 rfl rfl rfl (tyX12_ok 5 (by decide)) (p_ref rfl) (fun l z h k => ?_) k
  refine R_aload_n dX12_init_82 rfl (fun l z h k => ?_) k
  refine R_new (ci := 6) (C := RX7) (N := 7) (Tt := TX7) (fs := [.int 0, .int 0, .null, .null, .null, .null, .int 0]) tyX7 tyX7_ok dX12_init_83 rfl i_X7 w_385 w_386 w_140 rfl (fun j hj => by rcases (show j = 0 ∨ j = 1 ∨ j = 2 ∨ j = 3 ∨ j = 4 ∨ j = 5 ∨ j = 6 by omega) with rfl | rfl | rfl | rfl | rfl | rfl | rfl <;> rfl) (fun l z h k => ?_) k
  refine R_dup dX12_init_86 (fun l z h k => ?_) k
  exact R_ci0 (M := mX12_init) (pc := 87) (bc := bc) (bs := bs) (cb := 4) (cs := 160) (M' := mX7_init) dX12_init_87 (by decide) rfl w_389 w_140 w_387 w_388 rfl (by decide +kernel) (fun _ _ _ k => k) k
theorem bX12_init_90 {G : Gt} {d bc bs : Nat} {Q : QT} {l : Ls} {z : List Value} {h : Hp} (k : (tPutf isA 10 6 (tAld 0 (tNew 6 [.int 0, .int 0, .null, .null, .null, .null, .int 0] (tDup (tCI0 G d 4 160 mX7_init (fun l z h => T G d bc bs mX12_init 101 l z h Q)))))) l z h) : T G d (bc + 4 + 1) (bs + 160 + 7) mX12_init 90 l z h Q := by
  refine R_putF (ci := 10) (f := 6) (C := RX12) (N := 16) (Tt := TX12) tyX12 tyX12_ok nmX12 dX12_init_90 rfl i_X12 (by decide) w_491 rfl rfl rfl (tyX12_ok 6 (by decide)) (p_ref rfl) (fun l z h k => ?_) k
  refine R_aload_n dX12_init_93 rfl (fun l z h k => ?_) k
  refine R_new (ci := 6) (C := RX7) (N := 7) (Tt := TX7) (fs := [.int 0, .int 0, .null, .null, .null, .null, .int 0]) tyX7 tyX7_ok dX12_init_94 rfl i_X7 w_385 w_386 w_140 rfl (fun j hj => by rcases (show j = 0 ∨ j = 1 ∨ j = 2 ∨ j = 3 ∨ j = 4 ∨ j = 5 ∨ j = 6 by omega) with rfl | rfl | rfl | rfl | rfl | rfl | rfl <;> rfl) (fun l z h k => ?_) k
  refine R_dup dX12_init_97 (fun l z h k => ?_) k
  exact R_ci0 (M := mX12_init) (pc := 98) (bc := bc) (bs := bs) (cb := 4) (cs := 160) (M' := mX7_init) dX12_init_98 (by decide) rfl w_389 w_140 w_387 w_388 rfl (by decide +kernel) (fun _ _ _ k => k) k
theorem bX12_init_101 {G : Gt} {d bc bs : Nat} {Q : QT} {l : Ls} {z : List Value} {h : Hp} (k : (tPutf isA 10 7 (tAld 0 (tPush (.int 2) (tNewR 1 2 (tPutf isA 10 8 (tAld 0 (tPush (.int 2) (tNewR 2 2 (tPutf isA 10 9 (tAld 0 (tNew 2 [.int 0] (tDup (tCI0 G d 0 0 mX3_init (fun l z h => T G d bc bs mX12_init 128 l z h Q)))))))))))))) l z h) : T G d (bc + 1 + 1 + 1) (bs + 1 + 2 + 2) mX12_init 101 l z h Q := by
  refine R_putF (ci := 10) (f := 7) (C := RX12) (N := 16) (Tt := TX12) tyX12 tyX12_ok nmX12 dX12_init_101 rfl i_X12 (by decide) w_492 rfl rfl rfl (tyX12_ok 7 (by decide)) (p_ref rfl) (fun l z h k => ?_) k
  refine R_aload_n dX12_init_104 rfl (fun l z h k => ?_) k
  refine R_iconst dX12_init_105 (by decide) (fun l z h k => ?_) k
  refine R_newR (C := "BridgeToll$World") dX12_init_106 (by decide) rfl (fun _ _ h => h.2.2.2.1) w_364 (by decide) (fun l z h k => ?_) k
  refine R_putF (ci := 10) (f := 8) (C := RX12) (N := 16) (Tt := TX12) tyX12 tyX12_ok nmX12 dX12_init_109 rfl i_X12 (by decide) w_493 rfl rfl rfl (tyX12_ok 8 (by decide)) (p_ref rfl) (fun l z h k => ?_) k
  refine R_aload_n dX12_init_112 rfl (fun l z h k => ?_) k
  refine R_iconst dX12_init_113 (by decide) (fun l z h k => ?_) k
  refine R_newR (C := "BridgeToll$Sentence") dX12_init_114 (by decide) rfl (fun _ _ h => h.2.2.2.2.1) w_385 (by decide) (fun l z h k => ?_) k
  refine R_putF (ci := 10) (f := 9) (C := RX12) (N := 16) (Tt := TX12) tyX12 tyX12_ok nmX12 dX12_init_117 rfl i_X12 (by decide) w_494 rfl rfl rfl (tyX12_ok 9 (by decide)) (p_ref rfl) (fun l z h k => ?_) k
  refine R_aload_n dX12_init_120 rfl (fun l z h k => ?_) k
  refine R_new (ci := 2) (C := RX3) (N := 1) (Tt := TX3) (fs := [.int 0]) tyX3 tyX3_ok dX12_init_121 rfl i_X3 w_417 w_418 w_141 rfl (fun j hj => by rcases (show j = 0 by omega) with rfl; rfl) (fun l z h k => ?_) k
  refine R_dup dX12_init_124 (fun l z h k => ?_) k
  exact R_ciN0 (M := mX12_init) (pc := 125) (bc := bc) (bs := bs) (cb := 0) (cs := 0) (M' := mX3_init) dX12_init_125 (by decide) rfl w_421 w_141 n_419 w_420 rfl (by decide +kernel) (fun _ _ _ k => k) k
theorem bX12_init_128 {G : Gt} {d bc bs : Nat} {Q : QT} {l : Ls} {z : List Value} {h : Hp} (k : (tPutf isA 10 12 (tAld 0 (tNew 4 [.null, .null, .int 0, .int 0, .null, .null, .null, .int 0] (tDup (tAld 0 (tGetf 10 12 (tCI1 G d 23 228 mX5_init (fun l z h => T G d bc bs mX12_init 143 l z h Q)))))))) l z h) : T G d (bc + 23 + 1) (bs + 228 + 8) mX12_init 128 l z h Q := by
  refine R_putF (ci := 10) (f := 12) (C := RX12) (N := 16) (Tt := TX12) tyX12 tyX12_ok nmX12 dX12_init_128 rfl i_X12 (by decide) w_497 rfl rfl rfl (tyX12_ok 12 (by decide)) (p_ref rfl) (fun l z h k => ?_) k
  refine R_aload_n dX12_init_131 rfl (fun l z h k => ?_) k
  refine R_new (ci := 4) (C := RX5) (N := 8) (Tt := TX5) (fs := [.null, .null, .int 0, .int 0, .null, .null, .null, .int 0]) tyX5 tyX5_ok dX12_init_132 rfl i_X5 w_427 w_428 w_142 rfl (fun j hj => by rcases (show j = 0 ∨ j = 1 ∨ j = 2 ∨ j = 3 ∨ j = 4 ∨ j = 5 ∨ j = 6 ∨ j = 7 by omega) with rfl | rfl | rfl | rfl | rfl | rfl | rfl | rfl <;> rfl) (fun l z h k => ?_) k
  refine R_dup dX12_init_135 (fun l z h k => ?_) k
  refine R_aload_n dX12_init_136 rfl (fun l z h k => ?_) k
  refine R_getf (ci := 10) (f := 12) (C := RX12) (N := 16) (Tt := TX12) dX12_init_137 rfl i_X12 (by decide) w_497 (fun l z h k => ?_) k
  exact R_ci1 (M := mX12_init) (pc := 140) (bc := bc) (bs := bs) (cb := 23) (cs := 228) (M' := mX5_init) dX12_init_140 (by decide) rfl w_431 w_142 w_429 w_430 rfl (by decide +kernel) (fun _ _ _ k => k) k
theorem bX12_init_143 {G : Gt} {d bc bs : Nat} {Q : QT} {l : Ls} {z : List Value} {h : Hp} (k : (tPutf isA 10 10 (tAld 0 (tNew 3 [.null, .null, .int 0, .int 0] (tDup (tCI0 G d 2 72 mX4_init (fun l z h => T G d bc bs mX12_init 154 l z h Q)))))) l z h) : T G d (bc + 2 + 1) (bs + 72 + 4) mX12_init 143 l z h Q := by
  refine R_putF (ci := 10) (f := 10) (C := RX12) (N := 16) (Tt := TX12) tyX12 tyX12_ok nmX12 dX12_init_143 rfl i_X12 (by decide) w_495 rfl rfl rfl (tyX12_ok 10 (by decide)) (p_ref rfl) (fun l z h k => ?_) k
  refine R_aload_n dX12_init_146 rfl (fun l z h k => ?_) k
  refine R_new (ci := 3) (C := RX4) (N := 4) (Tt := TX4) (fs := [.null, .null, .int 0, .int 0]) tyX4 tyX4_ok dX12_init_147 rfl i_X4 w_464 w_465 w_143 rfl (fun j hj => by rcases (show j = 0 ∨ j = 1 ∨ j = 2 ∨ j = 3 by omega) with rfl | rfl | rfl | rfl <;> rfl) (fun l z h k => ?_) k
  refine R_dup dX12_init_150 (fun l z h k => ?_) k
  exact R_ciN0 (M := mX12_init) (pc := 151) (bc := bc) (bs := bs) (cb := 2) (cs := 72) (M' := mX4_init) dX12_init_151 (by decide) rfl w_468 w_143 n_466 w_467 rfl (by decide +kernel) (fun _ _ _ k => k) k
theorem bX12_init_154 {G : Gt} {d bc bs : Nat} {Q : QT} {l : Ls} {z : List Value} {h : Hp} (k : (tPutf isA 10 11 (tAld 0 (tPush (.int 24) (tNewI 0 24 (tPutf isA 10 13 (tRetV Q)))))) l z h) : T G d (bc + 1) (bs + 24) mX12_init 154 l z h Q := by
  refine R_putF (ci := 10) (f := 11) (C := RX12) (N := 16) (Tt := TX12) tyX12 tyX12_ok nmX12 dX12_init_154 rfl i_X12 (by decide) w_496 rfl rfl rfl (tyX12_ok 11 (by decide)) (p_ref rfl) (fun l z h k => ?_) k
  refine R_aload_n dX12_init_157 rfl (fun l z h k => ?_) k
  refine R_bipush dX12_init_158 (by decide) (fun l z h k => ?_) k
  refine R_newI (ty := .int) dX12_init_160 (by decide) rfl rfl (fun _ _ => rfl) rfl w_183 (by decide) (fun l z h k => ?_) k
  refine R_putF (ci := 10) (f := 13) (C := RX12) (N := 16) (Tt := TX12) tyX12 tyX12_ok nmX12 dX12_init_162 rfl i_X12 (by decide) w_498 rfl rfl rfl (tyX12_ok 13 (by decide)) (p_ref rfl) (fun l z h k => ?_) k
  exact R_vret dX12_init_165 rfl k
theorem dX12_feed_0 : decode cX12_feed 0 = .ok (.aload_n 0, 1) := by decide +kernel
theorem dX12_feed_1 : decode cX12_feed 1 = .ok (.getfield 10, 3) := by decide +kernel
theorem dX12_feed_4 : decode cX12_feed 4 = .ok (.invokevirtual 100, 3) := by decide +kernel
theorem dX12_feed_7 : decode cX12_feed 7 = .ok (.ifCond .ne 5, 3) := by decide +kernel
theorem dX12_feed_10 : decode cX12_feed 10 = .ok (.iconst (-1), 1) := by decide +kernel
theorem dX12_feed_11 : decode cX12_feed 11 = .ok (.ireturn, 1) := by decide +kernel
theorem dX12_feed_12 : decode cX12_feed 12 = .ok (.aload_n 0, 1) := by decide +kernel
theorem dX12_feed_13 : decode cX12_feed 13 = .ok (.getfield 10, 3) := by decide +kernel
theorem dX12_feed_16 : decode cX12_feed 16 = .ok (.iload_n 1, 1) := by decide +kernel
theorem dX12_feed_17 : decode cX12_feed 17 = .ok (.invokevirtual 104, 3) := by decide +kernel
theorem dX12_feed_20 : decode cX12_feed 20 = .ok (.aload_n 0, 1) := by decide +kernel
theorem dX12_feed_21 : decode cX12_feed 21 = .ok (.getfield 10, 3) := by decide +kernel
theorem dX12_feed_24 : decode cX12_feed 24 = .ok (.iload_n 2, 1) := by decide +kernel
theorem dX12_feed_25 : decode cX12_feed 25 = .ok (.invokevirtual 104, 3) := by decide +kernel
theorem dX12_feed_28 : decode cX12_feed 28 = .ok (.aload_n 0, 1) := by decide +kernel
theorem dX12_feed_29 : decode cX12_feed 29 = .ok (.getfield 10, 3) := by decide +kernel
theorem dX12_feed_32 : decode cX12_feed 32 = .ok (.iload_n 3, 1) := by decide +kernel
theorem dX12_feed_33 : decode cX12_feed 33 = .ok (.invokevirtual 104, 3) := by decide +kernel
theorem dX12_feed_36 : decode cX12_feed 36 = .ok (.aload_n 0, 1) := by decide +kernel
theorem dX12_feed_37 : decode cX12_feed 37 = .ok (.getfield 10, 3) := by decide +kernel
theorem dX12_feed_40 : decode cX12_feed 40 = .ok (.iload 4, 2) := by decide +kernel
theorem dX12_feed_42 : decode cX12_feed 42 = .ok (.invokevirtual 104, 3) := by decide +kernel
theorem dX12_feed_45 : decode cX12_feed 45 = .ok (.aload_n 0, 1) := by decide +kernel
theorem dX12_feed_46 : decode cX12_feed 46 = .ok (.getfield 10, 3) := by decide +kernel
theorem dX12_feed_49 : decode cX12_feed 49 = .ok (.iload 5, 2) := by decide +kernel
theorem dX12_feed_51 : decode cX12_feed 51 = .ok (.invokevirtual 104, 3) := by decide +kernel
theorem dX12_feed_54 : decode cX12_feed 54 = .ok (.aload_n 0, 1) := by decide +kernel
theorem dX12_feed_55 : decode cX12_feed 55 = .ok (.getfield 10, 3) := by decide +kernel
theorem dX12_feed_58 : decode cX12_feed 58 = .ok (.getfield 108, 3) := by decide +kernel
theorem dX12_feed_61 : decode cX12_feed 61 = .ok (.ireturn, 1) := by decide +kernel
theorem bX12_feed_0 {G : Gt} {d bc bs : Nat} {Q : QT} {l : Ls} {z : List Value} {h : Hp} (k : (tAld 0 (tGetf 10 0 (tCV0 G d 0 0 7 mX8_hasRoom (fun l z h => T G d bc bs mX12_feed 7 l z h Q)))) l z h) : T G d bc bs mX12_feed 0 l z h Q := by
  refine R_aload_n dX12_feed_0 rfl (fun l z h k => ?_) k
  refine R_getf (ci := 10) (f := 0) (C := RX12) (N := 16) (Tt := TX12) dX12_feed_1 rfl i_X12 (by decide) w_485 (fun l z h k => ?_) k
  exact R_cv0 (M := mX12_feed) (pc := 4) (bc := bc) (bs := bs) (cb := 0) (cs := 0) (M' := mX8_hasRoom) dX12_feed_4 rfl (by decide) w_541 w_131 w_538 w_539 w_540 (by decide +kernel) (fun _ _ _ k => k) k
theorem bX12_feed_7 {G : Gt} {d bc bs : Nat} {Q : QT} {l : Ls} {z : List Value} {h : Hp} (k : (tIf (fun x => x = 0) (fun l z h => T G d bc bs mX12_feed 10 l z h Q) (fun l z h => T G d bc bs mX12_feed 12 l z h Q)) l z h) : T G d bc bs mX12_feed 7 l z h Q := by
  exact R_if_ne dX12_feed_7 (by decide) (fun _ _ _ k => k) (fun _ _ _ k => k) k
theorem bX12_feed_10 {G : Gt} {d bc bs : Nat} {Q : QT} {l : Ls} {z : List Value} {h : Hp} (k : (tPush (.int (-1)) (tRetI Q)) l z h) : T G d bc bs mX12_feed 10 l z h Q := by
  refine R_iconst dX12_feed_10 (by decide) (fun l z h k => ?_) k
  exact R_iret dX12_feed_11 rfl k
theorem bX12_feed_12 {G : Gt} {d bc bs : Nat} {Q : QT} {l : Ls} {z : List Value} {h : Hp} (k : (tAld 0 (tGetf 10 0 (tIld 1 (tCV1 G d 0 0 7 mX8_put (fun l z h => T G d bc bs mX12_feed 20 l z h Q))))) l z h) : T G d bc bs mX12_feed 12 l z h Q := by
  refine R_aload_n dX12_feed_12 rfl (fun l z h k => ?_) k
  refine R_getf (ci := 10) (f := 0) (C := RX12) (N := 16) (Tt := TX12) dX12_feed_13 rfl i_X12 (by decide) w_485 (fun l z h k => ?_) k
  refine R_iload_n dX12_feed_16 rfl (fun l z h k => ?_) k
  exact R_cv1 (M := mX12_feed) (pc := 17) (bc := bc) (bs := bs) (cb := 0) (cs := 0) (M' := mX8_put) dX12_feed_17 rfl (by decide) w_545 w_131 w_542 w_543 w_544 (by decide +kernel) (fun _ _ _ k => k) k
theorem bX12_feed_20 {G : Gt} {d bc bs : Nat} {Q : QT} {l : Ls} {z : List Value} {h : Hp} (k : (tAld 0 (tGetf 10 0 (tIld 2 (tCV1 G d 0 0 7 mX8_put (fun l z h => T G d bc bs mX12_feed 28 l z h Q))))) l z h) : T G d bc bs mX12_feed 20 l z h Q := by
  refine R_aload_n dX12_feed_20 rfl (fun l z h k => ?_) k
  refine R_getf (ci := 10) (f := 0) (C := RX12) (N := 16) (Tt := TX12) dX12_feed_21 rfl i_X12 (by decide) w_485 (fun l z h k => ?_) k
  refine R_iload_n dX12_feed_24 rfl (fun l z h k => ?_) k
  exact R_cv1 (M := mX12_feed) (pc := 25) (bc := bc) (bs := bs) (cb := 0) (cs := 0) (M' := mX8_put) dX12_feed_25 rfl (by decide) w_545 w_131 w_542 w_543 w_544 (by decide +kernel) (fun _ _ _ k => k) k
theorem bX12_feed_28 {G : Gt} {d bc bs : Nat} {Q : QT} {l : Ls} {z : List Value} {h : Hp} (k : (tAld 0 (tGetf 10 0 (tIld 3 (tCV1 G d 0 0 7 mX8_put (fun l z h => T G d bc bs mX12_feed 36 l z h Q))))) l z h) : T G d bc bs mX12_feed 28 l z h Q := by
  refine R_aload_n dX12_feed_28 rfl (fun l z h k => ?_) k
  refine R_getf (ci := 10) (f := 0) (C := RX12) (N := 16) (Tt := TX12) dX12_feed_29 rfl i_X12 (by decide) w_485 (fun l z h k => ?_) k
  refine R_iload_n dX12_feed_32 rfl (fun l z h k => ?_) k
  exact R_cv1 (M := mX12_feed) (pc := 33) (bc := bc) (bs := bs) (cb := 0) (cs := 0) (M' := mX8_put) dX12_feed_33 rfl (by decide) w_545 w_131 w_542 w_543 w_544 (by decide +kernel) (fun _ _ _ k => k) k
theorem bX12_feed_36 {G : Gt} {d bc bs : Nat} {Q : QT} {l : Ls} {z : List Value} {h : Hp} (k : (tAld 0 (tGetf 10 0 (tIld 4 (tCV1 G d 0 0 7 mX8_put (fun l z h => T G d bc bs mX12_feed 45 l z h Q))))) l z h) : T G d bc bs mX12_feed 36 l z h Q := by
  refine R_aload_n dX12_feed_36 rfl (fun l z h k => ?_) k
  refine R_getf (ci := 10) (f := 0) (C := RX12) (N := 16) (Tt := TX12) dX12_feed_37 rfl i_X12 (by decide) w_485 (fun l z h k => ?_) k
  refine R_iload dX12_feed_40 (fun l z h k => ?_) k
  exact R_cv1 (M := mX12_feed) (pc := 42) (bc := bc) (bs := bs) (cb := 0) (cs := 0) (M' := mX8_put) dX12_feed_42 rfl (by decide) w_545 w_131 w_542 w_543 w_544 (by decide +kernel) (fun _ _ _ k => k) k
theorem bX12_feed_45 {G : Gt} {d bc bs : Nat} {Q : QT} {l : Ls} {z : List Value} {h : Hp} (k : (tAld 0 (tGetf 10 0 (tIld 5 (tCV1 G d 0 0 7 mX8_put (fun l z h => T G d bc bs mX12_feed 54 l z h Q))))) l z h) : T G d bc bs mX12_feed 45 l z h Q := by
  refine R_aload_n dX12_feed_45 rfl (fun l z h k => ?_) k
  refine R_getf (ci := 10) (f := 0) (C := RX12) (N := 16) (Tt := TX12) dX12_feed_46 rfl i_X12 (by decide) w_485 (fun l z h k => ?_) k
  refine R_iload dX12_feed_49 (fun l z h k => ?_) k
  exact R_cv1 (M := mX12_feed) (pc := 51) (bc := bc) (bs := bs) (cb := 0) (cs := 0) (M' := mX8_put) dX12_feed_51 rfl (by decide) w_545 w_131 w_542 w_543 w_544 (by decide +kernel) (fun _ _ _ k => k) k
theorem bX12_feed_54 {G : Gt} {d bc bs : Nat} {Q : QT} {l : Ls} {z : List Value} {h : Hp} (k : (tAld 0 (tGetf 10 0 (tGetf 7 1 (tRetI Q)))) l z h) : T G d bc bs mX12_feed 54 l z h Q := by
  refine R_aload_n dX12_feed_54 rfl (fun l z h k => ?_) k
  refine R_getf (ci := 10) (f := 0) (C := RX12) (N := 16) (Tt := TX12) dX12_feed_55 rfl i_X12 (by decide) w_485 (fun l z h k => ?_) k
  refine R_getf (ci := 7) (f := 1) (C := RX8) (N := 2) (Tt := TX8) dX12_feed_58 rfl i_X8 (by decide) w_176 (fun l z h k => ?_) k
  exact R_iret dX12_feed_61 rfl k
theorem dX12_end_0 : decode cX12_end 0 = .ok (.iload_n 1, 1) := by decide +kernel
theorem dX12_end_1 : decode cX12_end 1 = .ok (.ifCond .lt 14, 3) := by decide +kernel
theorem dX12_end_4 : decode cX12_end 4 = .ok (.iload_n 1, 1) := by decide +kernel
theorem dX12_end_5 : decode cX12_end 5 = .ok (.aload_n 0, 1) := by decide +kernel
theorem dX12_end_6 : decode cX12_end 6 = .ok (.getfield 10, 3) := by decide +kernel
theorem dX12_end_9 : decode cX12_end 9 = .ok (.getfield 108, 3) := by decide +kernel
theorem dX12_end_12 : decode cX12_end 12 = .ok (.if_icmp .le 5, 3) := by decide +kernel
theorem dX12_end_15 : decode cX12_end 15 = .ok (.iconst 0, 1) := by decide +kernel
theorem dX12_end_16 : decode cX12_end 16 = .ok (.ireturn, 1) := by decide +kernel
theorem dX12_end_17 : decode cX12_end 17 = .ok (.aload_n 0, 1) := by decide +kernel
theorem dX12_end_18 : decode cX12_end 18 = .ok (.getfield 10, 3) := by decide +kernel
theorem dX12_end_21 : decode cX12_end 21 = .ok (.iload_n 1, 1) := by decide +kernel
theorem dX12_end_22 : decode cX12_end 22 = .ok (.putfield 108, 3) := by decide +kernel
theorem dX12_end_25 : decode cX12_end 25 = .ok (.iconst 1, 1) := by decide +kernel
theorem dX12_end_26 : decode cX12_end 26 = .ok (.ireturn, 1) := by decide +kernel
theorem bX12_end_0 {G : Gt} {d bc bs : Nat} {Q : QT} {l : Ls} {z : List Value} {h : Hp} (k : (tIld 1 (tIf (fun x => x < 0) (fun l z h => T G d bc bs mX12_end 15 l z h Q) (fun l z h => T G d bc bs mX12_end 4 l z h Q))) l z h) : T G d bc bs mX12_end 0 l z h Q := by
  refine R_iload_n dX12_end_0 rfl (fun l z h k => ?_) k
  exact R_if_lt dX12_end_1 (by decide) (fun _ _ _ k => k) (fun _ _ _ k => k) k
theorem bX12_end_4 {G : Gt} {d bc bs : Nat} {Q : QT} {l : Ls} {z : List Value} {h : Hp} (k : (tIld 1 (tAld 0 (tGetf 10 0 (tGetf 7 1 (tIf2 (fun x y => x ≤ y) (fun l z h => T G d bc bs mX12_end 17 l z h Q) (fun l z h => T G d bc bs mX12_end 15 l z h Q)))))) l z h) : T G d bc bs mX12_end 4 l z h Q := by
  refine R_iload_n dX12_end_4 rfl (fun l z h k => ?_) k
  refine R_aload_n dX12_end_5 rfl (fun l z h k => ?_) k
  refine R_getf (ci := 10) (f := 0) (C := RX12) (N := 16) (Tt := TX12) dX12_end_6 rfl i_X12 (by decide) w_485 (fun l z h k => ?_) k
  refine R_getf (ci := 7) (f := 1) (C := RX8) (N := 2) (Tt := TX8) dX12_end_9 rfl i_X8 (by decide) w_176 (fun l z h k => ?_) k
  exact R_icmp_le dX12_end_12 (by decide) (fun _ _ _ k => k) (fun _ _ _ k => k) k
theorem bX12_end_15 {G : Gt} {d bc bs : Nat} {Q : QT} {l : Ls} {z : List Value} {h : Hp} (k : (tPush (.int 0) (tRetZ Q)) l z h) : T G d bc bs mX12_end 15 l z h Q := by
  refine R_iconst dX12_end_15 (by decide) (fun l z h k => ?_) k
  exact R_zret dX12_end_16 rfl k
theorem bX12_end_17 {G : Gt} {d bc bs : Nat} {Q : QT} {l : Ls} {z : List Value} {h : Hp} (k : (tAld 0 (tGetf 10 0 (tIld 1 (tPutf isI 7 1 (tPush (.int 1) (tRetZ Q)))))) l z h) : T G d bc bs mX12_end 17 l z h Q := by
  refine R_aload_n dX12_end_17 rfl (fun l z h k => ?_) k
  refine R_getf (ci := 10) (f := 0) (C := RX12) (N := 16) (Tt := TX12) dX12_end_18 rfl i_X12 (by decide) w_485 (fun l z h k => ?_) k
  refine R_iload_n dX12_end_21 rfl (fun l z h k => ?_) k
  refine R_putf (ci := 7) (f := 1) (C := RX8) (N := 2) (Tt := TX8) tyX8 tyX8_ok nmX8 dX12_end_22 rfl i_X8 (by decide) w_176 rfl (tyX8_ok 1 (by decide)) p_int (fun l z h k => ?_) k
  refine R_iconst dX12_end_25 (by decide) (fun l z h k => ?_) k
  exact R_zret dX12_end_26 rfl k
theorem dX12_bridge_0 : decode cX12_bridge 0 = .ok (.aload_n 0, 1) := by decide +kernel
theorem dX12_bridge_1 : decode cX12_bridge 1 = .ok (.getfield 30, 3) := by decide +kernel
theorem dX12_bridge_4 : decode cX12_bridge 4 = .ok (.invokevirtual 112, 3) := by decide +kernel
theorem dX12_bridge_7 : decode cX12_bridge 7 = .ok (.istore_n 1, 1) := by decide +kernel
theorem dX12_bridge_8 : decode cX12_bridge 8 = .ok (.aload_n 0, 1) := by decide +kernel
theorem dX12_bridge_9 : decode cX12_bridge 9 = .ok (.invokevirtual 116, 3) := by decide +kernel
theorem dX12_bridge_12 : decode cX12_bridge 12 = .ok (.ifCond .eq 13, 3) := by decide +kernel
theorem dX12_bridge_15 : decode cX12_bridge 15 = .ok (.iconst (-1), 1) := by decide +kernel
theorem dX12_bridge_16 : decode cX12_bridge 16 = .ok (.aload_n 0, 1) := by decide +kernel
theorem dX12_bridge_17 : decode cX12_bridge 17 = .ok (.getfield 21, 3) := by decide +kernel
theorem dX12_bridge_20 : decode cX12_bridge 20 = .ok (.getfield 119, 3) := by decide +kernel
theorem dX12_bridge_23 : decode cX12_bridge 23 = .ok (.isub, 1) := by decide +kernel
theorem dX12_bridge_24 : decode cX12_bridge 24 = .ok (.ireturn, 1) := by decide +kernel
theorem dX12_bridge_25 : decode cX12_bridge 25 = .ok (.aload_n 0, 1) := by decide +kernel
theorem dX12_bridge_26 : decode cX12_bridge 26 = .ok (.getfield 44, 3) := by decide +kernel
theorem dX12_bridge_29 : decode cX12_bridge 29 = .ok (.aload_n 0, 1) := by decide +kernel
theorem dX12_bridge_30 : decode cX12_bridge 30 = .ok (.getfield 30, 3) := by decide +kernel
theorem dX12_bridge_33 : decode cX12_bridge 33 = .ok (.getfield 122, 3) := by decide +kernel
theorem dX12_bridge_36 : decode cX12_bridge 36 = .ok (.invokevirtual 125, 3) := by decide +kernel
theorem dX12_bridge_39 : decode cX12_bridge 39 = .ok (.aload_n 0, 1) := by decide +kernel
theorem dX12_bridge_40 : decode cX12_bridge 40 = .ok (.getfield 58, 3) := by decide +kernel
theorem dX12_bridge_43 : decode cX12_bridge 43 = .ok (.invokevirtual 129, 3) := by decide +kernel
theorem dX12_bridge_46 : decode cX12_bridge 46 = .ok (.aload_n 0, 1) := by decide +kernel
theorem dX12_bridge_47 : decode cX12_bridge 47 = .ok (.getfield 51, 3) := by decide +kernel
theorem dX12_bridge_50 : decode cX12_bridge 50 = .ok (.invokevirtual 132, 3) := by decide +kernel
theorem dX12_bridge_53 : decode cX12_bridge 53 = .ok (.iload_n 1, 1) := by decide +kernel
theorem dX12_bridge_54 : decode cX12_bridge 54 = .ok (.ireturn, 1) := by decide +kernel
theorem bX12_bridge_0 {G : Gt} {d bc bs : Nat} {Q : QT} {l : Ls} {z : List Value} {h : Hp} (k : (tAld 0 (tGetf 10 2 (tCV0 G d 0 0 1 mX2_readLines (fun l z h => T G d bc bs mX12_bridge 7 l z h Q)))) l z h) : T G d bc bs mX12_bridge 0 l z h Q := by
  refine R_aload_n dX12_bridge_0 rfl (fun l z h k => ?_) k
  refine R_getf (ci := 10) (f := 2) (C := RX12) (N := 16) (Tt := TX12) dX12_bridge_1 rfl i_X12 (by decide) w_487 (fun l z h k => ?_) k
  exact R_cv0 (M := mX12_bridge) (pc := 4) (bc := bc) (bs := bs) (cb := 0) (cs := 0) (M' := mX2_readLines) dX12_bridge_4 rfl (by decide) w_557 w_135 w_554 w_555 w_556 (by decide +kernel) (fun _ _ _ k => k) k
theorem bX12_bridge_7 {G : Gt} {d bc bs : Nat} {Q : QT} {l : Ls} {z : List Value} {h : Hp} (k : (tIst 1 (tAld 0 (tCV0 G d 0 0 10 mX12_settleText (fun l z h => T G d bc bs mX12_bridge 12 l z h Q)))) l z h) : T G d bc bs mX12_bridge 7 l z h Q := by
  refine R_istore_n dX12_bridge_7 rfl (by decide) (fun l z h k => ?_) k
  refine R_aload_n dX12_bridge_8 rfl (fun l z h k => ?_) k
  exact R_cv0 (M := mX12_bridge) (pc := 9) (bc := bc) (bs := bs) (cb := 0) (cs := 0) (M' := mX12_settleText) dX12_bridge_9 rfl (by decide) w_783 w_130 w_780 w_782 w_11 (by decide +kernel) (fun _ _ _ k => k) k
theorem bX12_bridge_12 {G : Gt} {d bc bs : Nat} {Q : QT} {l : Ls} {z : List Value} {h : Hp} (k : (tIf (fun x => x = 0) (fun l z h => T G d bc bs mX12_bridge 25 l z h Q) (fun l z h => T G d bc bs mX12_bridge 15 l z h Q)) l z h) : T G d bc bs mX12_bridge 12 l z h Q := by
  exact R_if_eq dX12_bridge_12 (by decide) (fun _ _ _ k => k) (fun _ _ _ k => k) k
theorem bX12_bridge_15 {G : Gt} {d bc bs : Nat} {Q : QT} {l : Ls} {z : List Value} {h : Hp} (k : (tPush (.int (-1)) (tAld 0 (tGetf 10 1 (tGetf 8 10 (tB (fun x y => x - y) (tRetI Q)))))) l z h) : T G d bc bs mX12_bridge 15 l z h Q := by
  refine R_iconst dX12_bridge_15 (by decide) (fun l z h k => ?_) k
  refine R_aload_n dX12_bridge_16 rfl (fun l z h k => ?_) k
  refine R_getf (ci := 10) (f := 1) (C := RX12) (N := 16) (Tt := TX12) dX12_bridge_17 rfl i_X12 (by decide) w_486 (fun l z h k => ?_) k
  refine R_getf (ci := 8) (f := 10) (C := RX9) (N := 11) (Tt := TX9) dX12_bridge_20 rfl i_X9 (by decide) w_211 (fun l z h k => ?_) k
  refine R_isub dX12_bridge_23 (fun l z h k => ?_) k
  exact R_iret dX12_bridge_24 rfl k
theorem bX12_bridge_25 {G : Gt} {d bc bs : Nat} {Q : QT} {l : Ls} {z : List Value} {h : Hp} (k : (tAld 0 (tGetf 10 4 (tAld 0 (tGetf 10 2 (tGetf 1 1 (tCV1 G d 0 0 9 mX11_copyFrom (fun l z h => T G d bc bs mX12_bridge 39 l z h Q))))))) l z h) : T G d bc bs mX12_bridge 25 l z h Q := by
  refine R_aload_n dX12_bridge_25 rfl (fun l z h k => ?_) k
  refine R_getf (ci := 10) (f := 4) (C := RX12) (N := 16) (Tt := TX12) dX12_bridge_26 rfl i_X12 (by decide) w_489 (fun l z h k => ?_) k
  refine R_aload_n dX12_bridge_29 rfl (fun l z h k => ?_) k
  refine R_getf (ci := 10) (f := 2) (C := RX12) (N := 16) (Tt := TX12) dX12_bridge_30 rfl i_X12 (by decide) w_487 (fun l z h k => ?_) k
  refine R_getf (ci := 1) (f := 1) (C := RX2) (N := 2) (Tt := TX2) dX12_bridge_33 rfl i_X2 (by decide) w_322 (fun l z h k => ?_) k
  exact R_cv1 (M := mX12_bridge) (pc := 36) (bc := bc) (bs := bs) (cb := 0) (cs := 0) (M' := mX11_copyFrom) dX12_bridge_36 rfl (by decide) w_787 w_136 w_784 w_785 w_786 (by decide +kernel) (fun _ _ _ k => k) k
theorem bX12_bridge_39 {G : Gt} {d bc bs : Nat} {Q : QT} {l : Ls} {z : List Value} {h : Hp} (k : (tAld 0 (tGetf 10 6 (tCV0 G d 0 0 6 mX7_forget (fun l z h => T G d bc bs mX12_bridge 46 l z h Q)))) l z h) : T G d bc bs mX12_bridge 39 l z h Q := by
  refine R_aload_n dX12_bridge_39 rfl (fun l z h k => ?_) k
  refine R_getf (ci := 10) (f := 6) (C := RX12) (N := 16) (Tt := TX12) dX12_bridge_40 rfl i_X12 (by decide) w_491 (fun l z h k => ?_) k
  exact R_cv0 (M := mX12_bridge) (pc := 43) (bc := bc) (bs := bs) (cb := 0) (cs := 0) (M' := mX7_forget) dX12_bridge_43 rfl (by decide) w_794 w_140 w_791 w_792 w_793 (by decide +kernel) (fun _ _ _ k => k) k
theorem bX12_bridge_46 {G : Gt} {d bc bs : Nat} {Q : QT} {l : Ls} {z : List Value} {h : Hp} (k : (tAld 0 (tGetf 10 5 (tCV0 G d 0 0 5 mX6_forget (fun l z h => T G d bc bs mX12_bridge 53 l z h Q)))) l z h) : T G d bc bs mX12_bridge 46 l z h Q := by
  refine R_aload_n dX12_bridge_46 rfl (fun l z h k => ?_) k
  refine R_getf (ci := 10) (f := 5) (C := RX12) (N := 16) (Tt := TX12) dX12_bridge_47 rfl i_X12 (by decide) w_490 (fun l z h k => ?_) k
  exact R_cv0 (M := mX12_bridge) (pc := 50) (bc := bc) (bs := bs) (cb := 0) (cs := 0) (M' := mX6_forget) dX12_bridge_50 rfl (by decide) w_798 w_139 w_795 w_796 w_797 (by decide +kernel) (fun _ _ _ k => k) k
theorem bX12_bridge_53 {G : Gt} {d bc bs : Nat} {Q : QT} {l : Ls} {z : List Value} {h : Hp} (k : (tIld 1 (tRetI Q)) l z h) : T G d bc bs mX12_bridge 53 l z h Q := by
  refine R_iload_n dX12_bridge_53 rfl (fun l z h k => ?_) k
  exact R_iret dX12_bridge_54 rfl k
theorem dX12_fault_0 : decode cX12_fault 0 = .ok (.aload_n 0, 1) := by decide +kernel
theorem dX12_fault_1 : decode cX12_fault 1 = .ok (.getfield 133, 3) := by decide +kernel
theorem dX12_fault_4 : decode cX12_fault 4 = .ok (.ireturn, 1) := by decide +kernel
theorem bX12_fault_0 {G : Gt} {d bc bs : Nat} {Q : QT} {l : Ls} {z : List Value} {h : Hp} (k : (tAld 0 (tGetf 10 15 (tRetI Q))) l z h) : T G d bc bs mX12_fault 0 l z h Q := by
  refine R_aload_n dX12_fault_0 rfl (fun l z h k => ?_) k
  refine R_getf (ci := 10) (f := 15) (C := RX12) (N := 16) (Tt := TX12) dX12_fault_1 rfl i_X12 (by decide) w_500 (fun l z h k => ?_) k
  exact R_iret dX12_fault_4 rfl k
theorem dX12_settleText_0 : decode cX12_settleText 0 = .ok (.aload_n 0, 1) := by decide +kernel
theorem dX12_settleText_1 : decode cX12_settleText 1 = .ok (.getfield 10, 3) := by decide +kernel
theorem dX12_settleText_4 : decode cX12_settleText 4 = .ok (.iconst 0, 1) := by decide +kernel
theorem dX12_settleText_5 : decode cX12_settleText 5 = .ok (.putfield 108, 3) := by decide +kernel
theorem dX12_settleText_8 : decode cX12_settleText 8 = .ok (.aload_n 0, 1) := by decide +kernel
theorem dX12_settleText_9 : decode cX12_settleText 9 = .ok (.aload_n 0, 1) := by decide +kernel
theorem dX12_settleText_10 : decode cX12_settleText 10 = .ok (.getfield 21, 3) := by decide +kernel
theorem dX12_settleText_13 : decode cX12_settleText 13 = .ok (.getfield 136, 3) := by decide +kernel
theorem dX12_settleText_16 : decode cX12_settleText 16 = .ok (.putfield 133, 3) := by decide +kernel
theorem dX12_settleText_19 : decode cX12_settleText 19 = .ok (.aload_n 0, 1) := by decide +kernel
theorem dX12_settleText_20 : decode cX12_settleText 20 = .ok (.getfield 133, 3) := by decide +kernel
theorem dX12_settleText_23 : decode cX12_settleText 23 = .ok (.ifCond .eq 7, 3) := by decide +kernel
theorem dX12_settleText_26 : decode cX12_settleText 26 = .ok (.iconst 1, 1) := by decide +kernel
theorem dX12_settleText_27 : decode cX12_settleText 27 = .ok (.goto 4, 3) := by decide +kernel
theorem dX12_settleText_30 : decode cX12_settleText 30 = .ok (.iconst 0, 1) := by decide +kernel
theorem dX12_settleText_31 : decode cX12_settleText 31 = .ok (.ireturn, 1) := by decide +kernel
theorem bX12_settleText_0 {G : Gt} {d bc bs : Nat} {Q : QT} {l : Ls} {z : List Value} {h : Hp} (k : (tAld 0 (tGetf 10 0 (tPush (.int 0) (tPutf isI 7 1 (tAld 0 (tAld 0 (tGetf 10 1 (tGetf 8 9 (tPutf isI 10 15 (tAld 0 (tGetf 10 15 (tIf (fun x => x = 0) (fun l z h => T G d bc bs mX12_settleText 30 l z h Q) (fun l z h => T G d bc bs mX12_settleText 26 l z h Q))))))))))))) l z h) : T G d bc bs mX12_settleText 0 l z h Q := by
  refine R_aload_n dX12_settleText_0 rfl (fun l z h k => ?_) k
  refine R_getf (ci := 10) (f := 0) (C := RX12) (N := 16) (Tt := TX12) dX12_settleText_1 rfl i_X12 (by decide) w_485 (fun l z h k => ?_) k
  refine R_iconst dX12_settleText_4 (by decide) (fun l z h k => ?_) k
  refine R_putf (ci := 7) (f := 1) (C := RX8) (N := 2) (Tt := TX8) tyX8 tyX8_ok nmX8 dX12_settleText_5 rfl i_X8 (by decide) w_176 rfl (tyX8_ok 1 (by decide)) p_int (fun l z h k => ?_) k
  refine R_aload_n dX12_settleText_8 rfl (fun l z h k => ?_) k
  refine R_aload_n dX12_settleText_9 rfl (fun l z h k => ?_) k
  refine R_getf (ci := 10) (f := 1) (C := RX12) (N := 16) (Tt := TX12) dX12_settleText_10 rfl i_X12 (by decide) w_486 (fun l z h k => ?_) k
  refine R_getf (ci := 8) (f := 9) (C := RX9) (N := 11) (Tt := TX9) dX12_settleText_13 rfl i_X9 (by decide) w_209 (fun l z h k => ?_) k
  refine R_putf (ci := 10) (f := 15) (C := RX12) (N := 16) (Tt := TX12) tyX12 tyX12_ok nmX12 dX12_settleText_16 rfl i_X12 (by decide) w_500 rfl (tyX12_ok 15 (by decide)) p_int (fun l z h k => ?_) k
  refine R_aload_n dX12_settleText_19 rfl (fun l z h k => ?_) k
  refine R_getf (ci := 10) (f := 15) (C := RX12) (N := 16) (Tt := TX12) dX12_settleText_20 rfl i_X12 (by decide) w_500 (fun l z h k => ?_) k
  exact R_if_eq dX12_settleText_23 (by decide) (fun _ _ _ k => k) (fun _ _ _ k => k) k
theorem bX12_settleText_26 {G : Gt} {d bc bs : Nat} {Q : QT} {l : Ls} {z : List Value} {h : Hp} (k : (tPush (.int 1) ((fun l z h => T G d bc bs mX12_settleText 31 l z h Q))) l z h) : T G d bc bs mX12_settleText 26 l z h Q := by
  refine R_iconst dX12_settleText_26 (by decide) (fun l z h k => ?_) k
  exact R_goto dX12_settleText_27 (by decide) (fun _ _ _ k => k) k
theorem bX12_settleText_30 {G : Gt} {d bc bs : Nat} {Q : QT} {l : Ls} {z : List Value} {h : Hp} (k : (tPush (.int 0) ((fun l z h => T G d bc bs mX12_settleText 31 l z h Q))) l z h) : T G d bc bs mX12_settleText 30 l z h Q := by
  refine R_iconst dX12_settleText_30 (by decide) (fun l z h k => ?_) k
  exact k
theorem bX12_settleText_31 {G : Gt} {d bc bs : Nat} {Q : QT} {l : Ls} {z : List Value} {h : Hp} (k : (tRetZ Q) l z h) : T G d bc bs mX12_settleText 31 l z h Q := by
  exact R_zret dX12_settleText_31 rfl k
theorem dX12_person_0 : decode cX12_person 0 = .ok (.aload_n 0, 1) := by decide +kernel
theorem dX12_person_1 : decode cX12_person 1 = .ok (.getfield 44, 3) := by decide +kernel
theorem dX12_person_4 : decode cX12_person 4 = .ok (.iload_n 1, 1) := by decide +kernel
theorem dX12_person_5 : decode cX12_person 5 = .ok (.invokevirtual 139, 3) := by decide +kernel
theorem dX12_person_8 : decode cX12_person 8 = .ok (.ifCond .eq 12, 3) := by decide +kernel
theorem dX12_person_11 : decode cX12_person 11 = .ok (.iload_n 2, 1) := by decide +kernel
theorem dX12_person_12 : decode cX12_person 12 = .ok (.ifCond .lt 8, 3) := by decide +kernel
theorem dX12_person_15 : decode cX12_person 15 = .ok (.iload_n 2, 1) := by decide +kernel
theorem dX12_person_16 : decode cX12_person 16 = .ok (.iconst 5, 1) := by decide +kernel
theorem dX12_person_17 : decode cX12_person 17 = .ok (.if_icmp .le 13, 3) := by decide +kernel
theorem dX12_person_20 : decode cX12_person 20 = .ok (.new 143, 3) := by decide +kernel
theorem dX12_person_23 : decode cX12_person 23 = .ok (.dup, 1) := by decide +kernel
theorem dX12_person_24 : decode cX12_person 24 = .ok (.ldc 145, 2) := by decide +kernel
theorem dX12_person_26 : decode cX12_person 26 = .ok (.invokespecial 147, 3) := by decide +kernel
theorem dX12_person_29 : decode cX12_person 29 = .ok (.athrow, 1) := by decide +kernel
theorem dX12_person_30 : decode cX12_person 30 = .ok (.iload_n 2, 1) := by decide +kernel
theorem dX12_person_31 : decode cX12_person 31 = .ok (.tableswitch 83 0 4 #[33, 43, 53, 63, 73], 33) := by decide +kernel
theorem dX12_person_64 : decode cX12_person 64 = .ok (.aload_n 0, 1) := by decide +kernel
theorem dX12_person_65 : decode cX12_person 65 = .ok (.getfield 44, 3) := by decide +kernel
theorem dX12_person_68 : decode cX12_person 68 = .ok (.getfield 150, 3) := by decide +kernel
theorem dX12_person_71 : decode cX12_person 71 = .ok (.iload_n 1, 1) := by decide +kernel
theorem dX12_person_72 : decode cX12_person 72 = .ok (.iaload, 1) := by decide +kernel
theorem dX12_person_73 : decode cX12_person 73 = .ok (.ireturn, 1) := by decide +kernel
theorem dX12_person_74 : decode cX12_person 74 = .ok (.aload_n 0, 1) := by decide +kernel
theorem dX12_person_75 : decode cX12_person 75 = .ok (.getfield 44, 3) := by decide +kernel
theorem dX12_person_78 : decode cX12_person 78 = .ok (.getfield 153, 3) := by decide +kernel
theorem dX12_person_81 : decode cX12_person 81 = .ok (.iload_n 1, 1) := by decide +kernel
theorem dX12_person_82 : decode cX12_person 82 = .ok (.iaload, 1) := by decide +kernel
theorem dX12_person_83 : decode cX12_person 83 = .ok (.ireturn, 1) := by decide +kernel
theorem dX12_person_84 : decode cX12_person 84 = .ok (.aload_n 0, 1) := by decide +kernel
theorem dX12_person_85 : decode cX12_person 85 = .ok (.getfield 44, 3) := by decide +kernel
theorem dX12_person_88 : decode cX12_person 88 = .ok (.getfield 156, 3) := by decide +kernel
theorem dX12_person_91 : decode cX12_person 91 = .ok (.iload_n 1, 1) := by decide +kernel
theorem dX12_person_92 : decode cX12_person 92 = .ok (.iaload, 1) := by decide +kernel
theorem dX12_person_93 : decode cX12_person 93 = .ok (.ireturn, 1) := by decide +kernel
theorem dX12_person_94 : decode cX12_person 94 = .ok (.aload_n 0, 1) := by decide +kernel
theorem dX12_person_95 : decode cX12_person 95 = .ok (.getfield 44, 3) := by decide +kernel
theorem dX12_person_98 : decode cX12_person 98 = .ok (.getfield 159, 3) := by decide +kernel
theorem dX12_person_101 : decode cX12_person 101 = .ok (.iload_n 1, 1) := by decide +kernel
theorem dX12_person_102 : decode cX12_person 102 = .ok (.iaload, 1) := by decide +kernel
theorem dX12_person_103 : decode cX12_person 103 = .ok (.ireturn, 1) := by decide +kernel
theorem dX12_person_104 : decode cX12_person 104 = .ok (.aload_n 0, 1) := by decide +kernel
theorem dX12_person_105 : decode cX12_person 105 = .ok (.getfield 44, 3) := by decide +kernel
theorem dX12_person_108 : decode cX12_person 108 = .ok (.getfield 162, 3) := by decide +kernel
theorem dX12_person_111 : decode cX12_person 111 = .ok (.iload_n 1, 1) := by decide +kernel
theorem dX12_person_112 : decode cX12_person 112 = .ok (.iaload, 1) := by decide +kernel
theorem dX12_person_113 : decode cX12_person 113 = .ok (.ireturn, 1) := by decide +kernel
theorem dX12_person_114 : decode cX12_person 114 = .ok (.aload_n 0, 1) := by decide +kernel
theorem dX12_person_115 : decode cX12_person 115 = .ok (.getfield 44, 3) := by decide +kernel
theorem dX12_person_118 : decode cX12_person 118 = .ok (.iload_n 1, 1) := by decide +kernel
theorem dX12_person_119 : decode cX12_person 119 = .ok (.invokevirtual 165, 3) := by decide +kernel
theorem dX12_person_122 : decode cX12_person 122 = .ok (.ireturn, 1) := by decide +kernel
theorem bX12_person_0 {G : Gt} {d bc bs : Nat} {Q : QT} {l : Ls} {z : List Value} {h : Hp} (k : (tAld 0 (tGetf 10 4 (tIld 1 (tCV1 G d 0 0 9 mX11_isPerson (fun l z h => T G d bc bs mX12_person 8 l z h Q))))) l z h) : T G d bc bs mX12_person 0 l z h Q := by
  refine R_aload_n dX12_person_0 rfl (fun l z h k => ?_) k
  refine R_getf (ci := 10) (f := 4) (C := RX12) (N := 16) (Tt := TX12) dX12_person_1 rfl i_X12 (by decide) w_489 (fun l z h k => ?_) k
  refine R_iload_n dX12_person_4 rfl (fun l z h k => ?_) k
  exact R_cv1 (M := mX12_person) (pc := 5) (bc := bc) (bs := bs) (cb := 0) (cs := 0) (M' := mX11_isPerson) dX12_person_5 rfl (by decide) w_810 w_136 w_807 w_808 w_809 (by decide +kernel) (fun _ _ _ k => k) k
theorem bX12_person_8 {G : Gt} {d bc bs : Nat} {Q : QT} {l : Ls} {z : List Value} {h : Hp} (k : (tIf (fun x => x = 0) (fun l z h => T G d bc bs mX12_person 20 l z h Q) (fun l z h => T G d bc bs mX12_person 11 l z h Q)) l z h) : T G d bc bs mX12_person 8 l z h Q := by
  exact R_if_eq dX12_person_8 (by decide) (fun _ _ _ k => k) (fun _ _ _ k => k) k
theorem bX12_person_11 {G : Gt} {d bc bs : Nat} {Q : QT} {l : Ls} {z : List Value} {h : Hp} (k : (tIld 2 (tIf (fun x => x < 0) (fun l z h => T G d bc bs mX12_person 20 l z h Q) (fun l z h => T G d bc bs mX12_person 15 l z h Q))) l z h) : T G d bc bs mX12_person 11 l z h Q := by
  refine R_iload_n dX12_person_11 rfl (fun l z h k => ?_) k
  exact R_if_lt dX12_person_12 (by decide) (fun _ _ _ k => k) (fun _ _ _ k => k) k
theorem bX12_person_15 {G : Gt} {d bc bs : Nat} {Q : QT} {l : Ls} {z : List Value} {h : Hp} (k : (tIld 2 (tPush (.int 5) (tIf2 (fun x y => x ≤ y) (fun l z h => T G d bc bs mX12_person 30 l z h Q) (fun l z h => T G d bc bs mX12_person 20 l z h Q)))) l z h) : T G d bc bs mX12_person 15 l z h Q := by
  refine R_iload_n dX12_person_15 rfl (fun l z h k => ?_) k
  refine R_iconst dX12_person_16 (by decide) (fun l z h k => ?_) k
  exact R_icmp_le dX12_person_17 (by decide) (fun _ _ _ k => k) (fun _ _ _ k => k) k
theorem bX12_person_30 {G : Gt} {d bc bs : Nat} {Q : QT} {l : Ls} {z : List Value} {h : Hp} (k : (tIld 2 (tSw 0 [64, 74, 84, 94, 104] 114 (fun t l z h => T G d bc bs mX12_person t l z h Q))) l z h) : T G d bc bs mX12_person 30 l z h Q := by
  refine R_iload_n dX12_person_30 rfl (fun l z h k => ?_) k
  exact R_table dX12_person_31 (by decide) (by decide) (by decide) (by decide) (by decide) (fun _ _ _ _ k => k) k
theorem bX12_person_64 {G : Gt} {d bc bs : Nat} {Q : QT} {l : Ls} {z : List Value} {h : Hp} (k : (tAld 0 (tGetf 10 4 (tGetf 9 8 (tIld 1 (tXald 0 (tRetI Q)))))) l z h) : T G d bc bs mX12_person 64 l z h Q := by
  refine R_aload_n dX12_person_64 rfl (fun l z h k => ?_) k
  refine R_getf (ci := 10) (f := 4) (C := RX12) (N := 16) (Tt := TX12) dX12_person_65 rfl i_X12 (by decide) w_489 (fun l z h k => ?_) k
  refine R_getf (ci := 9) (f := 8) (C := RX11) (N := 14) (Tt := TX11) dX12_person_68 rfl i_X11 (by decide) w_277 (fun l z h k => ?_) k
  refine R_iload_n dX12_person_71 rfl (fun l z h k => ?_) k
  refine R_iaload dX12_person_72 (fun l z h k => ?_) k
  exact R_iret dX12_person_73 rfl k
theorem bX12_person_74 {G : Gt} {d bc bs : Nat} {Q : QT} {l : Ls} {z : List Value} {h : Hp} (k : (tAld 0 (tGetf 10 4 (tGetf 9 7 (tIld 1 (tXald 0 (tRetI Q)))))) l z h) : T G d bc bs mX12_person 74 l z h Q := by
  refine R_aload_n dX12_person_74 rfl (fun l z h k => ?_) k
  refine R_getf (ci := 10) (f := 4) (C := RX12) (N := 16) (Tt := TX12) dX12_person_75 rfl i_X12 (by decide) w_489 (fun l z h k => ?_) k
  refine R_getf (ci := 9) (f := 7) (C := RX11) (N := 14) (Tt := TX11) dX12_person_78 rfl i_X11 (by decide) w_273 (fun l z h k => ?_) k
  refine R_iload_n dX12_person_81 rfl (fun l z h k => ?_) k
  refine R_iaload dX12_person_82 (fun l z h k => ?_) k
  exact R_iret dX12_person_83 rfl k
theorem bX12_person_84 {G : Gt} {d bc bs : Nat} {Q : QT} {l : Ls} {z : List Value} {h : Hp} (k : (tAld 0 (tGetf 10 4 (tGetf 9 9 (tIld 1 (tXald 0 (tRetI Q)))))) l z h) : T G d bc bs mX12_person 84 l z h Q := by
  refine R_aload_n dX12_person_84 rfl (fun l z h k => ?_) k
  refine R_getf (ci := 10) (f := 4) (C := RX12) (N := 16) (Tt := TX12) dX12_person_85 rfl i_X12 (by decide) w_489 (fun l z h k => ?_) k
  refine R_getf (ci := 9) (f := 9) (C := RX11) (N := 14) (Tt := TX11) dX12_person_88 rfl i_X11 (by decide) w_280 (fun l z h k => ?_) k
  refine R_iload_n dX12_person_91 rfl (fun l z h k => ?_) k
  refine R_iaload dX12_person_92 (fun l z h k => ?_) k
  exact R_iret dX12_person_93 rfl k
theorem bX12_person_94 {G : Gt} {d bc bs : Nat} {Q : QT} {l : Ls} {z : List Value} {h : Hp} (k : (tAld 0 (tGetf 10 4 (tGetf 9 11 (tIld 1 (tXald 0 (tRetI Q)))))) l z h) : T G d bc bs mX12_person 94 l z h Q := by
  refine R_aload_n dX12_person_94 rfl (fun l z h k => ?_) k
  refine R_getf (ci := 10) (f := 4) (C := RX12) (N := 16) (Tt := TX12) dX12_person_95 rfl i_X12 (by decide) w_489 (fun l z h k => ?_) k
  refine R_getf (ci := 9) (f := 11) (C := RX11) (N := 14) (Tt := TX11) dX12_person_98 rfl i_X11 (by decide) w_286 (fun l z h k => ?_) k
  refine R_iload_n dX12_person_101 rfl (fun l z h k => ?_) k
  refine R_iaload dX12_person_102 (fun l z h k => ?_) k
  exact R_iret dX12_person_103 rfl k
theorem bX12_person_104 {G : Gt} {d bc bs : Nat} {Q : QT} {l : Ls} {z : List Value} {h : Hp} (k : (tAld 0 (tGetf 10 4 (tGetf 9 10 (tIld 1 (tXald 0 (tRetI Q)))))) l z h) : T G d bc bs mX12_person 104 l z h Q := by
  refine R_aload_n dX12_person_104 rfl (fun l z h k => ?_) k
  refine R_getf (ci := 10) (f := 4) (C := RX12) (N := 16) (Tt := TX12) dX12_person_105 rfl i_X12 (by decide) w_489 (fun l z h k => ?_) k
  refine R_getf (ci := 9) (f := 10) (C := RX11) (N := 14) (Tt := TX11) dX12_person_108 rfl i_X11 (by decide) w_283 (fun l z h k => ?_) k
  refine R_iload_n dX12_person_111 rfl (fun l z h k => ?_) k
  refine R_iaload dX12_person_112 (fun l z h k => ?_) k
  exact R_iret dX12_person_113 rfl k
theorem bX12_person_114 {G : Gt} {d bc bs : Nat} {Q : QT} {l : Ls} {z : List Value} {h : Hp} (k : (tAld 0 (tGetf 10 4 (tIld 1 (tCV1 G d 0 0 9 mX11_allOf (fun l z h => T G d bc bs mX12_person 122 l z h Q))))) l z h) : T G d bc bs mX12_person 114 l z h Q := by
  refine R_aload_n dX12_person_114 rfl (fun l z h k => ?_) k
  refine R_getf (ci := 10) (f := 4) (C := RX12) (N := 16) (Tt := TX12) dX12_person_115 rfl i_X12 (by decide) w_489 (fun l z h k => ?_) k
  refine R_iload_n dX12_person_118 rfl (fun l z h k => ?_) k
  exact R_cv1 (M := mX12_person) (pc := 119) (bc := bc) (bs := bs) (cb := 0) (cs := 0) (M' := mX11_allOf) dX12_person_119 rfl (by decide) w_865 w_136 w_1460 w_863 w_864 (by decide +kernel) (fun _ _ _ k => k) k
theorem bX12_person_122 {G : Gt} {d bc bs : Nat} {Q : QT} {l : Ls} {z : List Value} {h : Hp} (k : (tRetI Q) l z h) : T G d bc bs mX12_person 122 l z h Q := by
  exact R_iret dX12_person_122 rfl k
theorem dX12_have_0 : decode cX12_have 0 = .ok (.aload_n 0, 1) := by decide +kernel
theorem dX12_have_1 : decode cX12_have 1 = .ok (.getfield 44, 3) := by decide +kernel
theorem dX12_have_4 : decode cX12_have 4 = .ok (.iload_n 1, 1) := by decide +kernel
theorem dX12_have_5 : decode cX12_have 5 = .ok (.invokevirtual 139, 3) := by decide +kernel
theorem dX12_have_8 : decode cX12_have 8 = .ok (.ifCond .eq 26, 3) := by decide +kernel
theorem dX12_have_11 : decode cX12_have 11 = .ok (.aload_n 0, 1) := by decide +kernel
theorem dX12_have_12 : decode cX12_have 12 = .ok (.getfield 44, 3) := by decide +kernel
theorem dX12_have_15 : decode cX12_have 15 = .ok (.iload_n 2, 1) := by decide +kernel
theorem dX12_have_16 : decode cX12_have 16 = .ok (.invokevirtual 169, 3) := by decide +kernel
theorem dX12_have_19 : decode cX12_have 19 = .ok (.ifCond .eq 15, 3) := by decide +kernel
theorem dX12_have_22 : decode cX12_have 22 = .ok (.aload_n 0, 1) := by decide +kernel
theorem dX12_have_23 : decode cX12_have 23 = .ok (.getfield 44, 3) := by decide +kernel
theorem dX12_have_26 : decode cX12_have 26 = .ok (.iload_n 1, 1) := by decide +kernel
theorem dX12_have_27 : decode cX12_have 27 = .ok (.iload_n 2, 1) := by decide +kernel
theorem dX12_have_28 : decode cX12_have 28 = .ok (.invokevirtual 172, 3) := by decide +kernel
theorem dX12_have_31 : decode cX12_have 31 = .ok (.goto 4, 3) := by decide +kernel
theorem dX12_have_34 : decode cX12_have 34 = .ok (.iconst (-1), 1) := by decide +kernel
theorem dX12_have_35 : decode cX12_have 35 = .ok (.ireturn, 1) := by decide +kernel
theorem bX12_have_0 {G : Gt} {d bc bs : Nat} {Q : QT} {l : Ls} {z : List Value} {h : Hp} (k : (tAld 0 (tGetf 10 4 (tIld 1 (tCV1 G d 0 0 9 mX11_isPerson (fun l z h => T G d bc bs mX12_have 8 l z h Q))))) l z h) : T G d bc bs mX12_have 0 l z h Q := by
  refine R_aload_n dX12_have_0 rfl (fun l z h k => ?_) k
  refine R_getf (ci := 10) (f := 4) (C := RX12) (N := 16) (Tt := TX12) dX12_have_1 rfl i_X12 (by decide) w_489 (fun l z h k => ?_) k
  refine R_iload_n dX12_have_4 rfl (fun l z h k => ?_) k
  exact R_cv1 (M := mX12_have) (pc := 5) (bc := bc) (bs := bs) (cb := 0) (cs := 0) (M' := mX11_isPerson) dX12_have_5 rfl (by decide) w_810 w_136 w_807 w_808 w_809 (by decide +kernel) (fun _ _ _ k => k) k
theorem bX12_have_8 {G : Gt} {d bc bs : Nat} {Q : QT} {l : Ls} {z : List Value} {h : Hp} (k : (tIf (fun x => x = 0) (fun l z h => T G d bc bs mX12_have 34 l z h Q) (fun l z h => T G d bc bs mX12_have 11 l z h Q)) l z h) : T G d bc bs mX12_have 8 l z h Q := by
  exact R_if_eq dX12_have_8 (by decide) (fun _ _ _ k => k) (fun _ _ _ k => k) k
theorem bX12_have_11 {G : Gt} {d bc bs : Nat} {Q : QT} {l : Ls} {z : List Value} {h : Hp} (k : (tAld 0 (tGetf 10 4 (tIld 2 (tCV1 G d 0 0 9 mX11_isThing (fun l z h => T G d bc bs mX12_have 19 l z h Q))))) l z h) : T G d bc bs mX12_have 11 l z h Q := by
  refine R_aload_n dX12_have_11 rfl (fun l z h k => ?_) k
  refine R_getf (ci := 10) (f := 4) (C := RX12) (N := 16) (Tt := TX12) dX12_have_12 rfl i_X12 (by decide) w_489 (fun l z h k => ?_) k
  refine R_iload_n dX12_have_15 rfl (fun l z h k => ?_) k
  exact R_cv1 (M := mX12_have) (pc := 16) (bc := bc) (bs := bs) (cb := 0) (cs := 0) (M' := mX11_isThing) dX12_have_16 rfl (by decide) w_814 w_136 w_811 w_812 w_813 (by decide +kernel) (fun _ _ _ k => k) k
theorem bX12_have_19 {G : Gt} {d bc bs : Nat} {Q : QT} {l : Ls} {z : List Value} {h : Hp} (k : (tIf (fun x => x = 0) (fun l z h => T G d bc bs mX12_have 34 l z h Q) (fun l z h => T G d bc bs mX12_have 22 l z h Q)) l z h) : T G d bc bs mX12_have 19 l z h Q := by
  exact R_if_eq dX12_have_19 (by decide) (fun _ _ _ k => k) (fun _ _ _ k => k) k
theorem bX12_have_22 {G : Gt} {d bc bs : Nat} {Q : QT} {l : Ls} {z : List Value} {h : Hp} (k : (tAld 0 (tGetf 10 4 (tIld 1 (tIld 2 (tCV2 G d 0 0 9 mX11_held (fun l z h => T G d bc bs mX12_have 31 l z h Q)))))) l z h) : T G d bc bs mX12_have 22 l z h Q := by
  refine R_aload_n dX12_have_22 rfl (fun l z h k => ?_) k
  refine R_getf (ci := 10) (f := 4) (C := RX12) (N := 16) (Tt := TX12) dX12_have_23 rfl i_X12 (by decide) w_489 (fun l z h k => ?_) k
  refine R_iload_n dX12_have_26 rfl (fun l z h k => ?_) k
  refine R_iload_n dX12_have_27 rfl (fun l z h k => ?_) k
  exact R_cv2 (M := mX12_have) (pc := 28) (bc := bc) (bs := bs) (cb := 0) (cs := 0) (M' := mX11_held) dX12_have_28 rfl (by decide) w_739 w_136 w_815 w_737 w_738 (by decide +kernel) (fun _ _ _ k => k) k
theorem bX12_have_31 {G : Gt} {d bc bs : Nat} {Q : QT} {l : Ls} {z : List Value} {h : Hp} (k : (fun l z h => T G d bc bs mX12_have 35 l z h Q) l z h) : T G d bc bs mX12_have 31 l z h Q := by
  exact R_goto dX12_have_31 (by decide) (fun _ _ _ k => k) k
theorem bX12_have_34 {G : Gt} {d bc bs : Nat} {Q : QT} {l : Ls} {z : List Value} {h : Hp} (k : (tPush (.int (-1)) ((fun l z h => T G d bc bs mX12_have 35 l z h Q))) l z h) : T G d bc bs mX12_have 34 l z h Q := by
  refine R_iconst dX12_have_34 (by decide) (fun l z h k => ?_) k
  exact k
theorem bX12_have_35 {G : Gt} {d bc bs : Nat} {Q : QT} {l : Ls} {z : List Value} {h : Hp} (k : (tRetI Q) l z h) : T G d bc bs mX12_have 35 l z h Q := by
  exact R_iret dX12_have_35 rfl k
theorem dX12_thing_0 : decode cX12_thing 0 = .ok (.aload_n 0, 1) := by decide +kernel
theorem dX12_thing_1 : decode cX12_thing 1 = .ok (.getfield 44, 3) := by decide +kernel
theorem dX12_thing_4 : decode cX12_thing 4 = .ok (.iload_n 1, 1) := by decide +kernel
theorem dX12_thing_5 : decode cX12_thing 5 = .ok (.invokevirtual 169, 3) := by decide +kernel
theorem dX12_thing_8 : decode cX12_thing 8 = .ok (.ifCond .ne 5, 3) := by decide +kernel
theorem dX12_thing_11 : decode cX12_thing 11 = .ok (.iconst (-1), 1) := by decide +kernel
theorem dX12_thing_12 : decode cX12_thing 12 = .ok (.ireturn, 1) := by decide +kernel
theorem dX12_thing_13 : decode cX12_thing 13 = .ok (.iload_n 2, 1) := by decide +kernel
theorem dX12_thing_14 : decode cX12_thing 14 = .ok (.tableswitch 55 0 2 #[26, 36, 46], 26) := by decide +kernel
theorem dX12_thing_40 : decode cX12_thing 40 = .ok (.aload_n 0, 1) := by decide +kernel
theorem dX12_thing_41 : decode cX12_thing 41 = .ok (.getfield 44, 3) := by decide +kernel
theorem dX12_thing_44 : decode cX12_thing 44 = .ok (.getfield 176, 3) := by decide +kernel
theorem dX12_thing_47 : decode cX12_thing 47 = .ok (.iload_n 1, 1) := by decide +kernel
theorem dX12_thing_48 : decode cX12_thing 48 = .ok (.iaload, 1) := by decide +kernel
theorem dX12_thing_49 : decode cX12_thing 49 = .ok (.ireturn, 1) := by decide +kernel
theorem dX12_thing_50 : decode cX12_thing 50 = .ok (.aload_n 0, 1) := by decide +kernel
theorem dX12_thing_51 : decode cX12_thing 51 = .ok (.getfield 44, 3) := by decide +kernel
theorem dX12_thing_54 : decode cX12_thing 54 = .ok (.getfield 179, 3) := by decide +kernel
theorem dX12_thing_57 : decode cX12_thing 57 = .ok (.iload_n 1, 1) := by decide +kernel
theorem dX12_thing_58 : decode cX12_thing 58 = .ok (.iaload, 1) := by decide +kernel
theorem dX12_thing_59 : decode cX12_thing 59 = .ok (.ireturn, 1) := by decide +kernel
theorem dX12_thing_60 : decode cX12_thing 60 = .ok (.aload_n 0, 1) := by decide +kernel
theorem dX12_thing_61 : decode cX12_thing 61 = .ok (.getfield 44, 3) := by decide +kernel
theorem dX12_thing_64 : decode cX12_thing 64 = .ok (.iload_n 1, 1) := by decide +kernel
theorem dX12_thing_65 : decode cX12_thing 65 = .ok (.invokevirtual 182, 3) := by decide +kernel
theorem dX12_thing_68 : decode cX12_thing 68 = .ok (.ireturn, 1) := by decide +kernel
theorem dX12_thing_69 : decode cX12_thing 69 = .ok (.iconst (-1), 1) := by decide +kernel
theorem dX12_thing_70 : decode cX12_thing 70 = .ok (.ireturn, 1) := by decide +kernel
theorem bX12_thing_0 {G : Gt} {d bc bs : Nat} {Q : QT} {l : Ls} {z : List Value} {h : Hp} (k : (tAld 0 (tGetf 10 4 (tIld 1 (tCV1 G d 0 0 9 mX11_isThing (fun l z h => T G d bc bs mX12_thing 8 l z h Q))))) l z h) : T G d bc bs mX12_thing 0 l z h Q := by
  refine R_aload_n dX12_thing_0 rfl (fun l z h k => ?_) k
  refine R_getf (ci := 10) (f := 4) (C := RX12) (N := 16) (Tt := TX12) dX12_thing_1 rfl i_X12 (by decide) w_489 (fun l z h k => ?_) k
  refine R_iload_n dX12_thing_4 rfl (fun l z h k => ?_) k
  exact R_cv1 (M := mX12_thing) (pc := 5) (bc := bc) (bs := bs) (cb := 0) (cs := 0) (M' := mX11_isThing) dX12_thing_5 rfl (by decide) w_814 w_136 w_811 w_812 w_813 (by decide +kernel) (fun _ _ _ k => k) k
theorem bX12_thing_8 {G : Gt} {d bc bs : Nat} {Q : QT} {l : Ls} {z : List Value} {h : Hp} (k : (tIf (fun x => x = 0) (fun l z h => T G d bc bs mX12_thing 11 l z h Q) (fun l z h => T G d bc bs mX12_thing 13 l z h Q)) l z h) : T G d bc bs mX12_thing 8 l z h Q := by
  exact R_if_ne dX12_thing_8 (by decide) (fun _ _ _ k => k) (fun _ _ _ k => k) k
theorem bX12_thing_11 {G : Gt} {d bc bs : Nat} {Q : QT} {l : Ls} {z : List Value} {h : Hp} (k : (tPush (.int (-1)) (tRetI Q)) l z h) : T G d bc bs mX12_thing 11 l z h Q := by
  refine R_iconst dX12_thing_11 (by decide) (fun l z h k => ?_) k
  exact R_iret dX12_thing_12 rfl k
theorem bX12_thing_13 {G : Gt} {d bc bs : Nat} {Q : QT} {l : Ls} {z : List Value} {h : Hp} (k : (tIld 2 (tSw 0 [40, 50, 60] 69 (fun t l z h => T G d bc bs mX12_thing t l z h Q))) l z h) : T G d bc bs mX12_thing 13 l z h Q := by
  refine R_iload_n dX12_thing_13 rfl (fun l z h k => ?_) k
  exact R_table dX12_thing_14 (by decide) (by decide) (by decide) (by decide) (by decide) (fun _ _ _ _ k => k) k
theorem bX12_thing_40 {G : Gt} {d bc bs : Nat} {Q : QT} {l : Ls} {z : List Value} {h : Hp} (k : (tAld 0 (tGetf 10 4 (tGetf 9 5 (tIld 1 (tXald 0 (tRetI Q)))))) l z h) : T G d bc bs mX12_thing 40 l z h Q := by
  refine R_aload_n dX12_thing_40 rfl (fun l z h k => ?_) k
  refine R_getf (ci := 10) (f := 4) (C := RX12) (N := 16) (Tt := TX12) dX12_thing_41 rfl i_X12 (by decide) w_489 (fun l z h k => ?_) k
  refine R_getf (ci := 9) (f := 5) (C := RX11) (N := 14) (Tt := TX11) dX12_thing_44 rfl i_X11 (by decide) w_268 (fun l z h k => ?_) k
  refine R_iload_n dX12_thing_47 rfl (fun l z h k => ?_) k
  refine R_iaload dX12_thing_48 (fun l z h k => ?_) k
  exact R_iret dX12_thing_49 rfl k
theorem bX12_thing_50 {G : Gt} {d bc bs : Nat} {Q : QT} {l : Ls} {z : List Value} {h : Hp} (k : (tAld 0 (tGetf 10 4 (tGetf 9 6 (tIld 1 (tXald 0 (tRetI Q)))))) l z h) : T G d bc bs mX12_thing 50 l z h Q := by
  refine R_aload_n dX12_thing_50 rfl (fun l z h k => ?_) k
  refine R_getf (ci := 10) (f := 4) (C := RX12) (N := 16) (Tt := TX12) dX12_thing_51 rfl i_X12 (by decide) w_489 (fun l z h k => ?_) k
  refine R_getf (ci := 9) (f := 6) (C := RX11) (N := 14) (Tt := TX11) dX12_thing_54 rfl i_X11 (by decide) w_270 (fun l z h k => ?_) k
  refine R_iload_n dX12_thing_57 rfl (fun l z h k => ?_) k
  refine R_iaload dX12_thing_58 (fun l z h k => ?_) k
  exact R_iret dX12_thing_59 rfl k
theorem bX12_thing_60 {G : Gt} {d bc bs : Nat} {Q : QT} {l : Ls} {z : List Value} {h : Hp} (k : (tAld 0 (tGetf 10 4 (tIld 1 (tCV1 G d 0 0 9 mX11_heldByAll (fun l z h => T G d bc bs mX12_thing 68 l z h Q))))) l z h) : T G d bc bs mX12_thing 60 l z h Q := by
  refine R_aload_n dX12_thing_60 rfl (fun l z h k => ?_) k
  refine R_getf (ci := 10) (f := 4) (C := RX12) (N := 16) (Tt := TX12) dX12_thing_61 rfl i_X12 (by decide) w_489 (fun l z h k => ?_) k
  refine R_iload_n dX12_thing_64 rfl (fun l z h k => ?_) k
  exact R_cv1 (M := mX12_thing) (pc := 65) (bc := bc) (bs := bs) (cb := 0) (cs := 0) (M' := mX11_heldByAll) dX12_thing_65 rfl (by decide) w_823 w_136 w_820 w_821 w_822 (by decide +kernel) (fun _ _ _ k => k) k
theorem bX12_thing_68 {G : Gt} {d bc bs : Nat} {Q : QT} {l : Ls} {z : List Value} {h : Hp} (k : (tRetI Q) l z h) : T G d bc bs mX12_thing 68 l z h Q := by
  exact R_iret dX12_thing_68 rfl k
theorem bX12_thing_69 {G : Gt} {d bc bs : Nat} {Q : QT} {l : Ls} {z : List Value} {h : Hp} (k : (tPush (.int (-1)) (tRetI Q)) l z h) : T G d bc bs mX12_thing 69 l z h Q := by
  refine R_iconst dX12_thing_69 (by decide) (fun l z h k => ?_) k
  exact R_iret dX12_thing_70 rfl k
theorem dX12_asks_0 : decode cX12_asks 0 = .ok (.iload_n 1, 1) := by decide +kernel
theorem dX12_asks_1 : decode cX12_asks 1 = .ok (.invokestatic 185, 3) := by decide +kernel
theorem dX12_asks_4 : decode cX12_asks 4 = .ok (.ifCond .eq 26, 3) := by decide +kernel
theorem dX12_asks_7 : decode cX12_asks 7 = .ok (.aload_n 0, 1) := by decide +kernel
theorem dX12_asks_8 : decode cX12_asks 8 = .ok (.getfield 44, 3) := by decide +kernel
theorem dX12_asks_11 : decode cX12_asks 11 = .ok (.iload_n 2, 1) := by decide +kernel
theorem dX12_asks_12 : decode cX12_asks 12 = .ok (.invokevirtual 169, 3) := by decide +kernel
theorem dX12_asks_15 : decode cX12_asks 15 = .ok (.ifCond .eq 15, 3) := by decide +kernel
theorem dX12_asks_18 : decode cX12_asks 18 = .ok (.aload_n 0, 1) := by decide +kernel
theorem dX12_asks_19 : decode cX12_asks 19 = .ok (.getfield 44, 3) := by decide +kernel
theorem dX12_asks_22 : decode cX12_asks 22 = .ok (.iload_n 1, 1) := by decide +kernel
theorem dX12_asks_23 : decode cX12_asks 23 = .ok (.iload_n 2, 1) := by decide +kernel
theorem dX12_asks_24 : decode cX12_asks 24 = .ok (.invokevirtual 188, 3) := by decide +kernel
theorem dX12_asks_27 : decode cX12_asks 27 = .ok (.goto 4, 3) := by decide +kernel
theorem dX12_asks_30 : decode cX12_asks 30 = .ok (.iconst (-1), 1) := by decide +kernel
theorem dX12_asks_31 : decode cX12_asks 31 = .ok (.ireturn, 1) := by decide +kernel
theorem bX12_asks_0 {G : Gt} {d bc bs : Nat} {Q : QT} {l : Ls} {z : List Value} {h : Hp} (k : (tIld 1 (tCS1 G d 0 0 mX12_isEnd (fun l z h => T G d bc bs mX12_asks 4 l z h Q))) l z h) : T G d bc bs mX12_asks 0 l z h Q := by
  refine R_iload_n dX12_asks_0 rfl (fun l z h k => ?_) k
  exact R_cs1 (M := mX12_asks) (pc := 1) (bc := bc) (bs := bs) (cb := 0) (cs := 0) (M' := mX12_isEnd) dX12_asks_1 (by decide) w_831 w_130 w_829 w_830 (by decide +kernel) (fun _ _ _ k => k) k
theorem bX12_asks_4 {G : Gt} {d bc bs : Nat} {Q : QT} {l : Ls} {z : List Value} {h : Hp} (k : (tIf (fun x => x = 0) (fun l z h => T G d bc bs mX12_asks 30 l z h Q) (fun l z h => T G d bc bs mX12_asks 7 l z h Q)) l z h) : T G d bc bs mX12_asks 4 l z h Q := by
  exact R_if_eq dX12_asks_4 (by decide) (fun _ _ _ k => k) (fun _ _ _ k => k) k
theorem bX12_asks_7 {G : Gt} {d bc bs : Nat} {Q : QT} {l : Ls} {z : List Value} {h : Hp} (k : (tAld 0 (tGetf 10 4 (tIld 2 (tCV1 G d 0 0 9 mX11_isThing (fun l z h => T G d bc bs mX12_asks 15 l z h Q))))) l z h) : T G d bc bs mX12_asks 7 l z h Q := by
  refine R_aload_n dX12_asks_7 rfl (fun l z h k => ?_) k
  refine R_getf (ci := 10) (f := 4) (C := RX12) (N := 16) (Tt := TX12) dX12_asks_8 rfl i_X12 (by decide) w_489 (fun l z h k => ?_) k
  refine R_iload_n dX12_asks_11 rfl (fun l z h k => ?_) k
  exact R_cv1 (M := mX12_asks) (pc := 12) (bc := bc) (bs := bs) (cb := 0) (cs := 0) (M' := mX11_isThing) dX12_asks_12 rfl (by decide) w_814 w_136 w_811 w_812 w_813 (by decide +kernel) (fun _ _ _ k => k) k
theorem bX12_asks_15 {G : Gt} {d bc bs : Nat} {Q : QT} {l : Ls} {z : List Value} {h : Hp} (k : (tIf (fun x => x = 0) (fun l z h => T G d bc bs mX12_asks 30 l z h Q) (fun l z h => T G d bc bs mX12_asks 18 l z h Q)) l z h) : T G d bc bs mX12_asks 15 l z h Q := by
  exact R_if_eq dX12_asks_15 (by decide) (fun _ _ _ k => k) (fun _ _ _ k => k) k
theorem bX12_asks_18 {G : Gt} {d bc bs : Nat} {Q : QT} {l : Ls} {z : List Value} {h : Hp} (k : (tAld 0 (tGetf 10 4 (tIld 1 (tIld 2 (tCV2 G d 0 0 9 mX11_askedAt (fun l z h => T G d bc bs mX12_asks 27 l z h Q)))))) l z h) : T G d bc bs mX12_asks 18 l z h Q := by
  refine R_aload_n dX12_asks_18 rfl (fun l z h k => ?_) k
  refine R_getf (ci := 10) (f := 4) (C := RX12) (N := 16) (Tt := TX12) dX12_asks_19 rfl i_X12 (by decide) w_489 (fun l z h k => ?_) k
  refine R_iload_n dX12_asks_22 rfl (fun l z h k => ?_) k
  refine R_iload_n dX12_asks_23 rfl (fun l z h k => ?_) k
  exact R_cv2 (M := mX12_asks) (pc := 24) (bc := bc) (bs := bs) (cb := 0) (cs := 0) (M' := mX11_askedAt) dX12_asks_24 rfl (by decide) w_753 w_136 w_832 w_751 w_752 (by decide +kernel) (fun _ _ _ k => k) k
theorem bX12_asks_27 {G : Gt} {d bc bs : Nat} {Q : QT} {l : Ls} {z : List Value} {h : Hp} (k : (fun l z h => T G d bc bs mX12_asks 31 l z h Q) l z h) : T G d bc bs mX12_asks 27 l z h Q := by
  exact R_goto dX12_asks_27 (by decide) (fun _ _ _ k => k) k
theorem bX12_asks_30 {G : Gt} {d bc bs : Nat} {Q : QT} {l : Ls} {z : List Value} {h : Hp} (k : (tPush (.int (-1)) ((fun l z h => T G d bc bs mX12_asks 31 l z h Q))) l z h) : T G d bc bs mX12_asks 30 l z h Q := by
  refine R_iconst dX12_asks_30 (by decide) (fun l z h k => ?_) k
  exact k
theorem bX12_asks_31 {G : Gt} {d bc bs : Nat} {Q : QT} {l : Ls} {z : List Value} {h : Hp} (k : (tRetI Q) l z h) : T G d bc bs mX12_asks 31 l z h Q := by
  exact R_iret dX12_asks_31 rfl k
theorem dX12_now_0 : decode cX12_now 0 = .ok (.iload_n 1, 1) := by decide +kernel
theorem dX12_now_1 : decode cX12_now 1 = .ok (.tableswitch 102 0 6 #[43, 51, 60, 69, 78, 86, 94], 43) := by decide +kernel
theorem dX12_now_44 : decode cX12_now 44 = .ok (.aload_n 0, 1) := by decide +kernel
theorem dX12_now_45 : decode cX12_now 45 = .ok (.getfield 44, 3) := by decide +kernel
theorem dX12_now_48 : decode cX12_now 48 = .ok (.getfield 191, 3) := by decide +kernel
theorem dX12_now_51 : decode cX12_now 51 = .ok (.ireturn, 1) := by decide +kernel
theorem dX12_now_52 : decode cX12_now 52 = .ok (.aload_n 0, 1) := by decide +kernel
theorem dX12_now_53 : decode cX12_now 53 = .ok (.getfield 44, 3) := by decide +kernel
theorem dX12_now_56 : decode cX12_now 56 = .ok (.iconst 0, 1) := by decide +kernel
theorem dX12_now_57 : decode cX12_now 57 = .ok (.invokevirtual 194, 3) := by decide +kernel
theorem dX12_now_60 : decode cX12_now 60 = .ok (.ireturn, 1) := by decide +kernel
theorem dX12_now_61 : decode cX12_now 61 = .ok (.aload_n 0, 1) := by decide +kernel
theorem dX12_now_62 : decode cX12_now 62 = .ok (.getfield 44, 3) := by decide +kernel
theorem dX12_now_65 : decode cX12_now 65 = .ok (.iconst 1, 1) := by decide +kernel
theorem dX12_now_66 : decode cX12_now 66 = .ok (.invokevirtual 194, 3) := by decide +kernel
theorem dX12_now_69 : decode cX12_now 69 = .ok (.ireturn, 1) := by decide +kernel
theorem dX12_now_70 : decode cX12_now 70 = .ok (.aload_n 0, 1) := by decide +kernel
theorem dX12_now_71 : decode cX12_now 71 = .ok (.getfield 44, 3) := by decide +kernel
theorem dX12_now_74 : decode cX12_now 74 = .ok (.iconst 2, 1) := by decide +kernel
theorem dX12_now_75 : decode cX12_now 75 = .ok (.invokevirtual 194, 3) := by decide +kernel
theorem dX12_now_78 : decode cX12_now 78 = .ok (.ireturn, 1) := by decide +kernel
theorem dX12_now_79 : decode cX12_now 79 = .ok (.aload_n 0, 1) := by decide +kernel
theorem dX12_now_80 : decode cX12_now 80 = .ok (.getfield 44, 3) := by decide +kernel
theorem dX12_now_83 : decode cX12_now 83 = .ok (.invokevirtual 197, 3) := by decide +kernel
theorem dX12_now_86 : decode cX12_now 86 = .ok (.ireturn, 1) := by decide +kernel
theorem dX12_now_87 : decode cX12_now 87 = .ok (.aload_n 0, 1) := by decide +kernel
theorem dX12_now_88 : decode cX12_now 88 = .ok (.getfield 44, 3) := by decide +kernel
theorem dX12_now_91 : decode cX12_now 91 = .ok (.invokevirtual 200, 3) := by decide +kernel
theorem dX12_now_94 : decode cX12_now 94 = .ok (.ireturn, 1) := by decide +kernel
theorem dX12_now_95 : decode cX12_now 95 = .ok (.aload_n 0, 1) := by decide +kernel
theorem dX12_now_96 : decode cX12_now 96 = .ok (.getfield 44, 3) := by decide +kernel
theorem dX12_now_99 : decode cX12_now 99 = .ok (.invokevirtual 203, 3) := by decide +kernel
theorem dX12_now_102 : decode cX12_now 102 = .ok (.ireturn, 1) := by decide +kernel
theorem dX12_now_103 : decode cX12_now 103 = .ok (.iconst (-1), 1) := by decide +kernel
theorem dX12_now_104 : decode cX12_now 104 = .ok (.ireturn, 1) := by decide +kernel
theorem bX12_now_0 {G : Gt} {d bc bs : Nat} {Q : QT} {l : Ls} {z : List Value} {h : Hp} (k : (tIld 1 (tSw 0 [44, 52, 61, 70, 79, 87, 95] 103 (fun t l z h => T G d bc bs mX12_now t l z h Q))) l z h) : T G d bc bs mX12_now 0 l z h Q := by
  refine R_iload_n dX12_now_0 rfl (fun l z h k => ?_) k
  exact R_table dX12_now_1 (by decide) (by decide) (by decide) (by decide) (by decide) (fun _ _ _ _ k => k) k
theorem bX12_now_44 {G : Gt} {d bc bs : Nat} {Q : QT} {l : Ls} {z : List Value} {h : Hp} (k : (tAld 0 (tGetf 10 4 (tGetf 9 2 (tRetI Q)))) l z h) : T G d bc bs mX12_now 44 l z h Q := by
  refine R_aload_n dX12_now_44 rfl (fun l z h k => ?_) k
  refine R_getf (ci := 10) (f := 4) (C := RX12) (N := 16) (Tt := TX12) dX12_now_45 rfl i_X12 (by decide) w_489 (fun l z h k => ?_) k
  refine R_getf (ci := 9) (f := 2) (C := RX11) (N := 14) (Tt := TX11) dX12_now_48 rfl i_X11 (by decide) w_262 (fun l z h k => ?_) k
  exact R_iret dX12_now_51 rfl k
theorem bX12_now_52 {G : Gt} {d bc bs : Nat} {Q : QT} {l : Ls} {z : List Value} {h : Hp} (k : (tAld 0 (tGetf 10 4 (tPush (.int 0) (tCV1 G d 0 0 9 mX11_whoIsAt (fun l z h => T G d bc bs mX12_now 60 l z h Q))))) l z h) : T G d bc bs mX12_now 52 l z h Q := by
  refine R_aload_n dX12_now_52 rfl (fun l z h k => ?_) k
  refine R_getf (ci := 10) (f := 4) (C := RX12) (N := 16) (Tt := TX12) dX12_now_53 rfl i_X12 (by decide) w_489 (fun l z h k => ?_) k
  refine R_iconst dX12_now_56 (by decide) (fun l z h k => ?_) k
  exact R_cv1 (M := mX12_now) (pc := 57) (bc := bc) (bs := bs) (cb := 0) (cs := 0) (M' := mX11_whoIsAt) dX12_now_57 rfl (by decide) w_840 w_136 w_837 w_838 w_839 (by decide +kernel) (fun _ _ _ k => k) k
theorem bX12_now_60 {G : Gt} {d bc bs : Nat} {Q : QT} {l : Ls} {z : List Value} {h : Hp} (k : (tRetI Q) l z h) : T G d bc bs mX12_now 60 l z h Q := by
  exact R_iret dX12_now_60 rfl k
theorem bX12_now_61 {G : Gt} {d bc bs : Nat} {Q : QT} {l : Ls} {z : List Value} {h : Hp} (k : (tAld 0 (tGetf 10 4 (tPush (.int 1) (tCV1 G d 0 0 9 mX11_whoIsAt (fun l z h => T G d bc bs mX12_now 69 l z h Q))))) l z h) : T G d bc bs mX12_now 61 l z h Q := by
  refine R_aload_n dX12_now_61 rfl (fun l z h k => ?_) k
  refine R_getf (ci := 10) (f := 4) (C := RX12) (N := 16) (Tt := TX12) dX12_now_62 rfl i_X12 (by decide) w_489 (fun l z h k => ?_) k
  refine R_iconst dX12_now_65 (by decide) (fun l z h k => ?_) k
  exact R_cv1 (M := mX12_now) (pc := 66) (bc := bc) (bs := bs) (cb := 0) (cs := 0) (M' := mX11_whoIsAt) dX12_now_66 rfl (by decide) w_840 w_136 w_837 w_838 w_839 (by decide +kernel) (fun _ _ _ k => k) k
theorem bX12_now_69 {G : Gt} {d bc bs : Nat} {Q : QT} {l : Ls} {z : List Value} {h : Hp} (k : (tRetI Q) l z h) : T G d bc bs mX12_now 69 l z h Q := by
  exact R_iret dX12_now_69 rfl k
theorem bX12_now_70 {G : Gt} {d bc bs : Nat} {Q : QT} {l : Ls} {z : List Value} {h : Hp} (k : (tAld 0 (tGetf 10 4 (tPush (.int 2) (tCV1 G d 0 0 9 mX11_whoIsAt (fun l z h => T G d bc bs mX12_now 78 l z h Q))))) l z h) : T G d bc bs mX12_now 70 l z h Q := by
  refine R_aload_n dX12_now_70 rfl (fun l z h k => ?_) k
  refine R_getf (ci := 10) (f := 4) (C := RX12) (N := 16) (Tt := TX12) dX12_now_71 rfl i_X12 (by decide) w_489 (fun l z h k => ?_) k
  refine R_iconst dX12_now_74 (by decide) (fun l z h k => ?_) k
  exact R_cv1 (M := mX12_now) (pc := 75) (bc := bc) (bs := bs) (cb := 0) (cs := 0) (M' := mX11_whoIsAt) dX12_now_75 rfl (by decide) w_840 w_136 w_837 w_838 w_839 (by decide +kernel) (fun _ _ _ k => k) k
theorem bX12_now_78 {G : Gt} {d bc bs : Nat} {Q : QT} {l : Ls} {z : List Value} {h : Hp} (k : (tRetI Q) l z h) : T G d bc bs mX12_now 78 l z h Q := by
  exact R_iret dX12_now_78 rfl k
theorem bX12_now_79 {G : Gt} {d bc bs : Nat} {Q : QT} {l : Ls} {z : List Value} {h : Hp} (k : (tAld 0 (tGetf 10 4 (tCV0 G d 0 0 9 mX11_whoCouldPay (fun l z h => T G d bc bs mX12_now 86 l z h Q)))) l z h) : T G d bc bs mX12_now 79 l z h Q := by
  refine R_aload_n dX12_now_79 rfl (fun l z h k => ?_) k
  refine R_getf (ci := 10) (f := 4) (C := RX12) (N := 16) (Tt := TX12) dX12_now_80 rfl i_X12 (by decide) w_489 (fun l z h k => ?_) k
  exact R_cv0 (M := mX12_now) (pc := 83) (bc := bc) (bs := bs) (cb := 0) (cs := 0) (M' := mX11_whoCouldPay) dX12_now_83 rfl (by decide) w_844 w_136 w_841 w_842 w_843 (by decide +kernel) (fun _ _ _ k => k) k
theorem bX12_now_86 {G : Gt} {d bc bs : Nat} {Q : QT} {l : Ls} {z : List Value} {h : Hp} (k : (tRetI Q) l z h) : T G d bc bs mX12_now 86 l z h Q := by
  exact R_iret dX12_now_86 rfl k
theorem bX12_now_87 {G : Gt} {d bc bs : Nat} {Q : QT} {l : Ls} {z : List Value} {h : Hp} (k : (tAld 0 (tGetf 10 4 (tCV0 G d 0 0 9 mX11_allGone (fun l z h => T G d bc bs mX12_now 94 l z h Q)))) l z h) : T G d bc bs mX12_now 87 l z h Q := by
  refine R_aload_n dX12_now_87 rfl (fun l z h k => ?_) k
  refine R_getf (ci := 10) (f := 4) (C := RX12) (N := 16) (Tt := TX12) dX12_now_88 rfl i_X12 (by decide) w_489 (fun l z h k => ?_) k
  exact R_cv0 (M := mX12_now) (pc := 91) (bc := bc) (bs := bs) (cb := 0) (cs := 0) (M' := mX11_allGone) dX12_now_91 rfl (by decide) w_857 w_136 w_854 w_855 w_856 (by decide +kernel) (fun _ _ _ k => k) k
theorem bX12_now_94 {G : Gt} {d bc bs : Nat} {Q : QT} {l : Ls} {z : List Value} {h : Hp} (k : (tRetI Q) l z h) : T G d bc bs mX12_now 94 l z h Q := by
  exact R_iret dX12_now_94 rfl k
theorem bX12_now_95 {G : Gt} {d bc bs : Nat} {Q : QT} {l : Ls} {z : List Value} {h : Hp} (k : (tAld 0 (tGetf 10 4 (tCV0 G d 0 0 9 mX11_allHeld (fun l z h => T G d bc bs mX12_now 102 l z h Q)))) l z h) : T G d bc bs mX12_now 95 l z h Q := by
  refine R_aload_n dX12_now_95 rfl (fun l z h k => ?_) k
  refine R_getf (ci := 10) (f := 4) (C := RX12) (N := 16) (Tt := TX12) dX12_now_96 rfl i_X12 (by decide) w_489 (fun l z h k => ?_) k
  exact R_cv0 (M := mX12_now) (pc := 99) (bc := bc) (bs := bs) (cb := 0) (cs := 0) (M' := mX11_allHeld) dX12_now_99 rfl (by decide) w_861 w_136 w_858 w_859 w_860 (by decide +kernel) (fun _ _ _ k => k) k
theorem bX12_now_102 {G : Gt} {d bc bs : Nat} {Q : QT} {l : Ls} {z : List Value} {h : Hp} (k : (tRetI Q) l z h) : T G d bc bs mX12_now 102 l z h Q := by
  exact R_iret dX12_now_102 rfl k
theorem bX12_now_103 {G : Gt} {d bc bs : Nat} {Q : QT} {l : Ls} {z : List Value} {h : Hp} (k : (tPush (.int (-1)) (tRetI Q)) l z h) : T G d bc bs mX12_now 103 l z h Q := by
  refine R_iconst dX12_now_103 (by decide) (fun l z h k => ?_) k
  exact R_iret dX12_now_104 rfl k
theorem dX12_count_0 : decode cX12_count 0 = .ok (.iload_n 1, 1) := by decide +kernel
theorem dX12_count_1 : decode cX12_count 1 = .ok (.tableswitch 51 0 2 #[27, 35, 43], 27) := by decide +kernel
theorem dX12_count_28 : decode cX12_count 28 = .ok (.aload_n 0, 1) := by decide +kernel
theorem dX12_count_29 : decode cX12_count 29 = .ok (.getfield 44, 3) := by decide +kernel
theorem dX12_count_32 : decode cX12_count 32 = .ok (.getfield 206, 3) := by decide +kernel
theorem dX12_count_35 : decode cX12_count 35 = .ok (.ireturn, 1) := by decide +kernel
theorem dX12_count_36 : decode cX12_count 36 = .ok (.aload_n 0, 1) := by decide +kernel
theorem dX12_count_37 : decode cX12_count 37 = .ok (.getfield 44, 3) := by decide +kernel
theorem dX12_count_40 : decode cX12_count 40 = .ok (.getfield 209, 3) := by decide +kernel
theorem dX12_count_43 : decode cX12_count 43 = .ok (.ireturn, 1) := by decide +kernel
theorem dX12_count_44 : decode cX12_count 44 = .ok (.aload_n 0, 1) := by decide +kernel
theorem dX12_count_45 : decode cX12_count 45 = .ok (.getfield 10, 3) := by decide +kernel
theorem dX12_count_48 : decode cX12_count 48 = .ok (.getfield 108, 3) := by decide +kernel
theorem dX12_count_51 : decode cX12_count 51 = .ok (.ireturn, 1) := by decide +kernel
theorem dX12_count_52 : decode cX12_count 52 = .ok (.iconst (-1), 1) := by decide +kernel
theorem dX12_count_53 : decode cX12_count 53 = .ok (.ireturn, 1) := by decide +kernel
theorem bX12_count_0 {G : Gt} {d bc bs : Nat} {Q : QT} {l : Ls} {z : List Value} {h : Hp} (k : (tIld 1 (tSw 0 [28, 36, 44] 52 (fun t l z h => T G d bc bs mX12_count t l z h Q))) l z h) : T G d bc bs mX12_count 0 l z h Q := by
  refine R_iload_n dX12_count_0 rfl (fun l z h k => ?_) k
  exact R_table dX12_count_1 (by decide) (by decide) (by decide) (by decide) (by decide) (fun _ _ _ _ k => k) k
theorem bX12_count_28 {G : Gt} {d bc bs : Nat} {Q : QT} {l : Ls} {z : List Value} {h : Hp} (k : (tAld 0 (tGetf 10 4 (tGetf 9 0 (tRetI Q)))) l z h) : T G d bc bs mX12_count 28 l z h Q := by
  refine R_aload_n dX12_count_28 rfl (fun l z h k => ?_) k
  refine R_getf (ci := 10) (f := 4) (C := RX12) (N := 16) (Tt := TX12) dX12_count_29 rfl i_X12 (by decide) w_489 (fun l z h k => ?_) k
  refine R_getf (ci := 9) (f := 0) (C := RX11) (N := 14) (Tt := TX11) dX12_count_32 rfl i_X11 (by decide) w_251 (fun l z h k => ?_) k
  exact R_iret dX12_count_35 rfl k
theorem bX12_count_36 {G : Gt} {d bc bs : Nat} {Q : QT} {l : Ls} {z : List Value} {h : Hp} (k : (tAld 0 (tGetf 10 4 (tGetf 9 1 (tRetI Q)))) l z h) : T G d bc bs mX12_count 36 l z h Q := by
  refine R_aload_n dX12_count_36 rfl (fun l z h k => ?_) k
  refine R_getf (ci := 10) (f := 4) (C := RX12) (N := 16) (Tt := TX12) dX12_count_37 rfl i_X12 (by decide) w_489 (fun l z h k => ?_) k
  refine R_getf (ci := 9) (f := 1) (C := RX11) (N := 14) (Tt := TX11) dX12_count_40 rfl i_X11 (by decide) w_258 (fun l z h k => ?_) k
  exact R_iret dX12_count_43 rfl k
theorem bX12_count_44 {G : Gt} {d bc bs : Nat} {Q : QT} {l : Ls} {z : List Value} {h : Hp} (k : (tAld 0 (tGetf 10 0 (tGetf 7 1 (tRetI Q)))) l z h) : T G d bc bs mX12_count 44 l z h Q := by
  refine R_aload_n dX12_count_44 rfl (fun l z h k => ?_) k
  refine R_getf (ci := 10) (f := 0) (C := RX12) (N := 16) (Tt := TX12) dX12_count_45 rfl i_X12 (by decide) w_485 (fun l z h k => ?_) k
  refine R_getf (ci := 7) (f := 1) (C := RX8) (N := 2) (Tt := TX8) dX12_count_48 rfl i_X8 (by decide) w_176 (fun l z h k => ?_) k
  exact R_iret dX12_count_51 rfl k
theorem bX12_count_52 {G : Gt} {d bc bs : Nat} {Q : QT} {l : Ls} {z : List Value} {h : Hp} (k : (tPush (.int (-1)) (tRetI Q)) l z h) : T G d bc bs mX12_count 52 l z h Q := by
  refine R_iconst dX12_count_52 (by decide) (fun l z h k => ?_) k
  exact R_iret dX12_count_53 rfl k
theorem dX12_go_0 : decode cX12_go 0 = .ok (.aload_n 0, 1) := by decide +kernel
theorem dX12_go_1 : decode cX12_go 1 = .ok (.getfield 44, 3) := by decide +kernel
theorem dX12_go_4 : decode cX12_go 4 = .ok (.iload_n 1, 1) := by decide +kernel
theorem dX12_go_5 : decode cX12_go 5 = .ok (.invokevirtual 139, 3) := by decide +kernel
theorem dX12_go_8 : decode cX12_go 8 = .ok (.ifCond .eq 12, 3) := by decide +kernel
theorem dX12_go_11 : decode cX12_go 11 = .ok (.iload_n 2, 1) := by decide +kernel
theorem dX12_go_12 : decode cX12_go 12 = .ok (.ifCond .lt 8, 3) := by decide +kernel
theorem dX12_go_15 : decode cX12_go 15 = .ok (.iload_n 2, 1) := by decide +kernel
theorem dX12_go_16 : decode cX12_go 16 = .ok (.iconst 3, 1) := by decide +kernel
theorem dX12_go_17 : decode cX12_go 17 = .ok (.if_icmp .lt 5, 3) := by decide +kernel
theorem dX12_go_20 : decode cX12_go 20 = .ok (.iconst (-1), 1) := by decide +kernel
theorem dX12_go_21 : decode cX12_go 21 = .ok (.ireturn, 1) := by decide +kernel
theorem dX12_go_22 : decode cX12_go 22 = .ok (.aload_n 0, 1) := by decide +kernel
theorem dX12_go_23 : decode cX12_go 23 = .ok (.getfield 51, 3) := by decide +kernel
theorem dX12_go_26 : decode cX12_go 26 = .ok (.aload_n 0, 1) := by decide +kernel
theorem dX12_go_27 : decode cX12_go 27 = .ok (.getfield 44, 3) := by decide +kernel
theorem dX12_go_30 : decode cX12_go 30 = .ok (.invokevirtual 212, 3) := by decide +kernel
theorem dX12_go_33 : decode cX12_go 33 = .ok (.aload_n 0, 1) := by decide +kernel
theorem dX12_go_34 : decode cX12_go 34 = .ok (.aload_n 0, 1) := by decide +kernel
theorem dX12_go_35 : decode cX12_go 35 = .ok (.getfield 44, 3) := by decide +kernel
theorem dX12_go_38 : decode cX12_go 38 = .ok (.iload_n 1, 1) := by decide +kernel
theorem dX12_go_39 : decode cX12_go 39 = .ok (.iload_n 2, 1) := by decide +kernel
theorem dX12_go_40 : decode cX12_go 40 = .ok (.invokevirtual 215, 3) := by decide +kernel
theorem dX12_go_43 : decode cX12_go 43 = .ok (.invokevirtual 218, 3) := by decide +kernel
theorem dX12_go_46 : decode cX12_go 46 = .ok (.ireturn, 1) := by decide +kernel
theorem bX12_go_0 {G : Gt} {d bc bs : Nat} {Q : QT} {l : Ls} {z : List Value} {h : Hp} (k : (tAld 0 (tGetf 10 4 (tIld 1 (tCV1 G d 0 0 9 mX11_isPerson (fun l z h => T G d bc bs mX12_go 8 l z h Q))))) l z h) : T G d bc bs mX12_go 0 l z h Q := by
  refine R_aload_n dX12_go_0 rfl (fun l z h k => ?_) k
  refine R_getf (ci := 10) (f := 4) (C := RX12) (N := 16) (Tt := TX12) dX12_go_1 rfl i_X12 (by decide) w_489 (fun l z h k => ?_) k
  refine R_iload_n dX12_go_4 rfl (fun l z h k => ?_) k
  exact R_cv1 (M := mX12_go) (pc := 5) (bc := bc) (bs := bs) (cb := 0) (cs := 0) (M' := mX11_isPerson) dX12_go_5 rfl (by decide) w_810 w_136 w_807 w_808 w_809 (by decide +kernel) (fun _ _ _ k => k) k
theorem bX12_go_8 {G : Gt} {d bc bs : Nat} {Q : QT} {l : Ls} {z : List Value} {h : Hp} (k : (tIf (fun x => x = 0) (fun l z h => T G d bc bs mX12_go 20 l z h Q) (fun l z h => T G d bc bs mX12_go 11 l z h Q)) l z h) : T G d bc bs mX12_go 8 l z h Q := by
  exact R_if_eq dX12_go_8 (by decide) (fun _ _ _ k => k) (fun _ _ _ k => k) k
theorem bX12_go_11 {G : Gt} {d bc bs : Nat} {Q : QT} {l : Ls} {z : List Value} {h : Hp} (k : (tIld 2 (tIf (fun x => x < 0) (fun l z h => T G d bc bs mX12_go 20 l z h Q) (fun l z h => T G d bc bs mX12_go 15 l z h Q))) l z h) : T G d bc bs mX12_go 11 l z h Q := by
  refine R_iload_n dX12_go_11 rfl (fun l z h k => ?_) k
  exact R_if_lt dX12_go_12 (by decide) (fun _ _ _ k => k) (fun _ _ _ k => k) k
theorem bX12_go_15 {G : Gt} {d bc bs : Nat} {Q : QT} {l : Ls} {z : List Value} {h : Hp} (k : (tIld 2 (tPush (.int 3) (tIf2 (fun x y => x < y) (fun l z h => T G d bc bs mX12_go 22 l z h Q) (fun l z h => T G d bc bs mX12_go 20 l z h Q)))) l z h) : T G d bc bs mX12_go 15 l z h Q := by
  refine R_iload_n dX12_go_15 rfl (fun l z h k => ?_) k
  refine R_iconst dX12_go_16 (by decide) (fun l z h k => ?_) k
  exact R_icmp_lt dX12_go_17 (by decide) (fun _ _ _ k => k) (fun _ _ _ k => k) k
theorem bX12_go_20 {G : Gt} {d bc bs : Nat} {Q : QT} {l : Ls} {z : List Value} {h : Hp} (k : (tPush (.int (-1)) (tRetI Q)) l z h) : T G d bc bs mX12_go 20 l z h Q := by
  refine R_iconst dX12_go_20 (by decide) (fun l z h k => ?_) k
  exact R_iret dX12_go_21 rfl k
theorem bX12_go_22 {G : Gt} {d bc bs : Nat} {Q : QT} {l : Ls} {z : List Value} {h : Hp} (k : (tAld 0 (tGetf 10 5 (tAld 0 (tGetf 10 4 (tCV1 G d 0 0 5 mX6_sketch (fun l z h => T G d bc bs mX12_go 33 l z h Q)))))) l z h) : T G d bc bs mX12_go 22 l z h Q := by
  refine R_aload_n dX12_go_22 rfl (fun l z h k => ?_) k
  refine R_getf (ci := 10) (f := 5) (C := RX12) (N := 16) (Tt := TX12) dX12_go_23 rfl i_X12 (by decide) w_490 (fun l z h k => ?_) k
  refine R_aload_n dX12_go_26 rfl (fun l z h k => ?_) k
  refine R_getf (ci := 10) (f := 4) (C := RX12) (N := 16) (Tt := TX12) dX12_go_27 rfl i_X12 (by decide) w_489 (fun l z h k => ?_) k
  exact R_cv1 (M := mX12_go) (pc := 30) (bc := bc) (bs := bs) (cb := 0) (cs := 0) (M' := mX6_sketch) dX12_go_30 rfl (by decide) w_877 w_139 w_874 w_875 w_876 (by decide +kernel) (fun _ _ _ k => k) k
theorem bX12_go_33 {G : Gt} {d bc bs : Nat} {Q : QT} {l : Ls} {z : List Value} {h : Hp} (k : (tAld 0 (tAld 0 (tGetf 10 4 (tIld 1 (tIld 2 (tCV2 G d 0 0 9 mX11_walk (fun l z h => T G d bc bs mX12_go 43 l z h Q))))))) l z h) : T G d bc bs mX12_go 33 l z h Q := by
  refine R_aload_n dX12_go_33 rfl (fun l z h k => ?_) k
  refine R_aload_n dX12_go_34 rfl (fun l z h k => ?_) k
  refine R_getf (ci := 10) (f := 4) (C := RX12) (N := 16) (Tt := TX12) dX12_go_35 rfl i_X12 (by decide) w_489 (fun l z h k => ?_) k
  refine R_iload_n dX12_go_38 rfl (fun l z h k => ?_) k
  refine R_iload_n dX12_go_39 rfl (fun l z h k => ?_) k
  exact R_cv2 (M := mX12_go) (pc := 40) (bc := bc) (bs := bs) (cb := 0) (cs := 0) (M' := mX11_walk) dX12_go_40 rfl (by decide) w_882 w_136 w_879 w_880 w_881 (by decide +kernel) (fun _ _ _ k => k) k
theorem bX12_go_43 {G : Gt} {d bc bs : Nat} {Q : QT} {l : Ls} {z : List Value} {h : Hp} (k : (tCV1 G d 0 0 10 mX12_keptUnlessRefused (fun l z h => T G d bc bs mX12_go 46 l z h Q)) l z h) : T G d bc bs mX12_go 43 l z h Q := by
  exact R_cv1 (M := mX12_go) (pc := 43) (bc := bc) (bs := bs) (cb := 0) (cs := 0) (M' := mX12_keptUnlessRefused) dX12_go_43 rfl (by decide) w_892 w_130 w_889 w_891 w_12 (by decide +kernel) (fun _ _ _ k => k) k
theorem bX12_go_46 {G : Gt} {d bc bs : Nat} {Q : QT} {l : Ls} {z : List Value} {h : Hp} (k : (tRetI Q) l z h) : T G d bc bs mX12_go 46 l z h Q := by
  exact R_iret dX12_go_46 rfl k
theorem dX12_join_0 : decode cX12_join 0 = .ok (.aload_n 0, 1) := by decide +kernel
theorem dX12_join_1 : decode cX12_join 1 = .ok (.getfield 44, 3) := by decide +kernel
theorem dX12_join_4 : decode cX12_join 4 = .ok (.iload_n 1, 1) := by decide +kernel
theorem dX12_join_5 : decode cX12_join 5 = .ok (.invokevirtual 139, 3) := by decide +kernel
theorem dX12_join_8 : decode cX12_join 8 = .ok (.ifCond .eq 14, 3) := by decide +kernel
theorem dX12_join_11 : decode cX12_join 11 = .ok (.aload_n 0, 1) := by decide +kernel
theorem dX12_join_12 : decode cX12_join 12 = .ok (.getfield 44, 3) := by decide +kernel
theorem dX12_join_15 : decode cX12_join 15 = .ok (.iload_n 2, 1) := by decide +kernel
theorem dX12_join_16 : decode cX12_join 16 = .ok (.invokevirtual 139, 3) := by decide +kernel
theorem dX12_join_19 : decode cX12_join 19 = .ok (.ifCond .ne 5, 3) := by decide +kernel
theorem dX12_join_22 : decode cX12_join 22 = .ok (.iconst (-1), 1) := by decide +kernel
theorem dX12_join_23 : decode cX12_join 23 = .ok (.ireturn, 1) := by decide +kernel
theorem dX12_join_24 : decode cX12_join 24 = .ok (.aload_n 0, 1) := by decide +kernel
theorem dX12_join_25 : decode cX12_join 25 = .ok (.getfield 51, 3) := by decide +kernel
theorem dX12_join_28 : decode cX12_join 28 = .ok (.aload_n 0, 1) := by decide +kernel
theorem dX12_join_29 : decode cX12_join 29 = .ok (.getfield 44, 3) := by decide +kernel
theorem dX12_join_32 : decode cX12_join 32 = .ok (.invokevirtual 212, 3) := by decide +kernel
theorem dX12_join_35 : decode cX12_join 35 = .ok (.aload_n 0, 1) := by decide +kernel
theorem dX12_join_36 : decode cX12_join 36 = .ok (.aload_n 0, 1) := by decide +kernel
theorem dX12_join_37 : decode cX12_join 37 = .ok (.getfield 44, 3) := by decide +kernel
theorem dX12_join_40 : decode cX12_join 40 = .ok (.iload_n 1, 1) := by decide +kernel
theorem dX12_join_41 : decode cX12_join 41 = .ok (.iload_n 2, 1) := by decide +kernel
theorem dX12_join_42 : decode cX12_join 42 = .ok (.invokevirtual 221, 3) := by decide +kernel
theorem dX12_join_45 : decode cX12_join 45 = .ok (.invokevirtual 218, 3) := by decide +kernel
theorem dX12_join_48 : decode cX12_join 48 = .ok (.ireturn, 1) := by decide +kernel
theorem bX12_join_0 {G : Gt} {d bc bs : Nat} {Q : QT} {l : Ls} {z : List Value} {h : Hp} (k : (tAld 0 (tGetf 10 4 (tIld 1 (tCV1 G d 0 0 9 mX11_isPerson (fun l z h => T G d bc bs mX12_join 8 l z h Q))))) l z h) : T G d bc bs mX12_join 0 l z h Q := by
  refine R_aload_n dX12_join_0 rfl (fun l z h k => ?_) k
  refine R_getf (ci := 10) (f := 4) (C := RX12) (N := 16) (Tt := TX12) dX12_join_1 rfl i_X12 (by decide) w_489 (fun l z h k => ?_) k
  refine R_iload_n dX12_join_4 rfl (fun l z h k => ?_) k
  exact R_cv1 (M := mX12_join) (pc := 5) (bc := bc) (bs := bs) (cb := 0) (cs := 0) (M' := mX11_isPerson) dX12_join_5 rfl (by decide) w_810 w_136 w_807 w_808 w_809 (by decide +kernel) (fun _ _ _ k => k) k
theorem bX12_join_8 {G : Gt} {d bc bs : Nat} {Q : QT} {l : Ls} {z : List Value} {h : Hp} (k : (tIf (fun x => x = 0) (fun l z h => T G d bc bs mX12_join 22 l z h Q) (fun l z h => T G d bc bs mX12_join 11 l z h Q)) l z h) : T G d bc bs mX12_join 8 l z h Q := by
  exact R_if_eq dX12_join_8 (by decide) (fun _ _ _ k => k) (fun _ _ _ k => k) k
theorem bX12_join_11 {G : Gt} {d bc bs : Nat} {Q : QT} {l : Ls} {z : List Value} {h : Hp} (k : (tAld 0 (tGetf 10 4 (tIld 2 (tCV1 G d 0 0 9 mX11_isPerson (fun l z h => T G d bc bs mX12_join 19 l z h Q))))) l z h) : T G d bc bs mX12_join 11 l z h Q := by
  refine R_aload_n dX12_join_11 rfl (fun l z h k => ?_) k
  refine R_getf (ci := 10) (f := 4) (C := RX12) (N := 16) (Tt := TX12) dX12_join_12 rfl i_X12 (by decide) w_489 (fun l z h k => ?_) k
  refine R_iload_n dX12_join_15 rfl (fun l z h k => ?_) k
  exact R_cv1 (M := mX12_join) (pc := 16) (bc := bc) (bs := bs) (cb := 0) (cs := 0) (M' := mX11_isPerson) dX12_join_16 rfl (by decide) w_810 w_136 w_807 w_808 w_809 (by decide +kernel) (fun _ _ _ k => k) k
theorem bX12_join_19 {G : Gt} {d bc bs : Nat} {Q : QT} {l : Ls} {z : List Value} {h : Hp} (k : (tIf (fun x => x = 0) (fun l z h => T G d bc bs mX12_join 22 l z h Q) (fun l z h => T G d bc bs mX12_join 24 l z h Q)) l z h) : T G d bc bs mX12_join 19 l z h Q := by
  exact R_if_ne dX12_join_19 (by decide) (fun _ _ _ k => k) (fun _ _ _ k => k) k
theorem bX12_join_22 {G : Gt} {d bc bs : Nat} {Q : QT} {l : Ls} {z : List Value} {h : Hp} (k : (tPush (.int (-1)) (tRetI Q)) l z h) : T G d bc bs mX12_join 22 l z h Q := by
  refine R_iconst dX12_join_22 (by decide) (fun l z h k => ?_) k
  exact R_iret dX12_join_23 rfl k
theorem bX12_join_24 {G : Gt} {d bc bs : Nat} {Q : QT} {l : Ls} {z : List Value} {h : Hp} (k : (tAld 0 (tGetf 10 5 (tAld 0 (tGetf 10 4 (tCV1 G d 0 0 5 mX6_sketch (fun l z h => T G d bc bs mX12_join 35 l z h Q)))))) l z h) : T G d bc bs mX12_join 24 l z h Q := by
  refine R_aload_n dX12_join_24 rfl (fun l z h k => ?_) k
  refine R_getf (ci := 10) (f := 5) (C := RX12) (N := 16) (Tt := TX12) dX12_join_25 rfl i_X12 (by decide) w_490 (fun l z h k => ?_) k
  refine R_aload_n dX12_join_28 rfl (fun l z h k => ?_) k
  refine R_getf (ci := 10) (f := 4) (C := RX12) (N := 16) (Tt := TX12) dX12_join_29 rfl i_X12 (by decide) w_489 (fun l z h k => ?_) k
  exact R_cv1 (M := mX12_join) (pc := 32) (bc := bc) (bs := bs) (cb := 0) (cs := 0) (M' := mX6_sketch) dX12_join_32 rfl (by decide) w_877 w_139 w_874 w_875 w_876 (by decide +kernel) (fun _ _ _ k => k) k
theorem bX12_join_35 {G : Gt} {d bc bs : Nat} {Q : QT} {l : Ls} {z : List Value} {h : Hp} (k : (tAld 0 (tAld 0 (tGetf 10 4 (tIld 1 (tIld 2 (tCV2 G d 0 0 9 mX11_pair (fun l z h => T G d bc bs mX12_join 45 l z h Q))))))) l z h) : T G d bc bs mX12_join 35 l z h Q := by
  refine R_aload_n dX12_join_35 rfl (fun l z h k => ?_) k
  refine R_aload_n dX12_join_36 rfl (fun l z h k => ?_) k
  refine R_getf (ci := 10) (f := 4) (C := RX12) (N := 16) (Tt := TX12) dX12_join_37 rfl i_X12 (by decide) w_489 (fun l z h k => ?_) k
  refine R_iload_n dX12_join_40 rfl (fun l z h k => ?_) k
  refine R_iload_n dX12_join_41 rfl (fun l z h k => ?_) k
  exact R_cv2 (M := mX12_join) (pc := 42) (bc := bc) (bs := bs) (cb := 0) (cs := 0) (M' := mX11_pair) dX12_join_42 rfl (by decide) w_771 w_136 w_904 w_769 w_770 (by decide +kernel) (fun _ _ _ k => k) k
theorem bX12_join_45 {G : Gt} {d bc bs : Nat} {Q : QT} {l : Ls} {z : List Value} {h : Hp} (k : (tCV1 G d 0 0 10 mX12_keptUnlessRefused (fun l z h => T G d bc bs mX12_join 48 l z h Q)) l z h) : T G d bc bs mX12_join 45 l z h Q := by
  exact R_cv1 (M := mX12_join) (pc := 45) (bc := bc) (bs := bs) (cb := 0) (cs := 0) (M' := mX12_keptUnlessRefused) dX12_join_45 rfl (by decide) w_892 w_130 w_889 w_891 w_12 (by decide +kernel) (fun _ _ _ k => k) k
theorem bX12_join_48 {G : Gt} {d bc bs : Nat} {Q : QT} {l : Ls} {z : List Value} {h : Hp} (k : (tRetI Q) l z h) : T G d bc bs mX12_join 48 l z h Q := by
  exact R_iret dX12_join_48 rfl k
theorem dX12_part_0 : decode cX12_part 0 = .ok (.aload_n 0, 1) := by decide +kernel
theorem dX12_part_1 : decode cX12_part 1 = .ok (.getfield 44, 3) := by decide +kernel
theorem dX12_part_4 : decode cX12_part 4 = .ok (.iload_n 1, 1) := by decide +kernel
theorem dX12_part_5 : decode cX12_part 5 = .ok (.invokevirtual 139, 3) := by decide +kernel
theorem dX12_part_8 : decode cX12_part 8 = .ok (.ifCond .ne 5, 3) := by decide +kernel
theorem dX12_part_11 : decode cX12_part 11 = .ok (.iconst (-1), 1) := by decide +kernel
theorem dX12_part_12 : decode cX12_part 12 = .ok (.ireturn, 1) := by decide +kernel
theorem dX12_part_13 : decode cX12_part 13 = .ok (.aload_n 0, 1) := by decide +kernel
theorem dX12_part_14 : decode cX12_part 14 = .ok (.getfield 51, 3) := by decide +kernel
theorem dX12_part_17 : decode cX12_part 17 = .ok (.aload_n 0, 1) := by decide +kernel
theorem dX12_part_18 : decode cX12_part 18 = .ok (.getfield 44, 3) := by decide +kernel
theorem dX12_part_21 : decode cX12_part 21 = .ok (.invokevirtual 212, 3) := by decide +kernel
theorem dX12_part_24 : decode cX12_part 24 = .ok (.aload_n 0, 1) := by decide +kernel
theorem dX12_part_25 : decode cX12_part 25 = .ok (.aload_n 0, 1) := by decide +kernel
theorem dX12_part_26 : decode cX12_part 26 = .ok (.getfield 44, 3) := by decide +kernel
theorem dX12_part_29 : decode cX12_part 29 = .ok (.iload_n 1, 1) := by decide +kernel
theorem dX12_part_30 : decode cX12_part 30 = .ok (.invokevirtual 224, 3) := by decide +kernel
theorem dX12_part_33 : decode cX12_part 33 = .ok (.invokevirtual 218, 3) := by decide +kernel
theorem dX12_part_36 : decode cX12_part 36 = .ok (.ireturn, 1) := by decide +kernel
theorem bX12_part_0 {G : Gt} {d bc bs : Nat} {Q : QT} {l : Ls} {z : List Value} {h : Hp} (k : (tAld 0 (tGetf 10 4 (tIld 1 (tCV1 G d 0 0 9 mX11_isPerson (fun l z h => T G d bc bs mX12_part 8 l z h Q))))) l z h) : T G d bc bs mX12_part 0 l z h Q := by
  refine R_aload_n dX12_part_0 rfl (fun l z h k => ?_) k
  refine R_getf (ci := 10) (f := 4) (C := RX12) (N := 16) (Tt := TX12) dX12_part_1 rfl i_X12 (by decide) w_489 (fun l z h k => ?_) k
  refine R_iload_n dX12_part_4 rfl (fun l z h k => ?_) k
  exact R_cv1 (M := mX12_part) (pc := 5) (bc := bc) (bs := bs) (cb := 0) (cs := 0) (M' := mX11_isPerson) dX12_part_5 rfl (by decide) w_810 w_136 w_807 w_808 w_809 (by decide +kernel) (fun _ _ _ k => k) k
theorem bX12_part_8 {G : Gt} {d bc bs : Nat} {Q : QT} {l : Ls} {z : List Value} {h : Hp} (k : (tIf (fun x => x = 0) (fun l z h => T G d bc bs mX12_part 11 l z h Q) (fun l z h => T G d bc bs mX12_part 13 l z h Q)) l z h) : T G d bc bs mX12_part 8 l z h Q := by
  exact R_if_ne dX12_part_8 (by decide) (fun _ _ _ k => k) (fun _ _ _ k => k) k
theorem bX12_part_11 {G : Gt} {d bc bs : Nat} {Q : QT} {l : Ls} {z : List Value} {h : Hp} (k : (tPush (.int (-1)) (tRetI Q)) l z h) : T G d bc bs mX12_part 11 l z h Q := by
  refine R_iconst dX12_part_11 (by decide) (fun l z h k => ?_) k
  exact R_iret dX12_part_12 rfl k
theorem bX12_part_13 {G : Gt} {d bc bs : Nat} {Q : QT} {l : Ls} {z : List Value} {h : Hp} (k : (tAld 0 (tGetf 10 5 (tAld 0 (tGetf 10 4 (tCV1 G d 0 0 5 mX6_sketch (fun l z h => T G d bc bs mX12_part 24 l z h Q)))))) l z h) : T G d bc bs mX12_part 13 l z h Q := by
  refine R_aload_n dX12_part_13 rfl (fun l z h k => ?_) k
  refine R_getf (ci := 10) (f := 5) (C := RX12) (N := 16) (Tt := TX12) dX12_part_14 rfl i_X12 (by decide) w_490 (fun l z h k => ?_) k
  refine R_aload_n dX12_part_17 rfl (fun l z h k => ?_) k
  refine R_getf (ci := 10) (f := 4) (C := RX12) (N := 16) (Tt := TX12) dX12_part_18 rfl i_X12 (by decide) w_489 (fun l z h k => ?_) k
  exact R_cv1 (M := mX12_part) (pc := 21) (bc := bc) (bs := bs) (cb := 0) (cs := 0) (M' := mX6_sketch) dX12_part_21 rfl (by decide) w_877 w_139 w_874 w_875 w_876 (by decide +kernel) (fun _ _ _ k => k) k
theorem bX12_part_24 {G : Gt} {d bc bs : Nat} {Q : QT} {l : Ls} {z : List Value} {h : Hp} (k : (tAld 0 (tAld 0 (tGetf 10 4 (tIld 1 (tCV1 G d 0 0 9 mX11_unpair (fun l z h => T G d bc bs mX12_part 33 l z h Q)))))) l z h) : T G d bc bs mX12_part 24 l z h Q := by
  refine R_aload_n dX12_part_24 rfl (fun l z h k => ?_) k
  refine R_aload_n dX12_part_25 rfl (fun l z h k => ?_) k
  refine R_getf (ci := 10) (f := 4) (C := RX12) (N := 16) (Tt := TX12) dX12_part_26 rfl i_X12 (by decide) w_489 (fun l z h k => ?_) k
  refine R_iload_n dX12_part_29 rfl (fun l z h k => ?_) k
  exact R_cv1 (M := mX12_part) (pc := 30) (bc := bc) (bs := bs) (cb := 0) (cs := 0) (M' := mX11_unpair) dX12_part_30 rfl (by decide) w_912 w_136 w_909 w_910 w_911 (by decide +kernel) (fun _ _ _ k => k) k
theorem bX12_part_33 {G : Gt} {d bc bs : Nat} {Q : QT} {l : Ls} {z : List Value} {h : Hp} (k : (tCV1 G d 0 0 10 mX12_keptUnlessRefused (fun l z h => T G d bc bs mX12_part 36 l z h Q)) l z h) : T G d bc bs mX12_part 33 l z h Q := by
  exact R_cv1 (M := mX12_part) (pc := 33) (bc := bc) (bs := bs) (cb := 0) (cs := 0) (M' := mX12_keptUnlessRefused) dX12_part_33 rfl (by decide) w_892 w_130 w_889 w_891 w_12 (by decide +kernel) (fun _ _ _ k => k) k
theorem bX12_part_36 {G : Gt} {d bc bs : Nat} {Q : QT} {l : Ls} {z : List Value} {h : Hp} (k : (tRetI Q) l z h) : T G d bc bs mX12_part 36 l z h Q := by
  exact R_iret dX12_part_36 rfl k
theorem dX12_trade_0 : decode cX12_trade 0 = .ok (.aload_n 0, 1) := by decide +kernel
theorem dX12_trade_1 : decode cX12_trade 1 = .ok (.getfield 44, 3) := by decide +kernel
theorem dX12_trade_4 : decode cX12_trade 4 = .ok (.iload_n 1, 1) := by decide +kernel
theorem dX12_trade_5 : decode cX12_trade 5 = .ok (.invokevirtual 139, 3) := by decide +kernel
theorem dX12_trade_8 : decode cX12_trade 8 = .ok (.ifCond .eq 37, 3) := by decide +kernel
theorem dX12_trade_11 : decode cX12_trade 11 = .ok (.aload_n 0, 1) := by decide +kernel
theorem dX12_trade_12 : decode cX12_trade 12 = .ok (.getfield 44, 3) := by decide +kernel
theorem dX12_trade_15 : decode cX12_trade 15 = .ok (.iload_n 2, 1) := by decide +kernel
theorem dX12_trade_16 : decode cX12_trade 16 = .ok (.invokevirtual 169, 3) := by decide +kernel
theorem dX12_trade_19 : decode cX12_trade 19 = .ok (.ifCond .eq 26, 3) := by decide +kernel
theorem dX12_trade_22 : decode cX12_trade 22 = .ok (.aload_n 0, 1) := by decide +kernel
theorem dX12_trade_23 : decode cX12_trade 23 = .ok (.getfield 44, 3) := by decide +kernel
theorem dX12_trade_26 : decode cX12_trade 26 = .ok (.iload_n 3, 1) := by decide +kernel
theorem dX12_trade_27 : decode cX12_trade 27 = .ok (.invokevirtual 139, 3) := by decide +kernel
theorem dX12_trade_30 : decode cX12_trade 30 = .ok (.ifCond .eq 15, 3) := by decide +kernel
theorem dX12_trade_33 : decode cX12_trade 33 = .ok (.aload_n 0, 1) := by decide +kernel
theorem dX12_trade_34 : decode cX12_trade 34 = .ok (.getfield 44, 3) := by decide +kernel
theorem dX12_trade_37 : decode cX12_trade 37 = .ok (.iload 4, 2) := by decide +kernel
theorem dX12_trade_39 : decode cX12_trade 39 = .ok (.invokevirtual 169, 3) := by decide +kernel
theorem dX12_trade_42 : decode cX12_trade 42 = .ok (.ifCond .ne 5, 3) := by decide +kernel
theorem dX12_trade_45 : decode cX12_trade 45 = .ok (.iconst (-1), 1) := by decide +kernel
theorem dX12_trade_46 : decode cX12_trade 46 = .ok (.ireturn, 1) := by decide +kernel
theorem dX12_trade_47 : decode cX12_trade 47 = .ok (.aload_n 0, 1) := by decide +kernel
theorem dX12_trade_48 : decode cX12_trade 48 = .ok (.getfield 51, 3) := by decide +kernel
theorem dX12_trade_51 : decode cX12_trade 51 = .ok (.aload_n 0, 1) := by decide +kernel
theorem dX12_trade_52 : decode cX12_trade 52 = .ok (.getfield 44, 3) := by decide +kernel
theorem dX12_trade_55 : decode cX12_trade 55 = .ok (.invokevirtual 212, 3) := by decide +kernel
theorem dX12_trade_58 : decode cX12_trade 58 = .ok (.aload_n 0, 1) := by decide +kernel
theorem dX12_trade_59 : decode cX12_trade 59 = .ok (.aload_n 0, 1) := by decide +kernel
theorem dX12_trade_60 : decode cX12_trade 60 = .ok (.getfield 44, 3) := by decide +kernel
theorem dX12_trade_63 : decode cX12_trade 63 = .ok (.iload_n 1, 1) := by decide +kernel
theorem dX12_trade_64 : decode cX12_trade 64 = .ok (.iload_n 2, 1) := by decide +kernel
theorem dX12_trade_65 : decode cX12_trade 65 = .ok (.iload_n 3, 1) := by decide +kernel
theorem dX12_trade_66 : decode cX12_trade 66 = .ok (.iload 4, 2) := by decide +kernel
theorem dX12_trade_68 : decode cX12_trade 68 = .ok (.invokevirtual 227, 3) := by decide +kernel
theorem dX12_trade_71 : decode cX12_trade 71 = .ok (.invokevirtual 218, 3) := by decide +kernel
theorem dX12_trade_74 : decode cX12_trade 74 = .ok (.ireturn, 1) := by decide +kernel
theorem bX12_trade_0 {G : Gt} {d bc bs : Nat} {Q : QT} {l : Ls} {z : List Value} {h : Hp} (k : (tAld 0 (tGetf 10 4 (tIld 1 (tCV1 G d 0 0 9 mX11_isPerson (fun l z h => T G d bc bs mX12_trade 8 l z h Q))))) l z h) : T G d bc bs mX12_trade 0 l z h Q := by
  refine R_aload_n dX12_trade_0 rfl (fun l z h k => ?_) k
  refine R_getf (ci := 10) (f := 4) (C := RX12) (N := 16) (Tt := TX12) dX12_trade_1 rfl i_X12 (by decide) w_489 (fun l z h k => ?_) k
  refine R_iload_n dX12_trade_4 rfl (fun l z h k => ?_) k
  exact R_cv1 (M := mX12_trade) (pc := 5) (bc := bc) (bs := bs) (cb := 0) (cs := 0) (M' := mX11_isPerson) dX12_trade_5 rfl (by decide) w_810 w_136 w_807 w_808 w_809 (by decide +kernel) (fun _ _ _ k => k) k
theorem bX12_trade_8 {G : Gt} {d bc bs : Nat} {Q : QT} {l : Ls} {z : List Value} {h : Hp} (k : (tIf (fun x => x = 0) (fun l z h => T G d bc bs mX12_trade 45 l z h Q) (fun l z h => T G d bc bs mX12_trade 11 l z h Q)) l z h) : T G d bc bs mX12_trade 8 l z h Q := by
  exact R_if_eq dX12_trade_8 (by decide) (fun _ _ _ k => k) (fun _ _ _ k => k) k
theorem bX12_trade_11 {G : Gt} {d bc bs : Nat} {Q : QT} {l : Ls} {z : List Value} {h : Hp} (k : (tAld 0 (tGetf 10 4 (tIld 2 (tCV1 G d 0 0 9 mX11_isThing (fun l z h => T G d bc bs mX12_trade 19 l z h Q))))) l z h) : T G d bc bs mX12_trade 11 l z h Q := by
  refine R_aload_n dX12_trade_11 rfl (fun l z h k => ?_) k
  refine R_getf (ci := 10) (f := 4) (C := RX12) (N := 16) (Tt := TX12) dX12_trade_12 rfl i_X12 (by decide) w_489 (fun l z h k => ?_) k
  refine R_iload_n dX12_trade_15 rfl (fun l z h k => ?_) k
  exact R_cv1 (M := mX12_trade) (pc := 16) (bc := bc) (bs := bs) (cb := 0) (cs := 0) (M' := mX11_isThing) dX12_trade_16 rfl (by decide) w_814 w_136 w_811 w_812 w_813 (by decide +kernel) (fun _ _ _ k => k) k
theorem bX12_trade_19 {G : Gt} {d bc bs : Nat} {Q : QT} {l : Ls} {z : List Value} {h : Hp} (k : (tIf (fun x => x = 0) (fun l z h => T G d bc bs mX12_trade 45 l z h Q) (fun l z h => T G d bc bs mX12_trade 22 l z h Q)) l z h) : T G d bc bs mX12_trade 19 l z h Q := by
  exact R_if_eq dX12_trade_19 (by decide) (fun _ _ _ k => k) (fun _ _ _ k => k) k
theorem bX12_trade_22 {G : Gt} {d bc bs : Nat} {Q : QT} {l : Ls} {z : List Value} {h : Hp} (k : (tAld 0 (tGetf 10 4 (tIld 3 (tCV1 G d 0 0 9 mX11_isPerson (fun l z h => T G d bc bs mX12_trade 30 l z h Q))))) l z h) : T G d bc bs mX12_trade 22 l z h Q := by
  refine R_aload_n dX12_trade_22 rfl (fun l z h k => ?_) k
  refine R_getf (ci := 10) (f := 4) (C := RX12) (N := 16) (Tt := TX12) dX12_trade_23 rfl i_X12 (by decide) w_489 (fun l z h k => ?_) k
  refine R_iload_n dX12_trade_26 rfl (fun l z h k => ?_) k
  exact R_cv1 (M := mX12_trade) (pc := 27) (bc := bc) (bs := bs) (cb := 0) (cs := 0) (M' := mX11_isPerson) dX12_trade_27 rfl (by decide) w_810 w_136 w_807 w_808 w_809 (by decide +kernel) (fun _ _ _ k => k) k
theorem bX12_trade_30 {G : Gt} {d bc bs : Nat} {Q : QT} {l : Ls} {z : List Value} {h : Hp} (k : (tIf (fun x => x = 0) (fun l z h => T G d bc bs mX12_trade 45 l z h Q) (fun l z h => T G d bc bs mX12_trade 33 l z h Q)) l z h) : T G d bc bs mX12_trade 30 l z h Q := by
  exact R_if_eq dX12_trade_30 (by decide) (fun _ _ _ k => k) (fun _ _ _ k => k) k
theorem bX12_trade_33 {G : Gt} {d bc bs : Nat} {Q : QT} {l : Ls} {z : List Value} {h : Hp} (k : (tAld 0 (tGetf 10 4 (tIld 4 (tCV1 G d 0 0 9 mX11_isThing (fun l z h => T G d bc bs mX12_trade 42 l z h Q))))) l z h) : T G d bc bs mX12_trade 33 l z h Q := by
  refine R_aload_n dX12_trade_33 rfl (fun l z h k => ?_) k
  refine R_getf (ci := 10) (f := 4) (C := RX12) (N := 16) (Tt := TX12) dX12_trade_34 rfl i_X12 (by decide) w_489 (fun l z h k => ?_) k
  refine R_iload dX12_trade_37 (fun l z h k => ?_) k
  exact R_cv1 (M := mX12_trade) (pc := 39) (bc := bc) (bs := bs) (cb := 0) (cs := 0) (M' := mX11_isThing) dX12_trade_39 rfl (by decide) w_814 w_136 w_811 w_812 w_813 (by decide +kernel) (fun _ _ _ k => k) k
theorem bX12_trade_42 {G : Gt} {d bc bs : Nat} {Q : QT} {l : Ls} {z : List Value} {h : Hp} (k : (tIf (fun x => x = 0) (fun l z h => T G d bc bs mX12_trade 45 l z h Q) (fun l z h => T G d bc bs mX12_trade 47 l z h Q)) l z h) : T G d bc bs mX12_trade 42 l z h Q := by
  exact R_if_ne dX12_trade_42 (by decide) (fun _ _ _ k => k) (fun _ _ _ k => k) k
theorem bX12_trade_45 {G : Gt} {d bc bs : Nat} {Q : QT} {l : Ls} {z : List Value} {h : Hp} (k : (tPush (.int (-1)) (tRetI Q)) l z h) : T G d bc bs mX12_trade 45 l z h Q := by
  refine R_iconst dX12_trade_45 (by decide) (fun l z h k => ?_) k
  exact R_iret dX12_trade_46 rfl k
theorem bX12_trade_47 {G : Gt} {d bc bs : Nat} {Q : QT} {l : Ls} {z : List Value} {h : Hp} (k : (tAld 0 (tGetf 10 5 (tAld 0 (tGetf 10 4 (tCV1 G d 0 0 5 mX6_sketch (fun l z h => T G d bc bs mX12_trade 58 l z h Q)))))) l z h) : T G d bc bs mX12_trade 47 l z h Q := by
  refine R_aload_n dX12_trade_47 rfl (fun l z h k => ?_) k
  refine R_getf (ci := 10) (f := 5) (C := RX12) (N := 16) (Tt := TX12) dX12_trade_48 rfl i_X12 (by decide) w_490 (fun l z h k => ?_) k
  refine R_aload_n dX12_trade_51 rfl (fun l z h k => ?_) k
  refine R_getf (ci := 10) (f := 4) (C := RX12) (N := 16) (Tt := TX12) dX12_trade_52 rfl i_X12 (by decide) w_489 (fun l z h k => ?_) k
  exact R_cv1 (M := mX12_trade) (pc := 55) (bc := bc) (bs := bs) (cb := 0) (cs := 0) (M' := mX6_sketch) dX12_trade_55 rfl (by decide) w_877 w_139 w_874 w_875 w_876 (by decide +kernel) (fun _ _ _ k => k) k
theorem bX12_trade_58 {G : Gt} {d bc bs : Nat} {Q : QT} {l : Ls} {z : List Value} {h : Hp} (k : (tAld 0 (tAld 0 (tGetf 10 4 (tIld 1 (tIld 2 (tIld 3 (tIld 4 (tCV4 G d 0 0 9 mX11_swapHalves (fun l z h => T G d bc bs mX12_trade 71 l z h Q))))))))) l z h) : T G d bc bs mX12_trade 58 l z h Q := by
  refine R_aload_n dX12_trade_58 rfl (fun l z h k => ?_) k
  refine R_aload_n dX12_trade_59 rfl (fun l z h k => ?_) k
  refine R_getf (ci := 10) (f := 4) (C := RX12) (N := 16) (Tt := TX12) dX12_trade_60 rfl i_X12 (by decide) w_489 (fun l z h k => ?_) k
  refine R_iload_n dX12_trade_63 rfl (fun l z h k => ?_) k
  refine R_iload_n dX12_trade_64 rfl (fun l z h k => ?_) k
  refine R_iload_n dX12_trade_65 rfl (fun l z h k => ?_) k
  refine R_iload dX12_trade_66 (fun l z h k => ?_) k
  exact R_cv4 (M := mX12_trade) (pc := 68) (bc := bc) (bs := bs) (cb := 0) (cs := 0) (M' := mX11_swapHalves) dX12_trade_68 rfl (by decide) w_921 w_136 w_918 w_919 w_920 (by decide +kernel) (fun _ _ _ k => k) k
theorem bX12_trade_71 {G : Gt} {d bc bs : Nat} {Q : QT} {l : Ls} {z : List Value} {h : Hp} (k : (tCV1 G d 0 0 10 mX12_keptUnlessRefused (fun l z h => T G d bc bs mX12_trade 74 l z h Q)) l z h) : T G d bc bs mX12_trade 71 l z h Q := by
  exact R_cv1 (M := mX12_trade) (pc := 71) (bc := bc) (bs := bs) (cb := 0) (cs := 0) (M' := mX12_keptUnlessRefused) dX12_trade_71 rfl (by decide) w_892 w_130 w_889 w_891 w_12 (by decide +kernel) (fun _ _ _ k => k) k
theorem bX12_trade_74 {G : Gt} {d bc bs : Nat} {Q : QT} {l : Ls} {z : List Value} {h : Hp} (k : (tRetI Q) l z h) : T G d bc bs mX12_trade 74 l z h Q := by
  exact R_iret dX12_trade_74 rfl k
theorem dX12_ask_0 : decode cX12_ask 0 = .ok (.iload_n 1, 1) := by decide +kernel
theorem dX12_ask_1 : decode cX12_ask 1 = .ok (.invokestatic 185, 3) := by decide +kernel
theorem dX12_ask_4 : decode cX12_ask 4 = .ok (.ifCond .eq 24, 3) := by decide +kernel
theorem dX12_ask_7 : decode cX12_ask 7 = .ok (.aload_n 0, 1) := by decide +kernel
theorem dX12_ask_8 : decode cX12_ask 8 = .ok (.getfield 44, 3) := by decide +kernel
theorem dX12_ask_11 : decode cX12_ask 11 = .ok (.iload_n 2, 1) := by decide +kernel
theorem dX12_ask_12 : decode cX12_ask 12 = .ok (.invokevirtual 169, 3) := by decide +kernel
theorem dX12_ask_15 : decode cX12_ask 15 = .ok (.ifCond .eq 13, 3) := by decide +kernel
theorem dX12_ask_18 : decode cX12_ask 18 = .ok (.iload_n 3, 1) := by decide +kernel
theorem dX12_ask_19 : decode cX12_ask 19 = .ok (.ifCond .lt 9, 3) := by decide +kernel
theorem dX12_ask_22 : decode cX12_ask 22 = .ok (.iload_n 3, 1) := by decide +kernel
theorem dX12_ask_23 : decode cX12_ask 23 = .ok (.bipush 12, 2) := by decide +kernel
theorem dX12_ask_25 : decode cX12_ask 25 = .ok (.if_icmp .le 5, 3) := by decide +kernel
theorem dX12_ask_28 : decode cX12_ask 28 = .ok (.iconst (-1), 1) := by decide +kernel
theorem dX12_ask_29 : decode cX12_ask 29 = .ok (.ireturn, 1) := by decide +kernel
theorem dX12_ask_30 : decode cX12_ask 30 = .ok (.aload_n 0, 1) := by decide +kernel
theorem dX12_ask_31 : decode cX12_ask 31 = .ok (.getfield 51, 3) := by decide +kernel
theorem dX12_ask_34 : decode cX12_ask 34 = .ok (.aload_n 0, 1) := by decide +kernel
theorem dX12_ask_35 : decode cX12_ask 35 = .ok (.getfield 44, 3) := by decide +kernel
theorem dX12_ask_38 : decode cX12_ask 38 = .ok (.invokevirtual 212, 3) := by decide +kernel
theorem dX12_ask_41 : decode cX12_ask 41 = .ok (.aload_n 0, 1) := by decide +kernel
theorem dX12_ask_42 : decode cX12_ask 42 = .ok (.aload_n 0, 1) := by decide +kernel
theorem dX12_ask_43 : decode cX12_ask 43 = .ok (.getfield 44, 3) := by decide +kernel
theorem dX12_ask_46 : decode cX12_ask 46 = .ok (.iload_n 1, 1) := by decide +kernel
theorem dX12_ask_47 : decode cX12_ask 47 = .ok (.iload_n 2, 1) := by decide +kernel
theorem dX12_ask_48 : decode cX12_ask 48 = .ok (.iload_n 3, 1) := by decide +kernel
theorem dX12_ask_49 : decode cX12_ask 49 = .ok (.invokevirtual 231, 3) := by decide +kernel
theorem dX12_ask_52 : decode cX12_ask 52 = .ok (.invokevirtual 218, 3) := by decide +kernel
theorem dX12_ask_55 : decode cX12_ask 55 = .ok (.ireturn, 1) := by decide +kernel
theorem bX12_ask_0 {G : Gt} {d bc bs : Nat} {Q : QT} {l : Ls} {z : List Value} {h : Hp} (k : (tIld 1 (tCS1 G d 0 0 mX12_isEnd (fun l z h => T G d bc bs mX12_ask 4 l z h Q))) l z h) : T G d bc bs mX12_ask 0 l z h Q := by
  refine R_iload_n dX12_ask_0 rfl (fun l z h k => ?_) k
  exact R_cs1 (M := mX12_ask) (pc := 1) (bc := bc) (bs := bs) (cb := 0) (cs := 0) (M' := mX12_isEnd) dX12_ask_1 (by decide) w_831 w_130 w_829 w_830 (by decide +kernel) (fun _ _ _ k => k) k
theorem bX12_ask_4 {G : Gt} {d bc bs : Nat} {Q : QT} {l : Ls} {z : List Value} {h : Hp} (k : (tIf (fun x => x = 0) (fun l z h => T G d bc bs mX12_ask 28 l z h Q) (fun l z h => T G d bc bs mX12_ask 7 l z h Q)) l z h) : T G d bc bs mX12_ask 4 l z h Q := by
  exact R_if_eq dX12_ask_4 (by decide) (fun _ _ _ k => k) (fun _ _ _ k => k) k
theorem bX12_ask_7 {G : Gt} {d bc bs : Nat} {Q : QT} {l : Ls} {z : List Value} {h : Hp} (k : (tAld 0 (tGetf 10 4 (tIld 2 (tCV1 G d 0 0 9 mX11_isThing (fun l z h => T G d bc bs mX12_ask 15 l z h Q))))) l z h) : T G d bc bs mX12_ask 7 l z h Q := by
  refine R_aload_n dX12_ask_7 rfl (fun l z h k => ?_) k
  refine R_getf (ci := 10) (f := 4) (C := RX12) (N := 16) (Tt := TX12) dX12_ask_8 rfl i_X12 (by decide) w_489 (fun l z h k => ?_) k
  refine R_iload_n dX12_ask_11 rfl (fun l z h k => ?_) k
  exact R_cv1 (M := mX12_ask) (pc := 12) (bc := bc) (bs := bs) (cb := 0) (cs := 0) (M' := mX11_isThing) dX12_ask_12 rfl (by decide) w_814 w_136 w_811 w_812 w_813 (by decide +kernel) (fun _ _ _ k => k) k
theorem bX12_ask_15 {G : Gt} {d bc bs : Nat} {Q : QT} {l : Ls} {z : List Value} {h : Hp} (k : (tIf (fun x => x = 0) (fun l z h => T G d bc bs mX12_ask 28 l z h Q) (fun l z h => T G d bc bs mX12_ask 18 l z h Q)) l z h) : T G d bc bs mX12_ask 15 l z h Q := by
  exact R_if_eq dX12_ask_15 (by decide) (fun _ _ _ k => k) (fun _ _ _ k => k) k
theorem bX12_ask_18 {G : Gt} {d bc bs : Nat} {Q : QT} {l : Ls} {z : List Value} {h : Hp} (k : (tIld 3 (tIf (fun x => x < 0) (fun l z h => T G d bc bs mX12_ask 28 l z h Q) (fun l z h => T G d bc bs mX12_ask 22 l z h Q))) l z h) : T G d bc bs mX12_ask 18 l z h Q := by
  refine R_iload_n dX12_ask_18 rfl (fun l z h k => ?_) k
  exact R_if_lt dX12_ask_19 (by decide) (fun _ _ _ k => k) (fun _ _ _ k => k) k
theorem bX12_ask_22 {G : Gt} {d bc bs : Nat} {Q : QT} {l : Ls} {z : List Value} {h : Hp} (k : (tIld 3 (tPush (.int 12) (tIf2 (fun x y => x ≤ y) (fun l z h => T G d bc bs mX12_ask 30 l z h Q) (fun l z h => T G d bc bs mX12_ask 28 l z h Q)))) l z h) : T G d bc bs mX12_ask 22 l z h Q := by
  refine R_iload_n dX12_ask_22 rfl (fun l z h k => ?_) k
  refine R_bipush dX12_ask_23 (by decide) (fun l z h k => ?_) k
  exact R_icmp_le dX12_ask_25 (by decide) (fun _ _ _ k => k) (fun _ _ _ k => k) k
theorem bX12_ask_28 {G : Gt} {d bc bs : Nat} {Q : QT} {l : Ls} {z : List Value} {h : Hp} (k : (tPush (.int (-1)) (tRetI Q)) l z h) : T G d bc bs mX12_ask 28 l z h Q := by
  refine R_iconst dX12_ask_28 (by decide) (fun l z h k => ?_) k
  exact R_iret dX12_ask_29 rfl k
theorem bX12_ask_30 {G : Gt} {d bc bs : Nat} {Q : QT} {l : Ls} {z : List Value} {h : Hp} (k : (tAld 0 (tGetf 10 5 (tAld 0 (tGetf 10 4 (tCV1 G d 0 0 5 mX6_sketch (fun l z h => T G d bc bs mX12_ask 41 l z h Q)))))) l z h) : T G d bc bs mX12_ask 30 l z h Q := by
  refine R_aload_n dX12_ask_30 rfl (fun l z h k => ?_) k
  refine R_getf (ci := 10) (f := 5) (C := RX12) (N := 16) (Tt := TX12) dX12_ask_31 rfl i_X12 (by decide) w_490 (fun l z h k => ?_) k
  refine R_aload_n dX12_ask_34 rfl (fun l z h k => ?_) k
  refine R_getf (ci := 10) (f := 4) (C := RX12) (N := 16) (Tt := TX12) dX12_ask_35 rfl i_X12 (by decide) w_489 (fun l z h k => ?_) k
  exact R_cv1 (M := mX12_ask) (pc := 38) (bc := bc) (bs := bs) (cb := 0) (cs := 0) (M' := mX6_sketch) dX12_ask_38 rfl (by decide) w_877 w_139 w_874 w_875 w_876 (by decide +kernel) (fun _ _ _ k => k) k
theorem bX12_ask_41 {G : Gt} {d bc bs : Nat} {Q : QT} {l : Ls} {z : List Value} {h : Hp} (k : (tAld 0 (tAld 0 (tGetf 10 4 (tIld 1 (tIld 2 (tIld 3 (tCV3 G d 0 0 9 mX11_demand (fun l z h => T G d bc bs mX12_ask 52 l z h Q)))))))) l z h) : T G d bc bs mX12_ask 41 l z h Q := by
  refine R_aload_n dX12_ask_41 rfl (fun l z h k => ?_) k
  refine R_aload_n dX12_ask_42 rfl (fun l z h k => ?_) k
  refine R_getf (ci := 10) (f := 4) (C := RX12) (N := 16) (Tt := TX12) dX12_ask_43 rfl i_X12 (by decide) w_489 (fun l z h k => ?_) k
  refine R_iload_n dX12_ask_46 rfl (fun l z h k => ?_) k
  refine R_iload_n dX12_ask_47 rfl (fun l z h k => ?_) k
  refine R_iload_n dX12_ask_48 rfl (fun l z h k => ?_) k
  exact R_cv3 (M := mX12_ask) (pc := 49) (bc := bc) (bs := bs) (cb := 0) (cs := 0) (M' := mX11_demand) dX12_ask_49 rfl (by decide) w_930 w_136 w_927 w_928 w_929 (by decide +kernel) (fun _ _ _ k => k) k
theorem bX12_ask_52 {G : Gt} {d bc bs : Nat} {Q : QT} {l : Ls} {z : List Value} {h : Hp} (k : (tCV1 G d 0 0 10 mX12_keptUnlessRefused (fun l z h => T G d bc bs mX12_ask 55 l z h Q)) l z h) : T G d bc bs mX12_ask 52 l z h Q := by
  exact R_cv1 (M := mX12_ask) (pc := 52) (bc := bc) (bs := bs) (cb := 0) (cs := 0) (M' := mX12_keptUnlessRefused) dX12_ask_52 rfl (by decide) w_892 w_130 w_889 w_891 w_12 (by decide +kernel) (fun _ _ _ k => k) k
theorem bX12_ask_55 {G : Gt} {d bc bs : Nat} {Q : QT} {l : Ls} {z : List Value} {h : Hp} (k : (tRetI Q) l z h) : T G d bc bs mX12_ask 55 l z h Q := by
  exact R_iret dX12_ask_55 rfl k
theorem dX12_days_0 : decode cX12_days 0 = .ok (.iload_n 1, 1) := by decide +kernel
theorem dX12_days_1 : decode cX12_days 1 = .ok (.invokestatic 235, 3) := by decide +kernel
theorem dX12_days_4 : decode cX12_days 4 = .ok (.ifCond .ne 5, 3) := by decide +kernel
theorem dX12_days_7 : decode cX12_days 7 = .ok (.iconst (-1), 1) := by decide +kernel
theorem dX12_days_8 : decode cX12_days 8 = .ok (.ireturn, 1) := by decide +kernel
theorem dX12_days_9 : decode cX12_days 9 = .ok (.aload_n 0, 1) := by decide +kernel
theorem dX12_days_10 : decode cX12_days 10 = .ok (.getfield 51, 3) := by decide +kernel
theorem dX12_days_13 : decode cX12_days 13 = .ok (.aload_n 0, 1) := by decide +kernel
theorem dX12_days_14 : decode cX12_days 14 = .ok (.getfield 44, 3) := by decide +kernel
theorem dX12_days_17 : decode cX12_days 17 = .ok (.invokevirtual 212, 3) := by decide +kernel
theorem dX12_days_20 : decode cX12_days 20 = .ok (.aload_n 0, 1) := by decide +kernel
theorem dX12_days_21 : decode cX12_days 21 = .ok (.aload_n 0, 1) := by decide +kernel
theorem dX12_days_22 : decode cX12_days 22 = .ok (.getfield 44, 3) := by decide +kernel
theorem dX12_days_25 : decode cX12_days 25 = .ok (.iload_n 1, 1) := by decide +kernel
theorem dX12_days_26 : decode cX12_days 26 = .ok (.invokevirtual 238, 3) := by decide +kernel
theorem dX12_days_29 : decode cX12_days 29 = .ok (.invokevirtual 241, 3) := by decide +kernel
theorem dX12_days_32 : decode cX12_days 32 = .ok (.ireturn, 1) := by decide +kernel
theorem bX12_days_0 {G : Gt} {d bc bs : Nat} {Q : QT} {l : Ls} {z : List Value} {h : Hp} (k : (tIld 1 (tCS1 G d 0 0 mX12_isSpan (fun l z h => T G d bc bs mX12_days 4 l z h Q))) l z h) : T G d bc bs mX12_days 0 l z h Q := by
  refine R_iload_n dX12_days_0 rfl (fun l z h k => ?_) k
  exact R_cs1 (M := mX12_days) (pc := 1) (bc := bc) (bs := bs) (cb := 0) (cs := 0) (M' := mX12_isSpan) dX12_days_1 (by decide) w_938 w_130 w_936 w_937 (by decide +kernel) (fun _ _ _ k => k) k
theorem bX12_days_4 {G : Gt} {d bc bs : Nat} {Q : QT} {l : Ls} {z : List Value} {h : Hp} (k : (tIf (fun x => x = 0) (fun l z h => T G d bc bs mX12_days 7 l z h Q) (fun l z h => T G d bc bs mX12_days 9 l z h Q)) l z h) : T G d bc bs mX12_days 4 l z h Q := by
  exact R_if_ne dX12_days_4 (by decide) (fun _ _ _ k => k) (fun _ _ _ k => k) k
theorem bX12_days_7 {G : Gt} {d bc bs : Nat} {Q : QT} {l : Ls} {z : List Value} {h : Hp} (k : (tPush (.int (-1)) (tRetI Q)) l z h) : T G d bc bs mX12_days 7 l z h Q := by
  refine R_iconst dX12_days_7 (by decide) (fun l z h k => ?_) k
  exact R_iret dX12_days_8 rfl k
theorem bX12_days_9 {G : Gt} {d bc bs : Nat} {Q : QT} {l : Ls} {z : List Value} {h : Hp} (k : (tAld 0 (tGetf 10 5 (tAld 0 (tGetf 10 4 (tCV1 G d 0 0 5 mX6_sketch (fun l z h => T G d bc bs mX12_days 20 l z h Q)))))) l z h) : T G d bc bs mX12_days 9 l z h Q := by
  refine R_aload_n dX12_days_9 rfl (fun l z h k => ?_) k
  refine R_getf (ci := 10) (f := 5) (C := RX12) (N := 16) (Tt := TX12) dX12_days_10 rfl i_X12 (by decide) w_490 (fun l z h k => ?_) k
  refine R_aload_n dX12_days_13 rfl (fun l z h k => ?_) k
  refine R_getf (ci := 10) (f := 4) (C := RX12) (N := 16) (Tt := TX12) dX12_days_14 rfl i_X12 (by decide) w_489 (fun l z h k => ?_) k
  exact R_cv1 (M := mX12_days) (pc := 17) (bc := bc) (bs := bs) (cb := 0) (cs := 0) (M' := mX6_sketch) dX12_days_17 rfl (by decide) w_877 w_139 w_874 w_875 w_876 (by decide +kernel) (fun _ _ _ k => k) k
theorem bX12_days_20 {G : Gt} {d bc bs : Nat} {Q : QT} {l : Ls} {z : List Value} {h : Hp} (k : (tAld 0 (tAld 0 (tGetf 10 4 (tIld 1 (tCV1 G d 0 0 9 mX11_liveDays (fun l z h => T G d bc bs mX12_days 29 l z h Q)))))) l z h) : T G d bc bs mX12_days 20 l z h Q := by
  refine R_aload_n dX12_days_20 rfl (fun l z h k => ?_) k
  refine R_aload_n dX12_days_21 rfl (fun l z h k => ?_) k
  refine R_getf (ci := 10) (f := 4) (C := RX12) (N := 16) (Tt := TX12) dX12_days_22 rfl i_X12 (by decide) w_489 (fun l z h k => ?_) k
  refine R_iload_n dX12_days_25 rfl (fun l z h k => ?_) k
  exact R_cv1 (M := mX12_days) (pc := 26) (bc := bc) (bs := bs) (cb := 0) (cs := 0) (M' := mX11_liveDays) dX12_days_26 rfl (by decide) w_942 w_136 w_939 w_940 w_941 (by decide +kernel) (fun _ _ _ k => k) k
theorem bX12_days_29 {G : Gt} {d bc bs : Nat} {Q : QT} {l : Ls} {z : List Value} {h : Hp} (k : (tCV1 G d 0 0 10 mX12_keptIfAny (fun l z h => T G d bc bs mX12_days 32 l z h Q)) l z h) : T G d bc bs mX12_days 29 l z h Q := by
  exact R_cv1 (M := mX12_days) (pc := 29) (bc := bc) (bs := bs) (cb := 0) (cs := 0) (M' := mX12_keptIfAny) dX12_days_29 rfl (by decide) w_964 w_130 w_961 w_963 w_13 (by decide +kernel) (fun _ _ _ k => k) k
theorem bX12_days_32 {G : Gt} {d bc bs : Nat} {Q : QT} {l : Ls} {z : List Value} {h : Hp} (k : (tRetI Q) l z h) : T G d bc bs mX12_days 32 l z h Q := by
  exact R_iret dX12_days_32 rfl k
theorem dX12_drawn_0 : decode cX12_drawn 0 = .ok (.iload_n 1, 1) := by decide +kernel
theorem dX12_drawn_1 : decode cX12_drawn 1 = .ok (.invokestatic 235, 3) := by decide +kernel
theorem dX12_drawn_4 : decode cX12_drawn 4 = .ok (.ifCond .eq 13, 3) := by decide +kernel
theorem dX12_drawn_7 : decode cX12_drawn 7 = .ok (.aload_n 0, 1) := by decide +kernel
theorem dX12_drawn_8 : decode cX12_drawn 8 = .ok (.getfield 44, 3) := by decide +kernel
theorem dX12_drawn_11 : decode cX12_drawn 11 = .ok (.getfield 209, 3) := by decide +kernel
theorem dX12_drawn_14 : decode cX12_drawn 14 = .ok (.ifCond .ne 5, 3) := by decide +kernel
theorem dX12_drawn_17 : decode cX12_drawn 17 = .ok (.iconst (-1), 1) := by decide +kernel
theorem dX12_drawn_18 : decode cX12_drawn 18 = .ok (.ireturn, 1) := by decide +kernel
theorem dX12_drawn_19 : decode cX12_drawn 19 = .ok (.aload_n 0, 1) := by decide +kernel
theorem dX12_drawn_20 : decode cX12_drawn 20 = .ok (.getfield 51, 3) := by decide +kernel
theorem dX12_drawn_23 : decode cX12_drawn 23 = .ok (.aload_n 0, 1) := by decide +kernel
theorem dX12_drawn_24 : decode cX12_drawn 24 = .ok (.getfield 44, 3) := by decide +kernel
theorem dX12_drawn_27 : decode cX12_drawn 27 = .ok (.invokevirtual 212, 3) := by decide +kernel
theorem dX12_drawn_30 : decode cX12_drawn 30 = .ok (.aload_n 0, 1) := by decide +kernel
theorem dX12_drawn_31 : decode cX12_drawn 31 = .ok (.getfield 76, 3) := by decide +kernel
theorem dX12_drawn_34 : decode cX12_drawn 34 = .ok (.iload_n 2, 1) := by decide +kernel
theorem dX12_drawn_35 : decode cX12_drawn 35 = .ok (.invokevirtual 244, 3) := by decide +kernel
theorem dX12_drawn_38 : decode cX12_drawn 38 = .ok (.aload_n 0, 1) := by decide +kernel
theorem dX12_drawn_39 : decode cX12_drawn 39 = .ok (.aload_n 0, 1) := by decide +kernel
theorem dX12_drawn_40 : decode cX12_drawn 40 = .ok (.getfield 76, 3) := by decide +kernel
theorem dX12_drawn_43 : decode cX12_drawn 43 = .ok (.aload_n 0, 1) := by decide +kernel
theorem dX12_drawn_44 : decode cX12_drawn 44 = .ok (.getfield 44, 3) := by decide +kernel
theorem dX12_drawn_47 : decode cX12_drawn 47 = .ok (.iload_n 1, 1) := by decide +kernel
theorem dX12_drawn_48 : decode cX12_drawn 48 = .ok (.invokevirtual 247, 3) := by decide +kernel
theorem dX12_drawn_51 : decode cX12_drawn 51 = .ok (.invokevirtual 241, 3) := by decide +kernel
theorem dX12_drawn_54 : decode cX12_drawn 54 = .ok (.ireturn, 1) := by decide +kernel
theorem bX12_drawn_0 {G : Gt} {d bc bs : Nat} {Q : QT} {l : Ls} {z : List Value} {h : Hp} (k : (tIld 1 (tCS1 G d 0 0 mX12_isSpan (fun l z h => T G d bc bs mX12_drawn 4 l z h Q))) l z h) : T G d bc bs mX12_drawn 0 l z h Q := by
  refine R_iload_n dX12_drawn_0 rfl (fun l z h k => ?_) k
  exact R_cs1 (M := mX12_drawn) (pc := 1) (bc := bc) (bs := bs) (cb := 0) (cs := 0) (M' := mX12_isSpan) dX12_drawn_1 (by decide) w_938 w_130 w_936 w_937 (by decide +kernel) (fun _ _ _ k => k) k
theorem bX12_drawn_4 {G : Gt} {d bc bs : Nat} {Q : QT} {l : Ls} {z : List Value} {h : Hp} (k : (tIf (fun x => x = 0) (fun l z h => T G d bc bs mX12_drawn 17 l z h Q) (fun l z h => T G d bc bs mX12_drawn 7 l z h Q)) l z h) : T G d bc bs mX12_drawn 4 l z h Q := by
  exact R_if_eq dX12_drawn_4 (by decide) (fun _ _ _ k => k) (fun _ _ _ k => k) k
theorem bX12_drawn_7 {G : Gt} {d bc bs : Nat} {Q : QT} {l : Ls} {z : List Value} {h : Hp} (k : (tAld 0 (tGetf 10 4 (tGetf 9 1 (tIf (fun x => x = 0) (fun l z h => T G d bc bs mX12_drawn 17 l z h Q) (fun l z h => T G d bc bs mX12_drawn 19 l z h Q))))) l z h) : T G d bc bs mX12_drawn 7 l z h Q := by
  refine R_aload_n dX12_drawn_7 rfl (fun l z h k => ?_) k
  refine R_getf (ci := 10) (f := 4) (C := RX12) (N := 16) (Tt := TX12) dX12_drawn_8 rfl i_X12 (by decide) w_489 (fun l z h k => ?_) k
  refine R_getf (ci := 9) (f := 1) (C := RX11) (N := 14) (Tt := TX11) dX12_drawn_11 rfl i_X11 (by decide) w_258 (fun l z h k => ?_) k
  exact R_if_ne dX12_drawn_14 (by decide) (fun _ _ _ k => k) (fun _ _ _ k => k) k
theorem bX12_drawn_17 {G : Gt} {d bc bs : Nat} {Q : QT} {l : Ls} {z : List Value} {h : Hp} (k : (tPush (.int (-1)) (tRetI Q)) l z h) : T G d bc bs mX12_drawn 17 l z h Q := by
  refine R_iconst dX12_drawn_17 (by decide) (fun l z h k => ?_) k
  exact R_iret dX12_drawn_18 rfl k
theorem bX12_drawn_19 {G : Gt} {d bc bs : Nat} {Q : QT} {l : Ls} {z : List Value} {h : Hp} (k : (tAld 0 (tGetf 10 5 (tAld 0 (tGetf 10 4 (tCV1 G d 0 0 5 mX6_sketch (fun l z h => T G d bc bs mX12_drawn 30 l z h Q)))))) l z h) : T G d bc bs mX12_drawn 19 l z h Q := by
  refine R_aload_n dX12_drawn_19 rfl (fun l z h k => ?_) k
  refine R_getf (ci := 10) (f := 5) (C := RX12) (N := 16) (Tt := TX12) dX12_drawn_20 rfl i_X12 (by decide) w_490 (fun l z h k => ?_) k
  refine R_aload_n dX12_drawn_23 rfl (fun l z h k => ?_) k
  refine R_getf (ci := 10) (f := 4) (C := RX12) (N := 16) (Tt := TX12) dX12_drawn_24 rfl i_X12 (by decide) w_489 (fun l z h k => ?_) k
  exact R_cv1 (M := mX12_drawn) (pc := 27) (bc := bc) (bs := bs) (cb := 0) (cs := 0) (M' := mX6_sketch) dX12_drawn_27 rfl (by decide) w_877 w_139 w_874 w_875 w_876 (by decide +kernel) (fun _ _ _ k => k) k
theorem bX12_drawn_30 {G : Gt} {d bc bs : Nat} {Q : QT} {l : Ls} {z : List Value} {h : Hp} (k : (tAld 0 (tGetf 10 12 (tIld 2 (tCV1 G d 0 0 2 mX3_begin (fun l z h => T G d bc bs mX12_drawn 38 l z h Q))))) l z h) : T G d bc bs mX12_drawn 30 l z h Q := by
  refine R_aload_n dX12_drawn_30 rfl (fun l z h k => ?_) k
  refine R_getf (ci := 10) (f := 12) (C := RX12) (N := 16) (Tt := TX12) dX12_drawn_31 rfl i_X12 (by decide) w_497 (fun l z h k => ?_) k
  refine R_iload_n dX12_drawn_34 rfl (fun l z h k => ?_) k
  exact R_cv1 (M := mX12_drawn) (pc := 35) (bc := bc) (bs := bs) (cb := 0) (cs := 0) (M' := mX3_begin) dX12_drawn_35 rfl (by decide) w_972 w_141 w_969 w_970 w_971 (by decide +kernel) (fun _ _ _ k => k) k
theorem bX12_drawn_38 {G : Gt} {d bc bs : Nat} {Q : QT} {l : Ls} {z : List Value} {h : Hp} (k : (tAld 0 (tAld 0 (tGetf 10 12 (tAld 0 (tGetf 10 4 (tIld 1 (tCV2 G d 0 0 2 mX3_liveDays (fun l z h => T G d bc bs mX12_drawn 51 l z h Q)))))))) l z h) : T G d bc bs mX12_drawn 38 l z h Q := by
  refine R_aload_n dX12_drawn_38 rfl (fun l z h k => ?_) k
  refine R_aload_n dX12_drawn_39 rfl (fun l z h k => ?_) k
  refine R_getf (ci := 10) (f := 12) (C := RX12) (N := 16) (Tt := TX12) dX12_drawn_40 rfl i_X12 (by decide) w_497 (fun l z h k => ?_) k
  refine R_aload_n dX12_drawn_43 rfl (fun l z h k => ?_) k
  refine R_getf (ci := 10) (f := 4) (C := RX12) (N := 16) (Tt := TX12) dX12_drawn_44 rfl i_X12 (by decide) w_489 (fun l z h k => ?_) k
  refine R_iload_n dX12_drawn_47 rfl (fun l z h k => ?_) k
  exact R_cv2 (M := mX12_drawn) (pc := 48) (bc := bc) (bs := bs) (cb := 0) (cs := 0) (M' := mX3_liveDays) dX12_drawn_48 rfl (by decide) w_976 w_141 w_973 w_974 w_975 (by decide +kernel) (fun _ _ _ k => k) k
theorem bX12_drawn_51 {G : Gt} {d bc bs : Nat} {Q : QT} {l : Ls} {z : List Value} {h : Hp} (k : (tCV1 G d 0 0 10 mX12_keptIfAny (fun l z h => T G d bc bs mX12_drawn 54 l z h Q)) l z h) : T G d bc bs mX12_drawn 51 l z h Q := by
  exact R_cv1 (M := mX12_drawn) (pc := 51) (bc := bc) (bs := bs) (cb := 0) (cs := 0) (M' := mX12_keptIfAny) dX12_drawn_51 rfl (by decide) w_964 w_130 w_961 w_963 w_13 (by decide +kernel) (fun _ _ _ k => k) k
theorem bX12_drawn_54 {G : Gt} {d bc bs : Nat} {Q : QT} {l : Ls} {z : List Value} {h : Hp} (k : (tRetI Q) l z h) : T G d bc bs mX12_drawn 54 l z h Q := by
  exact R_iret dX12_drawn_54 rfl k
theorem dX12_undo_0 : decode cX12_undo 0 = .ok (.aload_n 0, 1) := by decide +kernel
theorem dX12_undo_1 : decode cX12_undo 1 = .ok (.getfield 51, 3) := by decide +kernel
theorem dX12_undo_4 : decode cX12_undo 4 = .ok (.aload_n 0, 1) := by decide +kernel
theorem dX12_undo_5 : decode cX12_undo 5 = .ok (.getfield 44, 3) := by decide +kernel
theorem dX12_undo_8 : decode cX12_undo 8 = .ok (.invokevirtual 250, 3) := by decide +kernel
theorem dX12_undo_11 : decode cX12_undo 11 = .ok (.ireturn, 1) := by decide +kernel
theorem bX12_undo_0 {G : Gt} {d bc bs : Nat} {Q : QT} {l : Ls} {z : List Value} {h : Hp} (k : (tAld 0 (tGetf 10 5 (tAld 0 (tGetf 10 4 (tCV1 G d 0 0 5 mX6_takeBack (fun l z h => T G d bc bs mX12_undo 11 l z h Q)))))) l z h) : T G d bc bs mX12_undo 0 l z h Q := by
  refine R_aload_n dX12_undo_0 rfl (fun l z h k => ?_) k
  refine R_getf (ci := 10) (f := 5) (C := RX12) (N := 16) (Tt := TX12) dX12_undo_1 rfl i_X12 (by decide) w_490 (fun l z h k => ?_) k
  refine R_aload_n dX12_undo_4 rfl (fun l z h k => ?_) k
  refine R_getf (ci := 10) (f := 4) (C := RX12) (N := 16) (Tt := TX12) dX12_undo_5 rfl i_X12 (by decide) w_489 (fun l z h k => ?_) k
  exact R_cv1 (M := mX12_undo) (pc := 8) (bc := bc) (bs := bs) (cb := 0) (cs := 0) (M' := mX6_takeBack) dX12_undo_8 rfl (by decide) w_1008 w_139 w_1005 w_1006 w_1007 (by decide +kernel) (fun _ _ _ k => k) k
theorem bX12_undo_11 {G : Gt} {d bc bs : Nat} {Q : QT} {l : Ls} {z : List Value} {h : Hp} (k : (tRetI Q) l z h) : T G d bc bs mX12_undo 11 l z h Q := by
  exact R_iret dX12_undo_11 rfl k
theorem dX12_keptUnlessRefused_0 : decode cX12_keptUnlessRefused 0 = .ok (.iload_n 1, 1) := by decide +kernel
theorem dX12_keptUnlessRefused_1 : decode cX12_keptUnlessRefused 1 = .ok (.ifCond .ne 10, 3) := by decide +kernel
theorem dX12_keptUnlessRefused_4 : decode cX12_keptUnlessRefused 4 = .ok (.aload_n 0, 1) := by decide +kernel
theorem dX12_keptUnlessRefused_5 : decode cX12_keptUnlessRefused 5 = .ok (.getfield 51, 3) := by decide +kernel
theorem dX12_keptUnlessRefused_8 : decode cX12_keptUnlessRefused 8 = .ok (.invokevirtual 254, 3) := by decide +kernel
theorem dX12_keptUnlessRefused_11 : decode cX12_keptUnlessRefused 11 = .ok (.iload_n 1, 1) := by decide +kernel
theorem dX12_keptUnlessRefused_12 : decode cX12_keptUnlessRefused 12 = .ok (.ireturn, 1) := by decide +kernel
theorem bX12_keptUnlessRefused_0 {G : Gt} {d bc bs : Nat} {Q : QT} {l : Ls} {z : List Value} {h : Hp} (k : (tIld 1 (tIf (fun x => x = 0) (fun l z h => T G d bc bs mX12_keptUnlessRefused 4 l z h Q) (fun l z h => T G d bc bs mX12_keptUnlessRefused 11 l z h Q))) l z h) : T G d bc bs mX12_keptUnlessRefused 0 l z h Q := by
  refine R_iload_n dX12_keptUnlessRefused_0 rfl (fun l z h k => ?_) k
  exact R_if_ne dX12_keptUnlessRefused_1 (by decide) (fun _ _ _ k => k) (fun _ _ _ k => k) k
theorem bX12_keptUnlessRefused_4 {G : Gt} {d bc bs : Nat} {Q : QT} {l : Ls} {z : List Value} {h : Hp} (k : (tAld 0 (tGetf 10 5 (tCV0 G d 0 0 5 mX6_keep (fun l z h => T G d bc bs mX12_keptUnlessRefused 11 l z h Q)))) l z h) : T G d bc bs mX12_keptUnlessRefused 4 l z h Q := by
  refine R_aload_n dX12_keptUnlessRefused_4 rfl (fun l z h k => ?_) k
  refine R_getf (ci := 10) (f := 5) (C := RX12) (N := 16) (Tt := TX12) dX12_keptUnlessRefused_5 rfl i_X12 (by decide) w_490 (fun l z h k => ?_) k
  exact R_cv0 (M := mX12_keptUnlessRefused) (pc := 8) (bc := bc) (bs := bs) (cb := 0) (cs := 0) (M' := mX6_keep) dX12_keptUnlessRefused_8 rfl (by decide) w_896 w_139 w_893 w_894 w_895 (by decide +kernel) (fun _ _ _ k => k) k
theorem bX12_keptUnlessRefused_11 {G : Gt} {d bc bs : Nat} {Q : QT} {l : Ls} {z : List Value} {h : Hp} (k : (tIld 1 (tRetI Q)) l z h) : T G d bc bs mX12_keptUnlessRefused 11 l z h Q := by
  refine R_iload_n dX12_keptUnlessRefused_11 rfl (fun l z h k => ?_) k
  exact R_iret dX12_keptUnlessRefused_12 rfl k
theorem dX12_keptIfAny_0 : decode cX12_keptIfAny 0 = .ok (.iload_n 1, 1) := by decide +kernel
theorem dX12_keptIfAny_1 : decode cX12_keptIfAny 1 = .ok (.ifCond .le 10, 3) := by decide +kernel
theorem dX12_keptIfAny_4 : decode cX12_keptIfAny 4 = .ok (.aload_n 0, 1) := by decide +kernel
theorem dX12_keptIfAny_5 : decode cX12_keptIfAny 5 = .ok (.getfield 51, 3) := by decide +kernel
theorem dX12_keptIfAny_8 : decode cX12_keptIfAny 8 = .ok (.invokevirtual 254, 3) := by decide +kernel
theorem dX12_keptIfAny_11 : decode cX12_keptIfAny 11 = .ok (.iload_n 1, 1) := by decide +kernel
theorem dX12_keptIfAny_12 : decode cX12_keptIfAny 12 = .ok (.ireturn, 1) := by decide +kernel
theorem bX12_keptIfAny_0 {G : Gt} {d bc bs : Nat} {Q : QT} {l : Ls} {z : List Value} {h : Hp} (k : (tIld 1 (tIf (fun x => x ≤ 0) (fun l z h => T G d bc bs mX12_keptIfAny 11 l z h Q) (fun l z h => T G d bc bs mX12_keptIfAny 4 l z h Q))) l z h) : T G d bc bs mX12_keptIfAny 0 l z h Q := by
  refine R_iload_n dX12_keptIfAny_0 rfl (fun l z h k => ?_) k
  exact R_if_le dX12_keptIfAny_1 (by decide) (fun _ _ _ k => k) (fun _ _ _ k => k) k
theorem bX12_keptIfAny_4 {G : Gt} {d bc bs : Nat} {Q : QT} {l : Ls} {z : List Value} {h : Hp} (k : (tAld 0 (tGetf 10 5 (tCV0 G d 0 0 5 mX6_keep (fun l z h => T G d bc bs mX12_keptIfAny 11 l z h Q)))) l z h) : T G d bc bs mX12_keptIfAny 4 l z h Q := by
  refine R_aload_n dX12_keptIfAny_4 rfl (fun l z h k => ?_) k
  refine R_getf (ci := 10) (f := 5) (C := RX12) (N := 16) (Tt := TX12) dX12_keptIfAny_5 rfl i_X12 (by decide) w_490 (fun l z h k => ?_) k
  exact R_cv0 (M := mX12_keptIfAny) (pc := 8) (bc := bc) (bs := bs) (cb := 0) (cs := 0) (M' := mX6_keep) dX12_keptIfAny_8 rfl (by decide) w_896 w_139 w_893 w_894 w_895 (by decide +kernel) (fun _ _ _ k => k) k
theorem bX12_keptIfAny_11 {G : Gt} {d bc bs : Nat} {Q : QT} {l : Ls} {z : List Value} {h : Hp} (k : (tIld 1 (tRetI Q)) l z h) : T G d bc bs mX12_keptIfAny 11 l z h Q := by
  refine R_iload_n dX12_keptIfAny_11 rfl (fun l z h k => ?_) k
  exact R_iret dX12_keptIfAny_12 rfl k
theorem dX12_lacks_0 : decode cX12_lacks 0 = .ok (.aload_n 0, 1) := by decide +kernel
theorem dX12_lacks_1 : decode cX12_lacks 1 = .ok (.getfield 44, 3) := by decide +kernel
theorem dX12_lacks_4 : decode cX12_lacks 4 = .ok (.iload_n 1, 1) := by decide +kernel
theorem dX12_lacks_5 : decode cX12_lacks 5 = .ok (.invokevirtual 139, 3) := by decide +kernel
theorem dX12_lacks_8 : decode cX12_lacks 8 = .ok (.ifCond .eq 22, 3) := by decide +kernel
theorem dX12_lacks_11 : decode cX12_lacks 11 = .ok (.iload_n 2, 1) := by decide +kernel
theorem dX12_lacks_12 : decode cX12_lacks 12 = .ok (.invokestatic 185, 3) := by decide +kernel
theorem dX12_lacks_15 : decode cX12_lacks 15 = .ok (.ifCond .eq 15, 3) := by decide +kernel
theorem dX12_lacks_18 : decode cX12_lacks 18 = .ok (.aload_n 0, 1) := by decide +kernel
theorem dX12_lacks_19 : decode cX12_lacks 19 = .ok (.getfield 44, 3) := by decide +kernel
theorem dX12_lacks_22 : decode cX12_lacks 22 = .ok (.iload_n 1, 1) := by decide +kernel
theorem dX12_lacks_23 : decode cX12_lacks 23 = .ok (.iload_n 2, 1) := by decide +kernel
theorem dX12_lacks_24 : decode cX12_lacks 24 = .ok (.invokevirtual 257, 3) := by decide +kernel
theorem dX12_lacks_27 : decode cX12_lacks 27 = .ok (.goto 4, 3) := by decide +kernel
theorem dX12_lacks_30 : decode cX12_lacks 30 = .ok (.iconst (-1), 1) := by decide +kernel
theorem dX12_lacks_31 : decode cX12_lacks 31 = .ok (.ireturn, 1) := by decide +kernel
theorem bX12_lacks_0 {G : Gt} {d bc bs : Nat} {Q : QT} {l : Ls} {z : List Value} {h : Hp} (k : (tAld 0 (tGetf 10 4 (tIld 1 (tCV1 G d 0 0 9 mX11_isPerson (fun l z h => T G d bc bs mX12_lacks 8 l z h Q))))) l z h) : T G d bc bs mX12_lacks 0 l z h Q := by
  refine R_aload_n dX12_lacks_0 rfl (fun l z h k => ?_) k
  refine R_getf (ci := 10) (f := 4) (C := RX12) (N := 16) (Tt := TX12) dX12_lacks_1 rfl i_X12 (by decide) w_489 (fun l z h k => ?_) k
  refine R_iload_n dX12_lacks_4 rfl (fun l z h k => ?_) k
  exact R_cv1 (M := mX12_lacks) (pc := 5) (bc := bc) (bs := bs) (cb := 0) (cs := 0) (M' := mX11_isPerson) dX12_lacks_5 rfl (by decide) w_810 w_136 w_807 w_808 w_809 (by decide +kernel) (fun _ _ _ k => k) k
theorem bX12_lacks_8 {G : Gt} {d bc bs : Nat} {Q : QT} {l : Ls} {z : List Value} {h : Hp} (k : (tIf (fun x => x = 0) (fun l z h => T G d bc bs mX12_lacks 30 l z h Q) (fun l z h => T G d bc bs mX12_lacks 11 l z h Q)) l z h) : T G d bc bs mX12_lacks 8 l z h Q := by
  exact R_if_eq dX12_lacks_8 (by decide) (fun _ _ _ k => k) (fun _ _ _ k => k) k
theorem bX12_lacks_11 {G : Gt} {d bc bs : Nat} {Q : QT} {l : Ls} {z : List Value} {h : Hp} (k : (tIld 2 (tCS1 G d 0 0 mX12_isEnd (fun l z h => T G d bc bs mX12_lacks 15 l z h Q))) l z h) : T G d bc bs mX12_lacks 11 l z h Q := by
  refine R_iload_n dX12_lacks_11 rfl (fun l z h k => ?_) k
  exact R_cs1 (M := mX12_lacks) (pc := 12) (bc := bc) (bs := bs) (cb := 0) (cs := 0) (M' := mX12_isEnd) dX12_lacks_12 (by decide) w_831 w_130 w_829 w_830 (by decide +kernel) (fun _ _ _ k => k) k
theorem bX12_lacks_15 {G : Gt} {d bc bs : Nat} {Q : QT} {l : Ls} {z : List Value} {h : Hp} (k : (tIf (fun x => x = 0) (fun l z h => T G d bc bs mX12_lacks 30 l z h Q) (fun l z h => T G d bc bs mX12_lacks 18 l z h Q)) l z h) : T G d bc bs mX12_lacks 15 l z h Q := by
  exact R_if_eq dX12_lacks_15 (by decide) (fun _ _ _ k => k) (fun _ _ _ k => k) k
theorem bX12_lacks_18 {G : Gt} {d bc bs : Nat} {Q : QT} {l : Ls} {z : List Value} {h : Hp} (k : (tAld 0 (tGetf 10 4 (tIld 1 (tIld 2 (tCV2 G d 0 0 9 mX11_lackedBits (fun l z h => T G d bc bs mX12_lacks 27 l z h Q)))))) l z h) : T G d bc bs mX12_lacks 18 l z h Q := by
  refine R_aload_n dX12_lacks_18 rfl (fun l z h k => ?_) k
  refine R_getf (ci := 10) (f := 4) (C := RX12) (N := 16) (Tt := TX12) dX12_lacks_19 rfl i_X12 (by decide) w_489 (fun l z h k => ?_) k
  refine R_iload_n dX12_lacks_22 rfl (fun l z h k => ?_) k
  refine R_iload_n dX12_lacks_23 rfl (fun l z h k => ?_) k
  exact R_cv2 (M := mX12_lacks) (pc := 24) (bc := bc) (bs := bs) (cb := 0) (cs := 0) (M' := mX11_lackedBits) dX12_lacks_24 rfl (by decide) w_852 w_136 w_1013 w_850 w_851 (by decide +kernel) (fun _ _ _ k => k) k
theorem bX12_lacks_27 {G : Gt} {d bc bs : Nat} {Q : QT} {l : Ls} {z : List Value} {h : Hp} (k : (fun l z h => T G d bc bs mX12_lacks 31 l z h Q) l z h) : T G d bc bs mX12_lacks 27 l z h Q := by
  exact R_goto dX12_lacks_27 (by decide) (fun _ _ _ k => k) k
theorem bX12_lacks_30 {G : Gt} {d bc bs : Nat} {Q : QT} {l : Ls} {z : List Value} {h : Hp} (k : (tPush (.int (-1)) ((fun l z h => T G d bc bs mX12_lacks 31 l z h Q))) l z h) : T G d bc bs mX12_lacks 30 l z h Q := by
  refine R_iconst dX12_lacks_30 (by decide) (fun l z h k => ?_) k
  exact k
theorem bX12_lacks_31 {G : Gt} {d bc bs : Nat} {Q : QT} {l : Ls} {z : List Value} {h : Hp} (k : (tRetI Q) l z h) : T G d bc bs mX12_lacks 31 l z h Q := by
  exact R_iret dX12_lacks_31 rfl k
theorem dX12_when_0 : decode cX12_when 0 = .ok (.aload_n 0, 1) := by decide +kernel
theorem dX12_when_1 : decode cX12_when 1 = .ok (.getfield 44, 3) := by decide +kernel
theorem dX12_when_4 : decode cX12_when 4 = .ok (.iload_n 1, 1) := by decide +kernel
theorem dX12_when_5 : decode cX12_when 5 = .ok (.invokevirtual 139, 3) := by decide +kernel
theorem dX12_when_8 : decode cX12_when 8 = .ok (.ifCond .eq 10, 3) := by decide +kernel
theorem dX12_when_11 : decode cX12_when 11 = .ok (.iload_n 2, 1) := by decide +kernel
theorem dX12_when_12 : decode cX12_when 12 = .ok (.invokestatic 185, 3) := by decide +kernel
theorem dX12_when_15 : decode cX12_when 15 = .ok (.ifCond .ne 5, 3) := by decide +kernel
theorem dX12_when_18 : decode cX12_when 18 = .ok (.iconst (-1), 1) := by decide +kernel
theorem dX12_when_19 : decode cX12_when 19 = .ok (.ireturn, 1) := by decide +kernel
theorem dX12_when_20 : decode cX12_when 20 = .ok (.aload_n 0, 1) := by decide +kernel
theorem dX12_when_21 : decode cX12_when 21 = .ok (.getfield 85, 3) := by decide +kernel
theorem dX12_when_24 : decode cX12_when 24 = .ok (.aload_n 0, 1) := by decide +kernel
theorem dX12_when_25 : decode cX12_when 25 = .ok (.getfield 44, 3) := by decide +kernel
theorem dX12_when_28 : decode cX12_when 28 = .ok (.iload_n 1, 1) := by decide +kernel
theorem dX12_when_29 : decode cX12_when 29 = .ok (.aload_n 0, 1) := by decide +kernel
theorem dX12_when_30 : decode cX12_when 30 = .ok (.getfield 44, 3) := by decide +kernel
theorem dX12_when_33 : decode cX12_when 33 = .ok (.getfield 159, 3) := by decide +kernel
theorem dX12_when_36 : decode cX12_when 36 = .ok (.iload_n 1, 1) := by decide +kernel
theorem dX12_when_37 : decode cX12_when 37 = .ok (.iaload, 1) := by decide +kernel
theorem dX12_when_38 : decode cX12_when 38 = .ok (.iload_n 2, 1) := by decide +kernel
theorem dX12_when_39 : decode cX12_when 39 = .ok (.bipush 100, 2) := by decide +kernel
theorem dX12_when_41 : decode cX12_when 41 = .ok (.invokevirtual 260, 3) := by decide +kernel
theorem dX12_when_44 : decode cX12_when 44 = .ok (.ireturn, 1) := by decide +kernel
theorem bX12_when_0 {G : Gt} {d bc bs : Nat} {Q : QT} {l : Ls} {z : List Value} {h : Hp} (k : (tAld 0 (tGetf 10 4 (tIld 1 (tCV1 G d 0 0 9 mX11_isPerson (fun l z h => T G d bc bs mX12_when 8 l z h Q))))) l z h) : T G d bc bs mX12_when 0 l z h Q := by
  refine R_aload_n dX12_when_0 rfl (fun l z h k => ?_) k
  refine R_getf (ci := 10) (f := 4) (C := RX12) (N := 16) (Tt := TX12) dX12_when_1 rfl i_X12 (by decide) w_489 (fun l z h k => ?_) k
  refine R_iload_n dX12_when_4 rfl (fun l z h k => ?_) k
  exact R_cv1 (M := mX12_when) (pc := 5) (bc := bc) (bs := bs) (cb := 0) (cs := 0) (M' := mX11_isPerson) dX12_when_5 rfl (by decide) w_810 w_136 w_807 w_808 w_809 (by decide +kernel) (fun _ _ _ k => k) k
theorem bX12_when_8 {G : Gt} {d bc bs : Nat} {Q : QT} {l : Ls} {z : List Value} {h : Hp} (k : (tIf (fun x => x = 0) (fun l z h => T G d bc bs mX12_when 18 l z h Q) (fun l z h => T G d bc bs mX12_when 11 l z h Q)) l z h) : T G d bc bs mX12_when 8 l z h Q := by
  exact R_if_eq dX12_when_8 (by decide) (fun _ _ _ k => k) (fun _ _ _ k => k) k
theorem bX12_when_11 {G : Gt} {d bc bs : Nat} {Q : QT} {l : Ls} {z : List Value} {h : Hp} (k : (tIld 2 (tCS1 G d 0 0 mX12_isEnd (fun l z h => T G d bc bs mX12_when 15 l z h Q))) l z h) : T G d bc bs mX12_when 11 l z h Q := by
  refine R_iload_n dX12_when_11 rfl (fun l z h k => ?_) k
  exact R_cs1 (M := mX12_when) (pc := 12) (bc := bc) (bs := bs) (cb := 0) (cs := 0) (M' := mX12_isEnd) dX12_when_12 (by decide) w_831 w_130 w_829 w_830 (by decide +kernel) (fun _ _ _ k => k) k
theorem bX12_when_15 {G : Gt} {d bc bs : Nat} {Q : QT} {l : Ls} {z : List Value} {h : Hp} (k : (tIf (fun x => x = 0) (fun l z h => T G d bc bs mX12_when 18 l z h Q) (fun l z h => T G d bc bs mX12_when 20 l z h Q)) l z h) : T G d bc bs mX12_when 15 l z h Q := by
  exact R_if_ne dX12_when_15 (by decide) (fun _ _ _ k => k) (fun _ _ _ k => k) k
theorem bX12_when_18 {G : Gt} {d bc bs : Nat} {Q : QT} {l : Ls} {z : List Value} {h : Hp} (k : (tPush (.int (-1)) (tRetI Q)) l z h) : T G d bc bs mX12_when 18 l z h Q := by
  refine R_iconst dX12_when_18 (by decide) (fun l z h k => ?_) k
  exact R_iret dX12_when_19 rfl k
theorem bX12_when_20 {G : Gt} {d bc bs : Nat} {Q : QT} {l : Ls} {z : List Value} {h : Hp} (k : (tAld 0 (tGetf 10 10 (tAld 0 (tGetf 10 4 (tIld 1 (tAld 0 (tGetf 10 4 (tGetf 9 11 (tIld 1 (tXald 0 (tIld 2 (tPush (.int 100) (tCV5 G d 0 0 4 mX5_daysTillPaying (fun l z h => T G d bc bs mX12_when 44 l z h Q)))))))))))))) l z h) : T G d bc bs mX12_when 20 l z h Q := by
  refine R_aload_n dX12_when_20 rfl (fun l z h k => ?_) k
  refine R_getf (ci := 10) (f := 10) (C := RX12) (N := 16) (Tt := TX12) dX12_when_21 rfl i_X12 (by decide) w_495 (fun l z h k => ?_) k
  refine R_aload_n dX12_when_24 rfl (fun l z h k => ?_) k
  refine R_getf (ci := 10) (f := 4) (C := RX12) (N := 16) (Tt := TX12) dX12_when_25 rfl i_X12 (by decide) w_489 (fun l z h k => ?_) k
  refine R_iload_n dX12_when_28 rfl (fun l z h k => ?_) k
  refine R_aload_n dX12_when_29 rfl (fun l z h k => ?_) k
  refine R_getf (ci := 10) (f := 4) (C := RX12) (N := 16) (Tt := TX12) dX12_when_30 rfl i_X12 (by decide) w_489 (fun l z h k => ?_) k
  refine R_getf (ci := 9) (f := 11) (C := RX11) (N := 14) (Tt := TX11) dX12_when_33 rfl i_X11 (by decide) w_286 (fun l z h k => ?_) k
  refine R_iload_n dX12_when_36 rfl (fun l z h k => ?_) k
  refine R_iaload dX12_when_37 (fun l z h k => ?_) k
  refine R_iload_n dX12_when_38 rfl (fun l z h k => ?_) k
  refine R_bipush dX12_when_39 (by decide) (fun l z h k => ?_) k
  exact R_cv5 (M := mX12_when) (pc := 41) (bc := bc) (bs := bs) (cb := 0) (cs := 0) (M' := mX5_daysTillPaying) dX12_when_41 rfl (by decide) w_1021 w_142 w_1018 w_1019 w_1020 (by decide +kernel) (fun _ _ _ k => k) k
theorem bX12_when_44 {G : Gt} {d bc bs : Nat} {Q : QT} {l : Ls} {z : List Value} {h : Hp} (k : (tRetI Q) l z h) : T G d bc bs mX12_when 44 l z h Q := by
  exact R_iret dX12_when_44 rfl k
theorem dX12_teacher_0 : decode cX12_teacher 0 = .ok (.aload_n 0, 1) := by decide +kernel
theorem dX12_teacher_1 : decode cX12_teacher 1 = .ok (.getfield 44, 3) := by decide +kernel
theorem dX12_teacher_4 : decode cX12_teacher 4 = .ok (.iload_n 1, 1) := by decide +kernel
theorem dX12_teacher_5 : decode cX12_teacher 5 = .ok (.invokevirtual 139, 3) := by decide +kernel
theorem dX12_teacher_8 : decode cX12_teacher 8 = .ok (.ifCond .eq 18, 3) := by decide +kernel
theorem dX12_teacher_11 : decode cX12_teacher 11 = .ok (.aload_n 0, 1) := by decide +kernel
theorem dX12_teacher_12 : decode cX12_teacher 12 = .ok (.getfield 85, 3) := by decide +kernel
theorem dX12_teacher_15 : decode cX12_teacher 15 = .ok (.aload_n 0, 1) := by decide +kernel
theorem dX12_teacher_16 : decode cX12_teacher 16 = .ok (.getfield 44, 3) := by decide +kernel
theorem dX12_teacher_19 : decode cX12_teacher 19 = .ok (.iload_n 1, 1) := by decide +kernel
theorem dX12_teacher_20 : decode cX12_teacher 20 = .ok (.invokevirtual 264, 3) := by decide +kernel
theorem dX12_teacher_23 : decode cX12_teacher 23 = .ok (.goto 4, 3) := by decide +kernel
theorem dX12_teacher_26 : decode cX12_teacher 26 = .ok (.iconst (-1), 1) := by decide +kernel
theorem dX12_teacher_27 : decode cX12_teacher 27 = .ok (.ireturn, 1) := by decide +kernel
theorem bX12_teacher_0 {G : Gt} {d bc bs : Nat} {Q : QT} {l : Ls} {z : List Value} {h : Hp} (k : (tAld 0 (tGetf 10 4 (tIld 1 (tCV1 G d 0 0 9 mX11_isPerson (fun l z h => T G d bc bs mX12_teacher 8 l z h Q))))) l z h) : T G d bc bs mX12_teacher 0 l z h Q := by
  refine R_aload_n dX12_teacher_0 rfl (fun l z h k => ?_) k
  refine R_getf (ci := 10) (f := 4) (C := RX12) (N := 16) (Tt := TX12) dX12_teacher_1 rfl i_X12 (by decide) w_489 (fun l z h k => ?_) k
  refine R_iload_n dX12_teacher_4 rfl (fun l z h k => ?_) k
  exact R_cv1 (M := mX12_teacher) (pc := 5) (bc := bc) (bs := bs) (cb := 0) (cs := 0) (M' := mX11_isPerson) dX12_teacher_5 rfl (by decide) w_810 w_136 w_807 w_808 w_809 (by decide +kernel) (fun _ _ _ k => k) k
theorem bX12_teacher_8 {G : Gt} {d bc bs : Nat} {Q : QT} {l : Ls} {z : List Value} {h : Hp} (k : (tIf (fun x => x = 0) (fun l z h => T G d bc bs mX12_teacher 26 l z h Q) (fun l z h => T G d bc bs mX12_teacher 11 l z h Q)) l z h) : T G d bc bs mX12_teacher 8 l z h Q := by
  exact R_if_eq dX12_teacher_8 (by decide) (fun _ _ _ k => k) (fun _ _ _ k => k) k
theorem bX12_teacher_11 {G : Gt} {d bc bs : Nat} {Q : QT} {l : Ls} {z : List Value} {h : Hp} (k : (tAld 0 (tGetf 10 10 (tAld 0 (tGetf 10 4 (tIld 1 (tCV2 G d 0 0 4 mX5_findTeacher (fun l z h => T G d bc bs mX12_teacher 23 l z h Q))))))) l z h) : T G d bc bs mX12_teacher 11 l z h Q := by
  refine R_aload_n dX12_teacher_11 rfl (fun l z h k => ?_) k
  refine R_getf (ci := 10) (f := 10) (C := RX12) (N := 16) (Tt := TX12) dX12_teacher_12 rfl i_X12 (by decide) w_495 (fun l z h k => ?_) k
  refine R_aload_n dX12_teacher_15 rfl (fun l z h k => ?_) k
  refine R_getf (ci := 10) (f := 4) (C := RX12) (N := 16) (Tt := TX12) dX12_teacher_16 rfl i_X12 (by decide) w_489 (fun l z h k => ?_) k
  refine R_iload_n dX12_teacher_19 rfl (fun l z h k => ?_) k
  exact R_cv2 (M := mX12_teacher) (pc := 20) (bc := bc) (bs := bs) (cb := 0) (cs := 0) (M' := mX5_findTeacher) dX12_teacher_20 rfl (by decide) w_1036 w_142 w_1033 w_1034 w_1035 (by decide +kernel) (fun _ _ _ k => k) k
theorem bX12_teacher_23 {G : Gt} {d bc bs : Nat} {Q : QT} {l : Ls} {z : List Value} {h : Hp} (k : (fun l z h => T G d bc bs mX12_teacher 27 l z h Q) l z h) : T G d bc bs mX12_teacher 23 l z h Q := by
  exact R_goto dX12_teacher_23 (by decide) (fun _ _ _ k => k) k
theorem bX12_teacher_26 {G : Gt} {d bc bs : Nat} {Q : QT} {l : Ls} {z : List Value} {h : Hp} (k : (tPush (.int (-1)) ((fun l z h => T G d bc bs mX12_teacher 27 l z h Q))) l z h) : T G d bc bs mX12_teacher 26 l z h Q := by
  refine R_iconst dX12_teacher_26 (by decide) (fun l z h k => ?_) k
  exact k
theorem bX12_teacher_27 {G : Gt} {d bc bs : Nat} {Q : QT} {l : Ls} {z : List Value} {h : Hp} (k : (tRetI Q) l z h) : T G d bc bs mX12_teacher 27 l z h Q := by
  exact R_iret dX12_teacher_27 rfl k
theorem dX12_taught_0 : decode cX12_taught 0 = .ok (.aload_n 0, 1) := by decide +kernel
theorem dX12_taught_1 : decode cX12_taught 1 = .ok (.getfield 85, 3) := by decide +kernel
theorem dX12_taught_4 : decode cX12_taught 4 = .ok (.getfield 267, 3) := by decide +kernel
theorem dX12_taught_7 : decode cX12_taught 7 = .ok (.ireturn, 1) := by decide +kernel
theorem bX12_taught_0 {G : Gt} {d bc bs : Nat} {Q : QT} {l : Ls} {z : List Value} {h : Hp} (k : (tAld 0 (tGetf 10 10 (tGetf 4 2 (tRetI Q)))) l z h) : T G d bc bs mX12_taught 0 l z h Q := by
  refine R_aload_n dX12_taught_0 rfl (fun l z h k => ?_) k
  refine R_getf (ci := 10) (f := 10) (C := RX12) (N := 16) (Tt := TX12) dX12_taught_1 rfl i_X12 (by decide) w_495 (fun l z h k => ?_) k
  refine R_getf (ci := 4) (f := 2) (C := RX5) (N := 8) (Tt := TX5) dX12_taught_4 rfl i_X5 (by decide) w_440 (fun l z h k => ?_) k
  exact R_iret dX12_taught_7 rfl k
theorem dX12_school_0 : decode cX12_school 0 = .ok (.aload_n 0, 1) := by decide +kernel
theorem dX12_school_1 : decode cX12_school 1 = .ok (.getfield 85, 3) := by decide +kernel
theorem dX12_school_4 : decode cX12_school 4 = .ok (.aload_n 0, 1) := by decide +kernel
theorem dX12_school_5 : decode cX12_school 5 = .ok (.getfield 44, 3) := by decide +kernel
theorem dX12_school_8 : decode cX12_school 8 = .ok (.invokevirtual 270, 3) := by decide +kernel
theorem dX12_school_11 : decode cX12_school 11 = .ok (.ireturn, 1) := by decide +kernel
theorem bX12_school_0 {G : Gt} {d bc bs : Nat} {Q : QT} {l : Ls} {z : List Value} {h : Hp} (k : (tAld 0 (tGetf 10 10 (tAld 0 (tGetf 10 4 (tCV1 G d 0 0 4 mX5_findSchool (fun l z h => T G d bc bs mX12_school 11 l z h Q)))))) l z h) : T G d bc bs mX12_school 0 l z h Q := by
  refine R_aload_n dX12_school_0 rfl (fun l z h k => ?_) k
  refine R_getf (ci := 10) (f := 10) (C := RX12) (N := 16) (Tt := TX12) dX12_school_1 rfl i_X12 (by decide) w_495 (fun l z h k => ?_) k
  refine R_aload_n dX12_school_4 rfl (fun l z h k => ?_) k
  refine R_getf (ci := 10) (f := 4) (C := RX12) (N := 16) (Tt := TX12) dX12_school_5 rfl i_X12 (by decide) w_489 (fun l z h k => ?_) k
  exact R_cv1 (M := mX12_school) (pc := 8) (bc := bc) (bs := bs) (cb := 0) (cs := 0) (M' := mX5_findSchool) dX12_school_8 rfl (by decide) w_1049 w_142 w_1046 w_1047 w_1048 (by decide +kernel) (fun _ _ _ k => k) k
theorem bX12_school_11 {G : Gt} {d bc bs : Nat} {Q : QT} {l : Ls} {z : List Value} {h : Hp} (k : (tRetI Q) l z h) : T G d bc bs mX12_school 11 l z h Q := by
  exact R_iret dX12_school_11 rfl k
theorem dX12_schooled_0 : decode cX12_schooled 0 = .ok (.aload_n 0, 1) := by decide +kernel
theorem dX12_schooled_1 : decode cX12_schooled 1 = .ok (.getfield 85, 3) := by decide +kernel
theorem dX12_schooled_4 : decode cX12_schooled 4 = .ok (.iload_n 1, 1) := by decide +kernel
theorem dX12_schooled_5 : decode cX12_schooled 5 = .ok (.invokevirtual 273, 3) := by decide +kernel
theorem dX12_schooled_8 : decode cX12_schooled 8 = .ok (.ireturn, 1) := by decide +kernel
theorem bX12_schooled_0 {G : Gt} {d bc bs : Nat} {Q : QT} {l : Ls} {z : List Value} {h : Hp} (k : (tAld 0 (tGetf 10 10 (tIld 1 (tCV1 G d 0 0 4 mX5_schoolmateOf (fun l z h => T G d bc bs mX12_schooled 8 l z h Q))))) l z h) : T G d bc bs mX12_schooled 0 l z h Q := by
  refine R_aload_n dX12_schooled_0 rfl (fun l z h k => ?_) k
  refine R_getf (ci := 10) (f := 10) (C := RX12) (N := 16) (Tt := TX12) dX12_schooled_1 rfl i_X12 (by decide) w_495 (fun l z h k => ?_) k
  refine R_iload_n dX12_schooled_4 rfl (fun l z h k => ?_) k
  exact R_cv1 (M := mX12_schooled) (pc := 5) (bc := bc) (bs := bs) (cb := 0) (cs := 0) (M' := mX5_schoolmateOf) dX12_schooled_5 rfl (by decide) w_1068 w_142 w_1065 w_1066 w_1067 (by decide +kernel) (fun _ _ _ k => k) k
theorem bX12_schooled_8 {G : Gt} {d bc bs : Nat} {Q : QT} {l : Ls} {z : List Value} {h : Hp} (k : (tRetI Q) l z h) : T G d bc bs mX12_schooled 8 l z h Q := by
  exact R_iret dX12_schooled_8 rfl k
theorem dX12_laws_0 : decode cX12_laws 0 = .ok (.aload_n 0, 1) := by decide +kernel
theorem dX12_laws_1 : decode cX12_laws 1 = .ok (.getfield 92, 3) := by decide +kernel
theorem dX12_laws_4 : decode cX12_laws 4 = .ok (.aload_n 0, 1) := by decide +kernel
theorem dX12_laws_5 : decode cX12_laws 5 = .ok (.getfield 10, 3) := by decide +kernel
theorem dX12_laws_8 : decode cX12_laws 8 = .ok (.aload_n 0, 1) := by decide +kernel
theorem dX12_laws_9 : decode cX12_laws 9 = .ok (.getfield 44, 3) := by decide +kernel
theorem dX12_laws_12 : decode cX12_laws 12 = .ok (.invokevirtual 276, 3) := by decide +kernel
theorem dX12_laws_15 : decode cX12_laws 15 = .ok (.istore_n 1, 1) := by decide +kernel
theorem dX12_laws_16 : decode cX12_laws 16 = .ok (.aload_n 0, 1) := by decide +kernel
theorem dX12_laws_17 : decode cX12_laws 17 = .ok (.getfield 10, 3) := by decide +kernel
theorem dX12_laws_20 : decode cX12_laws 20 = .ok (.iconst 0, 1) := by decide +kernel
theorem dX12_laws_21 : decode cX12_laws 21 = .ok (.putfield 108, 3) := by decide +kernel
theorem dX12_laws_24 : decode cX12_laws 24 = .ok (.iload_n 1, 1) := by decide +kernel
theorem dX12_laws_25 : decode cX12_laws 25 = .ok (.ireturn, 1) := by decide +kernel
theorem bX12_laws_0 {G : Gt} {d bc bs : Nat} {Q : QT} {l : Ls} {z : List Value} {h : Hp} (k : (tAld 0 (tGetf 10 11 (tAld 0 (tGetf 10 0 (tAld 0 (tGetf 10 4 (tCV2 G d 0 0 3 mX4_findSets (fun l z h => T G d bc bs mX12_laws 15 l z h Q)))))))) l z h) : T G d bc bs mX12_laws 0 l z h Q := by
  refine R_aload_n dX12_laws_0 rfl (fun l z h k => ?_) k
  refine R_getf (ci := 10) (f := 11) (C := RX12) (N := 16) (Tt := TX12) dX12_laws_1 rfl i_X12 (by decide) w_496 (fun l z h k => ?_) k
  refine R_aload_n dX12_laws_4 rfl (fun l z h k => ?_) k
  refine R_getf (ci := 10) (f := 0) (C := RX12) (N := 16) (Tt := TX12) dX12_laws_5 rfl i_X12 (by decide) w_485 (fun l z h k => ?_) k
  refine R_aload_n dX12_laws_8 rfl (fun l z h k => ?_) k
  refine R_getf (ci := 10) (f := 4) (C := RX12) (N := 16) (Tt := TX12) dX12_laws_9 rfl i_X12 (by decide) w_489 (fun l z h k => ?_) k
  exact R_cv2 (M := mX12_laws) (pc := 12) (bc := bc) (bs := bs) (cb := 0) (cs := 0) (M' := mX4_findSets) dX12_laws_12 rfl (by decide) w_1076 w_143 w_1073 w_1074 w_1075 (by decide +kernel) (fun _ _ _ k => k) k
theorem bX12_laws_15 {G : Gt} {d bc bs : Nat} {Q : QT} {l : Ls} {z : List Value} {h : Hp} (k : (tIst 1 (tAld 0 (tGetf 10 0 (tPush (.int 0) (tPutf isI 7 1 (tIld 1 (tRetI Q))))))) l z h) : T G d bc bs mX12_laws 15 l z h Q := by
  refine R_istore_n dX12_laws_15 rfl (by decide) (fun l z h k => ?_) k
  refine R_aload_n dX12_laws_16 rfl (fun l z h k => ?_) k
  refine R_getf (ci := 10) (f := 0) (C := RX12) (N := 16) (Tt := TX12) dX12_laws_17 rfl i_X12 (by decide) w_485 (fun l z h k => ?_) k
  refine R_iconst dX12_laws_20 (by decide) (fun l z h k => ?_) k
  refine R_putf (ci := 7) (f := 1) (C := RX8) (N := 2) (Tt := TX8) tyX8 tyX8_ok nmX8 dX12_laws_21 rfl i_X8 (by decide) w_176 rfl (tyX8_ok 1 (by decide)) p_int (fun l z h k => ?_) k
  refine R_iload_n dX12_laws_24 rfl (fun l z h k => ?_) k
  exact R_iret dX12_laws_25 rfl k
theorem dX12_smallest_0 : decode cX12_smallest 0 = .ok (.aload_n 0, 1) := by decide +kernel
theorem dX12_smallest_1 : decode cX12_smallest 1 = .ok (.getfield 92, 3) := by decide +kernel
theorem dX12_smallest_4 : decode cX12_smallest 4 = .ok (.getfield 280, 3) := by decide +kernel
theorem dX12_smallest_7 : decode cX12_smallest 7 = .ok (.ireturn, 1) := by decide +kernel
theorem bX12_smallest_0 {G : Gt} {d bc bs : Nat} {Q : QT} {l : Ls} {z : List Value} {h : Hp} (k : (tAld 0 (tGetf 10 11 (tGetf 3 2 (tRetI Q)))) l z h) : T G d bc bs mX12_smallest 0 l z h Q := by
  refine R_aload_n dX12_smallest_0 rfl (fun l z h k => ?_) k
  refine R_getf (ci := 10) (f := 11) (C := RX12) (N := 16) (Tt := TX12) dX12_smallest_1 rfl i_X12 (by decide) w_496 (fun l z h k => ?_) k
  refine R_getf (ci := 3) (f := 2) (C := RX4) (N := 4) (Tt := TX4) dX12_smallest_4 rfl i_X4 (by decide) w_473 (fun l z h k => ?_) k
  exact R_iret dX12_smallest_7 rfl k
theorem dX12_offer_0 : decode cX12_offer 0 = .ok (.aload_n 0, 1) := by decide +kernel
theorem dX12_offer_1 : decode cX12_offer 1 = .ok (.getfield 92, 3) := by decide +kernel
theorem dX12_offer_4 : decode cX12_offer 4 = .ok (.getfield 283, 3) := by decide +kernel
theorem dX12_offer_7 : decode cX12_offer 7 = .ok (.ireturn, 1) := by decide +kernel
theorem bX12_offer_0 {G : Gt} {d bc bs : Nat} {Q : QT} {l : Ls} {z : List Value} {h : Hp} (k : (tAld 0 (tGetf 10 11 (tGetf 3 3 (tRetI Q)))) l z h) : T G d bc bs mX12_offer 0 l z h Q := by
  refine R_aload_n dX12_offer_0 rfl (fun l z h k => ?_) k
  refine R_getf (ci := 10) (f := 11) (C := RX12) (N := 16) (Tt := TX12) dX12_offer_1 rfl i_X12 (by decide) w_496 (fun l z h k => ?_) k
  refine R_getf (ci := 3) (f := 3) (C := RX4) (N := 4) (Tt := TX4) dX12_offer_4 rfl i_X4 (by decide) w_475 (fun l z h k => ?_) k
  exact R_iret dX12_offer_7 rfl k
theorem dX12_sham_0 : decode cX12_sham 0 = .ok (.aload_n 0, 1) := by decide +kernel
theorem dX12_sham_1 : decode cX12_sham 1 = .ok (.getfield 44, 3) := by decide +kernel
theorem dX12_sham_4 : decode cX12_sham 4 = .ok (.iload_n 1, 1) := by decide +kernel
theorem dX12_sham_5 : decode cX12_sham 5 = .ok (.invokevirtual 139, 3) := by decide +kernel
theorem dX12_sham_8 : decode cX12_sham 8 = .ok (.ifCond .eq 14, 3) := by decide +kernel
theorem dX12_sham_11 : decode cX12_sham 11 = .ok (.aload_n 0, 1) := by decide +kernel
theorem dX12_sham_12 : decode cX12_sham 12 = .ok (.getfield 44, 3) := by decide +kernel
theorem dX12_sham_15 : decode cX12_sham 15 = .ok (.iload_n 1, 1) := by decide +kernel
theorem dX12_sham_16 : decode cX12_sham 16 = .ok (.invokevirtual 286, 3) := by decide +kernel
theorem dX12_sham_19 : decode cX12_sham 19 = .ok (.goto 4, 3) := by decide +kernel
theorem dX12_sham_22 : decode cX12_sham 22 = .ok (.iconst (-1), 1) := by decide +kernel
theorem dX12_sham_23 : decode cX12_sham 23 = .ok (.ireturn, 1) := by decide +kernel
theorem bX12_sham_0 {G : Gt} {d bc bs : Nat} {Q : QT} {l : Ls} {z : List Value} {h : Hp} (k : (tAld 0 (tGetf 10 4 (tIld 1 (tCV1 G d 0 0 9 mX11_isPerson (fun l z h => T G d bc bs mX12_sham 8 l z h Q))))) l z h) : T G d bc bs mX12_sham 0 l z h Q := by
  refine R_aload_n dX12_sham_0 rfl (fun l z h k => ?_) k
  refine R_getf (ci := 10) (f := 4) (C := RX12) (N := 16) (Tt := TX12) dX12_sham_1 rfl i_X12 (by decide) w_489 (fun l z h k => ?_) k
  refine R_iload_n dX12_sham_4 rfl (fun l z h k => ?_) k
  exact R_cv1 (M := mX12_sham) (pc := 5) (bc := bc) (bs := bs) (cb := 0) (cs := 0) (M' := mX11_isPerson) dX12_sham_5 rfl (by decide) w_810 w_136 w_807 w_808 w_809 (by decide +kernel) (fun _ _ _ k => k) k
theorem bX12_sham_8 {G : Gt} {d bc bs : Nat} {Q : QT} {l : Ls} {z : List Value} {h : Hp} (k : (tIf (fun x => x = 0) (fun l z h => T G d bc bs mX12_sham 22 l z h Q) (fun l z h => T G d bc bs mX12_sham 11 l z h Q)) l z h) : T G d bc bs mX12_sham 8 l z h Q := by
  exact R_if_eq dX12_sham_8 (by decide) (fun _ _ _ k => k) (fun _ _ _ k => k) k
theorem bX12_sham_11 {G : Gt} {d bc bs : Nat} {Q : QT} {l : Ls} {z : List Value} {h : Hp} (k : (tAld 0 (tGetf 10 4 (tIld 1 (tCV1 G d 0 0 9 mX11_whoCouldPassFor (fun l z h => T G d bc bs mX12_sham 19 l z h Q))))) l z h) : T G d bc bs mX12_sham 11 l z h Q := by
  refine R_aload_n dX12_sham_11 rfl (fun l z h k => ?_) k
  refine R_getf (ci := 10) (f := 4) (C := RX12) (N := 16) (Tt := TX12) dX12_sham_12 rfl i_X12 (by decide) w_489 (fun l z h k => ?_) k
  refine R_iload_n dX12_sham_15 rfl (fun l z h k => ?_) k
  exact R_cv1 (M := mX12_sham) (pc := 16) (bc := bc) (bs := bs) (cb := 0) (cs := 0) (M' := mX11_whoCouldPassFor) dX12_sham_16 rfl (by decide) w_1123 w_136 w_1120 w_1121 w_1122 (by decide +kernel) (fun _ _ _ k => k) k
theorem bX12_sham_19 {G : Gt} {d bc bs : Nat} {Q : QT} {l : Ls} {z : List Value} {h : Hp} (k : (fun l z h => T G d bc bs mX12_sham 23 l z h Q) l z h) : T G d bc bs mX12_sham 19 l z h Q := by
  exact R_goto dX12_sham_19 (by decide) (fun _ _ _ k => k) k
theorem bX12_sham_22 {G : Gt} {d bc bs : Nat} {Q : QT} {l : Ls} {z : List Value} {h : Hp} (k : (tPush (.int (-1)) ((fun l z h => T G d bc bs mX12_sham 23 l z h Q))) l z h) : T G d bc bs mX12_sham 22 l z h Q := by
  refine R_iconst dX12_sham_22 (by decide) (fun l z h k => ?_) k
  exact k
theorem bX12_sham_23 {G : Gt} {d bc bs : Nat} {Q : QT} {l : Ls} {z : List Value} {h : Hp} (k : (tRetI Q) l z h) : T G d bc bs mX12_sham 23 l z h Q := by
  exact R_iret dX12_sham_23 rfl k
theorem dX12_rush_0 : decode cX12_rush 0 = .ok (.aload_n 0, 1) := by decide +kernel
theorem dX12_rush_1 : decode cX12_rush 1 = .ok (.getfield 85, 3) := by decide +kernel
theorem dX12_rush_4 : decode cX12_rush 4 = .ok (.aload_n 0, 1) := by decide +kernel
theorem dX12_rush_5 : decode cX12_rush 5 = .ok (.getfield 44, 3) := by decide +kernel
theorem dX12_rush_8 : decode cX12_rush 8 = .ok (.invokevirtual 289, 3) := by decide +kernel
theorem dX12_rush_11 : decode cX12_rush 11 = .ok (.ireturn, 1) := by decide +kernel
theorem bX12_rush_0 {G : Gt} {d bc bs : Nat} {Q : QT} {l : Ls} {z : List Value} {h : Hp} (k : (tAld 0 (tGetf 10 10 (tAld 0 (tGetf 10 4 (tCV1 G d 0 0 4 mX5_findRush (fun l z h => T G d bc bs mX12_rush 11 l z h Q)))))) l z h) : T G d bc bs mX12_rush 0 l z h Q := by
  refine R_aload_n dX12_rush_0 rfl (fun l z h k => ?_) k
  refine R_getf (ci := 10) (f := 10) (C := RX12) (N := 16) (Tt := TX12) dX12_rush_1 rfl i_X12 (by decide) w_495 (fun l z h k => ?_) k
  refine R_aload_n dX12_rush_4 rfl (fun l z h k => ?_) k
  refine R_getf (ci := 10) (f := 4) (C := RX12) (N := 16) (Tt := TX12) dX12_rush_5 rfl i_X12 (by decide) w_489 (fun l z h k => ?_) k
  exact R_cv1 (M := mX12_rush) (pc := 8) (bc := bc) (bs := bs) (cb := 0) (cs := 0) (M' := mX5_findRush) dX12_rush_8 rfl (by decide) w_1135 w_142 w_1132 w_1133 w_1134 (by decide +kernel) (fun _ _ _ k => k) k
theorem bX12_rush_11 {G : Gt} {d bc bs : Nat} {Q : QT} {l : Ls} {z : List Value} {h : Hp} (k : (tRetI Q) l z h) : T G d bc bs mX12_rush 11 l z h Q := by
  exact R_iret dX12_rush_11 rfl k
theorem dX12_crowd_0 : decode cX12_crowd 0 = .ok (.aload_n 0, 1) := by decide +kernel
theorem dX12_crowd_1 : decode cX12_crowd 1 = .ok (.getfield 85, 3) := by decide +kernel
theorem dX12_crowd_4 : decode cX12_crowd 4 = .ok (.getfield 292, 3) := by decide +kernel
theorem dX12_crowd_7 : decode cX12_crowd 7 = .ok (.ireturn, 1) := by decide +kernel
theorem bX12_crowd_0 {G : Gt} {d bc bs : Nat} {Q : QT} {l : Ls} {z : List Value} {h : Hp} (k : (tAld 0 (tGetf 10 10 (tGetf 4 3 (tRetI Q)))) l z h) : T G d bc bs mX12_crowd 0 l z h Q := by
  refine R_aload_n dX12_crowd_0 rfl (fun l z h k => ?_) k
  refine R_getf (ci := 10) (f := 10) (C := RX12) (N := 16) (Tt := TX12) dX12_crowd_1 rfl i_X12 (by decide) w_495 (fun l z h k => ?_) k
  refine R_getf (ci := 4) (f := 3) (C := RX5) (N := 8) (Tt := TX5) dX12_crowd_4 rfl i_X5 (by decide) w_442 (fun l z h k => ?_) k
  exact R_iret dX12_crowd_7 rfl k
theorem dX12_eased_0 : decode cX12_eased 0 = .ok (.iload_n 1, 1) := by decide +kernel
theorem dX12_eased_1 : decode cX12_eased 1 = .ok (.invokestatic 185, 3) := by decide +kernel
theorem dX12_eased_4 : decode cX12_eased 4 = .ok (.ifCond .eq 14, 3) := by decide +kernel
theorem dX12_eased_7 : decode cX12_eased 7 = .ok (.aload_n 0, 1) := by decide +kernel
theorem dX12_eased_8 : decode cX12_eased 8 = .ok (.getfield 44, 3) := by decide +kernel
theorem dX12_eased_11 : decode cX12_eased 11 = .ok (.iload_n 1, 1) := by decide +kernel
theorem dX12_eased_12 : decode cX12_eased 12 = .ok (.invokevirtual 295, 3) := by decide +kernel
theorem dX12_eased_15 : decode cX12_eased 15 = .ok (.goto 4, 3) := by decide +kernel
theorem dX12_eased_18 : decode cX12_eased 18 = .ok (.iconst (-1), 1) := by decide +kernel
theorem dX12_eased_19 : decode cX12_eased 19 = .ok (.ireturn, 1) := by decide +kernel
theorem bX12_eased_0 {G : Gt} {d bc bs : Nat} {Q : QT} {l : Ls} {z : List Value} {h : Hp} (k : (tIld 1 (tCS1 G d 0 0 mX12_isEnd (fun l z h => T G d bc bs mX12_eased 4 l z h Q))) l z h) : T G d bc bs mX12_eased 0 l z h Q := by
  refine R_iload_n dX12_eased_0 rfl (fun l z h k => ?_) k
  exact R_cs1 (M := mX12_eased) (pc := 1) (bc := bc) (bs := bs) (cb := 0) (cs := 0) (M' := mX12_isEnd) dX12_eased_1 (by decide) w_831 w_130 w_829 w_830 (by decide +kernel) (fun _ _ _ k => k) k
theorem bX12_eased_4 {G : Gt} {d bc bs : Nat} {Q : QT} {l : Ls} {z : List Value} {h : Hp} (k : (tIf (fun x => x = 0) (fun l z h => T G d bc bs mX12_eased 18 l z h Q) (fun l z h => T G d bc bs mX12_eased 7 l z h Q)) l z h) : T G d bc bs mX12_eased 4 l z h Q := by
  exact R_if_eq dX12_eased_4 (by decide) (fun _ _ _ k => k) (fun _ _ _ k => k) k
theorem bX12_eased_7 {G : Gt} {d bc bs : Nat} {Q : QT} {l : Ls} {z : List Value} {h : Hp} (k : (tAld 0 (tGetf 10 4 (tIld 1 (tCV1 G d 0 0 9 mX11_excessAsked (fun l z h => T G d bc bs mX12_eased 15 l z h Q))))) l z h) : T G d bc bs mX12_eased 7 l z h Q := by
  refine R_aload_n dX12_eased_7 rfl (fun l z h k => ?_) k
  refine R_getf (ci := 10) (f := 4) (C := RX12) (N := 16) (Tt := TX12) dX12_eased_8 rfl i_X12 (by decide) w_489 (fun l z h k => ?_) k
  refine R_iload_n dX12_eased_11 rfl (fun l z h k => ?_) k
  exact R_cv1 (M := mX12_eased) (pc := 12) (bc := bc) (bs := bs) (cb := 0) (cs := 0) (M' := mX11_excessAsked) dX12_eased_12 rfl (by decide) w_1158 w_136 w_1155 w_1156 w_1157 (by decide +kernel) (fun _ _ _ k => k) k
theorem bX12_eased_15 {G : Gt} {d bc bs : Nat} {Q : QT} {l : Ls} {z : List Value} {h : Hp} (k : (fun l z h => T G d bc bs mX12_eased 19 l z h Q) l z h) : T G d bc bs mX12_eased 15 l z h Q := by
  exact R_goto dX12_eased_15 (by decide) (fun _ _ _ k => k) k
theorem bX12_eased_18 {G : Gt} {d bc bs : Nat} {Q : QT} {l : Ls} {z : List Value} {h : Hp} (k : (tPush (.int (-1)) ((fun l z h => T G d bc bs mX12_eased 19 l z h Q))) l z h) : T G d bc bs mX12_eased 18 l z h Q := by
  refine R_iconst dX12_eased_18 (by decide) (fun l z h k => ?_) k
  exact k
theorem bX12_eased_19 {G : Gt} {d bc bs : Nat} {Q : QT} {l : Ls} {z : List Value} {h : Hp} (k : (tRetI Q) l z h) : T G d bc bs mX12_eased 19 l z h Q := by
  exact R_iret dX12_eased_19 rfl k
theorem dX12_odds_0 : decode cX12_odds 0 = .ok (.aload_n 0, 1) := by decide +kernel
theorem dX12_odds_1 : decode cX12_odds 1 = .ok (.getfield 44, 3) := by decide +kernel
theorem dX12_odds_4 : decode cX12_odds 4 = .ok (.iload_n 1, 1) := by decide +kernel
theorem dX12_odds_5 : decode cX12_odds 5 = .ok (.invokevirtual 139, 3) := by decide +kernel
theorem dX12_odds_8 : decode cX12_odds 8 = .ok (.ifCond .eq 14, 3) := by decide +kernel
theorem dX12_odds_11 : decode cX12_odds 11 = .ok (.iload_n 2, 1) := by decide +kernel
theorem dX12_odds_12 : decode cX12_odds 12 = .ok (.iconst 1, 1) := by decide +kernel
theorem dX12_odds_13 : decode cX12_odds 13 = .ok (.if_icmp .lt 9, 3) := by decide +kernel
theorem dX12_odds_16 : decode cX12_odds 16 = .ok (.iload_n 2, 1) := by decide +kernel
theorem dX12_odds_17 : decode cX12_odds 17 = .ok (.bipush 30, 2) := by decide +kernel
theorem dX12_odds_19 : decode cX12_odds 19 = .ok (.if_icmp .le 5, 3) := by decide +kernel
theorem dX12_odds_22 : decode cX12_odds 22 = .ok (.iconst (-1), 1) := by decide +kernel
theorem dX12_odds_23 : decode cX12_odds 23 = .ok (.ireturn, 1) := by decide +kernel
theorem dX12_odds_24 : decode cX12_odds 24 = .ok (.aload_n 0, 1) := by decide +kernel
theorem dX12_odds_25 : decode cX12_odds 25 = .ok (.getfield 85, 3) := by decide +kernel
theorem dX12_odds_28 : decode cX12_odds 28 = .ok (.aload_n 0, 1) := by decide +kernel
theorem dX12_odds_29 : decode cX12_odds 29 = .ok (.getfield 44, 3) := by decide +kernel
theorem dX12_odds_32 : decode cX12_odds 32 = .ok (.iload_n 1, 1) := by decide +kernel
theorem dX12_odds_33 : decode cX12_odds 33 = .ok (.iload_n 2, 1) := by decide +kernel
theorem dX12_odds_34 : decode cX12_odds 34 = .ok (.iload_n 3, 1) := by decide +kernel
theorem dX12_odds_35 : decode cX12_odds 35 = .ok (.invokevirtual 298, 3) := by decide +kernel
theorem dX12_odds_38 : decode cX12_odds 38 = .ok (.ireturn, 1) := by decide +kernel
theorem bX12_odds_0 {G : Gt} {d bc bs : Nat} {Q : QT} {l : Ls} {z : List Value} {h : Hp} (k : (tAld 0 (tGetf 10 4 (tIld 1 (tCV1 G d 0 0 9 mX11_isPerson (fun l z h => T G d bc bs mX12_odds 8 l z h Q))))) l z h) : T G d bc bs mX12_odds 0 l z h Q := by
  refine R_aload_n dX12_odds_0 rfl (fun l z h k => ?_) k
  refine R_getf (ci := 10) (f := 4) (C := RX12) (N := 16) (Tt := TX12) dX12_odds_1 rfl i_X12 (by decide) w_489 (fun l z h k => ?_) k
  refine R_iload_n dX12_odds_4 rfl (fun l z h k => ?_) k
  exact R_cv1 (M := mX12_odds) (pc := 5) (bc := bc) (bs := bs) (cb := 0) (cs := 0) (M' := mX11_isPerson) dX12_odds_5 rfl (by decide) w_810 w_136 w_807 w_808 w_809 (by decide +kernel) (fun _ _ _ k => k) k
theorem bX12_odds_8 {G : Gt} {d bc bs : Nat} {Q : QT} {l : Ls} {z : List Value} {h : Hp} (k : (tIf (fun x => x = 0) (fun l z h => T G d bc bs mX12_odds 22 l z h Q) (fun l z h => T G d bc bs mX12_odds 11 l z h Q)) l z h) : T G d bc bs mX12_odds 8 l z h Q := by
  exact R_if_eq dX12_odds_8 (by decide) (fun _ _ _ k => k) (fun _ _ _ k => k) k
theorem bX12_odds_11 {G : Gt} {d bc bs : Nat} {Q : QT} {l : Ls} {z : List Value} {h : Hp} (k : (tIld 2 (tPush (.int 1) (tIf2 (fun x y => x < y) (fun l z h => T G d bc bs mX12_odds 22 l z h Q) (fun l z h => T G d bc bs mX12_odds 16 l z h Q)))) l z h) : T G d bc bs mX12_odds 11 l z h Q := by
  refine R_iload_n dX12_odds_11 rfl (fun l z h k => ?_) k
  refine R_iconst dX12_odds_12 (by decide) (fun l z h k => ?_) k
  exact R_icmp_lt dX12_odds_13 (by decide) (fun _ _ _ k => k) (fun _ _ _ k => k) k
theorem bX12_odds_16 {G : Gt} {d bc bs : Nat} {Q : QT} {l : Ls} {z : List Value} {h : Hp} (k : (tIld 2 (tPush (.int 30) (tIf2 (fun x y => x ≤ y) (fun l z h => T G d bc bs mX12_odds 24 l z h Q) (fun l z h => T G d bc bs mX12_odds 22 l z h Q)))) l z h) : T G d bc bs mX12_odds 16 l z h Q := by
  refine R_iload_n dX12_odds_16 rfl (fun l z h k => ?_) k
  refine R_bipush dX12_odds_17 (by decide) (fun l z h k => ?_) k
  exact R_icmp_le dX12_odds_19 (by decide) (fun _ _ _ k => k) (fun _ _ _ k => k) k
theorem bX12_odds_22 {G : Gt} {d bc bs : Nat} {Q : QT} {l : Ls} {z : List Value} {h : Hp} (k : (tPush (.int (-1)) (tRetI Q)) l z h) : T G d bc bs mX12_odds 22 l z h Q := by
  refine R_iconst dX12_odds_22 (by decide) (fun l z h k => ?_) k
  exact R_iret dX12_odds_23 rfl k
theorem bX12_odds_24 {G : Gt} {d bc bs : Nat} {Q : QT} {l : Ls} {z : List Value} {h : Hp} (k : (tAld 0 (tGetf 10 10 (tAld 0 (tGetf 10 4 (tIld 1 (tIld 2 (tIld 3 (tCV4 G d 0 0 4 mX5_timesAtWanted (fun l z h => T G d bc bs mX12_odds 38 l z h Q))))))))) l z h) : T G d bc bs mX12_odds 24 l z h Q := by
  refine R_aload_n dX12_odds_24 rfl (fun l z h k => ?_) k
  refine R_getf (ci := 10) (f := 10) (C := RX12) (N := 16) (Tt := TX12) dX12_odds_25 rfl i_X12 (by decide) w_495 (fun l z h k => ?_) k
  refine R_aload_n dX12_odds_28 rfl (fun l z h k => ?_) k
  refine R_getf (ci := 10) (f := 4) (C := RX12) (N := 16) (Tt := TX12) dX12_odds_29 rfl i_X12 (by decide) w_489 (fun l z h k => ?_) k
  refine R_iload_n dX12_odds_32 rfl (fun l z h k => ?_) k
  refine R_iload_n dX12_odds_33 rfl (fun l z h k => ?_) k
  refine R_iload_n dX12_odds_34 rfl (fun l z h k => ?_) k
  exact R_cv4 (M := mX12_odds) (pc := 35) (bc := bc) (bs := bs) (cb := 0) (cs := 0) (M' := mX5_timesAtWanted) dX12_odds_35 rfl (by decide) w_1166 w_142 w_1163 w_1164 w_1165 (by decide +kernel) (fun _ _ _ k => k) k
theorem bX12_odds_38 {G : Gt} {d bc bs : Nat} {Q : QT} {l : Ls} {z : List Value} {h : Hp} (k : (tRetI Q) l z h) : T G d bc bs mX12_odds 38 l z h Q := by
  exact R_iret dX12_odds_38 rfl k
theorem dX12_pass_0 : decode cX12_pass 0 = .ok (.aload_n 0, 1) := by decide +kernel
theorem dX12_pass_1 : decode cX12_pass 1 = .ok (.getfield 44, 3) := by decide +kernel
theorem dX12_pass_4 : decode cX12_pass 4 = .ok (.iload_n 1, 1) := by decide +kernel
theorem dX12_pass_5 : decode cX12_pass 5 = .ok (.invokevirtual 139, 3) := by decide +kernel
theorem dX12_pass_8 : decode cX12_pass 8 = .ok (.ifCond .ne 5, 3) := by decide +kernel
theorem dX12_pass_11 : decode cX12_pass 11 = .ok (.iconst (-1), 1) := by decide +kernel
theorem dX12_pass_12 : decode cX12_pass 12 = .ok (.ireturn, 1) := by decide +kernel
theorem dX12_pass_13 : decode cX12_pass 13 = .ok (.aload_n 0, 1) := by decide +kernel
theorem dX12_pass_14 : decode cX12_pass 14 = .ok (.iconst 0, 1) := by decide +kernel
theorem dX12_pass_15 : decode cX12_pass 15 = .ok (.putfield 302, 3) := by decide +kernel
theorem dX12_pass_18 : decode cX12_pass 18 = .ok (.aload_n 0, 1) := by decide +kernel
theorem dX12_pass_19 : decode cX12_pass 19 = .ok (.aload_n 0, 1) := by decide +kernel
theorem dX12_pass_20 : decode cX12_pass 20 = .ok (.getfield 44, 3) := by decide +kernel
theorem dX12_pass_23 : decode cX12_pass 23 = .ok (.getfield 305, 3) := by decide +kernel
theorem dX12_pass_26 : decode cX12_pass 26 = .ok (.iload_n 1, 1) := by decide +kernel
theorem dX12_pass_27 : decode cX12_pass 27 = .ok (.laload, 1) := by decide +kernel
theorem dX12_pass_28 : decode cX12_pass 28 = .ok (.invokevirtual 309, 3) := by decide +kernel
theorem dX12_pass_31 : decode cX12_pass 31 = .ok (.aload_n 0, 1) := by decide +kernel
theorem dX12_pass_32 : decode cX12_pass 32 = .ok (.getfield 44, 3) := by decide +kernel
theorem dX12_pass_35 : decode cX12_pass 35 = .ok (.getfield 153, 3) := by decide +kernel
theorem dX12_pass_38 : decode cX12_pass 38 = .ok (.iload_n 1, 1) := by decide +kernel
theorem dX12_pass_39 : decode cX12_pass 39 = .ok (.iaload, 1) := by decide +kernel
theorem dX12_pass_40 : decode cX12_pass 40 = .ok (.istore_n 2, 1) := by decide +kernel
theorem dX12_pass_41 : decode cX12_pass 41 = .ok (.aload_n 0, 1) := by decide +kernel
theorem dX12_pass_42 : decode cX12_pass 42 = .ok (.getfield 44, 3) := by decide +kernel
theorem dX12_pass_45 : decode cX12_pass 45 = .ok (.iload_n 1, 1) := by decide +kernel
theorem dX12_pass_46 : decode cX12_pass 46 = .ok (.iload_n 2, 1) := by decide +kernel
theorem dX12_pass_47 : decode cX12_pass 47 = .ok (.invokevirtual 257, 3) := by decide +kernel
theorem dX12_pass_50 : decode cX12_pass 50 = .ok (.istore_n 3, 1) := by decide +kernel
theorem dX12_pass_51 : decode cX12_pass 51 = .ok (.iload_n 3, 1) := by decide +kernel
theorem dX12_pass_52 : decode cX12_pass 52 = .ok (.ifCond .ne 15, 3) := by decide +kernel
theorem dX12_pass_55 : decode cX12_pass 55 = .ok (.aload_n 0, 1) := by decide +kernel
theorem dX12_pass_56 : decode cX12_pass 56 = .ok (.ldc_w 313, 3) := by decide +kernel
theorem dX12_pass_59 : decode cX12_pass 59 = .ok (.invokevirtual 315, 3) := by decide +kernel
theorem dX12_pass_62 : decode cX12_pass 62 = .ok (.aload_n 0, 1) := by decide +kernel
theorem dX12_pass_63 : decode cX12_pass 63 = .ok (.getfield 302, 3) := by decide +kernel
theorem dX12_pass_66 : decode cX12_pass 66 = .ok (.ireturn, 1) := by decide +kernel
theorem dX12_pass_67 : decode cX12_pass 67 = .ok (.aload_n 0, 1) := by decide +kernel
theorem dX12_pass_68 : decode cX12_pass 68 = .ok (.ldc_w 318, 3) := by decide +kernel
theorem dX12_pass_71 : decode cX12_pass 71 = .ok (.invokevirtual 315, 3) := by decide +kernel
theorem dX12_pass_74 : decode cX12_pass 74 = .ok (.iconst 0, 1) := by decide +kernel
theorem dX12_pass_75 : decode cX12_pass 75 = .ok (.istore 4, 2) := by decide +kernel
theorem dX12_pass_77 : decode cX12_pass 77 = .ok (.iload 4, 2) := by decide +kernel
theorem dX12_pass_79 : decode cX12_pass 79 = .ok (.aload_n 0, 1) := by decide +kernel
theorem dX12_pass_80 : decode cX12_pass 80 = .ok (.getfield 44, 3) := by decide +kernel
theorem dX12_pass_83 : decode cX12_pass 83 = .ok (.getfield 206, 3) := by decide +kernel
theorem dX12_pass_86 : decode cX12_pass 86 = .ok (.iconst 1, 1) := by decide +kernel
theorem dX12_pass_87 : decode cX12_pass 87 = .ok (.isub, 1) := by decide +kernel
theorem dX12_pass_88 : decode cX12_pass 88 = .ok (.if_icmp .ge 18, 3) := by decide +kernel
theorem dX12_pass_91 : decode cX12_pass 91 = .ok (.iload_n 3, 1) := by decide +kernel
theorem dX12_pass_92 : decode cX12_pass 92 = .ok (.iload 4, 2) := by decide +kernel
theorem dX12_pass_94 : decode cX12_pass 94 = .ok (.ishr, 1) := by decide +kernel
theorem dX12_pass_95 : decode cX12_pass 95 = .ok (.iconst 1, 1) := by decide +kernel
theorem dX12_pass_96 : decode cX12_pass 96 = .ok (.iand, 1) := by decide +kernel
theorem dX12_pass_97 : decode cX12_pass 97 = .ok (.ifCond .ne 9, 3) := by decide +kernel
theorem dX12_pass_100 : decode cX12_pass 100 = .ok (.iinc 4 1, 3) := by decide +kernel
theorem dX12_pass_103 : decode cX12_pass 103 = .ok (.goto (-26), 3) := by decide +kernel
theorem dX12_pass_106 : decode cX12_pass 106 = .ok (.aload_n 0, 1) := by decide +kernel
theorem dX12_pass_107 : decode cX12_pass 107 = .ok (.aload_n 0, 1) := by decide +kernel
theorem dX12_pass_108 : decode cX12_pass 108 = .ok (.getfield 44, 3) := by decide +kernel
theorem dX12_pass_111 : decode cX12_pass 111 = .ok (.getfield 320, 3) := by decide +kernel
theorem dX12_pass_114 : decode cX12_pass 114 = .ok (.iload 4, 2) := by decide +kernel
theorem dX12_pass_116 : decode cX12_pass 116 = .ok (.laload, 1) := by decide +kernel
theorem dX12_pass_117 : decode cX12_pass 117 = .ok (.invokevirtual 309, 3) := by decide +kernel
theorem dX12_pass_120 : decode cX12_pass 120 = .ok (.aload_n 0, 1) := by decide +kernel
theorem dX12_pass_121 : decode cX12_pass 121 = .ok (.ldc_w 323, 3) := by decide +kernel
theorem dX12_pass_124 : decode cX12_pass 124 = .ok (.invokevirtual 315, 3) := by decide +kernel
theorem dX12_pass_127 : decode cX12_pass 127 = .ok (.aload_n 0, 1) := by decide +kernel
theorem dX12_pass_128 : decode cX12_pass 128 = .ok (.aload_n 0, 1) := by decide +kernel
theorem dX12_pass_129 : decode cX12_pass 129 = .ok (.getfield 44, 3) := by decide +kernel
theorem dX12_pass_132 : decode cX12_pass 132 = .ok (.iload_n 2, 1) := by decide +kernel
theorem dX12_pass_133 : decode cX12_pass 133 = .ok (.iload 4, 2) := by decide +kernel
theorem dX12_pass_135 : decode cX12_pass 135 = .ok (.invokevirtual 188, 3) := by decide +kernel
theorem dX12_pass_138 : decode cX12_pass 138 = .ok (.aload_n 0, 1) := by decide +kernel
theorem dX12_pass_139 : decode cX12_pass 139 = .ok (.getfield 44, 3) := by decide +kernel
theorem dX12_pass_142 : decode cX12_pass 142 = .ok (.iload_n 1, 1) := by decide +kernel
theorem dX12_pass_143 : decode cX12_pass 143 = .ok (.iload 4, 2) := by decide +kernel
theorem dX12_pass_145 : decode cX12_pass 145 = .ok (.invokevirtual 172, 3) := by decide +kernel
theorem dX12_pass_148 : decode cX12_pass 148 = .ok (.isub, 1) := by decide +kernel
theorem dX12_pass_149 : decode cX12_pass 149 = .ok (.invokevirtual 325, 3) := by decide +kernel
theorem dX12_pass_152 : decode cX12_pass 152 = .ok (.aload_n 0, 1) := by decide +kernel
theorem dX12_pass_153 : decode cX12_pass 153 = .ok (.getfield 302, 3) := by decide +kernel
theorem dX12_pass_156 : decode cX12_pass 156 = .ok (.ireturn, 1) := by decide +kernel
theorem bX12_pass_0 {G : Gt} {d bc bs : Nat} {Q : QT} {l : Ls} {z : List Value} {h : Hp} (k : (tAld 0 (tGetf 10 4 (tIld 1 (tCV1 G d 0 0 9 mX11_isPerson (fun l z h => T G d bc bs mX12_pass 8 l z h Q))))) l z h) : T G d bc bs mX12_pass 0 l z h Q := by
  refine R_aload_n dX12_pass_0 rfl (fun l z h k => ?_) k
  refine R_getf (ci := 10) (f := 4) (C := RX12) (N := 16) (Tt := TX12) dX12_pass_1 rfl i_X12 (by decide) w_489 (fun l z h k => ?_) k
  refine R_iload_n dX12_pass_4 rfl (fun l z h k => ?_) k
  exact R_cv1 (M := mX12_pass) (pc := 5) (bc := bc) (bs := bs) (cb := 0) (cs := 0) (M' := mX11_isPerson) dX12_pass_5 rfl (by decide) w_810 w_136 w_807 w_808 w_809 (by decide +kernel) (fun _ _ _ k => k) k
theorem bX12_pass_8 {G : Gt} {d bc bs : Nat} {Q : QT} {l : Ls} {z : List Value} {h : Hp} (k : (tIf (fun x => x = 0) (fun l z h => T G d bc bs mX12_pass 11 l z h Q) (fun l z h => T G d bc bs mX12_pass 13 l z h Q)) l z h) : T G d bc bs mX12_pass 8 l z h Q := by
  exact R_if_ne dX12_pass_8 (by decide) (fun _ _ _ k => k) (fun _ _ _ k => k) k
theorem bX12_pass_11 {G : Gt} {d bc bs : Nat} {Q : QT} {l : Ls} {z : List Value} {h : Hp} (k : (tPush (.int (-1)) (tRetI Q)) l z h) : T G d bc bs mX12_pass 11 l z h Q := by
  refine R_iconst dX12_pass_11 (by decide) (fun l z h k => ?_) k
  exact R_iret dX12_pass_12 rfl k
theorem bX12_pass_13 {G : Gt} {d bc bs : Nat} {Q : QT} {l : Ls} {z : List Value} {h : Hp} (k : (tAld 0 (tPush (.int 0) (tPutf isI 10 14 (tAld 0 (tAld 0 (tGetf 10 4 (tGetf 9 4 (tIld 1 (tJald (tCV1 G d 0 0 10 mX12_writeName (fun l z h => T G d bc bs mX12_pass 31 l z h Q))))))))))) l z h) : T G d bc bs mX12_pass 13 l z h Q := by
  refine R_aload_n dX12_pass_13 rfl (fun l z h k => ?_) k
  refine R_iconst dX12_pass_14 (by decide) (fun l z h k => ?_) k
  refine R_putf (ci := 10) (f := 14) (C := RX12) (N := 16) (Tt := TX12) tyX12 tyX12_ok nmX12 dX12_pass_15 rfl i_X12 (by decide) w_499 rfl (tyX12_ok 14 (by decide)) p_int (fun l z h k => ?_) k
  refine R_aload_n dX12_pass_18 rfl (fun l z h k => ?_) k
  refine R_aload_n dX12_pass_19 rfl (fun l z h k => ?_) k
  refine R_getf (ci := 10) (f := 4) (C := RX12) (N := 16) (Tt := TX12) dX12_pass_20 rfl i_X12 (by decide) w_489 (fun l z h k => ?_) k
  refine R_getf (ci := 9) (f := 4) (C := RX11) (N := 14) (Tt := TX11) dX12_pass_23 rfl i_X11 (by decide) w_266 (fun l z h k => ?_) k
  refine R_iload_n dX12_pass_26 rfl (fun l z h k => ?_) k
  refine R_laload dX12_pass_27 (fun l z h k => ?_) k
  exact R_cv1 (M := mX12_pass) (pc := 28) (bc := bc) (bs := bs) (cb := 0) (cs := 0) (M' := mX12_writeName) dX12_pass_28 rfl (by decide) w_1176 w_130 w_1173 w_1175 w_23 (by decide +kernel) (fun _ _ _ k => k) k
theorem bX12_pass_31 {G : Gt} {d bc bs : Nat} {Q : QT} {l : Ls} {z : List Value} {h : Hp} (k : (tAld 0 (tGetf 10 4 (tGetf 9 7 (tIld 1 (tXald 0 (tIst 2 (tAld 0 (tGetf 10 4 (tIld 1 (tIld 2 (tCV2 G d 0 0 9 mX11_lackedBits (fun l z h => T G d bc bs mX12_pass 50 l z h Q)))))))))))) l z h) : T G d bc bs mX12_pass 31 l z h Q := by
  refine R_aload_n dX12_pass_31 rfl (fun l z h k => ?_) k
  refine R_getf (ci := 10) (f := 4) (C := RX12) (N := 16) (Tt := TX12) dX12_pass_32 rfl i_X12 (by decide) w_489 (fun l z h k => ?_) k
  refine R_getf (ci := 9) (f := 7) (C := RX11) (N := 14) (Tt := TX11) dX12_pass_35 rfl i_X11 (by decide) w_273 (fun l z h k => ?_) k
  refine R_iload_n dX12_pass_38 rfl (fun l z h k => ?_) k
  refine R_iaload dX12_pass_39 (fun l z h k => ?_) k
  refine R_istore_n dX12_pass_40 rfl (by decide) (fun l z h k => ?_) k
  refine R_aload_n dX12_pass_41 rfl (fun l z h k => ?_) k
  refine R_getf (ci := 10) (f := 4) (C := RX12) (N := 16) (Tt := TX12) dX12_pass_42 rfl i_X12 (by decide) w_489 (fun l z h k => ?_) k
  refine R_iload_n dX12_pass_45 rfl (fun l z h k => ?_) k
  refine R_iload_n dX12_pass_46 rfl (fun l z h k => ?_) k
  exact R_cv2 (M := mX12_pass) (pc := 47) (bc := bc) (bs := bs) (cb := 0) (cs := 0) (M' := mX11_lackedBits) dX12_pass_47 rfl (by decide) w_852 w_136 w_1013 w_850 w_851 (by decide +kernel) (fun _ _ _ k => k) k
theorem bX12_pass_50 {G : Gt} {d bc bs : Nat} {Q : QT} {l : Ls} {z : List Value} {h : Hp} (k : (tIst 3 (tIld 3 (tIf (fun x => x = 0) (fun l z h => T G d bc bs mX12_pass 55 l z h Q) (fun l z h => T G d bc bs mX12_pass 67 l z h Q)))) l z h) : T G d bc bs mX12_pass 50 l z h Q := by
  refine R_istore_n dX12_pass_50 rfl (by decide) (fun l z h k => ?_) k
  refine R_iload_n dX12_pass_51 rfl (fun l z h k => ?_) k
  exact R_if_ne dX12_pass_52 (by decide) (fun _ _ _ k => k) (fun _ _ _ k => k) k
theorem bX12_pass_55 {G : Gt} {d bc bs : Nat} {Q : QT} {l : Ls} {z : List Value} {h : Hp} (k : (tAld 0 (tPush (.ref (sK G 25)) (tCV1 G d 0 0 10 mX12_writeText (fun l z h => T G d bc bs mX12_pass 62 l z h Q)))) l z h) : T G d bc bs mX12_pass 55 l z h Q := by
  refine R_aload_n dX12_pass_55 rfl (fun l z h k => ?_) k
  refine R_ldcwS dX12_pass_56 (fun _ h => h.1) (fun l z h k => ?_) k
  exact R_cv1 (M := mX12_pass) (pc := 59) (bc := bc) (bs := bs) (cb := 0) (cs := 0) (M' := mX12_writeText) dX12_pass_59 rfl (by decide) w_1185 w_130 w_1182 w_1184 w_25 (by decide +kernel) (fun _ _ _ k => k) k
theorem bX12_pass_62 {G : Gt} {d bc bs : Nat} {Q : QT} {l : Ls} {z : List Value} {h : Hp} (k : (tAld 0 (tGetf 10 14 (tRetI Q))) l z h) : T G d bc bs mX12_pass 62 l z h Q := by
  refine R_aload_n dX12_pass_62 rfl (fun l z h k => ?_) k
  refine R_getf (ci := 10) (f := 14) (C := RX12) (N := 16) (Tt := TX12) dX12_pass_63 rfl i_X12 (by decide) w_499 (fun l z h k => ?_) k
  exact R_iret dX12_pass_66 rfl k
theorem bX12_pass_67 {G : Gt} {d bc bs : Nat} {Q : QT} {l : Ls} {z : List Value} {h : Hp} (k : (tAld 0 (tPush (.ref (sK G 26)) (tCV1 G d 0 0 10 mX12_writeText (fun l z h => T G d bc bs mX12_pass 74 l z h Q)))) l z h) : T G d bc bs mX12_pass 67 l z h Q := by
  refine R_aload_n dX12_pass_67 rfl (fun l z h k => ?_) k
  refine R_ldcwS dX12_pass_68 (fun _ h => h.2.1) (fun l z h k => ?_) k
  exact R_cv1 (M := mX12_pass) (pc := 71) (bc := bc) (bs := bs) (cb := 0) (cs := 0) (M' := mX12_writeText) dX12_pass_71 rfl (by decide) w_1185 w_130 w_1182 w_1184 w_25 (by decide +kernel) (fun _ _ _ k => k) k
theorem bX12_pass_74 {G : Gt} {d bc bs : Nat} {Q : QT} {l : Ls} {z : List Value} {h : Hp} (k : (tPush (.int 0) (tIst 4 ((fun l z h => T G d bc bs mX12_pass 77 l z h Q)))) l z h) : T G d bc bs mX12_pass 74 l z h Q := by
  refine R_iconst dX12_pass_74 (by decide) (fun l z h k => ?_) k
  refine R_istore dX12_pass_75 (by decide) (fun l z h k => ?_) k
  exact k
theorem bX12_pass_77 {G : Gt} {d bc bs : Nat} {Q : QT} {l : Ls} {z : List Value} {h : Hp} (k : (tIld 4 (tAld 0 (tGetf 10 4 (tGetf 9 0 (tPush (.int 1) (tB (fun x y => x - y) (tIf2 (fun x y => y ≤ x) (fun l z h => T G d bc bs mX12_pass 106 l z h Q) (fun l z h => T G d bc bs mX12_pass 91 l z h Q)))))))) l z h) : T G d bc bs mX12_pass 77 l z h Q := by
  refine R_iload dX12_pass_77 (fun l z h k => ?_) k
  refine R_aload_n dX12_pass_79 rfl (fun l z h k => ?_) k
  refine R_getf (ci := 10) (f := 4) (C := RX12) (N := 16) (Tt := TX12) dX12_pass_80 rfl i_X12 (by decide) w_489 (fun l z h k => ?_) k
  refine R_getf (ci := 9) (f := 0) (C := RX11) (N := 14) (Tt := TX11) dX12_pass_83 rfl i_X11 (by decide) w_251 (fun l z h k => ?_) k
  refine R_iconst dX12_pass_86 (by decide) (fun l z h k => ?_) k
  refine R_isub dX12_pass_87 (fun l z h k => ?_) k
  exact R_icmp_ge dX12_pass_88 (by decide) (fun _ _ _ k => k) (fun _ _ _ k => k) k
theorem bX12_pass_91 {G : Gt} {d bc bs : Nat} {Q : QT} {l : Ls} {z : List Value} {h : Hp} (k : (tIld 3 (tIld 4 (tB (fun x y => x >>> (y &&& 31)) (tPush (.int 1) (tB (fun x y => x &&& y) (tIf (fun x => x = 0) (fun l z h => T G d bc bs mX12_pass 100 l z h Q) (fun l z h => T G d bc bs mX12_pass 106 l z h Q))))))) l z h) : T G d bc bs mX12_pass 91 l z h Q := by
  refine R_iload_n dX12_pass_91 rfl (fun l z h k => ?_) k
  refine R_iload dX12_pass_92 (fun l z h k => ?_) k
  refine R_ishr dX12_pass_94 (fun l z h k => ?_) k
  refine R_iconst dX12_pass_95 (by decide) (fun l z h k => ?_) k
  refine R_iand dX12_pass_96 (fun l z h k => ?_) k
  exact R_if_ne dX12_pass_97 (by decide) (fun _ _ _ k => k) (fun _ _ _ k => k) k
theorem bX12_pass_100 {G : Gt} {d bc bs : Nat} {Q : QT} {l : Ls} {z : List Value} {h : Hp} (k : (tInc 4 1 ((fun l z h => T G d bc bs mX12_pass 77 l z h Q))) l z h) : T G d bc bs mX12_pass 100 l z h Q := by
  refine R_iinc dX12_pass_100 (by decide) (by decide) (fun l z h k => ?_) k
  exact R_goto dX12_pass_103 (by decide) (fun _ _ _ k => k) k
theorem bX12_pass_106 {G : Gt} {d bc bs : Nat} {Q : QT} {l : Ls} {z : List Value} {h : Hp} (k : (tAld 0 (tAld 0 (tGetf 10 4 (tGetf 9 3 (tIld 4 (tJald (tCV1 G d 0 0 10 mX12_writeName (fun l z h => T G d bc bs mX12_pass 120 l z h Q)))))))) l z h) : T G d bc bs mX12_pass 106 l z h Q := by
  refine R_aload_n dX12_pass_106 rfl (fun l z h k => ?_) k
  refine R_aload_n dX12_pass_107 rfl (fun l z h k => ?_) k
  refine R_getf (ci := 10) (f := 4) (C := RX12) (N := 16) (Tt := TX12) dX12_pass_108 rfl i_X12 (by decide) w_489 (fun l z h k => ?_) k
  refine R_getf (ci := 9) (f := 3) (C := RX11) (N := 14) (Tt := TX11) dX12_pass_111 rfl i_X11 (by decide) w_264 (fun l z h k => ?_) k
  refine R_iload dX12_pass_114 (fun l z h k => ?_) k
  refine R_laload dX12_pass_116 (fun l z h k => ?_) k
  exact R_cv1 (M := mX12_pass) (pc := 117) (bc := bc) (bs := bs) (cb := 0) (cs := 0) (M' := mX12_writeName) dX12_pass_117 rfl (by decide) w_1176 w_130 w_1173 w_1175 w_23 (by decide +kernel) (fun _ _ _ k => k) k
theorem bX12_pass_120 {G : Gt} {d bc bs : Nat} {Q : QT} {l : Ls} {z : List Value} {h : Hp} (k : (tAld 0 (tPush (.ref (sK G 27)) (tCV1 G d 0 0 10 mX12_writeText (fun l z h => T G d bc bs mX12_pass 127 l z h Q)))) l z h) : T G d bc bs mX12_pass 120 l z h Q := by
  refine R_aload_n dX12_pass_120 rfl (fun l z h k => ?_) k
  refine R_ldcwS dX12_pass_121 (fun _ h => h.2.2.1) (fun l z h k => ?_) k
  exact R_cv1 (M := mX12_pass) (pc := 124) (bc := bc) (bs := bs) (cb := 0) (cs := 0) (M' := mX12_writeText) dX12_pass_124 rfl (by decide) w_1185 w_130 w_1182 w_1184 w_25 (by decide +kernel) (fun _ _ _ k => k) k
theorem bX12_pass_127 {G : Gt} {d bc bs : Nat} {Q : QT} {l : Ls} {z : List Value} {h : Hp} (k : (tAld 0 (tAld 0 (tGetf 10 4 (tIld 2 (tIld 4 (tCV2 G d 0 0 9 mX11_askedAt (fun l z h => T G d bc bs mX12_pass 138 l z h Q))))))) l z h) : T G d bc bs mX12_pass 127 l z h Q := by
  refine R_aload_n dX12_pass_127 rfl (fun l z h k => ?_) k
  refine R_aload_n dX12_pass_128 rfl (fun l z h k => ?_) k
  refine R_getf (ci := 10) (f := 4) (C := RX12) (N := 16) (Tt := TX12) dX12_pass_129 rfl i_X12 (by decide) w_489 (fun l z h k => ?_) k
  refine R_iload_n dX12_pass_132 rfl (fun l z h k => ?_) k
  refine R_iload dX12_pass_133 (fun l z h k => ?_) k
  exact R_cv2 (M := mX12_pass) (pc := 135) (bc := bc) (bs := bs) (cb := 0) (cs := 0) (M' := mX11_askedAt) dX12_pass_135 rfl (by decide) w_753 w_136 w_832 w_751 w_752 (by decide +kernel) (fun _ _ _ k => k) k
theorem bX12_pass_138 {G : Gt} {d bc bs : Nat} {Q : QT} {l : Ls} {z : List Value} {h : Hp} (k : (tAld 0 (tGetf 10 4 (tIld 1 (tIld 4 (tCV2 G d 0 0 9 mX11_held (fun l z h => T G d bc bs mX12_pass 148 l z h Q)))))) l z h) : T G d bc bs mX12_pass 138 l z h Q := by
  refine R_aload_n dX12_pass_138 rfl (fun l z h k => ?_) k
  refine R_getf (ci := 10) (f := 4) (C := RX12) (N := 16) (Tt := TX12) dX12_pass_139 rfl i_X12 (by decide) w_489 (fun l z h k => ?_) k
  refine R_iload_n dX12_pass_142 rfl (fun l z h k => ?_) k
  refine R_iload dX12_pass_143 (fun l z h k => ?_) k
  exact R_cv2 (M := mX12_pass) (pc := 145) (bc := bc) (bs := bs) (cb := 0) (cs := 0) (M' := mX11_held) dX12_pass_145 rfl (by decide) w_739 w_136 w_815 w_737 w_738 (by decide +kernel) (fun _ _ _ k => k) k
theorem bX12_pass_148 {G : Gt} {d bc bs : Nat} {Q : QT} {l : Ls} {z : List Value} {h : Hp} (k : (tB (fun x y => x - y) (tCV1 G d 0 0 10 mX12_writeNumber (fun l z h => T G d bc bs mX12_pass 152 l z h Q))) l z h) : T G d bc bs mX12_pass 148 l z h Q := by
  refine R_isub dX12_pass_148 (fun l z h k => ?_) k
  exact R_cv1 (M := mX12_pass) (pc := 149) (bc := bc) (bs := bs) (cb := 0) (cs := 0) (M' := mX12_writeNumber) dX12_pass_149 rfl (by decide) w_1193 w_130 w_1190 w_1192 w_26 (by decide +kernel) (fun _ _ _ k => k) k
theorem bX12_pass_152 {G : Gt} {d bc bs : Nat} {Q : QT} {l : Ls} {z : List Value} {h : Hp} (k : (tAld 0 (tGetf 10 14 (tRetI Q))) l z h) : T G d bc bs mX12_pass 152 l z h Q := by
  refine R_aload_n dX12_pass_152 rfl (fun l z h k => ?_) k
  refine R_getf (ci := 10) (f := 14) (C := RX12) (N := 16) (Tt := TX12) dX12_pass_153 rfl i_X12 (by decide) w_499 (fun l z h k => ?_) k
  exact R_iret dX12_pass_156 rfl k
theorem dX12_byteAt_0 : decode cX12_byteAt 0 = .ok (.iload_n 1, 1) := by decide +kernel
theorem dX12_byteAt_1 : decode cX12_byteAt 1 = .ok (.ifCond .lt 20, 3) := by decide +kernel
theorem dX12_byteAt_4 : decode cX12_byteAt 4 = .ok (.iload_n 1, 1) := by decide +kernel
theorem dX12_byteAt_5 : decode cX12_byteAt 5 = .ok (.aload_n 0, 1) := by decide +kernel
theorem dX12_byteAt_6 : decode cX12_byteAt 6 = .ok (.getfield 302, 3) := by decide +kernel
theorem dX12_byteAt_9 : decode cX12_byteAt 9 = .ok (.if_icmp .ge 12, 3) := by decide +kernel
theorem dX12_byteAt_12 : decode cX12_byteAt 12 = .ok (.aload_n 0, 1) := by decide +kernel
theorem dX12_byteAt_13 : decode cX12_byteAt 13 = .ok (.getfield 96, 3) := by decide +kernel
theorem dX12_byteAt_16 : decode cX12_byteAt 16 = .ok (.iload_n 1, 1) := by decide +kernel
theorem dX12_byteAt_17 : decode cX12_byteAt 17 = .ok (.iaload, 1) := by decide +kernel
theorem dX12_byteAt_18 : decode cX12_byteAt 18 = .ok (.goto 4, 3) := by decide +kernel
theorem dX12_byteAt_21 : decode cX12_byteAt 21 = .ok (.iconst (-1), 1) := by decide +kernel
theorem dX12_byteAt_22 : decode cX12_byteAt 22 = .ok (.ireturn, 1) := by decide +kernel
theorem bX12_byteAt_0 {G : Gt} {d bc bs : Nat} {Q : QT} {l : Ls} {z : List Value} {h : Hp} (k : (tIld 1 (tIf (fun x => x < 0) (fun l z h => T G d bc bs mX12_byteAt 21 l z h Q) (fun l z h => T G d bc bs mX12_byteAt 4 l z h Q))) l z h) : T G d bc bs mX12_byteAt 0 l z h Q := by
  refine R_iload_n dX12_byteAt_0 rfl (fun l z h k => ?_) k
  exact R_if_lt dX12_byteAt_1 (by decide) (fun _ _ _ k => k) (fun _ _ _ k => k) k
theorem bX12_byteAt_4 {G : Gt} {d bc bs : Nat} {Q : QT} {l : Ls} {z : List Value} {h : Hp} (k : (tIld 1 (tAld 0 (tGetf 10 14 (tIf2 (fun x y => y ≤ x) (fun l z h => T G d bc bs mX12_byteAt 21 l z h Q) (fun l z h => T G d bc bs mX12_byteAt 12 l z h Q))))) l z h) : T G d bc bs mX12_byteAt 4 l z h Q := by
  refine R_iload_n dX12_byteAt_4 rfl (fun l z h k => ?_) k
  refine R_aload_n dX12_byteAt_5 rfl (fun l z h k => ?_) k
  refine R_getf (ci := 10) (f := 14) (C := RX12) (N := 16) (Tt := TX12) dX12_byteAt_6 rfl i_X12 (by decide) w_499 (fun l z h k => ?_) k
  exact R_icmp_ge dX12_byteAt_9 (by decide) (fun _ _ _ k => k) (fun _ _ _ k => k) k
theorem bX12_byteAt_12 {G : Gt} {d bc bs : Nat} {Q : QT} {l : Ls} {z : List Value} {h : Hp} (k : (tAld 0 (tGetf 10 13 (tIld 1 (tXald 0 ((fun l z h => T G d bc bs mX12_byteAt 22 l z h Q)))))) l z h) : T G d bc bs mX12_byteAt 12 l z h Q := by
  refine R_aload_n dX12_byteAt_12 rfl (fun l z h k => ?_) k
  refine R_getf (ci := 10) (f := 13) (C := RX12) (N := 16) (Tt := TX12) dX12_byteAt_13 rfl i_X12 (by decide) w_498 (fun l z h k => ?_) k
  refine R_iload_n dX12_byteAt_16 rfl (fun l z h k => ?_) k
  refine R_iaload dX12_byteAt_17 (fun l z h k => ?_) k
  exact R_goto dX12_byteAt_18 (by decide) (fun _ _ _ k => k) k
theorem bX12_byteAt_21 {G : Gt} {d bc bs : Nat} {Q : QT} {l : Ls} {z : List Value} {h : Hp} (k : (tPush (.int (-1)) ((fun l z h => T G d bc bs mX12_byteAt 22 l z h Q))) l z h) : T G d bc bs mX12_byteAt 21 l z h Q := by
  refine R_iconst dX12_byteAt_21 (by decide) (fun l z h k => ?_) k
  exact k
theorem bX12_byteAt_22 {G : Gt} {d bc bs : Nat} {Q : QT} {l : Ls} {z : List Value} {h : Hp} (k : (tRetI Q) l z h) : T G d bc bs mX12_byteAt 22 l z h Q := by
  exact R_iret dX12_byteAt_22 rfl k
theorem dX12_writeName_0 : decode cX12_writeName 0 = .ok (.bipush 6, 2) := by decide +kernel
theorem dX12_writeName_2 : decode cX12_writeName 2 = .ok (.istore_n 3, 1) := by decide +kernel
theorem dX12_writeName_3 : decode cX12_writeName 3 = .ok (.iload_n 3, 1) := by decide +kernel
theorem dX12_writeName_4 : decode cX12_writeName 4 = .ok (.ifCond .lt 36, 3) := by decide +kernel
theorem dX12_writeName_7 : decode cX12_writeName 7 = .ok (.lload_n 1, 1) := by decide +kernel
theorem dX12_writeName_8 : decode cX12_writeName 8 = .ok (.iload_n 3, 1) := by decide +kernel
theorem dX12_writeName_9 : decode cX12_writeName 9 = .ok (.iconst 5, 1) := by decide +kernel
theorem dX12_writeName_10 : decode cX12_writeName 10 = .ok (.imul, 1) := by decide +kernel
theorem dX12_writeName_11 : decode cX12_writeName 11 = .ok (.lshr, 1) := by decide +kernel
theorem dX12_writeName_12 : decode cX12_writeName 12 = .ok (.l2i, 1) := by decide +kernel
theorem dX12_writeName_13 : decode cX12_writeName 13 = .ok (.bipush 31, 2) := by decide +kernel
theorem dX12_writeName_15 : decode cX12_writeName 15 = .ok (.iand, 1) := by decide +kernel
theorem dX12_writeName_16 : decode cX12_writeName 16 = .ok (.istore 4, 2) := by decide +kernel
theorem dX12_writeName_18 : decode cX12_writeName 18 = .ok (.iload 4, 2) := by decide +kernel
theorem dX12_writeName_20 : decode cX12_writeName 20 = .ok (.ifCond .eq 14, 3) := by decide +kernel
theorem dX12_writeName_23 : decode cX12_writeName 23 = .ok (.aload_n 0, 1) := by decide +kernel
theorem dX12_writeName_24 : decode cX12_writeName 24 = .ok (.bipush 97, 2) := by decide +kernel
theorem dX12_writeName_26 : decode cX12_writeName 26 = .ok (.iload 4, 2) := by decide +kernel
theorem dX12_writeName_28 : decode cX12_writeName 28 = .ok (.iadd, 1) := by decide +kernel
theorem dX12_writeName_29 : decode cX12_writeName 29 = .ok (.iconst 1, 1) := by decide +kernel
theorem dX12_writeName_30 : decode cX12_writeName 30 = .ok (.isub, 1) := by decide +kernel
theorem dX12_writeName_31 : decode cX12_writeName 31 = .ok (.invokevirtual 328, 3) := by decide +kernel
theorem dX12_writeName_34 : decode cX12_writeName 34 = .ok (.iinc 3 (-1), 3) := by decide +kernel
theorem dX12_writeName_37 : decode cX12_writeName 37 = .ok (.goto (-34), 3) := by decide +kernel
theorem dX12_writeName_40 : decode cX12_writeName 40 = .ok (.return_, 1) := by decide +kernel
theorem bX12_writeName_0 {G : Gt} {d bc bs : Nat} {Q : QT} {l : Ls} {z : List Value} {h : Hp} (k : (tPush (.int 6) (tIst 3 ((fun l z h => T G d bc bs mX12_writeName 3 l z h Q)))) l z h) : T G d bc bs mX12_writeName 0 l z h Q := by
  refine R_bipush dX12_writeName_0 (by decide) (fun l z h k => ?_) k
  refine R_istore_n dX12_writeName_2 rfl (by decide) (fun l z h k => ?_) k
  exact k
theorem bX12_writeName_3 {G : Gt} {d bc bs : Nat} {Q : QT} {l : Ls} {z : List Value} {h : Hp} (k : (tIld 3 (tIf (fun x => x < 0) (fun l z h => T G d bc bs mX12_writeName 40 l z h Q) (fun l z h => T G d bc bs mX12_writeName 7 l z h Q))) l z h) : T G d bc bs mX12_writeName 3 l z h Q := by
  refine R_iload_n dX12_writeName_3 rfl (fun l z h k => ?_) k
  exact R_if_lt dX12_writeName_4 (by decide) (fun _ _ _ k => k) (fun _ _ _ k => k) k
theorem bX12_writeName_7 {G : Gt} {d bc bs : Nat} {Q : QT} {l : Ls} {z : List Value} {h : Hp} (k : (tLld 1 (tIld 3 (tPush (.int 5) (tB (fun x y => x * y) (tLS (fun x y => x >>> (y.toInt64 &&& 63)) (tL2i (tPush (.int 31) (tB (fun x y => x &&& y) (tIst 4 (tIld 4 (tIf (fun x => x = 0) (fun l z h => T G d bc bs mX12_writeName 34 l z h Q) (fun l z h => T G d bc bs mX12_writeName 23 l z h Q)))))))))))) l z h) : T G d bc bs mX12_writeName 7 l z h Q := by
  refine R_lload_n dX12_writeName_7 rfl (fun l z h k => ?_) k
  refine R_iload_n dX12_writeName_8 rfl (fun l z h k => ?_) k
  refine R_iconst dX12_writeName_9 (by decide) (fun l z h k => ?_) k
  refine R_imul dX12_writeName_10 (fun l z h k => ?_) k
  refine R_lshr dX12_writeName_11 (fun l z h k => ?_) k
  refine R_l2i dX12_writeName_12 (fun l z h k => ?_) k
  refine R_bipush dX12_writeName_13 (by decide) (fun l z h k => ?_) k
  refine R_iand dX12_writeName_15 (fun l z h k => ?_) k
  refine R_istore dX12_writeName_16 (by decide) (fun l z h k => ?_) k
  refine R_iload dX12_writeName_18 (fun l z h k => ?_) k
  exact R_if_eq dX12_writeName_20 (by decide) (fun _ _ _ k => k) (fun _ _ _ k => k) k
theorem bX12_writeName_23 {G : Gt} {d bc bs : Nat} {Q : QT} {l : Ls} {z : List Value} {h : Hp} (k : (tAld 0 (tPush (.int 97) (tIld 4 (tB (fun x y => x + y) (tPush (.int 1) (tB (fun x y => x - y) (tCV1 G d 0 0 10 mX12_writeByte (fun l z h => T G d bc bs mX12_writeName 34 l z h Q)))))))) l z h) : T G d bc bs mX12_writeName 23 l z h Q := by
  refine R_aload_n dX12_writeName_23 rfl (fun l z h k => ?_) k
  refine R_bipush dX12_writeName_24 (by decide) (fun l z h k => ?_) k
  refine R_iload dX12_writeName_26 (fun l z h k => ?_) k
  refine R_iadd dX12_writeName_28 (fun l z h k => ?_) k
  refine R_iconst dX12_writeName_29 (by decide) (fun l z h k => ?_) k
  refine R_isub dX12_writeName_30 (fun l z h k => ?_) k
  exact R_cv1 (M := mX12_writeName) (pc := 31) (bc := bc) (bs := bs) (cb := 0) (cs := 0) (M' := mX12_writeByte) dX12_writeName_31 rfl (by decide) w_1180 w_130 w_1177 w_1179 w_24 (by decide +kernel) (fun _ _ _ k => k) k
theorem bX12_writeName_34 {G : Gt} {d bc bs : Nat} {Q : QT} {l : Ls} {z : List Value} {h : Hp} (k : (tInc 3 (-1) ((fun l z h => T G d bc bs mX12_writeName 3 l z h Q))) l z h) : T G d bc bs mX12_writeName 34 l z h Q := by
  refine R_iinc dX12_writeName_34 (by decide) (by decide) (fun l z h k => ?_) k
  exact R_goto dX12_writeName_37 (by decide) (fun _ _ _ k => k) k
theorem bX12_writeName_40 {G : Gt} {d bc bs : Nat} {Q : QT} {l : Ls} {z : List Value} {h : Hp} (k : (tRetV Q) l z h) : T G d bc bs mX12_writeName 40 l z h Q := by
  exact R_vret dX12_writeName_40 rfl k
theorem dX12_writeText_0 : decode cX12_writeText 0 = .ok (.iconst 0, 1) := by decide +kernel
theorem dX12_writeText_1 : decode cX12_writeText 1 = .ok (.istore_n 2, 1) := by decide +kernel
theorem dX12_writeText_2 : decode cX12_writeText 2 = .ok (.iload_n 2, 1) := by decide +kernel
theorem dX12_writeText_3 : decode cX12_writeText 3 = .ok (.aload_n 1, 1) := by decide +kernel
theorem dX12_writeText_4 : decode cX12_writeText 4 = .ok (.invokevirtual 331, 3) := by decide +kernel
theorem dX12_writeText_7 : decode cX12_writeText 7 = .ok (.if_icmp .ge 18, 3) := by decide +kernel
theorem dX12_writeText_10 : decode cX12_writeText 10 = .ok (.aload_n 0, 1) := by decide +kernel
theorem dX12_writeText_11 : decode cX12_writeText 11 = .ok (.aload_n 1, 1) := by decide +kernel
theorem dX12_writeText_12 : decode cX12_writeText 12 = .ok (.iload_n 2, 1) := by decide +kernel
theorem dX12_writeText_13 : decode cX12_writeText 13 = .ok (.invokevirtual 335, 3) := by decide +kernel
theorem dX12_writeText_16 : decode cX12_writeText 16 = .ok (.invokevirtual 328, 3) := by decide +kernel
theorem dX12_writeText_19 : decode cX12_writeText 19 = .ok (.iinc 2 1, 3) := by decide +kernel
theorem dX12_writeText_22 : decode cX12_writeText 22 = .ok (.goto (-20), 3) := by decide +kernel
theorem dX12_writeText_25 : decode cX12_writeText 25 = .ok (.return_, 1) := by decide +kernel
theorem bX12_writeText_0 {G : Gt} {d bc bs : Nat} {Q : QT} {l : Ls} {z : List Value} {h : Hp} (k : (tPush (.int 0) (tIst 2 ((fun l z h => T G d bc bs mX12_writeText 2 l z h Q)))) l z h) : T G d bc bs mX12_writeText 0 l z h Q := by
  refine R_iconst dX12_writeText_0 (by decide) (fun l z h k => ?_) k
  refine R_istore_n dX12_writeText_1 rfl (by decide) (fun l z h k => ?_) k
  exact k
theorem bX12_writeText_2 {G : Gt} {d bc bs : Nat} {Q : QT} {l : Ls} {z : List Value} {h : Hp} (k : (tIld 2 (tAld 1 (tCK G d 0 mJ0_length_8abf5 (fun l z h => T G d bc bs mX12_writeText 7 l z h Q)))) l z h) : T G d bc bs mX12_writeText 2 l z h Q := by
  refine R_iload_n dX12_writeText_2 rfl (fun l z h k => ?_) k
  refine R_aload_n dX12_writeText_3 rfl (fun l z h k => ?_) k
  exact R_callK (M' := mJ0_length_8abf5) dX12_writeText_4 (by decide) w_590 w_145 w_1186 w_588 w_589 (by decide +kernel) (fun _ _ _ k => k) k
theorem bX12_writeText_7 {G : Gt} {d bc bs : Nat} {Q : QT} {l : Ls} {z : List Value} {h : Hp} (k : (tIf2 (fun x y => y ≤ x) (fun l z h => T G d bc bs mX12_writeText 25 l z h Q) (fun l z h => T G d bc bs mX12_writeText 10 l z h Q)) l z h) : T G d bc bs mX12_writeText 7 l z h Q := by
  exact R_icmp_ge dX12_writeText_7 (by decide) (fun _ _ _ k => k) (fun _ _ _ k => k) k
theorem bX12_writeText_10 {G : Gt} {d bc bs : Nat} {Q : QT} {l : Ls} {z : List Value} {h : Hp} (k : (tAld 0 (tAld 1 (tIld 2 (tCK G d 1 mJ0_charAt_5068e (fun l z h => T G d bc bs mX12_writeText 16 l z h Q))))) l z h) : T G d bc bs mX12_writeText 10 l z h Q := by
  refine R_aload_n dX12_writeText_10 rfl (fun l z h k => ?_) k
  refine R_aload_n dX12_writeText_11 rfl (fun l z h k => ?_) k
  refine R_iload_n dX12_writeText_12 rfl (fun l z h k => ?_) k
  exact R_callK (M' := mJ0_charAt_5068e) dX12_writeText_13 (by decide) w_604 w_145 w_1187 w_602 w_603 (by decide +kernel) (fun _ _ _ k => k) k
theorem bX12_writeText_16 {G : Gt} {d bc bs : Nat} {Q : QT} {l : Ls} {z : List Value} {h : Hp} (k : (tCV1 G d 0 0 10 mX12_writeByte (fun l z h => T G d bc bs mX12_writeText 19 l z h Q)) l z h) : T G d bc bs mX12_writeText 16 l z h Q := by
  exact R_cv1 (M := mX12_writeText) (pc := 16) (bc := bc) (bs := bs) (cb := 0) (cs := 0) (M' := mX12_writeByte) dX12_writeText_16 rfl (by decide) w_1180 w_130 w_1177 w_1179 w_24 (by decide +kernel) (fun _ _ _ k => k) k
theorem bX12_writeText_19 {G : Gt} {d bc bs : Nat} {Q : QT} {l : Ls} {z : List Value} {h : Hp} (k : (tInc 2 1 ((fun l z h => T G d bc bs mX12_writeText 2 l z h Q))) l z h) : T G d bc bs mX12_writeText 19 l z h Q := by
  refine R_iinc dX12_writeText_19 (by decide) (by decide) (fun l z h k => ?_) k
  exact R_goto dX12_writeText_22 (by decide) (fun _ _ _ k => k) k
theorem bX12_writeText_25 {G : Gt} {d bc bs : Nat} {Q : QT} {l : Ls} {z : List Value} {h : Hp} (k : (tRetV Q) l z h) : T G d bc bs mX12_writeText 25 l z h Q := by
  exact R_vret dX12_writeText_25 rfl k
theorem dX12_writeNumber_0 : decode cX12_writeNumber 0 = .ok (.iload_n 1, 1) := by decide +kernel
theorem dX12_writeNumber_1 : decode cX12_writeNumber 1 = .ok (.bipush 10, 2) := by decide +kernel
theorem dX12_writeNumber_3 : decode cX12_writeNumber 3 = .ok (.if_icmp .lt 14, 3) := by decide +kernel
theorem dX12_writeNumber_6 : decode cX12_writeNumber 6 = .ok (.aload_n 0, 1) := by decide +kernel
theorem dX12_writeNumber_7 : decode cX12_writeNumber 7 = .ok (.bipush 48, 2) := by decide +kernel
theorem dX12_writeNumber_9 : decode cX12_writeNumber 9 = .ok (.iload_n 1, 1) := by decide +kernel
theorem dX12_writeNumber_10 : decode cX12_writeNumber 10 = .ok (.bipush 10, 2) := by decide +kernel
theorem dX12_writeNumber_12 : decode cX12_writeNumber 12 = .ok (.idiv, 1) := by decide +kernel
theorem dX12_writeNumber_13 : decode cX12_writeNumber 13 = .ok (.iadd, 1) := by decide +kernel
theorem dX12_writeNumber_14 : decode cX12_writeNumber 14 = .ok (.invokevirtual 328, 3) := by decide +kernel
theorem dX12_writeNumber_17 : decode cX12_writeNumber 17 = .ok (.aload_n 0, 1) := by decide +kernel
theorem dX12_writeNumber_18 : decode cX12_writeNumber 18 = .ok (.bipush 48, 2) := by decide +kernel
theorem dX12_writeNumber_20 : decode cX12_writeNumber 20 = .ok (.iload_n 1, 1) := by decide +kernel
theorem dX12_writeNumber_21 : decode cX12_writeNumber 21 = .ok (.bipush 10, 2) := by decide +kernel
theorem dX12_writeNumber_23 : decode cX12_writeNumber 23 = .ok (.irem, 1) := by decide +kernel
theorem dX12_writeNumber_24 : decode cX12_writeNumber 24 = .ok (.iadd, 1) := by decide +kernel
theorem dX12_writeNumber_25 : decode cX12_writeNumber 25 = .ok (.invokevirtual 328, 3) := by decide +kernel
theorem dX12_writeNumber_28 : decode cX12_writeNumber 28 = .ok (.return_, 1) := by decide +kernel
theorem bX12_writeNumber_0 {G : Gt} {d bc bs : Nat} {Q : QT} {l : Ls} {z : List Value} {h : Hp} (k : (tIld 1 (tPush (.int 10) (tIf2 (fun x y => x < y) (fun l z h => T G d bc bs mX12_writeNumber 17 l z h Q) (fun l z h => T G d bc bs mX12_writeNumber 6 l z h Q)))) l z h) : T G d bc bs mX12_writeNumber 0 l z h Q := by
  refine R_iload_n dX12_writeNumber_0 rfl (fun l z h k => ?_) k
  refine R_bipush dX12_writeNumber_1 (by decide) (fun l z h k => ?_) k
  exact R_icmp_lt dX12_writeNumber_3 (by decide) (fun _ _ _ k => k) (fun _ _ _ k => k) k
theorem bX12_writeNumber_6 {G : Gt} {d bc bs : Nat} {Q : QT} {l : Ls} {z : List Value} {h : Hp} (k : (tAld 0 (tPush (.int 48) (tIld 1 (tPush (.int 10) (tBn (fun x y => x / y) (tB (fun x y => x + y) (tCV1 G d 0 0 10 mX12_writeByte (fun l z h => T G d bc bs mX12_writeNumber 17 l z h Q)))))))) l z h) : T G d bc bs mX12_writeNumber 6 l z h Q := by
  refine R_aload_n dX12_writeNumber_6 rfl (fun l z h k => ?_) k
  refine R_bipush dX12_writeNumber_7 (by decide) (fun l z h k => ?_) k
  refine R_iload_n dX12_writeNumber_9 rfl (fun l z h k => ?_) k
  refine R_bipush dX12_writeNumber_10 (by decide) (fun l z h k => ?_) k
  refine R_idiv dX12_writeNumber_12 (fun l z h k => ?_) k
  refine R_iadd dX12_writeNumber_13 (fun l z h k => ?_) k
  exact R_cv1 (M := mX12_writeNumber) (pc := 14) (bc := bc) (bs := bs) (cb := 0) (cs := 0) (M' := mX12_writeByte) dX12_writeNumber_14 rfl (by decide) w_1180 w_130 w_1177 w_1179 w_24 (by decide +kernel) (fun _ _ _ k => k) k
theorem bX12_writeNumber_17 {G : Gt} {d bc bs : Nat} {Q : QT} {l : Ls} {z : List Value} {h : Hp} (k : (tAld 0 (tPush (.int 48) (tIld 1 (tPush (.int 10) (tBn (fun x y => x - x / y * y) (tB (fun x y => x + y) (tCV1 G d 0 0 10 mX12_writeByte (fun l z h => T G d bc bs mX12_writeNumber 28 l z h Q)))))))) l z h) : T G d bc bs mX12_writeNumber 17 l z h Q := by
  refine R_aload_n dX12_writeNumber_17 rfl (fun l z h k => ?_) k
  refine R_bipush dX12_writeNumber_18 (by decide) (fun l z h k => ?_) k
  refine R_iload_n dX12_writeNumber_20 rfl (fun l z h k => ?_) k
  refine R_bipush dX12_writeNumber_21 (by decide) (fun l z h k => ?_) k
  refine R_irem dX12_writeNumber_23 (fun l z h k => ?_) k
  refine R_iadd dX12_writeNumber_24 (fun l z h k => ?_) k
  exact R_cv1 (M := mX12_writeNumber) (pc := 25) (bc := bc) (bs := bs) (cb := 0) (cs := 0) (M' := mX12_writeByte) dX12_writeNumber_25 rfl (by decide) w_1180 w_130 w_1177 w_1179 w_24 (by decide +kernel) (fun _ _ _ k => k) k
theorem bX12_writeNumber_28 {G : Gt} {d bc bs : Nat} {Q : QT} {l : Ls} {z : List Value} {h : Hp} (k : (tRetV Q) l z h) : T G d bc bs mX12_writeNumber 28 l z h Q := by
  exact R_vret dX12_writeNumber_28 rfl k
theorem dX12_writeByte_0 : decode cX12_writeByte 0 = .ok (.aload_n 0, 1) := by decide +kernel
theorem dX12_writeByte_1 : decode cX12_writeByte 1 = .ok (.getfield 302, 3) := by decide +kernel
theorem dX12_writeByte_4 : decode cX12_writeByte 4 = .ok (.bipush 24, 2) := by decide +kernel
theorem dX12_writeByte_6 : decode cX12_writeByte 6 = .ok (.if_icmp .ge 23, 3) := by decide +kernel
theorem dX12_writeByte_9 : decode cX12_writeByte 9 = .ok (.aload_n 0, 1) := by decide +kernel
theorem dX12_writeByte_10 : decode cX12_writeByte 10 = .ok (.getfield 96, 3) := by decide +kernel
theorem dX12_writeByte_13 : decode cX12_writeByte 13 = .ok (.aload_n 0, 1) := by decide +kernel
theorem dX12_writeByte_14 : decode cX12_writeByte 14 = .ok (.getfield 302, 3) := by decide +kernel
theorem dX12_writeByte_17 : decode cX12_writeByte 17 = .ok (.iload_n 1, 1) := by decide +kernel
theorem dX12_writeByte_18 : decode cX12_writeByte 18 = .ok (.iastore, 1) := by decide +kernel
theorem dX12_writeByte_19 : decode cX12_writeByte 19 = .ok (.aload_n 0, 1) := by decide +kernel
theorem dX12_writeByte_20 : decode cX12_writeByte 20 = .ok (.dup, 1) := by decide +kernel
theorem dX12_writeByte_21 : decode cX12_writeByte 21 = .ok (.getfield 302, 3) := by decide +kernel
theorem dX12_writeByte_24 : decode cX12_writeByte 24 = .ok (.iconst 1, 1) := by decide +kernel
theorem dX12_writeByte_25 : decode cX12_writeByte 25 = .ok (.iadd, 1) := by decide +kernel
theorem dX12_writeByte_26 : decode cX12_writeByte 26 = .ok (.putfield 302, 3) := by decide +kernel
theorem dX12_writeByte_29 : decode cX12_writeByte 29 = .ok (.return_, 1) := by decide +kernel
theorem bX12_writeByte_0 {G : Gt} {d bc bs : Nat} {Q : QT} {l : Ls} {z : List Value} {h : Hp} (k : (tAld 0 (tGetf 10 14 (tPush (.int 24) (tIf2 (fun x y => y ≤ x) (fun l z h => T G d bc bs mX12_writeByte 29 l z h Q) (fun l z h => T G d bc bs mX12_writeByte 9 l z h Q))))) l z h) : T G d bc bs mX12_writeByte 0 l z h Q := by
  refine R_aload_n dX12_writeByte_0 rfl (fun l z h k => ?_) k
  refine R_getf (ci := 10) (f := 14) (C := RX12) (N := 16) (Tt := TX12) dX12_writeByte_1 rfl i_X12 (by decide) w_499 (fun l z h k => ?_) k
  refine R_bipush dX12_writeByte_4 (by decide) (fun l z h k => ?_) k
  exact R_icmp_ge dX12_writeByte_6 (by decide) (fun _ _ _ k => k) (fun _ _ _ k => k) k
theorem bX12_writeByte_9 {G : Gt} {d bc bs : Nat} {Q : QT} {l : Ls} {z : List Value} {h : Hp} (k : (tAld 0 (tGetf 10 13 (tAld 0 (tGetf 10 14 (tIld 1 (tXast 0 (tAld 0 (tDup (tGetf 10 14 (tPush (.int 1) (tB (fun x y => x + y) (tPutf isI 10 14 ((fun l z h => T G d bc bs mX12_writeByte 29 l z h Q)))))))))))))) l z h) : T G d bc bs mX12_writeByte 9 l z h Q := by
  refine R_aload_n dX12_writeByte_9 rfl (fun l z h k => ?_) k
  refine R_getf (ci := 10) (f := 13) (C := RX12) (N := 16) (Tt := TX12) dX12_writeByte_10 rfl i_X12 (by decide) w_498 (fun l z h k => ?_) k
  refine R_aload_n dX12_writeByte_13 rfl (fun l z h k => ?_) k
  refine R_getf (ci := 10) (f := 14) (C := RX12) (N := 16) (Tt := TX12) dX12_writeByte_14 rfl i_X12 (by decide) w_499 (fun l z h k => ?_) k
  refine R_iload_n dX12_writeByte_17 rfl (fun l z h k => ?_) k
  refine R_iastore dX12_writeByte_18 (fun l z h k => ?_) k
  refine R_aload_n dX12_writeByte_19 rfl (fun l z h k => ?_) k
  refine R_dup dX12_writeByte_20 (fun l z h k => ?_) k
  refine R_getf (ci := 10) (f := 14) (C := RX12) (N := 16) (Tt := TX12) dX12_writeByte_21 rfl i_X12 (by decide) w_499 (fun l z h k => ?_) k
  refine R_iconst dX12_writeByte_24 (by decide) (fun l z h k => ?_) k
  refine R_iadd dX12_writeByte_25 (fun l z h k => ?_) k
  refine R_putf (ci := 10) (f := 14) (C := RX12) (N := 16) (Tt := TX12) tyX12 tyX12_ok nmX12 dX12_writeByte_26 rfl i_X12 (by decide) w_499 rfl (tyX12_ok 14 (by decide)) p_int (fun l z h k => ?_) k
  exact k
theorem bX12_writeByte_29 {G : Gt} {d bc bs : Nat} {Q : QT} {l : Ls} {z : List Value} {h : Hp} (k : (tRetV Q) l z h) : T G d bc bs mX12_writeByte 29 l z h Q := by
  exact R_vret dX12_writeByte_29 rfl k
theorem dX12_book_0 : decode cX12_book 0 = .ok (.iload_n 1, 1) := by decide +kernel
theorem dX12_book_1 : decode cX12_book 1 = .ok (.ifCond .eq 12, 3) := by decide +kernel
theorem dX12_book_4 : decode cX12_book 4 = .ok (.iload_n 1, 1) := by decide +kernel
theorem dX12_book_5 : decode cX12_book 5 = .ok (.iconst 1, 1) := by decide +kernel
theorem dX12_book_6 : decode cX12_book 6 = .ok (.if_icmp .eq 7, 3) := by decide +kernel
theorem dX12_book_9 : decode cX12_book 9 = .ok (.sipush (-1000), 3) := by decide +kernel
theorem dX12_book_12 : decode cX12_book 12 = .ok (.ireturn, 1) := by decide +kernel
theorem dX12_book_13 : decode cX12_book 13 = .ok (.aload_n 0, 1) := by decide +kernel
theorem dX12_book_14 : decode cX12_book 14 = .ok (.getfield 37, 3) := by decide +kernel
theorem dX12_book_17 : decode cX12_book 17 = .ok (.aload_n 0, 1) := by decide +kernel
theorem dX12_book_18 : decode cX12_book 18 = .ok (.getfield 44, 3) := by decide +kernel
theorem dX12_book_21 : decode cX12_book 21 = .ok (.invokevirtual 339, 3) := by decide +kernel
theorem dX12_book_24 : decode cX12_book 24 = .ok (.aload_n 0, 1) := by decide +kernel
theorem dX12_book_25 : decode cX12_book 25 = .ok (.invokevirtual 116, 3) := by decide +kernel
theorem dX12_book_28 : decode cX12_book 28 = .ok (.ifCond .eq 14, 3) := by decide +kernel
theorem dX12_book_31 : decode cX12_book 31 = .ok (.bipush (-2), 2) := by decide +kernel
theorem dX12_book_33 : decode cX12_book 33 = .ok (.aload_n 0, 1) := by decide +kernel
theorem dX12_book_34 : decode cX12_book 34 = .ok (.getfield 21, 3) := by decide +kernel
theorem dX12_book_37 : decode cX12_book 37 = .ok (.getfield 119, 3) := by decide +kernel
theorem dX12_book_40 : decode cX12_book 40 = .ok (.isub, 1) := by decide +kernel
theorem dX12_book_41 : decode cX12_book 41 = .ok (.ireturn, 1) := by decide +kernel
theorem dX12_book_42 : decode cX12_book 42 = .ok (.aload_n 0, 1) := by decide +kernel
theorem dX12_book_43 : decode cX12_book 43 = .ok (.getfield 37, 3) := by decide +kernel
theorem dX12_book_46 : decode cX12_book 46 = .ok (.aload_n 0, 1) := by decide +kernel
theorem dX12_book_47 : decode cX12_book 47 = .ok (.getfield 44, 3) := by decide +kernel
theorem dX12_book_50 : decode cX12_book 50 = .ok (.invokevirtual 341, 3) := by decide +kernel
theorem dX12_book_53 : decode cX12_book 53 = .ok (.istore_n 2, 1) := by decide +kernel
theorem dX12_book_54 : decode cX12_book 54 = .ok (.iload_n 1, 1) := by decide +kernel
theorem dX12_book_55 : decode cX12_book 55 = .ok (.iconst 1, 1) := by decide +kernel
theorem dX12_book_56 : decode cX12_book 56 = .ok (.if_icmp .ne 45, 3) := by decide +kernel
theorem dX12_book_59 : decode cX12_book 59 = .ok (.aload_n 0, 1) := by decide +kernel
theorem dX12_book_60 : decode cX12_book 60 = .ok (.getfield 37, 3) := by decide +kernel
theorem dX12_book_63 : decode cX12_book 63 = .ok (.invokevirtual 344, 3) := by decide +kernel
theorem dX12_book_66 : decode cX12_book 66 = .ok (.ifCond .eq 35, 3) := by decide +kernel
theorem dX12_book_69 : decode cX12_book 69 = .ok (.aload_n 0, 1) := by decide +kernel
theorem dX12_book_70 : decode cX12_book 70 = .ok (.getfield 51, 3) := by decide +kernel
theorem dX12_book_73 : decode cX12_book 73 = .ok (.aload_n 0, 1) := by decide +kernel
theorem dX12_book_74 : decode cX12_book 74 = .ok (.getfield 44, 3) := by decide +kernel
theorem dX12_book_77 : decode cX12_book 77 = .ok (.invokevirtual 212, 3) := by decide +kernel
theorem dX12_book_80 : decode cX12_book 80 = .ok (.aload_n 0, 1) := by decide +kernel
theorem dX12_book_81 : decode cX12_book 81 = .ok (.getfield 51, 3) := by decide +kernel
theorem dX12_book_84 : decode cX12_book 84 = .ok (.invokevirtual 254, 3) := by decide +kernel
theorem dX12_book_87 : decode cX12_book 87 = .ok (.aload_n 0, 1) := by decide +kernel
theorem dX12_book_88 : decode cX12_book 88 = .ok (.getfield 44, 3) := by decide +kernel
theorem dX12_book_91 : decode cX12_book 91 = .ok (.aload_n 0, 1) := by decide +kernel
theorem dX12_book_92 : decode cX12_book 92 = .ok (.getfield 37, 3) := by decide +kernel
theorem dX12_book_95 : decode cX12_book 95 = .ok (.getfield 347, 3) := by decide +kernel
theorem dX12_book_98 : decode cX12_book 98 = .ok (.invokevirtual 125, 3) := by decide +kernel
theorem dX12_book_101 : decode cX12_book 101 = .ok (.iload_n 2, 1) := by decide +kernel
theorem dX12_book_102 : decode cX12_book 102 = .ok (.ireturn, 1) := by decide +kernel
theorem bX12_book_0 {G : Gt} {d bc bs : Nat} {Q : QT} {l : Ls} {z : List Value} {h : Hp} (k : (tIld 1 (tIf (fun x => x = 0) (fun l z h => T G d bc bs mX12_book 13 l z h Q) (fun l z h => T G d bc bs mX12_book 4 l z h Q))) l z h) : T G d bc bs mX12_book 0 l z h Q := by
  refine R_iload_n dX12_book_0 rfl (fun l z h k => ?_) k
  exact R_if_eq dX12_book_1 (by decide) (fun _ _ _ k => k) (fun _ _ _ k => k) k
theorem bX12_book_4 {G : Gt} {d bc bs : Nat} {Q : QT} {l : Ls} {z : List Value} {h : Hp} (k : (tIld 1 (tPush (.int 1) (tIf2 (fun x y => x = y) (fun l z h => T G d bc bs mX12_book 13 l z h Q) (fun l z h => T G d bc bs mX12_book 9 l z h Q)))) l z h) : T G d bc bs mX12_book 4 l z h Q := by
  refine R_iload_n dX12_book_4 rfl (fun l z h k => ?_) k
  refine R_iconst dX12_book_5 (by decide) (fun l z h k => ?_) k
  exact R_icmp_eq dX12_book_6 (by decide) (fun _ _ _ k => k) (fun _ _ _ k => k) k
theorem bX12_book_9 {G : Gt} {d bc bs : Nat} {Q : QT} {l : Ls} {z : List Value} {h : Hp} (k : (tPush (.int (-1000)) (tRetI Q)) l z h) : T G d bc bs mX12_book 9 l z h Q := by
  refine R_sipush dX12_book_9 (by decide) (fun l z h k => ?_) k
  exact R_iret dX12_book_12 rfl k
theorem bX12_book_13 {G : Gt} {d bc bs : Nat} {Q : QT} {l : Ls} {z : List Value} {h : Hp} (k : (tAld 0 (tGetf 10 3 (tAld 0 (tGetf 10 4 (tCV1 G d 0 0 0 mX1_readLines (fun l z h => T G d bc bs mX12_book 24 l z h Q)))))) l z h) : T G d bc bs mX12_book 13 l z h Q := by
  refine R_aload_n dX12_book_13 rfl (fun l z h k => ?_) k
  refine R_getf (ci := 10) (f := 3) (C := RX12) (N := 16) (Tt := TX12) dX12_book_14 rfl i_X12 (by decide) w_488 (fun l z h k => ?_) k
  refine R_aload_n dX12_book_17 rfl (fun l z h k => ?_) k
  refine R_getf (ci := 10) (f := 4) (C := RX12) (N := 16) (Tt := TX12) dX12_book_18 rfl i_X12 (by decide) w_489 (fun l z h k => ?_) k
  exact R_cv1 (M := mX12_book) (pc := 21) (bc := bc) (bs := bs) (cb := 0) (cs := 0) (M' := mX1_readLines) dX12_book_21 rfl (by decide) w_1206 w_137 w_1203 w_1204 w_1205 (by decide +kernel) (fun _ _ _ k => k) k
theorem bX12_book_24 {G : Gt} {d bc bs : Nat} {Q : QT} {l : Ls} {z : List Value} {h : Hp} (k : (tAld 0 (tCV0 G d 0 0 10 mX12_settleText (fun l z h => T G d bc bs mX12_book 28 l z h Q))) l z h) : T G d bc bs mX12_book 24 l z h Q := by
  refine R_aload_n dX12_book_24 rfl (fun l z h k => ?_) k
  exact R_cv0 (M := mX12_book) (pc := 25) (bc := bc) (bs := bs) (cb := 0) (cs := 0) (M' := mX12_settleText) dX12_book_25 rfl (by decide) w_783 w_130 w_780 w_782 w_11 (by decide +kernel) (fun _ _ _ k => k) k
theorem bX12_book_28 {G : Gt} {d bc bs : Nat} {Q : QT} {l : Ls} {z : List Value} {h : Hp} (k : (tIf (fun x => x = 0) (fun l z h => T G d bc bs mX12_book 42 l z h Q) (fun l z h => T G d bc bs mX12_book 31 l z h Q)) l z h) : T G d bc bs mX12_book 28 l z h Q := by
  exact R_if_eq dX12_book_28 (by decide) (fun _ _ _ k => k) (fun _ _ _ k => k) k
theorem bX12_book_31 {G : Gt} {d bc bs : Nat} {Q : QT} {l : Ls} {z : List Value} {h : Hp} (k : (tPush (.int (-2)) (tAld 0 (tGetf 10 1 (tGetf 8 10 (tB (fun x y => x - y) (tRetI Q)))))) l z h) : T G d bc bs mX12_book 31 l z h Q := by
  refine R_bipush dX12_book_31 (by decide) (fun l z h k => ?_) k
  refine R_aload_n dX12_book_33 rfl (fun l z h k => ?_) k
  refine R_getf (ci := 10) (f := 1) (C := RX12) (N := 16) (Tt := TX12) dX12_book_34 rfl i_X12 (by decide) w_486 (fun l z h k => ?_) k
  refine R_getf (ci := 8) (f := 10) (C := RX9) (N := 11) (Tt := TX9) dX12_book_37 rfl i_X9 (by decide) w_211 (fun l z h k => ?_) k
  refine R_isub dX12_book_40 (fun l z h k => ?_) k
  exact R_iret dX12_book_41 rfl k
theorem bX12_book_42 {G : Gt} {d bc bs : Nat} {Q : QT} {l : Ls} {z : List Value} {h : Hp} (k : (tAld 0 (tGetf 10 3 (tAld 0 (tGetf 10 4 (tCV1 G d 0 0 0 mX1_judge (fun l z h => T G d bc bs mX12_book 53 l z h Q)))))) l z h) : T G d bc bs mX12_book 42 l z h Q := by
  refine R_aload_n dX12_book_42 rfl (fun l z h k => ?_) k
  refine R_getf (ci := 10) (f := 3) (C := RX12) (N := 16) (Tt := TX12) dX12_book_43 rfl i_X12 (by decide) w_488 (fun l z h k => ?_) k
  refine R_aload_n dX12_book_46 rfl (fun l z h k => ?_) k
  refine R_getf (ci := 10) (f := 4) (C := RX12) (N := 16) (Tt := TX12) dX12_book_47 rfl i_X12 (by decide) w_489 (fun l z h k => ?_) k
  exact R_cv1 (M := mX12_book) (pc := 50) (bc := bc) (bs := bs) (cb := 0) (cs := 0) (M' := mX1_judge) dX12_book_50 rfl (by decide) w_1253 w_137 w_1250 w_1251 w_1252 (by decide +kernel) (fun _ _ _ k => k) k
theorem bX12_book_53 {G : Gt} {d bc bs : Nat} {Q : QT} {l : Ls} {z : List Value} {h : Hp} (k : (tIst 2 (tIld 1 (tPush (.int 1) (tIf2 (fun x y => x = y) (fun l z h => T G d bc bs mX12_book 59 l z h Q) (fun l z h => T G d bc bs mX12_book 101 l z h Q))))) l z h) : T G d bc bs mX12_book 53 l z h Q := by
  refine R_istore_n dX12_book_53 rfl (by decide) (fun l z h k => ?_) k
  refine R_iload_n dX12_book_54 rfl (fun l z h k => ?_) k
  refine R_iconst dX12_book_55 (by decide) (fun l z h k => ?_) k
  exact R_icmp_ne dX12_book_56 (by decide) (fun _ _ _ k => k) (fun _ _ _ k => k) k
theorem bX12_book_59 {G : Gt} {d bc bs : Nat} {Q : QT} {l : Ls} {z : List Value} {h : Hp} (k : (tAld 0 (tGetf 10 3 (tCV0 G d 0 0 0 mX1_hasRightLines (fun l z h => T G d bc bs mX12_book 66 l z h Q)))) l z h) : T G d bc bs mX12_book 59 l z h Q := by
  refine R_aload_n dX12_book_59 rfl (fun l z h k => ?_) k
  refine R_getf (ci := 10) (f := 3) (C := RX12) (N := 16) (Tt := TX12) dX12_book_60 rfl i_X12 (by decide) w_488 (fun l z h k => ?_) k
  exact R_cv0 (M := mX12_book) (pc := 63) (bc := bc) (bs := bs) (cb := 0) (cs := 0) (M' := mX1_hasRightLines) dX12_book_63 rfl (by decide) w_1281 w_137 w_1278 w_1279 w_1280 (by decide +kernel) (fun _ _ _ k => k) k
theorem bX12_book_66 {G : Gt} {d bc bs : Nat} {Q : QT} {l : Ls} {z : List Value} {h : Hp} (k : (tIf (fun x => x = 0) (fun l z h => T G d bc bs mX12_book 101 l z h Q) (fun l z h => T G d bc bs mX12_book 69 l z h Q)) l z h) : T G d bc bs mX12_book 66 l z h Q := by
  exact R_if_eq dX12_book_66 (by decide) (fun _ _ _ k => k) (fun _ _ _ k => k) k
theorem bX12_book_69 {G : Gt} {d bc bs : Nat} {Q : QT} {l : Ls} {z : List Value} {h : Hp} (k : (tAld 0 (tGetf 10 5 (tAld 0 (tGetf 10 4 (tCV1 G d 0 0 5 mX6_sketch (fun l z h => T G d bc bs mX12_book 80 l z h Q)))))) l z h) : T G d bc bs mX12_book 69 l z h Q := by
  refine R_aload_n dX12_book_69 rfl (fun l z h k => ?_) k
  refine R_getf (ci := 10) (f := 5) (C := RX12) (N := 16) (Tt := TX12) dX12_book_70 rfl i_X12 (by decide) w_490 (fun l z h k => ?_) k
  refine R_aload_n dX12_book_73 rfl (fun l z h k => ?_) k
  refine R_getf (ci := 10) (f := 4) (C := RX12) (N := 16) (Tt := TX12) dX12_book_74 rfl i_X12 (by decide) w_489 (fun l z h k => ?_) k
  exact R_cv1 (M := mX12_book) (pc := 77) (bc := bc) (bs := bs) (cb := 0) (cs := 0) (M' := mX6_sketch) dX12_book_77 rfl (by decide) w_877 w_139 w_874 w_875 w_876 (by decide +kernel) (fun _ _ _ k => k) k
theorem bX12_book_80 {G : Gt} {d bc bs : Nat} {Q : QT} {l : Ls} {z : List Value} {h : Hp} (k : (tAld 0 (tGetf 10 5 (tCV0 G d 0 0 5 mX6_keep (fun l z h => T G d bc bs mX12_book 87 l z h Q)))) l z h) : T G d bc bs mX12_book 80 l z h Q := by
  refine R_aload_n dX12_book_80 rfl (fun l z h k => ?_) k
  refine R_getf (ci := 10) (f := 5) (C := RX12) (N := 16) (Tt := TX12) dX12_book_81 rfl i_X12 (by decide) w_490 (fun l z h k => ?_) k
  exact R_cv0 (M := mX12_book) (pc := 84) (bc := bc) (bs := bs) (cb := 0) (cs := 0) (M' := mX6_keep) dX12_book_84 rfl (by decide) w_896 w_139 w_893 w_894 w_895 (by decide +kernel) (fun _ _ _ k => k) k
theorem bX12_book_87 {G : Gt} {d bc bs : Nat} {Q : QT} {l : Ls} {z : List Value} {h : Hp} (k : (tAld 0 (tGetf 10 4 (tAld 0 (tGetf 10 3 (tGetf 0 4 (tCV1 G d 0 0 9 mX11_copyFrom (fun l z h => T G d bc bs mX12_book 101 l z h Q))))))) l z h) : T G d bc bs mX12_book 87 l z h Q := by
  refine R_aload_n dX12_book_87 rfl (fun l z h k => ?_) k
  refine R_getf (ci := 10) (f := 4) (C := RX12) (N := 16) (Tt := TX12) dX12_book_88 rfl i_X12 (by decide) w_489 (fun l z h k => ?_) k
  refine R_aload_n dX12_book_91 rfl (fun l z h k => ?_) k
  refine R_getf (ci := 10) (f := 3) (C := RX12) (N := 16) (Tt := TX12) dX12_book_92 rfl i_X12 (by decide) w_488 (fun l z h k => ?_) k
  refine R_getf (ci := 0) (f := 4) (C := RX1) (N := 6) (Tt := TX1) dX12_book_95 rfl i_X1 (by decide) w_348 (fun l z h k => ?_) k
  exact R_cv1 (M := mX12_book) (pc := 98) (bc := bc) (bs := bs) (cb := 0) (cs := 0) (M' := mX11_copyFrom) dX12_book_98 rfl (by decide) w_787 w_136 w_784 w_785 w_786 (by decide +kernel) (fun _ _ _ k => k) k
theorem bX12_book_101 {G : Gt} {d bc bs : Nat} {Q : QT} {l : Ls} {z : List Value} {h : Hp} (k : (tIld 2 (tRetI Q)) l z h) : T G d bc bs mX12_book 101 l z h Q := by
  refine R_iload_n dX12_book_101 rfl (fun l z h k => ?_) k
  exact R_iret dX12_book_102 rfl k
theorem dX12_told_0 : decode cX12_told 0 = .ok (.iload_n 1, 1) := by decide +kernel
theorem dX12_told_1 : decode cX12_told 1 = .ok (.ifCond .lt 20, 3) := by decide +kernel
theorem dX12_told_4 : decode cX12_told 4 = .ok (.iload_n 1, 1) := by decide +kernel
theorem dX12_told_5 : decode cX12_told 5 = .ok (.iconst 4, 1) := by decide +kernel
theorem dX12_told_6 : decode cX12_told 6 = .ok (.if_icmp .ge 15, 3) := by decide +kernel
theorem dX12_told_9 : decode cX12_told 9 = .ok (.aload_n 0, 1) := by decide +kernel
theorem dX12_told_10 : decode cX12_told 10 = .ok (.getfield 37, 3) := by decide +kernel
theorem dX12_told_13 : decode cX12_told 13 = .ok (.getfield 350, 3) := by decide +kernel
theorem dX12_told_16 : decode cX12_told 16 = .ok (.iload_n 1, 1) := by decide +kernel
theorem dX12_told_17 : decode cX12_told 17 = .ok (.iaload, 1) := by decide +kernel
theorem dX12_told_18 : decode cX12_told 18 = .ok (.goto 4, 3) := by decide +kernel
theorem dX12_told_21 : decode cX12_told 21 = .ok (.iconst (-1), 1) := by decide +kernel
theorem dX12_told_22 : decode cX12_told 22 = .ok (.ireturn, 1) := by decide +kernel
theorem bX12_told_0 {G : Gt} {d bc bs : Nat} {Q : QT} {l : Ls} {z : List Value} {h : Hp} (k : (tIld 1 (tIf (fun x => x < 0) (fun l z h => T G d bc bs mX12_told 21 l z h Q) (fun l z h => T G d bc bs mX12_told 4 l z h Q))) l z h) : T G d bc bs mX12_told 0 l z h Q := by
  refine R_iload_n dX12_told_0 rfl (fun l z h k => ?_) k
  exact R_if_lt dX12_told_1 (by decide) (fun _ _ _ k => k) (fun _ _ _ k => k) k
theorem bX12_told_4 {G : Gt} {d bc bs : Nat} {Q : QT} {l : Ls} {z : List Value} {h : Hp} (k : (tIld 1 (tPush (.int 4) (tIf2 (fun x y => y ≤ x) (fun l z h => T G d bc bs mX12_told 21 l z h Q) (fun l z h => T G d bc bs mX12_told 9 l z h Q)))) l z h) : T G d bc bs mX12_told 4 l z h Q := by
  refine R_iload_n dX12_told_4 rfl (fun l z h k => ?_) k
  refine R_iconst dX12_told_5 (by decide) (fun l z h k => ?_) k
  exact R_icmp_ge dX12_told_6 (by decide) (fun _ _ _ k => k) (fun _ _ _ k => k) k
theorem bX12_told_9 {G : Gt} {d bc bs : Nat} {Q : QT} {l : Ls} {z : List Value} {h : Hp} (k : (tAld 0 (tGetf 10 3 (tGetf 0 5 (tIld 1 (tXald 0 ((fun l z h => T G d bc bs mX12_told 22 l z h Q))))))) l z h) : T G d bc bs mX12_told 9 l z h Q := by
  refine R_aload_n dX12_told_9 rfl (fun l z h k => ?_) k
  refine R_getf (ci := 10) (f := 3) (C := RX12) (N := 16) (Tt := TX12) dX12_told_10 rfl i_X12 (by decide) w_488 (fun l z h k => ?_) k
  refine R_getf (ci := 0) (f := 5) (C := RX1) (N := 6) (Tt := TX1) dX12_told_13 rfl i_X1 (by decide) w_350 (fun l z h k => ?_) k
  refine R_iload_n dX12_told_16 rfl (fun l z h k => ?_) k
  refine R_iaload dX12_told_17 (fun l z h k => ?_) k
  exact R_goto dX12_told_18 (by decide) (fun _ _ _ k => k) k
theorem bX12_told_21 {G : Gt} {d bc bs : Nat} {Q : QT} {l : Ls} {z : List Value} {h : Hp} (k : (tPush (.int (-1)) ((fun l z h => T G d bc bs mX12_told 22 l z h Q))) l z h) : T G d bc bs mX12_told 21 l z h Q := by
  refine R_iconst dX12_told_21 (by decide) (fun l z h k => ?_) k
  exact k
theorem bX12_told_22 {G : Gt} {d bc bs : Nat} {Q : QT} {l : Ls} {z : List Value} {h : Hp} (k : (tRetI Q) l z h) : T G d bc bs mX12_told 22 l z h Q := by
  exact R_iret dX12_told_22 rfl k
theorem dX12_sentence_0 : decode cX12_sentence 0 = .ok (.aload_n 0, 1) := by decide +kernel
theorem dX12_sentence_1 : decode cX12_sentence 1 = .ok (.getfield 62, 3) := by decide +kernel
theorem dX12_sentence_4 : decode cX12_sentence 4 = .ok (.aload_n 0, 1) := by decide +kernel
theorem dX12_sentence_5 : decode cX12_sentence 5 = .ok (.getfield 21, 3) := by decide +kernel
theorem dX12_sentence_8 : decode cX12_sentence 8 = .ok (.invokevirtual 353, 3) := by decide +kernel
theorem dX12_sentence_11 : decode cX12_sentence 11 = .ok (.aload_n 0, 1) := by decide +kernel
theorem dX12_sentence_12 : decode cX12_sentence 12 = .ok (.invokevirtual 116, 3) := by decide +kernel
theorem dX12_sentence_15 : decode cX12_sentence 15 = .ok (.ifCond .eq 13, 3) := by decide +kernel
theorem dX12_sentence_18 : decode cX12_sentence 18 = .ok (.iconst (-1), 1) := by decide +kernel
theorem dX12_sentence_19 : decode cX12_sentence 19 = .ok (.aload_n 0, 1) := by decide +kernel
theorem dX12_sentence_20 : decode cX12_sentence 20 = .ok (.getfield 21, 3) := by decide +kernel
theorem dX12_sentence_23 : decode cX12_sentence 23 = .ok (.getfield 119, 3) := by decide +kernel
theorem dX12_sentence_26 : decode cX12_sentence 26 = .ok (.isub, 1) := by decide +kernel
theorem dX12_sentence_27 : decode cX12_sentence 27 = .ok (.ireturn, 1) := by decide +kernel
theorem dX12_sentence_28 : decode cX12_sentence 28 = .ok (.aload_n 0, 1) := by decide +kernel
theorem dX12_sentence_29 : decode cX12_sentence 29 = .ok (.getfield 58, 3) := by decide +kernel
theorem dX12_sentence_32 : decode cX12_sentence 32 = .ok (.aload_n 0, 1) := by decide +kernel
theorem dX12_sentence_33 : decode cX12_sentence 33 = .ok (.getfield 62, 3) := by decide +kernel
theorem dX12_sentence_36 : decode cX12_sentence 36 = .ok (.invokevirtual 356, 3) := by decide +kernel
theorem dX12_sentence_39 : decode cX12_sentence 39 = .ok (.aload_n 0, 1) := by decide +kernel
theorem dX12_sentence_40 : decode cX12_sentence 40 = .ok (.getfield 58, 3) := by decide +kernel
theorem dX12_sentence_43 : decode cX12_sentence 43 = .ok (.getfield 359, 3) := by decide +kernel
theorem dX12_sentence_46 : decode cX12_sentence 46 = .ok (.ireturn, 1) := by decide +kernel
theorem bX12_sentence_0 {G : Gt} {d bc bs : Nat} {Q : QT} {l : Ls} {z : List Value} {h : Hp} (k : (tAld 0 (tGetf 10 7 (tAld 0 (tGetf 10 1 (tCV1 G d 0 0 6 mX7_read (fun l z h => T G d bc bs mX12_sentence 11 l z h Q)))))) l z h) : T G d bc bs mX12_sentence 0 l z h Q := by
  refine R_aload_n dX12_sentence_0 rfl (fun l z h k => ?_) k
  refine R_getf (ci := 10) (f := 7) (C := RX12) (N := 16) (Tt := TX12) dX12_sentence_1 rfl i_X12 (by decide) w_492 (fun l z h k => ?_) k
  refine R_aload_n dX12_sentence_4 rfl (fun l z h k => ?_) k
  refine R_getf (ci := 10) (f := 1) (C := RX12) (N := 16) (Tt := TX12) dX12_sentence_5 rfl i_X12 (by decide) w_486 (fun l z h k => ?_) k
  exact R_cv1 (M := mX12_sentence) (pc := 8) (bc := bc) (bs := bs) (cb := 0) (cs := 0) (M' := mX7_read) dX12_sentence_8 rfl (by decide) w_1293 w_140 w_1290 w_1291 w_1292 (by decide +kernel) (fun _ _ _ k => k) k
theorem bX12_sentence_11 {G : Gt} {d bc bs : Nat} {Q : QT} {l : Ls} {z : List Value} {h : Hp} (k : (tAld 0 (tCV0 G d 0 0 10 mX12_settleText (fun l z h => T G d bc bs mX12_sentence 15 l z h Q))) l z h) : T G d bc bs mX12_sentence 11 l z h Q := by
  refine R_aload_n dX12_sentence_11 rfl (fun l z h k => ?_) k
  exact R_cv0 (M := mX12_sentence) (pc := 12) (bc := bc) (bs := bs) (cb := 0) (cs := 0) (M' := mX12_settleText) dX12_sentence_12 rfl (by decide) w_783 w_130 w_780 w_782 w_11 (by decide +kernel) (fun _ _ _ k => k) k
theorem bX12_sentence_15 {G : Gt} {d bc bs : Nat} {Q : QT} {l : Ls} {z : List Value} {h : Hp} (k : (tIf (fun x => x = 0) (fun l z h => T G d bc bs mX12_sentence 28 l z h Q) (fun l z h => T G d bc bs mX12_sentence 18 l z h Q)) l z h) : T G d bc bs mX12_sentence 15 l z h Q := by
  exact R_if_eq dX12_sentence_15 (by decide) (fun _ _ _ k => k) (fun _ _ _ k => k) k
theorem bX12_sentence_18 {G : Gt} {d bc bs : Nat} {Q : QT} {l : Ls} {z : List Value} {h : Hp} (k : (tPush (.int (-1)) (tAld 0 (tGetf 10 1 (tGetf 8 10 (tB (fun x y => x - y) (tRetI Q)))))) l z h) : T G d bc bs mX12_sentence 18 l z h Q := by
  refine R_iconst dX12_sentence_18 (by decide) (fun l z h k => ?_) k
  refine R_aload_n dX12_sentence_19 rfl (fun l z h k => ?_) k
  refine R_getf (ci := 10) (f := 1) (C := RX12) (N := 16) (Tt := TX12) dX12_sentence_20 rfl i_X12 (by decide) w_486 (fun l z h k => ?_) k
  refine R_getf (ci := 8) (f := 10) (C := RX9) (N := 11) (Tt := TX9) dX12_sentence_23 rfl i_X9 (by decide) w_211 (fun l z h k => ?_) k
  refine R_isub dX12_sentence_26 (fun l z h k => ?_) k
  exact R_iret dX12_sentence_27 rfl k
theorem bX12_sentence_28 {G : Gt} {d bc bs : Nat} {Q : QT} {l : Ls} {z : List Value} {h : Hp} (k : (tAld 0 (tGetf 10 6 (tAld 0 (tGetf 10 7 (tCV1 G d 0 0 6 mX7_copyFrom (fun l z h => T G d bc bs mX12_sentence 39 l z h Q)))))) l z h) : T G d bc bs mX12_sentence 28 l z h Q := by
  refine R_aload_n dX12_sentence_28 rfl (fun l z h k => ?_) k
  refine R_getf (ci := 10) (f := 6) (C := RX12) (N := 16) (Tt := TX12) dX12_sentence_29 rfl i_X12 (by decide) w_491 (fun l z h k => ?_) k
  refine R_aload_n dX12_sentence_32 rfl (fun l z h k => ?_) k
  refine R_getf (ci := 10) (f := 7) (C := RX12) (N := 16) (Tt := TX12) dX12_sentence_33 rfl i_X12 (by decide) w_492 (fun l z h k => ?_) k
  exact R_cv1 (M := mX12_sentence) (pc := 36) (bc := bc) (bs := bs) (cb := 0) (cs := 0) (M' := mX7_copyFrom) dX12_sentence_36 rfl (by decide) w_1342 w_140 w_1339 w_1340 w_1341 (by decide +kernel) (fun _ _ _ k => k) k
theorem bX12_sentence_39 {G : Gt} {d bc bs : Nat} {Q : QT} {l : Ls} {z : List Value} {h : Hp} (k : (tAld 0 (tGetf 10 6 (tGetf 6 0 (tRetI Q)))) l z h) : T G d bc bs mX12_sentence 39 l z h Q := by
  refine R_aload_n dX12_sentence_39 rfl (fun l z h k => ?_) k
  refine R_getf (ci := 10) (f := 6) (C := RX12) (N := 16) (Tt := TX12) dX12_sentence_40 rfl i_X12 (by decide) w_491 (fun l z h k => ?_) k
  refine R_getf (ci := 6) (f := 0) (C := RX7) (N := 7) (Tt := TX7) dX12_sentence_43 rfl i_X7 (by decide) w_394 (fun l z h k => ?_) k
  exact R_iret dX12_sentence_46 rfl k
theorem dX12_said_0 : decode cX12_said 0 = .ok (.aload_n 0, 1) := by decide +kernel
theorem dX12_said_1 : decode cX12_said 1 = .ok (.getfield 58, 3) := by decide +kernel
theorem dX12_said_4 : decode cX12_said 4 = .ok (.invokevirtual 362, 3) := by decide +kernel
theorem dX12_said_7 : decode cX12_said 7 = .ok (.ifCond .ne 5, 3) := by decide +kernel
theorem dX12_said_10 : decode cX12_said 10 = .ok (.iconst (-1), 1) := by decide +kernel
theorem dX12_said_11 : decode cX12_said 11 = .ok (.ireturn, 1) := by decide +kernel
theorem dX12_said_12 : decode cX12_said 12 = .ok (.aload_n 0, 1) := by decide +kernel
theorem dX12_said_13 : decode cX12_said 13 = .ok (.getfield 58, 3) := by decide +kernel
theorem dX12_said_16 : decode cX12_said 16 = .ok (.aload_n 0, 1) := by decide +kernel
theorem dX12_said_17 : decode cX12_said 17 = .ok (.getfield 44, 3) := by decide +kernel
theorem dX12_said_20 : decode cX12_said 20 = .ok (.invokevirtual 365, 3) := by decide +kernel
theorem dX12_said_23 : decode cX12_said 23 = .ok (.istore_n 2, 1) := by decide +kernel
theorem dX12_said_24 : decode cX12_said 24 = .ok (.iload_n 1, 1) := by decide +kernel
theorem dX12_said_25 : decode cX12_said 25 = .ok (.iconst (-1), 1) := by decide +kernel
theorem dX12_said_26 : decode cX12_said 26 = .ok (.if_icmp .ne 8, 3) := by decide +kernel
theorem dX12_said_29 : decode cX12_said 29 = .ok (.iload_n 2, 1) := by decide +kernel
theorem dX12_said_30 : decode cX12_said 30 = .ok (.invokestatic 368, 3) := by decide +kernel
theorem dX12_said_33 : decode cX12_said 33 = .ok (.ireturn, 1) := by decide +kernel
theorem dX12_said_34 : decode cX12_said 34 = .ok (.iconst 0, 1) := by decide +kernel
theorem dX12_said_35 : decode cX12_said 35 = .ok (.istore_n 3, 1) := by decide +kernel
theorem dX12_said_36 : decode cX12_said 36 = .ok (.iconst 0, 1) := by decide +kernel
theorem dX12_said_37 : decode cX12_said 37 = .ok (.istore 4, 2) := by decide +kernel
theorem dX12_said_39 : decode cX12_said 39 = .ok (.iload 4, 2) := by decide +kernel
theorem dX12_said_41 : decode cX12_said 41 = .ok (.aload_n 0, 1) := by decide +kernel
theorem dX12_said_42 : decode cX12_said 42 = .ok (.getfield 44, 3) := by decide +kernel
theorem dX12_said_45 : decode cX12_said 45 = .ok (.getfield 209, 3) := by decide +kernel
theorem dX12_said_48 : decode cX12_said 48 = .ok (.if_icmp .ge 29, 3) := by decide +kernel
theorem dX12_said_51 : decode cX12_said 51 = .ok (.iload_n 2, 1) := by decide +kernel
theorem dX12_said_52 : decode cX12_said 52 = .ok (.iload 4, 2) := by decide +kernel
theorem dX12_said_54 : decode cX12_said 54 = .ok (.ishr, 1) := by decide +kernel
theorem dX12_said_55 : decode cX12_said 55 = .ok (.iconst 1, 1) := by decide +kernel
theorem dX12_said_56 : decode cX12_said 56 = .ok (.iand, 1) := by decide +kernel
theorem dX12_said_57 : decode cX12_said 57 = .ok (.ifCond .eq 14, 3) := by decide +kernel
theorem dX12_said_60 : decode cX12_said 60 = .ok (.iload_n 3, 1) := by decide +kernel
theorem dX12_said_61 : decode cX12_said 61 = .ok (.iload_n 1, 1) := by decide +kernel
theorem dX12_said_62 : decode cX12_said 62 = .ok (.if_icmp .ne 6, 3) := by decide +kernel
theorem dX12_said_65 : decode cX12_said 65 = .ok (.iload 4, 2) := by decide +kernel
theorem dX12_said_67 : decode cX12_said 67 = .ok (.ireturn, 1) := by decide +kernel
theorem dX12_said_68 : decode cX12_said 68 = .ok (.iinc 3 1, 3) := by decide +kernel
theorem dX12_said_71 : decode cX12_said 71 = .ok (.iinc 4 1, 3) := by decide +kernel
theorem dX12_said_74 : decode cX12_said 74 = .ok (.goto (-35), 3) := by decide +kernel
theorem dX12_said_77 : decode cX12_said 77 = .ok (.iconst (-1), 1) := by decide +kernel
theorem dX12_said_78 : decode cX12_said 78 = .ok (.ireturn, 1) := by decide +kernel
theorem bX12_said_0 {G : Gt} {d bc bs : Nat} {Q : QT} {l : Ls} {z : List Value} {h : Hp} (k : (tAld 0 (tGetf 10 6 (tCV0 G d 0 0 6 mX7_isTold (fun l z h => T G d bc bs mX12_said 7 l z h Q)))) l z h) : T G d bc bs mX12_said 0 l z h Q := by
  refine R_aload_n dX12_said_0 rfl (fun l z h k => ?_) k
  refine R_getf (ci := 10) (f := 6) (C := RX12) (N := 16) (Tt := TX12) dX12_said_1 rfl i_X12 (by decide) w_491 (fun l z h k => ?_) k
  exact R_cv0 (M := mX12_said) (pc := 4) (bc := bc) (bs := bs) (cb := 0) (cs := 0) (M' := mX7_isTold) dX12_said_4 rfl (by decide) w_1351 w_140 w_1348 w_1349 w_1350 (by decide +kernel) (fun _ _ _ k => k) k
theorem bX12_said_7 {G : Gt} {d bc bs : Nat} {Q : QT} {l : Ls} {z : List Value} {h : Hp} (k : (tIf (fun x => x = 0) (fun l z h => T G d bc bs mX12_said 10 l z h Q) (fun l z h => T G d bc bs mX12_said 12 l z h Q)) l z h) : T G d bc bs mX12_said 7 l z h Q := by
  exact R_if_ne dX12_said_7 (by decide) (fun _ _ _ k => k) (fun _ _ _ k => k) k
theorem bX12_said_10 {G : Gt} {d bc bs : Nat} {Q : QT} {l : Ls} {z : List Value} {h : Hp} (k : (tPush (.int (-1)) (tRetI Q)) l z h) : T G d bc bs mX12_said 10 l z h Q := by
  refine R_iconst dX12_said_10 (by decide) (fun l z h k => ?_) k
  exact R_iret dX12_said_11 rfl k
theorem bX12_said_12 {G : Gt} {d bc bs : Nat} {Q : QT} {l : Ls} {z : List Value} {h : Hp} (k : (tAld 0 (tGetf 10 6 (tAld 0 (tGetf 10 4 (tCV1 G d 0 0 6 mX7_ofWhom (fun l z h => T G d bc bs mX12_said 23 l z h Q)))))) l z h) : T G d bc bs mX12_said 12 l z h Q := by
  refine R_aload_n dX12_said_12 rfl (fun l z h k => ?_) k
  refine R_getf (ci := 10) (f := 6) (C := RX12) (N := 16) (Tt := TX12) dX12_said_13 rfl i_X12 (by decide) w_491 (fun l z h k => ?_) k
  refine R_aload_n dX12_said_16 rfl (fun l z h k => ?_) k
  refine R_getf (ci := 10) (f := 4) (C := RX12) (N := 16) (Tt := TX12) dX12_said_17 rfl i_X12 (by decide) w_489 (fun l z h k => ?_) k
  exact R_cv1 (M := mX12_said) (pc := 20) (bc := bc) (bs := bs) (cb := 0) (cs := 0) (M' := mX7_ofWhom) dX12_said_20 rfl (by decide) w_1355 w_140 w_1352 w_1353 w_1354 (by decide +kernel) (fun _ _ _ k => k) k
theorem bX12_said_23 {G : Gt} {d bc bs : Nat} {Q : QT} {l : Ls} {z : List Value} {h : Hp} (k : (tIst 2 (tIld 1 (tPush (.int (-1)) (tIf2 (fun x y => x = y) (fun l z h => T G d bc bs mX12_said 29 l z h Q) (fun l z h => T G d bc bs mX12_said 34 l z h Q))))) l z h) : T G d bc bs mX12_said 23 l z h Q := by
  refine R_istore_n dX12_said_23 rfl (by decide) (fun l z h k => ?_) k
  refine R_iload_n dX12_said_24 rfl (fun l z h k => ?_) k
  refine R_iconst dX12_said_25 (by decide) (fun l z h k => ?_) k
  exact R_icmp_ne dX12_said_26 (by decide) (fun _ _ _ k => k) (fun _ _ _ k => k) k
theorem bX12_said_29 {G : Gt} {d bc bs : Nat} {Q : QT} {l : Ls} {z : List Value} {h : Hp} (k : (tIld 2 (tCS1 G d 0 0 mJ6_bitCount_0f7a4 (fun l z h => T G d bc bs mX12_said 33 l z h Q))) l z h) : T G d bc bs mX12_said 29 l z h Q := by
  refine R_iload_n dX12_said_29 rfl (fun l z h k => ?_) k
  exact R_cs1 (M := mX12_said) (pc := 30) (bc := bc) (bs := bs) (cb := 0) (cs := 0) (M' := mJ6_bitCount_0f7a4) dX12_said_30 (by decide) w_1099 w_155 w_1378 w_1098 (by decide +kernel) (fun _ _ _ k => k) k
theorem bX12_said_33 {G : Gt} {d bc bs : Nat} {Q : QT} {l : Ls} {z : List Value} {h : Hp} (k : (tRetI Q) l z h) : T G d bc bs mX12_said 33 l z h Q := by
  exact R_iret dX12_said_33 rfl k
theorem bX12_said_34 {G : Gt} {d bc bs : Nat} {Q : QT} {l : Ls} {z : List Value} {h : Hp} (k : (tPush (.int 0) (tIst 3 (tPush (.int 0) (tIst 4 ((fun l z h => T G d bc bs mX12_said 39 l z h Q)))))) l z h) : T G d bc bs mX12_said 34 l z h Q := by
  refine R_iconst dX12_said_34 (by decide) (fun l z h k => ?_) k
  refine R_istore_n dX12_said_35 rfl (by decide) (fun l z h k => ?_) k
  refine R_iconst dX12_said_36 (by decide) (fun l z h k => ?_) k
  refine R_istore dX12_said_37 (by decide) (fun l z h k => ?_) k
  exact k
theorem bX12_said_39 {G : Gt} {d bc bs : Nat} {Q : QT} {l : Ls} {z : List Value} {h : Hp} (k : (tIld 4 (tAld 0 (tGetf 10 4 (tGetf 9 1 (tIf2 (fun x y => y ≤ x) (fun l z h => T G d bc bs mX12_said 77 l z h Q) (fun l z h => T G d bc bs mX12_said 51 l z h Q)))))) l z h) : T G d bc bs mX12_said 39 l z h Q := by
  refine R_iload dX12_said_39 (fun l z h k => ?_) k
  refine R_aload_n dX12_said_41 rfl (fun l z h k => ?_) k
  refine R_getf (ci := 10) (f := 4) (C := RX12) (N := 16) (Tt := TX12) dX12_said_42 rfl i_X12 (by decide) w_489 (fun l z h k => ?_) k
  refine R_getf (ci := 9) (f := 1) (C := RX11) (N := 14) (Tt := TX11) dX12_said_45 rfl i_X11 (by decide) w_258 (fun l z h k => ?_) k
  exact R_icmp_ge dX12_said_48 (by decide) (fun _ _ _ k => k) (fun _ _ _ k => k) k
theorem bX12_said_51 {G : Gt} {d bc bs : Nat} {Q : QT} {l : Ls} {z : List Value} {h : Hp} (k : (tIld 2 (tIld 4 (tB (fun x y => x >>> (y &&& 31)) (tPush (.int 1) (tB (fun x y => x &&& y) (tIf (fun x => x = 0) (fun l z h => T G d bc bs mX12_said 71 l z h Q) (fun l z h => T G d bc bs mX12_said 60 l z h Q))))))) l z h) : T G d bc bs mX12_said 51 l z h Q := by
  refine R_iload_n dX12_said_51 rfl (fun l z h k => ?_) k
  refine R_iload dX12_said_52 (fun l z h k => ?_) k
  refine R_ishr dX12_said_54 (fun l z h k => ?_) k
  refine R_iconst dX12_said_55 (by decide) (fun l z h k => ?_) k
  refine R_iand dX12_said_56 (fun l z h k => ?_) k
  exact R_if_eq dX12_said_57 (by decide) (fun _ _ _ k => k) (fun _ _ _ k => k) k
theorem bX12_said_60 {G : Gt} {d bc bs : Nat} {Q : QT} {l : Ls} {z : List Value} {h : Hp} (k : (tIld 3 (tIld 1 (tIf2 (fun x y => x = y) (fun l z h => T G d bc bs mX12_said 65 l z h Q) (fun l z h => T G d bc bs mX12_said 68 l z h Q)))) l z h) : T G d bc bs mX12_said 60 l z h Q := by
  refine R_iload_n dX12_said_60 rfl (fun l z h k => ?_) k
  refine R_iload_n dX12_said_61 rfl (fun l z h k => ?_) k
  exact R_icmp_ne dX12_said_62 (by decide) (fun _ _ _ k => k) (fun _ _ _ k => k) k
theorem bX12_said_65 {G : Gt} {d bc bs : Nat} {Q : QT} {l : Ls} {z : List Value} {h : Hp} (k : (tIld 4 (tRetI Q)) l z h) : T G d bc bs mX12_said 65 l z h Q := by
  refine R_iload dX12_said_65 (fun l z h k => ?_) k
  exact R_iret dX12_said_67 rfl k
theorem bX12_said_68 {G : Gt} {d bc bs : Nat} {Q : QT} {l : Ls} {z : List Value} {h : Hp} (k : (tInc 3 1 ((fun l z h => T G d bc bs mX12_said 71 l z h Q))) l z h) : T G d bc bs mX12_said 68 l z h Q := by
  refine R_iinc dX12_said_68 (by decide) (by decide) (fun l z h k => ?_) k
  exact k
theorem bX12_said_71 {G : Gt} {d bc bs : Nat} {Q : QT} {l : Ls} {z : List Value} {h : Hp} (k : (tInc 4 1 ((fun l z h => T G d bc bs mX12_said 39 l z h Q))) l z h) : T G d bc bs mX12_said 71 l z h Q := by
  refine R_iinc dX12_said_71 (by decide) (by decide) (fun l z h k => ?_) k
  exact R_goto dX12_said_74 (by decide) (fun _ _ _ k => k) k
theorem bX12_said_77 {G : Gt} {d bc bs : Nat} {Q : QT} {l : Ls} {z : List Value} {h : Hp} (k : (tPush (.int (-1)) (tRetI Q)) l z h) : T G d bc bs mX12_said 77 l z h Q := by
  refine R_iconst dX12_said_77 (by decide) (fun l z h k => ?_) k
  exact R_iret dX12_said_78 rfl k
theorem dX12_image_0 : decode cX12_image 0 = .ok (.iload_n 1, 1) := by decide +kernel
theorem dX12_image_1 : decode cX12_image 1 = .ok (.ifCond .lt 8, 3) := by decide +kernel
theorem dX12_image_4 : decode cX12_image 4 = .ok (.iload_n 1, 1) := by decide +kernel
theorem dX12_image_5 : decode cX12_image 5 = .ok (.iconst 2, 1) := by decide +kernel
theorem dX12_image_6 : decode cX12_image 6 = .ok (.if_icmp .lt 5, 3) := by decide +kernel
theorem dX12_image_9 : decode cX12_image 9 = .ok (.iconst 0, 1) := by decide +kernel
theorem dX12_image_10 : decode cX12_image 10 = .ok (.ireturn, 1) := by decide +kernel
theorem dX12_image_11 : decode cX12_image 11 = .ok (.aload_n 0, 1) := by decide +kernel
theorem dX12_image_12 : decode cX12_image 12 = .ok (.getfield 65, 3) := by decide +kernel
theorem dX12_image_15 : decode cX12_image 15 = .ok (.iload_n 1, 1) := by decide +kernel
theorem dX12_image_16 : decode cX12_image 16 = .ok (.aaload, 1) := by decide +kernel
theorem dX12_image_17 : decode cX12_image 17 = .ok (.ifnull 12, 3) := by decide +kernel
theorem dX12_image_20 : decode cX12_image 20 = .ok (.aload_n 0, 1) := by decide +kernel
theorem dX12_image_21 : decode cX12_image 21 = .ok (.getfield 69, 3) := by decide +kernel
theorem dX12_image_24 : decode cX12_image 24 = .ok (.iload_n 1, 1) := by decide +kernel
theorem dX12_image_25 : decode cX12_image 25 = .ok (.aaload, 1) := by decide +kernel
theorem dX12_image_26 : decode cX12_image 26 = .ok (.ifnonnull 29, 3) := by decide +kernel
theorem dX12_image_29 : decode cX12_image 29 = .ok (.aload_n 0, 1) := by decide +kernel
theorem dX12_image_30 : decode cX12_image 30 = .ok (.getfield 65, 3) := by decide +kernel
theorem dX12_image_33 : decode cX12_image 33 = .ok (.iload_n 1, 1) := by decide +kernel
theorem dX12_image_34 : decode cX12_image 34 = .ok (.new 41, 3) := by decide +kernel
theorem dX12_image_37 : decode cX12_image 37 = .ok (.dup, 1) := by decide +kernel
theorem dX12_image_38 : decode cX12_image 38 = .ok (.invokespecial 43, 3) := by decide +kernel
theorem dX12_image_41 : decode cX12_image 41 = .ok (.aastore, 1) := by decide +kernel
theorem dX12_image_42 : decode cX12_image 42 = .ok (.aload_n 0, 1) := by decide +kernel
theorem dX12_image_43 : decode cX12_image 43 = .ok (.getfield 69, 3) := by decide +kernel
theorem dX12_image_46 : decode cX12_image 46 = .ok (.iload_n 1, 1) := by decide +kernel
theorem dX12_image_47 : decode cX12_image 47 = .ok (.new 55, 3) := by decide +kernel
theorem dX12_image_50 : decode cX12_image 50 = .ok (.dup, 1) := by decide +kernel
theorem dX12_image_51 : decode cX12_image 51 = .ok (.invokespecial 57, 3) := by decide +kernel
theorem dX12_image_54 : decode cX12_image 54 = .ok (.aastore, 1) := by decide +kernel
theorem dX12_image_55 : decode cX12_image 55 = .ok (.aload_n 0, 1) := by decide +kernel
theorem dX12_image_56 : decode cX12_image 56 = .ok (.getfield 65, 3) := by decide +kernel
theorem dX12_image_59 : decode cX12_image 59 = .ok (.iload_n 1, 1) := by decide +kernel
theorem dX12_image_60 : decode cX12_image 60 = .ok (.aaload, 1) := by decide +kernel
theorem dX12_image_61 : decode cX12_image 61 = .ok (.aload_n 0, 1) := by decide +kernel
theorem dX12_image_62 : decode cX12_image 62 = .ok (.getfield 44, 3) := by decide +kernel
theorem dX12_image_65 : decode cX12_image 65 = .ok (.invokevirtual 125, 3) := by decide +kernel
theorem dX12_image_68 : decode cX12_image 68 = .ok (.aload_n 0, 1) := by decide +kernel
theorem dX12_image_69 : decode cX12_image 69 = .ok (.getfield 69, 3) := by decide +kernel
theorem dX12_image_72 : decode cX12_image 72 = .ok (.iload_n 1, 1) := by decide +kernel
theorem dX12_image_73 : decode cX12_image 73 = .ok (.aaload, 1) := by decide +kernel
theorem dX12_image_74 : decode cX12_image 74 = .ok (.aload_n 0, 1) := by decide +kernel
theorem dX12_image_75 : decode cX12_image 75 = .ok (.getfield 58, 3) := by decide +kernel
theorem dX12_image_78 : decode cX12_image 78 = .ok (.invokevirtual 356, 3) := by decide +kernel
theorem dX12_image_81 : decode cX12_image 81 = .ok (.iconst 1, 1) := by decide +kernel
theorem dX12_image_82 : decode cX12_image 82 = .ok (.ireturn, 1) := by decide +kernel
theorem bX12_image_0 {G : Gt} {d bc bs : Nat} {Q : QT} {l : Ls} {z : List Value} {h : Hp} (k : (tIld 1 (tIf (fun x => x < 0) (fun l z h => T G d bc bs mX12_image 9 l z h Q) (fun l z h => T G d bc bs mX12_image 4 l z h Q))) l z h) : T G d bc bs mX12_image 0 l z h Q := by
  refine R_iload_n dX12_image_0 rfl (fun l z h k => ?_) k
  exact R_if_lt dX12_image_1 (by decide) (fun _ _ _ k => k) (fun _ _ _ k => k) k
theorem bX12_image_4 {G : Gt} {d bc bs : Nat} {Q : QT} {l : Ls} {z : List Value} {h : Hp} (k : (tIld 1 (tPush (.int 2) (tIf2 (fun x y => x < y) (fun l z h => T G d bc bs mX12_image 11 l z h Q) (fun l z h => T G d bc bs mX12_image 9 l z h Q)))) l z h) : T G d bc bs mX12_image 4 l z h Q := by
  refine R_iload_n dX12_image_4 rfl (fun l z h k => ?_) k
  refine R_iconst dX12_image_5 (by decide) (fun l z h k => ?_) k
  exact R_icmp_lt dX12_image_6 (by decide) (fun _ _ _ k => k) (fun _ _ _ k => k) k
theorem bX12_image_9 {G : Gt} {d bc bs : Nat} {Q : QT} {l : Ls} {z : List Value} {h : Hp} (k : (tPush (.int 0) (tRetZ Q)) l z h) : T G d bc bs mX12_image 9 l z h Q := by
  refine R_iconst dX12_image_9 (by decide) (fun l z h k => ?_) k
  exact R_zret dX12_image_10 rfl k
theorem bX12_image_11 {G : Gt} {d bc bs : Nat} {Q : QT} {l : Ls} {z : List Value} {h : Hp} (k : (tAld 0 (tGetf 10 8 (tIld 1 (tRald (tNul (fun l z h => T G d bc bs mX12_image 29 l z h Q) (fun l z h => T G d bc bs mX12_image 20 l z h Q)))))) l z h) : T G d bc bs mX12_image 11 l z h Q := by
  refine R_aload_n dX12_image_11 rfl (fun l z h k => ?_) k
  refine R_getf (ci := 10) (f := 8) (C := RX12) (N := 16) (Tt := TX12) dX12_image_12 rfl i_X12 (by decide) w_493 (fun l z h k => ?_) k
  refine R_iload_n dX12_image_15 rfl (fun l z h k => ?_) k
  refine R_aaload dX12_image_16 (fun l z h k => ?_) k
  exact R_ifnull dX12_image_17 (by decide) (fun _ _ _ k => k) (fun _ _ _ k => k) k
theorem bX12_image_20 {G : Gt} {d bc bs : Nat} {Q : QT} {l : Ls} {z : List Value} {h : Hp} (k : (tAld 0 (tGetf 10 9 (tIld 1 (tRald (tNul (fun l z h => T G d bc bs mX12_image 29 l z h Q) (fun l z h => T G d bc bs mX12_image 55 l z h Q)))))) l z h) : T G d bc bs mX12_image 20 l z h Q := by
  refine R_aload_n dX12_image_20 rfl (fun l z h k => ?_) k
  refine R_getf (ci := 10) (f := 9) (C := RX12) (N := 16) (Tt := TX12) dX12_image_21 rfl i_X12 (by decide) w_494 (fun l z h k => ?_) k
  refine R_iload_n dX12_image_24 rfl (fun l z h k => ?_) k
  refine R_aaload dX12_image_25 (fun l z h k => ?_) k
  exact R_ifnonnull dX12_image_26 (by decide) (fun _ _ _ k => k) (fun _ _ _ k => k) k
theorem bX12_image_29 {G : Gt} {d bc bs : Nat} {Q : QT} {l : Ls} {z : List Value} {h : Hp} (k : (tAld 0 (tGetf 10 8 (tIld 1 (tNew 9 [.int 0, .int 0, .int 0, .null, .null, .null, .null, .null, .null, .null, .null, .null, .null, .null] (tDup (tCI0 G d 11 126 mX11_init (fun l z h => T G d bc bs mX12_image 41 l z h Q))))))) l z h) : T G d (bc + 11 + 1) (bs + 126 + 14) mX12_image 29 l z h Q := by
  refine R_aload_n dX12_image_29 rfl (fun l z h k => ?_) k
  refine R_getf (ci := 10) (f := 8) (C := RX12) (N := 16) (Tt := TX12) dX12_image_30 rfl i_X12 (by decide) w_493 (fun l z h k => ?_) k
  refine R_iload_n dX12_image_33 rfl (fun l z h k => ?_) k
  refine R_new (ci := 9) (C := RX11) (N := 14) (Tt := TX11) (fs := [.int 0, .int 0, .int 0, .null, .null, .null, .null, .null, .null, .null, .null, .null, .null, .null]) tyX11 tyX11_ok dX12_image_34 rfl i_X11 w_364 w_243 w_136 rfl (fun j hj => by rcases (show j = 0 ∨ j = 1 ∨ j = 2 ∨ j = 3 ∨ j = 4 ∨ j = 5 ∨ j = 6 ∨ j = 7 ∨ j = 8 ∨ j = 9 ∨ j = 10 ∨ j = 11 ∨ j = 12 ∨ j = 13 by omega) with rfl | rfl | rfl | rfl | rfl | rfl | rfl | rfl | rfl | rfl | rfl | rfl | rfl | rfl <;> rfl) (fun l z h k => ?_) k
  refine R_dup dX12_image_37 (fun l z h k => ?_) k
  exact R_ciN0 (M := mX12_image) (pc := 38) (bc := bc) (bs := bs) (cb := 11) (cs := 126) (M' := mX11_init) dX12_image_38 (by decide) rfl w_246 w_136 n_365 w_245 rfl (by decide +kernel) (fun _ _ _ k => k) k
theorem bX12_image_41 {G : Gt} {d bc bs : Nat} {Q : QT} {l : Ls} {z : List Value} {h : Hp} (k : (tRast 1 (pObj 9) (tAld 0 (tGetf 10 9 (tIld 1 (tNew 6 [.int 0, .int 0, .null, .null, .null, .null, .int 0] (tDup (tCI0 G d 4 160 mX7_init (fun l z h => T G d bc bs mX12_image 54 l z h Q)))))))) l z h) : T G d (bc + 4 + 1) (bs + 160 + 7) mX12_image 41 l z h Q := by
  refine R_aastore (C := "BridgeToll$World") dX12_image_41 (by decide) rfl (pObj_ok (ci := 9) (r := (RX11, TX11, 14)) rfl) (fun l z h k => ?_) k
  refine R_aload_n dX12_image_42 rfl (fun l z h k => ?_) k
  refine R_getf (ci := 10) (f := 9) (C := RX12) (N := 16) (Tt := TX12) dX12_image_43 rfl i_X12 (by decide) w_494 (fun l z h k => ?_) k
  refine R_iload_n dX12_image_46 rfl (fun l z h k => ?_) k
  refine R_new (ci := 6) (C := RX7) (N := 7) (Tt := TX7) (fs := [.int 0, .int 0, .null, .null, .null, .null, .int 0]) tyX7 tyX7_ok dX12_image_47 rfl i_X7 w_385 w_386 w_140 rfl (fun j hj => by rcases (show j = 0 ∨ j = 1 ∨ j = 2 ∨ j = 3 ∨ j = 4 ∨ j = 5 ∨ j = 6 by omega) with rfl | rfl | rfl | rfl | rfl | rfl | rfl <;> rfl) (fun l z h k => ?_) k
  refine R_dup dX12_image_50 (fun l z h k => ?_) k
  exact R_ci0 (M := mX12_image) (pc := 51) (bc := bc) (bs := bs) (cb := 4) (cs := 160) (M' := mX7_init) dX12_image_51 (by decide) rfl w_389 w_140 w_387 w_388 rfl (by decide +kernel) (fun _ _ _ k => k) k
theorem bX12_image_54 {G : Gt} {d bc bs : Nat} {Q : QT} {l : Ls} {z : List Value} {h : Hp} (k : (tRast 2 (pObj 6) ((fun l z h => T G d bc bs mX12_image 55 l z h Q))) l z h) : T G d bc bs mX12_image 54 l z h Q := by
  refine R_aastore (C := "BridgeToll$Sentence") dX12_image_54 (by decide) rfl (pObj_ok (ci := 6) (r := (RX7, TX7, 7)) rfl) (fun l z h k => ?_) k
  exact k
theorem bX12_image_55 {G : Gt} {d bc bs : Nat} {Q : QT} {l : Ls} {z : List Value} {h : Hp} (k : (tAld 0 (tGetf 10 8 (tIld 1 (tRald (tAld 0 (tGetf 10 4 (tCV1 G d 0 0 9 mX11_copyFrom (fun l z h => T G d bc bs mX12_image 68 l z h Q)))))))) l z h) : T G d bc bs mX12_image 55 l z h Q := by
  refine R_aload_n dX12_image_55 rfl (fun l z h k => ?_) k
  refine R_getf (ci := 10) (f := 8) (C := RX12) (N := 16) (Tt := TX12) dX12_image_56 rfl i_X12 (by decide) w_493 (fun l z h k => ?_) k
  refine R_iload_n dX12_image_59 rfl (fun l z h k => ?_) k
  refine R_aaload dX12_image_60 (fun l z h k => ?_) k
  refine R_aload_n dX12_image_61 rfl (fun l z h k => ?_) k
  refine R_getf (ci := 10) (f := 4) (C := RX12) (N := 16) (Tt := TX12) dX12_image_62 rfl i_X12 (by decide) w_489 (fun l z h k => ?_) k
  exact R_cv1 (M := mX12_image) (pc := 65) (bc := bc) (bs := bs) (cb := 0) (cs := 0) (M' := mX11_copyFrom) dX12_image_65 rfl (by decide) w_787 w_136 w_784 w_785 w_786 (by decide +kernel) (fun _ _ _ k => k) k
theorem bX12_image_68 {G : Gt} {d bc bs : Nat} {Q : QT} {l : Ls} {z : List Value} {h : Hp} (k : (tAld 0 (tGetf 10 9 (tIld 1 (tRald (tAld 0 (tGetf 10 6 (tCV1 G d 0 0 6 mX7_copyFrom (fun l z h => T G d bc bs mX12_image 81 l z h Q)))))))) l z h) : T G d bc bs mX12_image 68 l z h Q := by
  refine R_aload_n dX12_image_68 rfl (fun l z h k => ?_) k
  refine R_getf (ci := 10) (f := 9) (C := RX12) (N := 16) (Tt := TX12) dX12_image_69 rfl i_X12 (by decide) w_494 (fun l z h k => ?_) k
  refine R_iload_n dX12_image_72 rfl (fun l z h k => ?_) k
  refine R_aaload dX12_image_73 (fun l z h k => ?_) k
  refine R_aload_n dX12_image_74 rfl (fun l z h k => ?_) k
  refine R_getf (ci := 10) (f := 6) (C := RX12) (N := 16) (Tt := TX12) dX12_image_75 rfl i_X12 (by decide) w_491 (fun l z h k => ?_) k
  exact R_cv1 (M := mX12_image) (pc := 78) (bc := bc) (bs := bs) (cb := 0) (cs := 0) (M' := mX7_copyFrom) dX12_image_78 rfl (by decide) w_1342 w_140 w_1339 w_1340 w_1341 (by decide +kernel) (fun _ _ _ k => k) k
theorem bX12_image_81 {G : Gt} {d bc bs : Nat} {Q : QT} {l : Ls} {z : List Value} {h : Hp} (k : (tPush (.int 1) (tRetZ Q)) l z h) : T G d bc bs mX12_image 81 l z h Q := by
  refine R_iconst dX12_image_81 (by decide) (fun l z h k => ?_) k
  exact R_zret dX12_image_82 rfl k
theorem dX12_restore_0 : decode cX12_restore 0 = .ok (.iload_n 1, 1) := by decide +kernel
theorem dX12_restore_1 : decode cX12_restore 1 = .ok (.ifCond .lt 26, 3) := by decide +kernel
theorem dX12_restore_4 : decode cX12_restore 4 = .ok (.iload_n 1, 1) := by decide +kernel
theorem dX12_restore_5 : decode cX12_restore 5 = .ok (.iconst 2, 1) := by decide +kernel
theorem dX12_restore_6 : decode cX12_restore 6 = .ok (.if_icmp .ge 21, 3) := by decide +kernel
theorem dX12_restore_9 : decode cX12_restore 9 = .ok (.aload_n 0, 1) := by decide +kernel
theorem dX12_restore_10 : decode cX12_restore 10 = .ok (.getfield 65, 3) := by decide +kernel
theorem dX12_restore_13 : decode cX12_restore 13 = .ok (.iload_n 1, 1) := by decide +kernel
theorem dX12_restore_14 : decode cX12_restore 14 = .ok (.aaload, 1) := by decide +kernel
theorem dX12_restore_15 : decode cX12_restore 15 = .ok (.ifnull 12, 3) := by decide +kernel
theorem dX12_restore_18 : decode cX12_restore 18 = .ok (.aload_n 0, 1) := by decide +kernel
theorem dX12_restore_19 : decode cX12_restore 19 = .ok (.getfield 69, 3) := by decide +kernel
theorem dX12_restore_22 : decode cX12_restore 22 = .ok (.iload_n 1, 1) := by decide +kernel
theorem dX12_restore_23 : decode cX12_restore 23 = .ok (.aaload, 1) := by decide +kernel
theorem dX12_restore_24 : decode cX12_restore 24 = .ok (.ifnonnull 5, 3) := by decide +kernel
theorem dX12_restore_27 : decode cX12_restore 27 = .ok (.iconst 0, 1) := by decide +kernel
theorem dX12_restore_28 : decode cX12_restore 28 = .ok (.ireturn, 1) := by decide +kernel
theorem dX12_restore_29 : decode cX12_restore 29 = .ok (.aload_n 0, 1) := by decide +kernel
theorem dX12_restore_30 : decode cX12_restore 30 = .ok (.getfield 44, 3) := by decide +kernel
theorem dX12_restore_33 : decode cX12_restore 33 = .ok (.aload_n 0, 1) := by decide +kernel
theorem dX12_restore_34 : decode cX12_restore 34 = .ok (.getfield 65, 3) := by decide +kernel
theorem dX12_restore_37 : decode cX12_restore 37 = .ok (.iload_n 1, 1) := by decide +kernel
theorem dX12_restore_38 : decode cX12_restore 38 = .ok (.aaload, 1) := by decide +kernel
theorem dX12_restore_39 : decode cX12_restore 39 = .ok (.invokevirtual 125, 3) := by decide +kernel
theorem dX12_restore_42 : decode cX12_restore 42 = .ok (.aload_n 0, 1) := by decide +kernel
theorem dX12_restore_43 : decode cX12_restore 43 = .ok (.getfield 58, 3) := by decide +kernel
theorem dX12_restore_46 : decode cX12_restore 46 = .ok (.aload_n 0, 1) := by decide +kernel
theorem dX12_restore_47 : decode cX12_restore 47 = .ok (.getfield 69, 3) := by decide +kernel
theorem dX12_restore_50 : decode cX12_restore 50 = .ok (.iload_n 1, 1) := by decide +kernel
theorem dX12_restore_51 : decode cX12_restore 51 = .ok (.aaload, 1) := by decide +kernel
theorem dX12_restore_52 : decode cX12_restore 52 = .ok (.invokevirtual 356, 3) := by decide +kernel
theorem dX12_restore_55 : decode cX12_restore 55 = .ok (.aload_n 0, 1) := by decide +kernel
theorem dX12_restore_56 : decode cX12_restore 56 = .ok (.getfield 51, 3) := by decide +kernel
theorem dX12_restore_59 : decode cX12_restore 59 = .ok (.invokevirtual 132, 3) := by decide +kernel
theorem dX12_restore_62 : decode cX12_restore 62 = .ok (.iconst 1, 1) := by decide +kernel
theorem dX12_restore_63 : decode cX12_restore 63 = .ok (.ireturn, 1) := by decide +kernel
theorem bX12_restore_0 {G : Gt} {d bc bs : Nat} {Q : QT} {l : Ls} {z : List Value} {h : Hp} (k : (tIld 1 (tIf (fun x => x < 0) (fun l z h => T G d bc bs mX12_restore 27 l z h Q) (fun l z h => T G d bc bs mX12_restore 4 l z h Q))) l z h) : T G d bc bs mX12_restore 0 l z h Q := by
  refine R_iload_n dX12_restore_0 rfl (fun l z h k => ?_) k
  exact R_if_lt dX12_restore_1 (by decide) (fun _ _ _ k => k) (fun _ _ _ k => k) k
theorem bX12_restore_4 {G : Gt} {d bc bs : Nat} {Q : QT} {l : Ls} {z : List Value} {h : Hp} (k : (tIld 1 (tPush (.int 2) (tIf2 (fun x y => y ≤ x) (fun l z h => T G d bc bs mX12_restore 27 l z h Q) (fun l z h => T G d bc bs mX12_restore 9 l z h Q)))) l z h) : T G d bc bs mX12_restore 4 l z h Q := by
  refine R_iload_n dX12_restore_4 rfl (fun l z h k => ?_) k
  refine R_iconst dX12_restore_5 (by decide) (fun l z h k => ?_) k
  exact R_icmp_ge dX12_restore_6 (by decide) (fun _ _ _ k => k) (fun _ _ _ k => k) k
theorem bX12_restore_9 {G : Gt} {d bc bs : Nat} {Q : QT} {l : Ls} {z : List Value} {h : Hp} (k : (tAld 0 (tGetf 10 8 (tIld 1 (tRald (tNul (fun l z h => T G d bc bs mX12_restore 27 l z h Q) (fun l z h => T G d bc bs mX12_restore 18 l z h Q)))))) l z h) : T G d bc bs mX12_restore 9 l z h Q := by
  refine R_aload_n dX12_restore_9 rfl (fun l z h k => ?_) k
  refine R_getf (ci := 10) (f := 8) (C := RX12) (N := 16) (Tt := TX12) dX12_restore_10 rfl i_X12 (by decide) w_493 (fun l z h k => ?_) k
  refine R_iload_n dX12_restore_13 rfl (fun l z h k => ?_) k
  refine R_aaload dX12_restore_14 (fun l z h k => ?_) k
  exact R_ifnull dX12_restore_15 (by decide) (fun _ _ _ k => k) (fun _ _ _ k => k) k
theorem bX12_restore_18 {G : Gt} {d bc bs : Nat} {Q : QT} {l : Ls} {z : List Value} {h : Hp} (k : (tAld 0 (tGetf 10 9 (tIld 1 (tRald (tNul (fun l z h => T G d bc bs mX12_restore 27 l z h Q) (fun l z h => T G d bc bs mX12_restore 29 l z h Q)))))) l z h) : T G d bc bs mX12_restore 18 l z h Q := by
  refine R_aload_n dX12_restore_18 rfl (fun l z h k => ?_) k
  refine R_getf (ci := 10) (f := 9) (C := RX12) (N := 16) (Tt := TX12) dX12_restore_19 rfl i_X12 (by decide) w_494 (fun l z h k => ?_) k
  refine R_iload_n dX12_restore_22 rfl (fun l z h k => ?_) k
  refine R_aaload dX12_restore_23 (fun l z h k => ?_) k
  exact R_ifnonnull dX12_restore_24 (by decide) (fun _ _ _ k => k) (fun _ _ _ k => k) k
theorem bX12_restore_27 {G : Gt} {d bc bs : Nat} {Q : QT} {l : Ls} {z : List Value} {h : Hp} (k : (tPush (.int 0) (tRetZ Q)) l z h) : T G d bc bs mX12_restore 27 l z h Q := by
  refine R_iconst dX12_restore_27 (by decide) (fun l z h k => ?_) k
  exact R_zret dX12_restore_28 rfl k
theorem bX12_restore_29 {G : Gt} {d bc bs : Nat} {Q : QT} {l : Ls} {z : List Value} {h : Hp} (k : (tAld 0 (tGetf 10 4 (tAld 0 (tGetf 10 8 (tIld 1 (tRald (tCV1 G d 0 0 9 mX11_copyFrom (fun l z h => T G d bc bs mX12_restore 42 l z h Q)))))))) l z h) : T G d bc bs mX12_restore 29 l z h Q := by
  refine R_aload_n dX12_restore_29 rfl (fun l z h k => ?_) k
  refine R_getf (ci := 10) (f := 4) (C := RX12) (N := 16) (Tt := TX12) dX12_restore_30 rfl i_X12 (by decide) w_489 (fun l z h k => ?_) k
  refine R_aload_n dX12_restore_33 rfl (fun l z h k => ?_) k
  refine R_getf (ci := 10) (f := 8) (C := RX12) (N := 16) (Tt := TX12) dX12_restore_34 rfl i_X12 (by decide) w_493 (fun l z h k => ?_) k
  refine R_iload_n dX12_restore_37 rfl (fun l z h k => ?_) k
  refine R_aaload dX12_restore_38 (fun l z h k => ?_) k
  exact R_cv1 (M := mX12_restore) (pc := 39) (bc := bc) (bs := bs) (cb := 0) (cs := 0) (M' := mX11_copyFrom) dX12_restore_39 rfl (by decide) w_787 w_136 w_784 w_785 w_786 (by decide +kernel) (fun _ _ _ k => k) k
theorem bX12_restore_42 {G : Gt} {d bc bs : Nat} {Q : QT} {l : Ls} {z : List Value} {h : Hp} (k : (tAld 0 (tGetf 10 6 (tAld 0 (tGetf 10 9 (tIld 1 (tRald (tCV1 G d 0 0 6 mX7_copyFrom (fun l z h => T G d bc bs mX12_restore 55 l z h Q)))))))) l z h) : T G d bc bs mX12_restore 42 l z h Q := by
  refine R_aload_n dX12_restore_42 rfl (fun l z h k => ?_) k
  refine R_getf (ci := 10) (f := 6) (C := RX12) (N := 16) (Tt := TX12) dX12_restore_43 rfl i_X12 (by decide) w_491 (fun l z h k => ?_) k
  refine R_aload_n dX12_restore_46 rfl (fun l z h k => ?_) k
  refine R_getf (ci := 10) (f := 9) (C := RX12) (N := 16) (Tt := TX12) dX12_restore_47 rfl i_X12 (by decide) w_494 (fun l z h k => ?_) k
  refine R_iload_n dX12_restore_50 rfl (fun l z h k => ?_) k
  refine R_aaload dX12_restore_51 (fun l z h k => ?_) k
  exact R_cv1 (M := mX12_restore) (pc := 52) (bc := bc) (bs := bs) (cb := 0) (cs := 0) (M' := mX7_copyFrom) dX12_restore_52 rfl (by decide) w_1342 w_140 w_1339 w_1340 w_1341 (by decide +kernel) (fun _ _ _ k => k) k
theorem bX12_restore_55 {G : Gt} {d bc bs : Nat} {Q : QT} {l : Ls} {z : List Value} {h : Hp} (k : (tAld 0 (tGetf 10 5 (tCV0 G d 0 0 5 mX6_forget (fun l z h => T G d bc bs mX12_restore 62 l z h Q)))) l z h) : T G d bc bs mX12_restore 55 l z h Q := by
  refine R_aload_n dX12_restore_55 rfl (fun l z h k => ?_) k
  refine R_getf (ci := 10) (f := 5) (C := RX12) (N := 16) (Tt := TX12) dX12_restore_56 rfl i_X12 (by decide) w_490 (fun l z h k => ?_) k
  exact R_cv0 (M := mX12_restore) (pc := 59) (bc := bc) (bs := bs) (cb := 0) (cs := 0) (M' := mX6_forget) dX12_restore_59 rfl (by decide) w_798 w_139 w_795 w_796 w_797 (by decide +kernel) (fun _ _ _ k => k) k
theorem bX12_restore_62 {G : Gt} {d bc bs : Nat} {Q : QT} {l : Ls} {z : List Value} {h : Hp} (k : (tPush (.int 1) (tRetZ Q)) l z h) : T G d bc bs mX12_restore 62 l z h Q := by
  refine R_iconst dX12_restore_62 (by decide) (fun l z h k => ?_) k
  exact R_zret dX12_restore_63 rfl k
theorem dX12_isEnd_0 : decode cX12_isEnd 0 = .ok (.iload_n 0, 1) := by decide +kernel
theorem dX12_isEnd_1 : decode cX12_isEnd 1 = .ok (.ifCond .lt 12, 3) := by decide +kernel
theorem dX12_isEnd_4 : decode cX12_isEnd 4 = .ok (.iload_n 0, 1) := by decide +kernel
theorem dX12_isEnd_5 : decode cX12_isEnd 5 = .ok (.iconst 2, 1) := by decide +kernel
theorem dX12_isEnd_6 : decode cX12_isEnd 6 = .ok (.if_icmp .ge 7, 3) := by decide +kernel
theorem dX12_isEnd_9 : decode cX12_isEnd 9 = .ok (.iconst 1, 1) := by decide +kernel
theorem dX12_isEnd_10 : decode cX12_isEnd 10 = .ok (.goto 4, 3) := by decide +kernel
theorem dX12_isEnd_13 : decode cX12_isEnd 13 = .ok (.iconst 0, 1) := by decide +kernel
theorem dX12_isEnd_14 : decode cX12_isEnd 14 = .ok (.ireturn, 1) := by decide +kernel
theorem bX12_isEnd_0 {G : Gt} {d bc bs : Nat} {Q : QT} {l : Ls} {z : List Value} {h : Hp} (k : (tIld 0 (tIf (fun x => x < 0) (fun l z h => T G d bc bs mX12_isEnd 13 l z h Q) (fun l z h => T G d bc bs mX12_isEnd 4 l z h Q))) l z h) : T G d bc bs mX12_isEnd 0 l z h Q := by
  refine R_iload_n dX12_isEnd_0 rfl (fun l z h k => ?_) k
  exact R_if_lt dX12_isEnd_1 (by decide) (fun _ _ _ k => k) (fun _ _ _ k => k) k
theorem bX12_isEnd_4 {G : Gt} {d bc bs : Nat} {Q : QT} {l : Ls} {z : List Value} {h : Hp} (k : (tIld 0 (tPush (.int 2) (tIf2 (fun x y => y ≤ x) (fun l z h => T G d bc bs mX12_isEnd 13 l z h Q) (fun l z h => T G d bc bs mX12_isEnd 9 l z h Q)))) l z h) : T G d bc bs mX12_isEnd 4 l z h Q := by
  refine R_iload_n dX12_isEnd_4 rfl (fun l z h k => ?_) k
  refine R_iconst dX12_isEnd_5 (by decide) (fun l z h k => ?_) k
  exact R_icmp_ge dX12_isEnd_6 (by decide) (fun _ _ _ k => k) (fun _ _ _ k => k) k
theorem bX12_isEnd_9 {G : Gt} {d bc bs : Nat} {Q : QT} {l : Ls} {z : List Value} {h : Hp} (k : (tPush (.int 1) ((fun l z h => T G d bc bs mX12_isEnd 14 l z h Q))) l z h) : T G d bc bs mX12_isEnd 9 l z h Q := by
  refine R_iconst dX12_isEnd_9 (by decide) (fun l z h k => ?_) k
  exact R_goto dX12_isEnd_10 (by decide) (fun _ _ _ k => k) k
theorem bX12_isEnd_13 {G : Gt} {d bc bs : Nat} {Q : QT} {l : Ls} {z : List Value} {h : Hp} (k : (tPush (.int 0) ((fun l z h => T G d bc bs mX12_isEnd 14 l z h Q))) l z h) : T G d bc bs mX12_isEnd 13 l z h Q := by
  refine R_iconst dX12_isEnd_13 (by decide) (fun l z h k => ?_) k
  exact k
theorem bX12_isEnd_14 {G : Gt} {d bc bs : Nat} {Q : QT} {l : Ls} {z : List Value} {h : Hp} (k : (tRetZ Q) l z h) : T G d bc bs mX12_isEnd 14 l z h Q := by
  exact R_zret dX12_isEnd_14 rfl k
theorem dX12_isSpan_0 : decode cX12_isSpan 0 = .ok (.iload_n 0, 1) := by decide +kernel
theorem dX12_isSpan_1 : decode cX12_isSpan 1 = .ok (.iconst 1, 1) := by decide +kernel
theorem dX12_isSpan_2 : decode cX12_isSpan 2 = .ok (.if_icmp .lt 13, 3) := by decide +kernel
theorem dX12_isSpan_5 : decode cX12_isSpan 5 = .ok (.iload_n 0, 1) := by decide +kernel
theorem dX12_isSpan_6 : decode cX12_isSpan 6 = .ok (.bipush 60, 2) := by decide +kernel
theorem dX12_isSpan_8 : decode cX12_isSpan 8 = .ok (.if_icmp .gt 7, 3) := by decide +kernel
theorem dX12_isSpan_11 : decode cX12_isSpan 11 = .ok (.iconst 1, 1) := by decide +kernel
theorem dX12_isSpan_12 : decode cX12_isSpan 12 = .ok (.goto 4, 3) := by decide +kernel
theorem dX12_isSpan_15 : decode cX12_isSpan 15 = .ok (.iconst 0, 1) := by decide +kernel
theorem dX12_isSpan_16 : decode cX12_isSpan 16 = .ok (.ireturn, 1) := by decide +kernel
theorem bX12_isSpan_0 {G : Gt} {d bc bs : Nat} {Q : QT} {l : Ls} {z : List Value} {h : Hp} (k : (tIld 0 (tPush (.int 1) (tIf2 (fun x y => x < y) (fun l z h => T G d bc bs mX12_isSpan 15 l z h Q) (fun l z h => T G d bc bs mX12_isSpan 5 l z h Q)))) l z h) : T G d bc bs mX12_isSpan 0 l z h Q := by
  refine R_iload_n dX12_isSpan_0 rfl (fun l z h k => ?_) k
  refine R_iconst dX12_isSpan_1 (by decide) (fun l z h k => ?_) k
  exact R_icmp_lt dX12_isSpan_2 (by decide) (fun _ _ _ k => k) (fun _ _ _ k => k) k
theorem bX12_isSpan_5 {G : Gt} {d bc bs : Nat} {Q : QT} {l : Ls} {z : List Value} {h : Hp} (k : (tIld 0 (tPush (.int 60) (tIf2 (fun x y => y < x) (fun l z h => T G d bc bs mX12_isSpan 15 l z h Q) (fun l z h => T G d bc bs mX12_isSpan 11 l z h Q)))) l z h) : T G d bc bs mX12_isSpan 5 l z h Q := by
  refine R_iload_n dX12_isSpan_5 rfl (fun l z h k => ?_) k
  refine R_bipush dX12_isSpan_6 (by decide) (fun l z h k => ?_) k
  exact R_icmp_gt dX12_isSpan_8 (by decide) (fun _ _ _ k => k) (fun _ _ _ k => k) k
theorem bX12_isSpan_11 {G : Gt} {d bc bs : Nat} {Q : QT} {l : Ls} {z : List Value} {h : Hp} (k : (tPush (.int 1) ((fun l z h => T G d bc bs mX12_isSpan 16 l z h Q))) l z h) : T G d bc bs mX12_isSpan 11 l z h Q := by
  refine R_iconst dX12_isSpan_11 (by decide) (fun l z h k => ?_) k
  exact R_goto dX12_isSpan_12 (by decide) (fun _ _ _ k => k) k
theorem bX12_isSpan_15 {G : Gt} {d bc bs : Nat} {Q : QT} {l : Ls} {z : List Value} {h : Hp} (k : (tPush (.int 0) ((fun l z h => T G d bc bs mX12_isSpan 16 l z h Q))) l z h) : T G d bc bs mX12_isSpan 15 l z h Q := by
  refine R_iconst dX12_isSpan_15 (by decide) (fun l z h k => ?_) k
  exact k
theorem bX12_isSpan_16 {G : Gt} {d bc bs : Nat} {Q : QT} {l : Ls} {z : List Value} {h : Hp} (k : (tRetZ Q) l z h) : T G d bc bs mX12_isSpan 16 l z h Q := by
  exact R_zret dX12_isSpan_16 rfl k
theorem dX12_endAt_0 : decode cX12_endAt 0 = .ok (.iload_n 0, 1) := by decide +kernel
theorem dX12_endAt_1 : decode cX12_endAt 1 = .ok (.iconst 2, 1) := by decide +kernel
theorem dX12_endAt_2 : decode cX12_endAt 2 = .ok (.if_icmp .ne 7, 3) := by decide +kernel
theorem dX12_endAt_5 : decode cX12_endAt 5 = .ok (.iconst 1, 1) := by decide +kernel
theorem dX12_endAt_6 : decode cX12_endAt 6 = .ok (.goto 4, 3) := by decide +kernel
theorem dX12_endAt_9 : decode cX12_endAt 9 = .ok (.iconst 0, 1) := by decide +kernel
theorem dX12_endAt_10 : decode cX12_endAt 10 = .ok (.ireturn, 1) := by decide +kernel
theorem bX12_endAt_0 {G : Gt} {d bc bs : Nat} {Q : QT} {l : Ls} {z : List Value} {h : Hp} (k : (tIld 0 (tPush (.int 2) (tIf2 (fun x y => x = y) (fun l z h => T G d bc bs mX12_endAt 5 l z h Q) (fun l z h => T G d bc bs mX12_endAt 9 l z h Q)))) l z h) : T G d bc bs mX12_endAt 0 l z h Q := by
  refine R_iload_n dX12_endAt_0 rfl (fun l z h k => ?_) k
  refine R_iconst dX12_endAt_1 (by decide) (fun l z h k => ?_) k
  exact R_icmp_ne dX12_endAt_2 (by decide) (fun _ _ _ k => k) (fun _ _ _ k => k) k
theorem bX12_endAt_5 {G : Gt} {d bc bs : Nat} {Q : QT} {l : Ls} {z : List Value} {h : Hp} (k : (tPush (.int 1) ((fun l z h => T G d bc bs mX12_endAt 10 l z h Q))) l z h) : T G d bc bs mX12_endAt 5 l z h Q := by
  refine R_iconst dX12_endAt_5 (by decide) (fun l z h k => ?_) k
  exact R_goto dX12_endAt_6 (by decide) (fun _ _ _ k => k) k
theorem bX12_endAt_9 {G : Gt} {d bc bs : Nat} {Q : QT} {l : Ls} {z : List Value} {h : Hp} (k : (tPush (.int 0) ((fun l z h => T G d bc bs mX12_endAt 10 l z h Q))) l z h) : T G d bc bs mX12_endAt 9 l z h Q := by
  refine R_iconst dX12_endAt_9 (by decide) (fun l z h k => ?_) k
  exact k
theorem bX12_endAt_10 {G : Gt} {d bc bs : Nat} {Q : QT} {l : Ls} {z : List Value} {h : Hp} (k : (tRetI Q) l z h) : T G d bc bs mX12_endAt 10 l z h Q := by
  exact R_iret dX12_endAt_10 rfl k
theorem dX12_placeOf_0 : decode cX12_placeOf 0 = .ok (.iload_n 0, 1) := by decide +kernel
theorem dX12_placeOf_1 : decode cX12_placeOf 1 = .ok (.iconst 1, 1) := by decide +kernel
theorem dX12_placeOf_2 : decode cX12_placeOf 2 = .ok (.if_icmp .ne 7, 3) := by decide +kernel
theorem dX12_placeOf_5 : decode cX12_placeOf 5 = .ok (.iconst 2, 1) := by decide +kernel
theorem dX12_placeOf_6 : decode cX12_placeOf 6 = .ok (.goto 4, 3) := by decide +kernel
theorem dX12_placeOf_9 : decode cX12_placeOf 9 = .ok (.iconst 0, 1) := by decide +kernel
theorem dX12_placeOf_10 : decode cX12_placeOf 10 = .ok (.ireturn, 1) := by decide +kernel
theorem bX12_placeOf_0 {G : Gt} {d bc bs : Nat} {Q : QT} {l : Ls} {z : List Value} {h : Hp} (k : (tIld 0 (tPush (.int 1) (tIf2 (fun x y => x = y) (fun l z h => T G d bc bs mX12_placeOf 5 l z h Q) (fun l z h => T G d bc bs mX12_placeOf 9 l z h Q)))) l z h) : T G d bc bs mX12_placeOf 0 l z h Q := by
  refine R_iload_n dX12_placeOf_0 rfl (fun l z h k => ?_) k
  refine R_iconst dX12_placeOf_1 (by decide) (fun l z h k => ?_) k
  exact R_icmp_ne dX12_placeOf_2 (by decide) (fun _ _ _ k => k) (fun _ _ _ k => k) k
theorem bX12_placeOf_5 {G : Gt} {d bc bs : Nat} {Q : QT} {l : Ls} {z : List Value} {h : Hp} (k : (tPush (.int 2) ((fun l z h => T G d bc bs mX12_placeOf 10 l z h Q))) l z h) : T G d bc bs mX12_placeOf 5 l z h Q := by
  refine R_iconst dX12_placeOf_5 (by decide) (fun l z h k => ?_) k
  exact R_goto dX12_placeOf_6 (by decide) (fun _ _ _ k => k) k
theorem bX12_placeOf_9 {G : Gt} {d bc bs : Nat} {Q : QT} {l : Ls} {z : List Value} {h : Hp} (k : (tPush (.int 0) ((fun l z h => T G d bc bs mX12_placeOf 10 l z h Q))) l z h) : T G d bc bs mX12_placeOf 9 l z h Q := by
  refine R_iconst dX12_placeOf_9 (by decide) (fun l z h k => ?_) k
  exact k
theorem bX12_placeOf_10 {G : Gt} {d bc bs : Nat} {Q : QT} {l : Ls} {z : List Value} {h : Hp} (k : (tRetI Q) l z h) : T G d bc bs mX12_placeOf 10 l z h Q := by
  exact R_iret dX12_placeOf_10 rfl k
