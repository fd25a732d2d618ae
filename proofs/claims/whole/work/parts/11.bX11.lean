theorem dX11_init_0 : decode cX11_init 0 = .ok (.aload_n 0, 1) := by decide +kernel
theorem dX11_init_1 : decode cX11_init 1 = .ok (.invokespecial 3, 3) := by decide +kernel
theorem dX11_init_4 : decode cX11_init 4 = .ok (.aload_n 0, 1) := by decide +kernel
theorem dX11_init_5 : decode cX11_init 5 = .ok (.bipush 6, 2) := by decide +kernel
theorem dX11_init_7 : decode cX11_init 7 = .ok (.newarray .long, 2) := by decide +kernel
theorem dX11_init_9 : decode cX11_init 9 = .ok (.putfield 9, 3) := by decide +kernel
theorem dX11_init_12 : decode cX11_init 12 = .ok (.aload_n 0, 1) := by decide +kernel
theorem dX11_init_13 : decode cX11_init 13 = .ok (.bipush 8, 2) := by decide +kernel
theorem dX11_init_15 : decode cX11_init 15 = .ok (.newarray .long, 2) := by decide +kernel
theorem dX11_init_17 : decode cX11_init 17 = .ok (.putfield 15, 3) := by decide +kernel
theorem dX11_init_20 : decode cX11_init 20 = .ok (.aload_n 0, 1) := by decide +kernel
theorem dX11_init_21 : decode cX11_init 21 = .ok (.bipush 6, 2) := by decide +kernel
theorem dX11_init_23 : decode cX11_init 23 = .ok (.newarray .int, 2) := by decide +kernel
theorem dX11_init_25 : decode cX11_init 25 = .ok (.putfield 18, 3) := by decide +kernel
theorem dX11_init_28 : decode cX11_init 28 = .ok (.aload_n 0, 1) := by decide +kernel
theorem dX11_init_29 : decode cX11_init 29 = .ok (.bipush 6, 2) := by decide +kernel
theorem dX11_init_31 : decode cX11_init 31 = .ok (.newarray .int, 2) := by decide +kernel
theorem dX11_init_33 : decode cX11_init 33 = .ok (.putfield 22, 3) := by decide +kernel
theorem dX11_init_36 : decode cX11_init 36 = .ok (.aload_n 0, 1) := by decide +kernel
theorem dX11_init_37 : decode cX11_init 37 = .ok (.bipush 8, 2) := by decide +kernel
theorem dX11_init_39 : decode cX11_init 39 = .ok (.newarray .int, 2) := by decide +kernel
theorem dX11_init_41 : decode cX11_init 41 = .ok (.putfield 25, 3) := by decide +kernel
theorem dX11_init_44 : decode cX11_init 44 = .ok (.aload_n 0, 1) := by decide +kernel
theorem dX11_init_45 : decode cX11_init 45 = .ok (.bipush 8, 2) := by decide +kernel
theorem dX11_init_47 : decode cX11_init 47 = .ok (.newarray .int, 2) := by decide +kernel
theorem dX11_init_49 : decode cX11_init 49 = .ok (.putfield 28, 3) := by decide +kernel
theorem dX11_init_52 : decode cX11_init 52 = .ok (.aload_n 0, 1) := by decide +kernel
theorem dX11_init_53 : decode cX11_init 53 = .ok (.bipush 8, 2) := by decide +kernel
theorem dX11_init_55 : decode cX11_init 55 = .ok (.newarray .int, 2) := by decide +kernel
theorem dX11_init_57 : decode cX11_init 57 = .ok (.putfield 31, 3) := by decide +kernel
theorem dX11_init_60 : decode cX11_init 60 = .ok (.aload_n 0, 1) := by decide +kernel
theorem dX11_init_61 : decode cX11_init 61 = .ok (.bipush 8, 2) := by decide +kernel
theorem dX11_init_63 : decode cX11_init 63 = .ok (.newarray .int, 2) := by decide +kernel
theorem dX11_init_65 : decode cX11_init 65 = .ok (.putfield 34, 3) := by decide +kernel
theorem dX11_init_68 : decode cX11_init 68 = .ok (.aload_n 0, 1) := by decide +kernel
theorem dX11_init_69 : decode cX11_init 69 = .ok (.bipush 8, 2) := by decide +kernel
theorem dX11_init_71 : decode cX11_init 71 = .ok (.newarray .int, 2) := by decide +kernel
theorem dX11_init_73 : decode cX11_init 73 = .ok (.putfield 37, 3) := by decide +kernel
theorem dX11_init_76 : decode cX11_init 76 = .ok (.aload_n 0, 1) := by decide +kernel
theorem dX11_init_77 : decode cX11_init 77 = .ok (.bipush 48, 2) := by decide +kernel
theorem dX11_init_79 : decode cX11_init 79 = .ok (.newarray .int, 2) := by decide +kernel
theorem dX11_init_81 : decode cX11_init 81 = .ok (.putfield 40, 3) := by decide +kernel
theorem dX11_init_84 : decode cX11_init 84 = .ok (.aload_n 0, 1) := by decide +kernel
theorem dX11_init_85 : decode cX11_init 85 = .ok (.bipush 12, 2) := by decide +kernel
theorem dX11_init_87 : decode cX11_init 87 = .ok (.newarray .int, 2) := by decide +kernel
theorem dX11_init_89 : decode cX11_init 89 = .ok (.putfield 43, 3) := by decide +kernel
theorem dX11_init_92 : decode cX11_init 92 = .ok (.return_, 1) := by decide +kernel
theorem bX11_init_0 {G : Gt} {d bc bs : Nat} {Q : QT} {l : Ls} {z : List Value} {h : Hp} (hd1 : 1 ≤ d) (k : (tAld 0 (tObj ((fun l z h => T G d bc bs mX11_init 4 l z h Q)))) l z h) : T G d bc bs mX11_init 0 l z h Q := by
  refine R_aload_n dX11_init_0 rfl (fun l z h k => ?_) k
  refine R_obj dX11_init_1 hd1 w_247 w_163 w_164 (fun l z h k => ?_) k
  exact k
theorem bX11_init_4 {G : Gt} {d bc bs : Nat} {Q : QT} {l : Ls} {z : List Value} {h : Hp} (k : (tAld 0 (tPush (.int 6) (tNewJ 6 (tPutf isA 9 3 (tAld 0 (tPush (.int 8) (tNewJ 8 (tPutf isA 9 4 (tAld 0 (tPush (.int 6) (tNewI 0 6 (tPutf isA 9 5 (tAld 0 (tPush (.int 6) (tNewI 0 6 (tPutf isA 9 6 (tAld 0 (tPush (.int 8) (tNewI 0 8 (tPutf isA 9 7 (tAld 0 (tPush (.int 8) (tNewI 0 8 (tPutf isA 9 8 (tAld 0 (tPush (.int 8) (tNewI 0 8 (tPutf isA 9 9 (tAld 0 (tPush (.int 8) (tNewI 0 8 (tPutf isA 9 10 (tAld 0 (tPush (.int 8) (tNewI 0 8 (tPutf isA 9 11 (tAld 0 (tPush (.int 48) (tNewI 0 48 (tPutf isA 9 12 (tAld 0 (tPush (.int 12) (tNewI 0 12 (tPutf isA 9 13 (tRetV Q))))))))))))))))))))))))))))))))))))))))))))) l z h) : T G d (bc + 1 + 1 + 1 + 1 + 1 + 1 + 1 + 1 + 1 + 1 + 1) (bs + 12 + 48 + 8 + 8 + 8 + 8 + 8 + 6 + 6 + 8 + 6) mX11_init 4 l z h Q := by
  refine R_aload_n dX11_init_4 rfl (fun l z h k => ?_) k
  refine R_bipush dX11_init_5 (by decide) (fun l z h k => ?_) k
  refine R_newJ dX11_init_7 w_235 (by decide) (fun l z h k => ?_) k
  refine R_putF (ci := 9) (f := 3) (C := RX11) (N := 14) (Tt := TX11) tyX11 tyX11_ok nmX11 dX11_init_9 rfl i_X11 (by decide) w_263 rfl rfl rfl (tyX11_ok 3 (by decide)) (p_ref rfl) (fun l z h k => ?_) k
  refine R_aload_n dX11_init_12 rfl (fun l z h k => ?_) k
  refine R_bipush dX11_init_13 (by decide) (fun l z h k => ?_) k
  refine R_newJ dX11_init_15 w_235 (by decide) (fun l z h k => ?_) k
  refine R_putF (ci := 9) (f := 4) (C := RX11) (N := 14) (Tt := TX11) tyX11 tyX11_ok nmX11 dX11_init_17 rfl i_X11 (by decide) w_265 rfl rfl rfl (tyX11_ok 4 (by decide)) (p_ref rfl) (fun l z h k => ?_) k
  refine R_aload_n dX11_init_20 rfl (fun l z h k => ?_) k
  refine R_bipush dX11_init_21 (by decide) (fun l z h k => ?_) k
  refine R_newI (ty := .int) dX11_init_23 (by decide) rfl rfl (fun _ _ => rfl) rfl w_183 (by decide) (fun l z h k => ?_) k
  refine R_putF (ci := 9) (f := 5) (C := RX11) (N := 14) (Tt := TX11) tyX11 tyX11_ok nmX11 dX11_init_25 rfl i_X11 (by decide) w_267 rfl rfl rfl (tyX11_ok 5 (by decide)) (p_ref rfl) (fun l z h k => ?_) k
  refine R_aload_n dX11_init_28 rfl (fun l z h k => ?_) k
  refine R_bipush dX11_init_29 (by decide) (fun l z h k => ?_) k
  refine R_newI (ty := .int) dX11_init_31 (by decide) rfl rfl (fun _ _ => rfl) rfl w_183 (by decide) (fun l z h k => ?_) k
  refine R_putF (ci := 9) (f := 6) (C := RX11) (N := 14) (Tt := TX11) tyX11 tyX11_ok nmX11 dX11_init_33 rfl i_X11 (by decide) w_269 rfl rfl rfl (tyX11_ok 6 (by decide)) (p_ref rfl) (fun l z h k => ?_) k
  refine R_aload_n dX11_init_36 rfl (fun l z h k => ?_) k
  refine R_bipush dX11_init_37 (by decide) (fun l z h k => ?_) k
  refine R_newI (ty := .int) dX11_init_39 (by decide) rfl rfl (fun _ _ => rfl) rfl w_183 (by decide) (fun l z h k => ?_) k
  refine R_putF (ci := 9) (f := 7) (C := RX11) (N := 14) (Tt := TX11) tyX11 tyX11_ok nmX11 dX11_init_41 rfl i_X11 (by decide) w_271 rfl rfl rfl (tyX11_ok 7 (by decide)) (p_ref rfl) (fun l z h k => ?_) k
  refine R_aload_n dX11_init_44 rfl (fun l z h k => ?_) k
  refine R_bipush dX11_init_45 (by decide) (fun l z h k => ?_) k
  refine R_newI (ty := .int) dX11_init_47 (by decide) rfl rfl (fun _ _ => rfl) rfl w_183 (by decide) (fun l z h k => ?_) k
  refine R_putF (ci := 9) (f := 8) (C := RX11) (N := 14) (Tt := TX11) tyX11 tyX11_ok nmX11 dX11_init_49 rfl i_X11 (by decide) w_275 rfl rfl rfl (tyX11_ok 8 (by decide)) (p_ref rfl) (fun l z h k => ?_) k
  refine R_aload_n dX11_init_52 rfl (fun l z h k => ?_) k
  refine R_bipush dX11_init_53 (by decide) (fun l z h k => ?_) k
  refine R_newI (ty := .int) dX11_init_55 (by decide) rfl rfl (fun _ _ => rfl) rfl w_183 (by decide) (fun l z h k => ?_) k
  refine R_putF (ci := 9) (f := 9) (C := RX11) (N := 14) (Tt := TX11) tyX11 tyX11_ok nmX11 dX11_init_57 rfl i_X11 (by decide) w_279 rfl rfl rfl (tyX11_ok 9 (by decide)) (p_ref rfl) (fun l z h k => ?_) k
  refine R_aload_n dX11_init_60 rfl (fun l z h k => ?_) k
  refine R_bipush dX11_init_61 (by decide) (fun l z h k => ?_) k
  refine R_newI (ty := .int) dX11_init_63 (by decide) rfl rfl (fun _ _ => rfl) rfl w_183 (by decide) (fun l z h k => ?_) k
  refine R_putF (ci := 9) (f := 10) (C := RX11) (N := 14) (Tt := TX11) tyX11 tyX11_ok nmX11 dX11_init_65 rfl i_X11 (by decide) w_282 rfl rfl rfl (tyX11_ok 10 (by decide)) (p_ref rfl) (fun l z h k => ?_) k
  refine R_aload_n dX11_init_68 rfl (fun l z h k => ?_) k
  refine R_bipush dX11_init_69 (by decide) (fun l z h k => ?_) k
  refine R_newI (ty := .int) dX11_init_71 (by decide) rfl rfl (fun _ _ => rfl) rfl w_183 (by decide) (fun l z h k => ?_) k
  refine R_putF (ci := 9) (f := 11) (C := RX11) (N := 14) (Tt := TX11) tyX11 tyX11_ok nmX11 dX11_init_73 rfl i_X11 (by decide) w_285 rfl rfl rfl (tyX11_ok 11 (by decide)) (p_ref rfl) (fun l z h k => ?_) k
  refine R_aload_n dX11_init_76 rfl (fun l z h k => ?_) k
  refine R_bipush dX11_init_77 (by decide) (fun l z h k => ?_) k
  refine R_newI (ty := .int) dX11_init_79 (by decide) rfl rfl (fun _ _ => rfl) rfl w_183 (by decide) (fun l z h k => ?_) k
  refine R_putF (ci := 9) (f := 12) (C := RX11) (N := 14) (Tt := TX11) tyX11 tyX11_ok nmX11 dX11_init_81 rfl i_X11 (by decide) w_289 rfl rfl rfl (tyX11_ok 12 (by decide)) (p_ref rfl) (fun l z h k => ?_) k
  refine R_aload_n dX11_init_84 rfl (fun l z h k => ?_) k
  refine R_bipush dX11_init_85 (by decide) (fun l z h k => ?_) k
  refine R_newI (ty := .int) dX11_init_87 (by decide) rfl rfl (fun _ _ => rfl) rfl w_183 (by decide) (fun l z h k => ?_) k
  refine R_putF (ci := 9) (f := 13) (C := RX11) (N := 14) (Tt := TX11) tyX11 tyX11_ok nmX11 dX11_init_89 rfl i_X11 (by decide) w_290 rfl rfl rfl (tyX11_ok 13 (by decide)) (p_ref rfl) (fun l z h k => ?_) k
  exact R_vret dX11_init_92 rfl k
theorem dX11_clear_0 : decode cX11_clear 0 = .ok (.aload_n 0, 1) := by decide +kernel
theorem dX11_clear_1 : decode cX11_clear 1 = .ok (.iconst 0, 1) := by decide +kernel
theorem dX11_clear_2 : decode cX11_clear 2 = .ok (.putfield 46, 3) := by decide +kernel
theorem dX11_clear_5 : decode cX11_clear 5 = .ok (.aload_n 0, 1) := by decide +kernel
theorem dX11_clear_6 : decode cX11_clear 6 = .ok (.iconst 0, 1) := by decide +kernel
theorem dX11_clear_7 : decode cX11_clear 7 = .ok (.putfield 50, 3) := by decide +kernel
theorem dX11_clear_10 : decode cX11_clear 10 = .ok (.aload_n 0, 1) := by decide +kernel
theorem dX11_clear_11 : decode cX11_clear 11 = .ok (.iconst 0, 1) := by decide +kernel
theorem dX11_clear_12 : decode cX11_clear 12 = .ok (.putfield 53, 3) := by decide +kernel
theorem dX11_clear_15 : decode cX11_clear 15 = .ok (.aload_n 0, 1) := by decide +kernel
theorem dX11_clear_16 : decode cX11_clear 16 = .ok (.getfield 40, 3) := by decide +kernel
theorem dX11_clear_19 : decode cX11_clear 19 = .ok (.iconst 0, 1) := by decide +kernel
theorem dX11_clear_20 : decode cX11_clear 20 = .ok (.invokestatic 56, 3) := by decide +kernel
theorem dX11_clear_23 : decode cX11_clear 23 = .ok (.aload_n 0, 1) := by decide +kernel
theorem dX11_clear_24 : decode cX11_clear 24 = .ok (.getfield 43, 3) := by decide +kernel
theorem dX11_clear_27 : decode cX11_clear 27 = .ok (.iconst 0, 1) := by decide +kernel
theorem dX11_clear_28 : decode cX11_clear 28 = .ok (.invokestatic 56, 3) := by decide +kernel
theorem dX11_clear_31 : decode cX11_clear 31 = .ok (.return_, 1) := by decide +kernel
theorem bX11_clear_0 {G : Gt} {d bc bs : Nat} {Q : QT} {l : Ls} {z : List Value} {h : Hp} (k : (tAld 0 (tPush (.int 0) (tPutf isI 9 0 (tAld 0 (tPush (.int 0) (tPutf isI 9 1 (tAld 0 (tPush (.int 0) (tPutf isI 9 2 (tAld 0 (tGetf 9 12 (tPush (.int 0) (tCS2 G d 0 0 mJ7_fill_53178 (fun l z h => T G d bc bs mX11_clear 23 l z h Q)))))))))))))) l z h) : T G d bc bs mX11_clear 0 l z h Q := by
  refine R_aload_n dX11_clear_0 rfl (fun l z h k => ?_) k
  refine R_iconst dX11_clear_1 (by decide) (fun l z h k => ?_) k
  refine R_putf (ci := 9) (f := 0) (C := RX11) (N := 14) (Tt := TX11) tyX11 tyX11_ok nmX11 dX11_clear_2 rfl i_X11 (by decide) w_248 rfl (tyX11_ok 0 (by decide)) p_int (fun l z h k => ?_) k
  refine R_aload_n dX11_clear_5 rfl (fun l z h k => ?_) k
  refine R_iconst dX11_clear_6 (by decide) (fun l z h k => ?_) k
  refine R_putf (ci := 9) (f := 1) (C := RX11) (N := 14) (Tt := TX11) tyX11 tyX11_ok nmX11 dX11_clear_7 rfl i_X11 (by decide) w_252 rfl (tyX11_ok 1 (by decide)) p_int (fun l z h k => ?_) k
  refine R_aload_n dX11_clear_10 rfl (fun l z h k => ?_) k
  refine R_iconst dX11_clear_11 (by decide) (fun l z h k => ?_) k
  refine R_putf (ci := 9) (f := 2) (C := RX11) (N := 14) (Tt := TX11) tyX11 tyX11_ok nmX11 dX11_clear_12 rfl i_X11 (by decide) w_259 rfl (tyX11_ok 2 (by decide)) p_int (fun l z h k => ?_) k
  refine R_aload_n dX11_clear_15 rfl (fun l z h k => ?_) k
  refine R_getf (ci := 9) (f := 12) (C := RX11) (N := 14) (Tt := TX11) dX11_clear_16 rfl i_X11 (by decide) w_289 (fun l z h k => ?_) k
  refine R_iconst dX11_clear_19 (by decide) (fun l z h k => ?_) k
  exact R_cs2 (M := mX11_clear) (pc := 20) (bc := bc) (bs := bs) (cb := 0) (cs := 0) (M' := mJ7_fill_53178) dX11_clear_20 (by decide) w_341 w_138 w_562 w_340 (by decide +kernel) (fun _ _ _ k => k) k
theorem bX11_clear_23 {G : Gt} {d bc bs : Nat} {Q : QT} {l : Ls} {z : List Value} {h : Hp} (k : (tAld 0 (tGetf 9 13 (tPush (.int 0) (tCS2 G d 0 0 mJ7_fill_53178 (fun l z h => T G d bc bs mX11_clear 31 l z h Q))))) l z h) : T G d bc bs mX11_clear 23 l z h Q := by
  refine R_aload_n dX11_clear_23 rfl (fun l z h k => ?_) k
  refine R_getf (ci := 9) (f := 13) (C := RX11) (N := 14) (Tt := TX11) dX11_clear_24 rfl i_X11 (by decide) w_290 (fun l z h k => ?_) k
  refine R_iconst dX11_clear_27 (by decide) (fun l z h k => ?_) k
  exact R_cs2 (M := mX11_clear) (pc := 28) (bc := bc) (bs := bs) (cb := 0) (cs := 0) (M' := mJ7_fill_53178) dX11_clear_28 (by decide) w_341 w_138 w_562 w_340 (by decide +kernel) (fun _ _ _ k => k) k
theorem bX11_clear_31 {G : Gt} {d bc bs : Nat} {Q : QT} {l : Ls} {z : List Value} {h : Hp} (k : (tRetV Q) l z h) : T G d bc bs mX11_clear 31 l z h Q := by
  exact R_vret dX11_clear_31 rfl k
theorem dX11_copyFrom_0 : decode cX11_copyFrom 0 = .ok (.aload_n 0, 1) := by decide +kernel
theorem dX11_copyFrom_1 : decode cX11_copyFrom 1 = .ok (.aload_n 1, 1) := by decide +kernel
theorem dX11_copyFrom_2 : decode cX11_copyFrom 2 = .ok (.getfield 46, 3) := by decide +kernel
theorem dX11_copyFrom_5 : decode cX11_copyFrom 5 = .ok (.putfield 46, 3) := by decide +kernel
theorem dX11_copyFrom_8 : decode cX11_copyFrom 8 = .ok (.aload_n 0, 1) := by decide +kernel
theorem dX11_copyFrom_9 : decode cX11_copyFrom 9 = .ok (.aload_n 1, 1) := by decide +kernel
theorem dX11_copyFrom_10 : decode cX11_copyFrom 10 = .ok (.getfield 50, 3) := by decide +kernel
theorem dX11_copyFrom_13 : decode cX11_copyFrom 13 = .ok (.putfield 50, 3) := by decide +kernel
theorem dX11_copyFrom_16 : decode cX11_copyFrom 16 = .ok (.aload_n 0, 1) := by decide +kernel
theorem dX11_copyFrom_17 : decode cX11_copyFrom 17 = .ok (.aload_n 1, 1) := by decide +kernel
theorem dX11_copyFrom_18 : decode cX11_copyFrom 18 = .ok (.getfield 53, 3) := by decide +kernel
theorem dX11_copyFrom_21 : decode cX11_copyFrom 21 = .ok (.putfield 53, 3) := by decide +kernel
theorem dX11_copyFrom_24 : decode cX11_copyFrom 24 = .ok (.aload_n 1, 1) := by decide +kernel
theorem dX11_copyFrom_25 : decode cX11_copyFrom 25 = .ok (.getfield 9, 3) := by decide +kernel
theorem dX11_copyFrom_28 : decode cX11_copyFrom 28 = .ok (.iconst 0, 1) := by decide +kernel
theorem dX11_copyFrom_29 : decode cX11_copyFrom 29 = .ok (.aload_n 0, 1) := by decide +kernel
theorem dX11_copyFrom_30 : decode cX11_copyFrom 30 = .ok (.getfield 9, 3) := by decide +kernel
theorem dX11_copyFrom_33 : decode cX11_copyFrom 33 = .ok (.iconst 0, 1) := by decide +kernel
theorem dX11_copyFrom_34 : decode cX11_copyFrom 34 = .ok (.bipush 6, 2) := by decide +kernel
theorem dX11_copyFrom_36 : decode cX11_copyFrom 36 = .ok (.invokestatic 62, 3) := by decide +kernel
theorem dX11_copyFrom_39 : decode cX11_copyFrom 39 = .ok (.aload_n 1, 1) := by decide +kernel
theorem dX11_copyFrom_40 : decode cX11_copyFrom 40 = .ok (.getfield 15, 3) := by decide +kernel
theorem dX11_copyFrom_43 : decode cX11_copyFrom 43 = .ok (.iconst 0, 1) := by decide +kernel
theorem dX11_copyFrom_44 : decode cX11_copyFrom 44 = .ok (.aload_n 0, 1) := by decide +kernel
theorem dX11_copyFrom_45 : decode cX11_copyFrom 45 = .ok (.getfield 15, 3) := by decide +kernel
theorem dX11_copyFrom_48 : decode cX11_copyFrom 48 = .ok (.iconst 0, 1) := by decide +kernel
theorem dX11_copyFrom_49 : decode cX11_copyFrom 49 = .ok (.bipush 8, 2) := by decide +kernel
theorem dX11_copyFrom_51 : decode cX11_copyFrom 51 = .ok (.invokestatic 62, 3) := by decide +kernel
theorem dX11_copyFrom_54 : decode cX11_copyFrom 54 = .ok (.aload_n 1, 1) := by decide +kernel
theorem dX11_copyFrom_55 : decode cX11_copyFrom 55 = .ok (.getfield 18, 3) := by decide +kernel
theorem dX11_copyFrom_58 : decode cX11_copyFrom 58 = .ok (.iconst 0, 1) := by decide +kernel
theorem dX11_copyFrom_59 : decode cX11_copyFrom 59 = .ok (.aload_n 0, 1) := by decide +kernel
theorem dX11_copyFrom_60 : decode cX11_copyFrom 60 = .ok (.getfield 18, 3) := by decide +kernel
theorem dX11_copyFrom_63 : decode cX11_copyFrom 63 = .ok (.iconst 0, 1) := by decide +kernel
theorem dX11_copyFrom_64 : decode cX11_copyFrom 64 = .ok (.bipush 6, 2) := by decide +kernel
theorem dX11_copyFrom_66 : decode cX11_copyFrom 66 = .ok (.invokestatic 62, 3) := by decide +kernel
theorem dX11_copyFrom_69 : decode cX11_copyFrom 69 = .ok (.aload_n 1, 1) := by decide +kernel
theorem dX11_copyFrom_70 : decode cX11_copyFrom 70 = .ok (.getfield 22, 3) := by decide +kernel
theorem dX11_copyFrom_73 : decode cX11_copyFrom 73 = .ok (.iconst 0, 1) := by decide +kernel
theorem dX11_copyFrom_74 : decode cX11_copyFrom 74 = .ok (.aload_n 0, 1) := by decide +kernel
theorem dX11_copyFrom_75 : decode cX11_copyFrom 75 = .ok (.getfield 22, 3) := by decide +kernel
theorem dX11_copyFrom_78 : decode cX11_copyFrom 78 = .ok (.iconst 0, 1) := by decide +kernel
theorem dX11_copyFrom_79 : decode cX11_copyFrom 79 = .ok (.bipush 6, 2) := by decide +kernel
theorem dX11_copyFrom_81 : decode cX11_copyFrom 81 = .ok (.invokestatic 62, 3) := by decide +kernel
theorem dX11_copyFrom_84 : decode cX11_copyFrom 84 = .ok (.aload_n 1, 1) := by decide +kernel
theorem dX11_copyFrom_85 : decode cX11_copyFrom 85 = .ok (.getfield 25, 3) := by decide +kernel
theorem dX11_copyFrom_88 : decode cX11_copyFrom 88 = .ok (.iconst 0, 1) := by decide +kernel
theorem dX11_copyFrom_89 : decode cX11_copyFrom 89 = .ok (.aload_n 0, 1) := by decide +kernel
theorem dX11_copyFrom_90 : decode cX11_copyFrom 90 = .ok (.getfield 25, 3) := by decide +kernel
theorem dX11_copyFrom_93 : decode cX11_copyFrom 93 = .ok (.iconst 0, 1) := by decide +kernel
theorem dX11_copyFrom_94 : decode cX11_copyFrom 94 = .ok (.bipush 8, 2) := by decide +kernel
theorem dX11_copyFrom_96 : decode cX11_copyFrom 96 = .ok (.invokestatic 62, 3) := by decide +kernel
theorem dX11_copyFrom_99 : decode cX11_copyFrom 99 = .ok (.aload_n 1, 1) := by decide +kernel
theorem dX11_copyFrom_100 : decode cX11_copyFrom 100 = .ok (.getfield 28, 3) := by decide +kernel
theorem dX11_copyFrom_103 : decode cX11_copyFrom 103 = .ok (.iconst 0, 1) := by decide +kernel
theorem dX11_copyFrom_104 : decode cX11_copyFrom 104 = .ok (.aload_n 0, 1) := by decide +kernel
theorem dX11_copyFrom_105 : decode cX11_copyFrom 105 = .ok (.getfield 28, 3) := by decide +kernel
theorem dX11_copyFrom_108 : decode cX11_copyFrom 108 = .ok (.iconst 0, 1) := by decide +kernel
theorem dX11_copyFrom_109 : decode cX11_copyFrom 109 = .ok (.bipush 8, 2) := by decide +kernel
theorem dX11_copyFrom_111 : decode cX11_copyFrom 111 = .ok (.invokestatic 62, 3) := by decide +kernel
theorem dX11_copyFrom_114 : decode cX11_copyFrom 114 = .ok (.aload_n 1, 1) := by decide +kernel
theorem dX11_copyFrom_115 : decode cX11_copyFrom 115 = .ok (.getfield 31, 3) := by decide +kernel
theorem dX11_copyFrom_118 : decode cX11_copyFrom 118 = .ok (.iconst 0, 1) := by decide +kernel
theorem dX11_copyFrom_119 : decode cX11_copyFrom 119 = .ok (.aload_n 0, 1) := by decide +kernel
theorem dX11_copyFrom_120 : decode cX11_copyFrom 120 = .ok (.getfield 31, 3) := by decide +kernel
theorem dX11_copyFrom_123 : decode cX11_copyFrom 123 = .ok (.iconst 0, 1) := by decide +kernel
theorem dX11_copyFrom_124 : decode cX11_copyFrom 124 = .ok (.bipush 8, 2) := by decide +kernel
theorem dX11_copyFrom_126 : decode cX11_copyFrom 126 = .ok (.invokestatic 62, 3) := by decide +kernel
theorem dX11_copyFrom_129 : decode cX11_copyFrom 129 = .ok (.aload_n 1, 1) := by decide +kernel
theorem dX11_copyFrom_130 : decode cX11_copyFrom 130 = .ok (.getfield 34, 3) := by decide +kernel
theorem dX11_copyFrom_133 : decode cX11_copyFrom 133 = .ok (.iconst 0, 1) := by decide +kernel
theorem dX11_copyFrom_134 : decode cX11_copyFrom 134 = .ok (.aload_n 0, 1) := by decide +kernel
theorem dX11_copyFrom_135 : decode cX11_copyFrom 135 = .ok (.getfield 34, 3) := by decide +kernel
theorem dX11_copyFrom_138 : decode cX11_copyFrom 138 = .ok (.iconst 0, 1) := by decide +kernel
theorem dX11_copyFrom_139 : decode cX11_copyFrom 139 = .ok (.bipush 8, 2) := by decide +kernel
theorem dX11_copyFrom_141 : decode cX11_copyFrom 141 = .ok (.invokestatic 62, 3) := by decide +kernel
theorem dX11_copyFrom_144 : decode cX11_copyFrom 144 = .ok (.aload_n 1, 1) := by decide +kernel
theorem dX11_copyFrom_145 : decode cX11_copyFrom 145 = .ok (.getfield 37, 3) := by decide +kernel
theorem dX11_copyFrom_148 : decode cX11_copyFrom 148 = .ok (.iconst 0, 1) := by decide +kernel
theorem dX11_copyFrom_149 : decode cX11_copyFrom 149 = .ok (.aload_n 0, 1) := by decide +kernel
theorem dX11_copyFrom_150 : decode cX11_copyFrom 150 = .ok (.getfield 37, 3) := by decide +kernel
theorem dX11_copyFrom_153 : decode cX11_copyFrom 153 = .ok (.iconst 0, 1) := by decide +kernel
theorem dX11_copyFrom_154 : decode cX11_copyFrom 154 = .ok (.bipush 8, 2) := by decide +kernel
theorem dX11_copyFrom_156 : decode cX11_copyFrom 156 = .ok (.invokestatic 62, 3) := by decide +kernel
theorem dX11_copyFrom_159 : decode cX11_copyFrom 159 = .ok (.aload_n 1, 1) := by decide +kernel
theorem dX11_copyFrom_160 : decode cX11_copyFrom 160 = .ok (.getfield 40, 3) := by decide +kernel
theorem dX11_copyFrom_163 : decode cX11_copyFrom 163 = .ok (.iconst 0, 1) := by decide +kernel
theorem dX11_copyFrom_164 : decode cX11_copyFrom 164 = .ok (.aload_n 0, 1) := by decide +kernel
theorem dX11_copyFrom_165 : decode cX11_copyFrom 165 = .ok (.getfield 40, 3) := by decide +kernel
theorem dX11_copyFrom_168 : decode cX11_copyFrom 168 = .ok (.iconst 0, 1) := by decide +kernel
theorem dX11_copyFrom_169 : decode cX11_copyFrom 169 = .ok (.bipush 48, 2) := by decide +kernel
theorem dX11_copyFrom_171 : decode cX11_copyFrom 171 = .ok (.invokestatic 62, 3) := by decide +kernel
theorem dX11_copyFrom_174 : decode cX11_copyFrom 174 = .ok (.aload_n 1, 1) := by decide +kernel
theorem dX11_copyFrom_175 : decode cX11_copyFrom 175 = .ok (.getfield 43, 3) := by decide +kernel
theorem dX11_copyFrom_178 : decode cX11_copyFrom 178 = .ok (.iconst 0, 1) := by decide +kernel
theorem dX11_copyFrom_179 : decode cX11_copyFrom 179 = .ok (.aload_n 0, 1) := by decide +kernel
theorem dX11_copyFrom_180 : decode cX11_copyFrom 180 = .ok (.getfield 43, 3) := by decide +kernel
theorem dX11_copyFrom_183 : decode cX11_copyFrom 183 = .ok (.iconst 0, 1) := by decide +kernel
theorem dX11_copyFrom_184 : decode cX11_copyFrom 184 = .ok (.bipush 12, 2) := by decide +kernel
theorem dX11_copyFrom_186 : decode cX11_copyFrom 186 = .ok (.invokestatic 62, 3) := by decide +kernel
theorem dX11_copyFrom_189 : decode cX11_copyFrom 189 = .ok (.return_, 1) := by decide +kernel
theorem bX11_copyFrom_0 {G : Gt} {d bc bs : Nat} {Q : QT} {l : Ls} {z : List Value} {h : Hp} (hd1 : 1 ≤ d) (k : (tAld 0 (tAld 1 (tGetf 9 0 (tPutf isI 9 0 (tAld 0 (tAld 1 (tGetf 9 1 (tPutf isI 9 1 (tAld 0 (tAld 1 (tGetf 9 2 (tPutf isI 9 2 (tAld 1 (tGetf 9 3 (tPush (.int 0) (tAld 0 (tGetf 9 3 (tPush (.int 0) (tPush (.int 6) (tCpyJ ((fun l z h => T G d bc bs mX11_copyFrom 39 l z h Q)))))))))))))))))))))) l z h) : T G d bc bs mX11_copyFrom 0 l z h Q := by
  refine R_aload_n dX11_copyFrom_0 rfl (fun l z h k => ?_) k
  refine R_aload_n dX11_copyFrom_1 rfl (fun l z h k => ?_) k
  refine R_getf (ci := 9) (f := 0) (C := RX11) (N := 14) (Tt := TX11) dX11_copyFrom_2 rfl i_X11 (by decide) w_248 (fun l z h k => ?_) k
  refine R_putf (ci := 9) (f := 0) (C := RX11) (N := 14) (Tt := TX11) tyX11 tyX11_ok nmX11 dX11_copyFrom_5 rfl i_X11 (by decide) w_248 rfl (tyX11_ok 0 (by decide)) p_int (fun l z h k => ?_) k
  refine R_aload_n dX11_copyFrom_8 rfl (fun l z h k => ?_) k
  refine R_aload_n dX11_copyFrom_9 rfl (fun l z h k => ?_) k
  refine R_getf (ci := 9) (f := 1) (C := RX11) (N := 14) (Tt := TX11) dX11_copyFrom_10 rfl i_X11 (by decide) w_252 (fun l z h k => ?_) k
  refine R_putf (ci := 9) (f := 1) (C := RX11) (N := 14) (Tt := TX11) tyX11 tyX11_ok nmX11 dX11_copyFrom_13 rfl i_X11 (by decide) w_252 rfl (tyX11_ok 1 (by decide)) p_int (fun l z h k => ?_) k
  refine R_aload_n dX11_copyFrom_16 rfl (fun l z h k => ?_) k
  refine R_aload_n dX11_copyFrom_17 rfl (fun l z h k => ?_) k
  refine R_getf (ci := 9) (f := 2) (C := RX11) (N := 14) (Tt := TX11) dX11_copyFrom_18 rfl i_X11 (by decide) w_259 (fun l z h k => ?_) k
  refine R_putf (ci := 9) (f := 2) (C := RX11) (N := 14) (Tt := TX11) tyX11 tyX11_ok nmX11 dX11_copyFrom_21 rfl i_X11 (by decide) w_259 rfl (tyX11_ok 2 (by decide)) p_int (fun l z h k => ?_) k
  refine R_aload_n dX11_copyFrom_24 rfl (fun l z h k => ?_) k
  refine R_getf (ci := 9) (f := 3) (C := RX11) (N := 14) (Tt := TX11) dX11_copyFrom_25 rfl i_X11 (by decide) w_263 (fun l z h k => ?_) k
  refine R_iconst dX11_copyFrom_28 (by decide) (fun l z h k => ?_) k
  refine R_aload_n dX11_copyFrom_29 rfl (fun l z h k => ?_) k
  refine R_getf (ci := 9) (f := 3) (C := RX11) (N := 14) (Tt := TX11) dX11_copyFrom_30 rfl i_X11 (by decide) w_263 (fun l z h k => ?_) k
  refine R_iconst dX11_copyFrom_33 (by decide) (fun l z h k => ?_) k
  refine R_bipush dX11_copyFrom_34 (by decide) (fun l z h k => ?_) k
  refine R_copyJ dX11_copyFrom_36 hd1 w_788 w_790 w_789 w_150 (fun l z h k => ?_) k
  exact k
theorem bX11_copyFrom_39 {G : Gt} {d bc bs : Nat} {Q : QT} {l : Ls} {z : List Value} {h : Hp} (hd1 : 1 ≤ d) (k : (tAld 1 (tGetf 9 4 (tPush (.int 0) (tAld 0 (tGetf 9 4 (tPush (.int 0) (tPush (.int 8) (tCpyJ ((fun l z h => T G d bc bs mX11_copyFrom 54 l z h Q)))))))))) l z h) : T G d bc bs mX11_copyFrom 39 l z h Q := by
  refine R_aload_n dX11_copyFrom_39 rfl (fun l z h k => ?_) k
  refine R_getf (ci := 9) (f := 4) (C := RX11) (N := 14) (Tt := TX11) dX11_copyFrom_40 rfl i_X11 (by decide) w_265 (fun l z h k => ?_) k
  refine R_iconst dX11_copyFrom_43 (by decide) (fun l z h k => ?_) k
  refine R_aload_n dX11_copyFrom_44 rfl (fun l z h k => ?_) k
  refine R_getf (ci := 9) (f := 4) (C := RX11) (N := 14) (Tt := TX11) dX11_copyFrom_45 rfl i_X11 (by decide) w_265 (fun l z h k => ?_) k
  refine R_iconst dX11_copyFrom_48 (by decide) (fun l z h k => ?_) k
  refine R_bipush dX11_copyFrom_49 (by decide) (fun l z h k => ?_) k
  refine R_copyJ dX11_copyFrom_51 hd1 w_788 w_790 w_789 w_150 (fun l z h k => ?_) k
  exact k
theorem bX11_copyFrom_54 {G : Gt} {d bc bs : Nat} {Q : QT} {l : Ls} {z : List Value} {h : Hp} (hd1 : 1 ≤ d) (k : (tAld 1 (tGetf 9 5 (tPush (.int 0) (tAld 0 (tGetf 9 5 (tPush (.int 0) (tPush (.int 6) (tCpyI ((fun l z h => T G d bc bs mX11_copyFrom 69 l z h Q)))))))))) l z h) : T G d bc bs mX11_copyFrom 54 l z h Q := by
  refine R_aload_n dX11_copyFrom_54 rfl (fun l z h k => ?_) k
  refine R_getf (ci := 9) (f := 5) (C := RX11) (N := 14) (Tt := TX11) dX11_copyFrom_55 rfl i_X11 (by decide) w_267 (fun l z h k => ?_) k
  refine R_iconst dX11_copyFrom_58 (by decide) (fun l z h k => ?_) k
  refine R_aload_n dX11_copyFrom_59 rfl (fun l z h k => ?_) k
  refine R_getf (ci := 9) (f := 5) (C := RX11) (N := 14) (Tt := TX11) dX11_copyFrom_60 rfl i_X11 (by decide) w_267 (fun l z h k => ?_) k
  refine R_iconst dX11_copyFrom_63 (by decide) (fun l z h k => ?_) k
  refine R_bipush dX11_copyFrom_64 (by decide) (fun l z h k => ?_) k
  refine R_copyI dX11_copyFrom_66 hd1 w_788 w_790 w_789 w_150 (fun l z h k => ?_) k
  exact k
theorem bX11_copyFrom_69 {G : Gt} {d bc bs : Nat} {Q : QT} {l : Ls} {z : List Value} {h : Hp} (hd1 : 1 ≤ d) (k : (tAld 1 (tGetf 9 6 (tPush (.int 0) (tAld 0 (tGetf 9 6 (tPush (.int 0) (tPush (.int 6) (tCpyI ((fun l z h => T G d bc bs mX11_copyFrom 84 l z h Q)))))))))) l z h) : T G d bc bs mX11_copyFrom 69 l z h Q := by
  refine R_aload_n dX11_copyFrom_69 rfl (fun l z h k => ?_) k
  refine R_getf (ci := 9) (f := 6) (C := RX11) (N := 14) (Tt := TX11) dX11_copyFrom_70 rfl i_X11 (by decide) w_269 (fun l z h k => ?_) k
  refine R_iconst dX11_copyFrom_73 (by decide) (fun l z h k => ?_) k
  refine R_aload_n dX11_copyFrom_74 rfl (fun l z h k => ?_) k
  refine R_getf (ci := 9) (f := 6) (C := RX11) (N := 14) (Tt := TX11) dX11_copyFrom_75 rfl i_X11 (by decide) w_269 (fun l z h k => ?_) k
  refine R_iconst dX11_copyFrom_78 (by decide) (fun l z h k => ?_) k
  refine R_bipush dX11_copyFrom_79 (by decide) (fun l z h k => ?_) k
  refine R_copyI dX11_copyFrom_81 hd1 w_788 w_790 w_789 w_150 (fun l z h k => ?_) k
  exact k
theorem bX11_copyFrom_84 {G : Gt} {d bc bs : Nat} {Q : QT} {l : Ls} {z : List Value} {h : Hp} (hd1 : 1 ≤ d) (k : (tAld 1 (tGetf 9 7 (tPush (.int 0) (tAld 0 (tGetf 9 7 (tPush (.int 0) (tPush (.int 8) (tCpyI ((fun l z h => T G d bc bs mX11_copyFrom 99 l z h Q)))))))))) l z h) : T G d bc bs mX11_copyFrom 84 l z h Q := by
  refine R_aload_n dX11_copyFrom_84 rfl (fun l z h k => ?_) k
  refine R_getf (ci := 9) (f := 7) (C := RX11) (N := 14) (Tt := TX11) dX11_copyFrom_85 rfl i_X11 (by decide) w_271 (fun l z h k => ?_) k
  refine R_iconst dX11_copyFrom_88 (by decide) (fun l z h k => ?_) k
  refine R_aload_n dX11_copyFrom_89 rfl (fun l z h k => ?_) k
  refine R_getf (ci := 9) (f := 7) (C := RX11) (N := 14) (Tt := TX11) dX11_copyFrom_90 rfl i_X11 (by decide) w_271 (fun l z h k => ?_) k
  refine R_iconst dX11_copyFrom_93 (by decide) (fun l z h k => ?_) k
  refine R_bipush dX11_copyFrom_94 (by decide) (fun l z h k => ?_) k
  refine R_copyI dX11_copyFrom_96 hd1 w_788 w_790 w_789 w_150 (fun l z h k => ?_) k
  exact k
theorem bX11_copyFrom_99 {G : Gt} {d bc bs : Nat} {Q : QT} {l : Ls} {z : List Value} {h : Hp} (hd1 : 1 ≤ d) (k : (tAld 1 (tGetf 9 8 (tPush (.int 0) (tAld 0 (tGetf 9 8 (tPush (.int 0) (tPush (.int 8) (tCpyI ((fun l z h => T G d bc bs mX11_copyFrom 114 l z h Q)))))))))) l z h) : T G d bc bs mX11_copyFrom 99 l z h Q := by
  refine R_aload_n dX11_copyFrom_99 rfl (fun l z h k => ?_) k
  refine R_getf (ci := 9) (f := 8) (C := RX11) (N := 14) (Tt := TX11) dX11_copyFrom_100 rfl i_X11 (by decide) w_275 (fun l z h k => ?_) k
  refine R_iconst dX11_copyFrom_103 (by decide) (fun l z h k => ?_) k
  refine R_aload_n dX11_copyFrom_104 rfl (fun l z h k => ?_) k
  refine R_getf (ci := 9) (f := 8) (C := RX11) (N := 14) (Tt := TX11) dX11_copyFrom_105 rfl i_X11 (by decide) w_275 (fun l z h k => ?_) k
  refine R_iconst dX11_copyFrom_108 (by decide) (fun l z h k => ?_) k
  refine R_bipush dX11_copyFrom_109 (by decide) (fun l z h k => ?_) k
  refine R_copyI dX11_copyFrom_111 hd1 w_788 w_790 w_789 w_150 (fun l z h k => ?_) k
  exact k
theorem bX11_copyFrom_114 {G : Gt} {d bc bs : Nat} {Q : QT} {l : Ls} {z : List Value} {h : Hp} (hd1 : 1 ≤ d) (k : (tAld 1 (tGetf 9 9 (tPush (.int 0) (tAld 0 (tGetf 9 9 (tPush (.int 0) (tPush (.int 8) (tCpyI ((fun l z h => T G d bc bs mX11_copyFrom 129 l z h Q)))))))))) l z h) : T G d bc bs mX11_copyFrom 114 l z h Q := by
  refine R_aload_n dX11_copyFrom_114 rfl (fun l z h k => ?_) k
  refine R_getf (ci := 9) (f := 9) (C := RX11) (N := 14) (Tt := TX11) dX11_copyFrom_115 rfl i_X11 (by decide) w_279 (fun l z h k => ?_) k
  refine R_iconst dX11_copyFrom_118 (by decide) (fun l z h k => ?_) k
  refine R_aload_n dX11_copyFrom_119 rfl (fun l z h k => ?_) k
  refine R_getf (ci := 9) (f := 9) (C := RX11) (N := 14) (Tt := TX11) dX11_copyFrom_120 rfl i_X11 (by decide) w_279 (fun l z h k => ?_) k
  refine R_iconst dX11_copyFrom_123 (by decide) (fun l z h k => ?_) k
  refine R_bipush dX11_copyFrom_124 (by decide) (fun l z h k => ?_) k
  refine R_copyI dX11_copyFrom_126 hd1 w_788 w_790 w_789 w_150 (fun l z h k => ?_) k
  exact k
theorem bX11_copyFrom_129 {G : Gt} {d bc bs : Nat} {Q : QT} {l : Ls} {z : List Value} {h : Hp} (hd1 : 1 ≤ d) (k : (tAld 1 (tGetf 9 10 (tPush (.int 0) (tAld 0 (tGetf 9 10 (tPush (.int 0) (tPush (.int 8) (tCpyI ((fun l z h => T G d bc bs mX11_copyFrom 144 l z h Q)))))))))) l z h) : T G d bc bs mX11_copyFrom 129 l z h Q := by
  refine R_aload_n dX11_copyFrom_129 rfl (fun l z h k => ?_) k
  refine R_getf (ci := 9) (f := 10) (C := RX11) (N := 14) (Tt := TX11) dX11_copyFrom_130 rfl i_X11 (by decide) w_282 (fun l z h k => ?_) k
  refine R_iconst dX11_copyFrom_133 (by decide) (fun l z h k => ?_) k
  refine R_aload_n dX11_copyFrom_134 rfl (fun l z h k => ?_) k
  refine R_getf (ci := 9) (f := 10) (C := RX11) (N := 14) (Tt := TX11) dX11_copyFrom_135 rfl i_X11 (by decide) w_282 (fun l z h k => ?_) k
  refine R_iconst dX11_copyFrom_138 (by decide) (fun l z h k => ?_) k
  refine R_bipush dX11_copyFrom_139 (by decide) (fun l z h k => ?_) k
  refine R_copyI dX11_copyFrom_141 hd1 w_788 w_790 w_789 w_150 (fun l z h k => ?_) k
  exact k
theorem bX11_copyFrom_144 {G : Gt} {d bc bs : Nat} {Q : QT} {l : Ls} {z : List Value} {h : Hp} (hd1 : 1 ≤ d) (k : (tAld 1 (tGetf 9 11 (tPush (.int 0) (tAld 0 (tGetf 9 11 (tPush (.int 0) (tPush (.int 8) (tCpyI ((fun l z h => T G d bc bs mX11_copyFrom 159 l z h Q)))))))))) l z h) : T G d bc bs mX11_copyFrom 144 l z h Q := by
  refine R_aload_n dX11_copyFrom_144 rfl (fun l z h k => ?_) k
  refine R_getf (ci := 9) (f := 11) (C := RX11) (N := 14) (Tt := TX11) dX11_copyFrom_145 rfl i_X11 (by decide) w_285 (fun l z h k => ?_) k
  refine R_iconst dX11_copyFrom_148 (by decide) (fun l z h k => ?_) k
  refine R_aload_n dX11_copyFrom_149 rfl (fun l z h k => ?_) k
  refine R_getf (ci := 9) (f := 11) (C := RX11) (N := 14) (Tt := TX11) dX11_copyFrom_150 rfl i_X11 (by decide) w_285 (fun l z h k => ?_) k
  refine R_iconst dX11_copyFrom_153 (by decide) (fun l z h k => ?_) k
  refine R_bipush dX11_copyFrom_154 (by decide) (fun l z h k => ?_) k
  refine R_copyI dX11_copyFrom_156 hd1 w_788 w_790 w_789 w_150 (fun l z h k => ?_) k
  exact k
theorem bX11_copyFrom_159 {G : Gt} {d bc bs : Nat} {Q : QT} {l : Ls} {z : List Value} {h : Hp} (hd1 : 1 ≤ d) (k : (tAld 1 (tGetf 9 12 (tPush (.int 0) (tAld 0 (tGetf 9 12 (tPush (.int 0) (tPush (.int 48) (tCpyI ((fun l z h => T G d bc bs mX11_copyFrom 174 l z h Q)))))))))) l z h) : T G d bc bs mX11_copyFrom 159 l z h Q := by
  refine R_aload_n dX11_copyFrom_159 rfl (fun l z h k => ?_) k
  refine R_getf (ci := 9) (f := 12) (C := RX11) (N := 14) (Tt := TX11) dX11_copyFrom_160 rfl i_X11 (by decide) w_289 (fun l z h k => ?_) k
  refine R_iconst dX11_copyFrom_163 (by decide) (fun l z h k => ?_) k
  refine R_aload_n dX11_copyFrom_164 rfl (fun l z h k => ?_) k
  refine R_getf (ci := 9) (f := 12) (C := RX11) (N := 14) (Tt := TX11) dX11_copyFrom_165 rfl i_X11 (by decide) w_289 (fun l z h k => ?_) k
  refine R_iconst dX11_copyFrom_168 (by decide) (fun l z h k => ?_) k
  refine R_bipush dX11_copyFrom_169 (by decide) (fun l z h k => ?_) k
  refine R_copyI dX11_copyFrom_171 hd1 w_788 w_790 w_789 w_150 (fun l z h k => ?_) k
  exact k
theorem bX11_copyFrom_174 {G : Gt} {d bc bs : Nat} {Q : QT} {l : Ls} {z : List Value} {h : Hp} (hd1 : 1 ≤ d) (k : (tAld 1 (tGetf 9 13 (tPush (.int 0) (tAld 0 (tGetf 9 13 (tPush (.int 0) (tPush (.int 12) (tCpyI ((fun l z h => T G d bc bs mX11_copyFrom 189 l z h Q)))))))))) l z h) : T G d bc bs mX11_copyFrom 174 l z h Q := by
  refine R_aload_n dX11_copyFrom_174 rfl (fun l z h k => ?_) k
  refine R_getf (ci := 9) (f := 13) (C := RX11) (N := 14) (Tt := TX11) dX11_copyFrom_175 rfl i_X11 (by decide) w_290 (fun l z h k => ?_) k
  refine R_iconst dX11_copyFrom_178 (by decide) (fun l z h k => ?_) k
  refine R_aload_n dX11_copyFrom_179 rfl (fun l z h k => ?_) k
  refine R_getf (ci := 9) (f := 13) (C := RX11) (N := 14) (Tt := TX11) dX11_copyFrom_180 rfl i_X11 (by decide) w_290 (fun l z h k => ?_) k
  refine R_iconst dX11_copyFrom_183 (by decide) (fun l z h k => ?_) k
  refine R_bipush dX11_copyFrom_184 (by decide) (fun l z h k => ?_) k
  refine R_copyI dX11_copyFrom_186 hd1 w_788 w_790 w_789 w_150 (fun l z h k => ?_) k
  exact k
theorem bX11_copyFrom_189 {G : Gt} {d bc bs : Nat} {Q : QT} {l : Ls} {z : List Value} {h : Hp} (k : (tRetV Q) l z h) : T G d bc bs mX11_copyFrom 189 l z h Q := by
  exact R_vret dX11_copyFrom_189 rfl k
theorem dX11_addThing_0 : decode cX11_addThing 0 = .ok (.aload_n 0, 1) := by decide +kernel
theorem dX11_addThing_1 : decode cX11_addThing 1 = .ok (.getfield 46, 3) := by decide +kernel
theorem dX11_addThing_4 : decode cX11_addThing 4 = .ok (.bipush 6, 2) := by decide +kernel
theorem dX11_addThing_6 : decode cX11_addThing 6 = .ok (.if_icmp .ge 44, 3) := by decide +kernel
theorem dX11_addThing_9 : decode cX11_addThing 9 = .ok (.aload_n 0, 1) := by decide +kernel
theorem dX11_addThing_10 : decode cX11_addThing 10 = .ok (.getfield 9, 3) := by decide +kernel
theorem dX11_addThing_13 : decode cX11_addThing 13 = .ok (.aload_n 0, 1) := by decide +kernel
theorem dX11_addThing_14 : decode cX11_addThing 14 = .ok (.getfield 46, 3) := by decide +kernel
theorem dX11_addThing_17 : decode cX11_addThing 17 = .ok (.lload_n 1, 1) := by decide +kernel
theorem dX11_addThing_18 : decode cX11_addThing 18 = .ok (.lastore, 1) := by decide +kernel
theorem dX11_addThing_19 : decode cX11_addThing 19 = .ok (.aload_n 0, 1) := by decide +kernel
theorem dX11_addThing_20 : decode cX11_addThing 20 = .ok (.getfield 18, 3) := by decide +kernel
theorem dX11_addThing_23 : decode cX11_addThing 23 = .ok (.aload_n 0, 1) := by decide +kernel
theorem dX11_addThing_24 : decode cX11_addThing 24 = .ok (.getfield 46, 3) := by decide +kernel
theorem dX11_addThing_27 : decode cX11_addThing 27 = .ok (.iload_n 3, 1) := by decide +kernel
theorem dX11_addThing_28 : decode cX11_addThing 28 = .ok (.iastore, 1) := by decide +kernel
theorem dX11_addThing_29 : decode cX11_addThing 29 = .ok (.aload_n 0, 1) := by decide +kernel
theorem dX11_addThing_30 : decode cX11_addThing 30 = .ok (.getfield 22, 3) := by decide +kernel
theorem dX11_addThing_33 : decode cX11_addThing 33 = .ok (.aload_n 0, 1) := by decide +kernel
theorem dX11_addThing_34 : decode cX11_addThing 34 = .ok (.getfield 46, 3) := by decide +kernel
theorem dX11_addThing_37 : decode cX11_addThing 37 = .ok (.iload 4, 2) := by decide +kernel
theorem dX11_addThing_39 : decode cX11_addThing 39 = .ok (.iastore, 1) := by decide +kernel
theorem dX11_addThing_40 : decode cX11_addThing 40 = .ok (.aload_n 0, 1) := by decide +kernel
theorem dX11_addThing_41 : decode cX11_addThing 41 = .ok (.dup, 1) := by decide +kernel
theorem dX11_addThing_42 : decode cX11_addThing 42 = .ok (.getfield 46, 3) := by decide +kernel
theorem dX11_addThing_45 : decode cX11_addThing 45 = .ok (.iconst 1, 1) := by decide +kernel
theorem dX11_addThing_46 : decode cX11_addThing 46 = .ok (.iadd, 1) := by decide +kernel
theorem dX11_addThing_47 : decode cX11_addThing 47 = .ok (.putfield 46, 3) := by decide +kernel
theorem dX11_addThing_50 : decode cX11_addThing 50 = .ok (.return_, 1) := by decide +kernel
theorem bX11_addThing_0 {G : Gt} {d bc bs : Nat} {Q : QT} {l : Ls} {z : List Value} {h : Hp} (k : (tAld 0 (tGetf 9 0 (tPush (.int 6) (tIf2 (fun x y => y ≤ x) (fun l z h => T G d bc bs mX11_addThing 50 l z h Q) (fun l z h => T G d bc bs mX11_addThing 9 l z h Q))))) l z h) : T G d bc bs mX11_addThing 0 l z h Q := by
  refine R_aload_n dX11_addThing_0 rfl (fun l z h k => ?_) k
  refine R_getf (ci := 9) (f := 0) (C := RX11) (N := 14) (Tt := TX11) dX11_addThing_1 rfl i_X11 (by decide) w_248 (fun l z h k => ?_) k
  refine R_bipush dX11_addThing_4 (by decide) (fun l z h k => ?_) k
  exact R_icmp_ge dX11_addThing_6 (by decide) (fun _ _ _ k => k) (fun _ _ _ k => k) k
theorem bX11_addThing_9 {G : Gt} {d bc bs : Nat} {Q : QT} {l : Ls} {z : List Value} {h : Hp} (k : (tAld 0 (tGetf 9 3 (tAld 0 (tGetf 9 0 (tLld 1 (tJast (tAld 0 (tGetf 9 5 (tAld 0 (tGetf 9 0 (tIld 3 (tXast 0 (tAld 0 (tGetf 9 6 (tAld 0 (tGetf 9 0 (tIld 4 (tXast 0 (tAld 0 (tDup (tGetf 9 0 (tPush (.int 1) (tB (fun x y => x + y) (tPutf isI 9 0 ((fun l z h => T G d bc bs mX11_addThing 50 l z h Q)))))))))))))))))))))))))) l z h) : T G d bc bs mX11_addThing 9 l z h Q := by
  refine R_aload_n dX11_addThing_9 rfl (fun l z h k => ?_) k
  refine R_getf (ci := 9) (f := 3) (C := RX11) (N := 14) (Tt := TX11) dX11_addThing_10 rfl i_X11 (by decide) w_263 (fun l z h k => ?_) k
  refine R_aload_n dX11_addThing_13 rfl (fun l z h k => ?_) k
  refine R_getf (ci := 9) (f := 0) (C := RX11) (N := 14) (Tt := TX11) dX11_addThing_14 rfl i_X11 (by decide) w_248 (fun l z h k => ?_) k
  refine R_lload_n dX11_addThing_17 rfl (fun l z h k => ?_) k
  refine R_lastore dX11_addThing_18 (fun l z h k => ?_) k
  refine R_aload_n dX11_addThing_19 rfl (fun l z h k => ?_) k
  refine R_getf (ci := 9) (f := 5) (C := RX11) (N := 14) (Tt := TX11) dX11_addThing_20 rfl i_X11 (by decide) w_267 (fun l z h k => ?_) k
  refine R_aload_n dX11_addThing_23 rfl (fun l z h k => ?_) k
  refine R_getf (ci := 9) (f := 0) (C := RX11) (N := 14) (Tt := TX11) dX11_addThing_24 rfl i_X11 (by decide) w_248 (fun l z h k => ?_) k
  refine R_iload_n dX11_addThing_27 rfl (fun l z h k => ?_) k
  refine R_iastore dX11_addThing_28 (fun l z h k => ?_) k
  refine R_aload_n dX11_addThing_29 rfl (fun l z h k => ?_) k
  refine R_getf (ci := 9) (f := 6) (C := RX11) (N := 14) (Tt := TX11) dX11_addThing_30 rfl i_X11 (by decide) w_269 (fun l z h k => ?_) k
  refine R_aload_n dX11_addThing_33 rfl (fun l z h k => ?_) k
  refine R_getf (ci := 9) (f := 0) (C := RX11) (N := 14) (Tt := TX11) dX11_addThing_34 rfl i_X11 (by decide) w_248 (fun l z h k => ?_) k
  refine R_iload dX11_addThing_37 (fun l z h k => ?_) k
  refine R_iastore dX11_addThing_39 (fun l z h k => ?_) k
  refine R_aload_n dX11_addThing_40 rfl (fun l z h k => ?_) k
  refine R_dup dX11_addThing_41 (fun l z h k => ?_) k
  refine R_getf (ci := 9) (f := 0) (C := RX11) (N := 14) (Tt := TX11) dX11_addThing_42 rfl i_X11 (by decide) w_248 (fun l z h k => ?_) k
  refine R_iconst dX11_addThing_45 (by decide) (fun l z h k => ?_) k
  refine R_iadd dX11_addThing_46 (fun l z h k => ?_) k
  refine R_putf (ci := 9) (f := 0) (C := RX11) (N := 14) (Tt := TX11) tyX11 tyX11_ok nmX11 dX11_addThing_47 rfl i_X11 (by decide) w_248 rfl (tyX11_ok 0 (by decide)) p_int (fun l z h k => ?_) k
  exact k
theorem bX11_addThing_50 {G : Gt} {d bc bs : Nat} {Q : QT} {l : Ls} {z : List Value} {h : Hp} (k : (tRetV Q) l z h) : T G d bc bs mX11_addThing 50 l z h Q := by
  exact R_vret dX11_addThing_50 rfl k
theorem dX11_addPerson_0 : decode cX11_addPerson 0 = .ok (.aload_n 0, 1) := by decide +kernel
theorem dX11_addPerson_1 : decode cX11_addPerson 1 = .ok (.getfield 50, 3) := by decide +kernel
theorem dX11_addPerson_4 : decode cX11_addPerson 4 = .ok (.bipush 8, 2) := by decide +kernel
theorem dX11_addPerson_6 : decode cX11_addPerson 6 = .ok (.if_icmp .ge 74, 3) := by decide +kernel
theorem dX11_addPerson_9 : decode cX11_addPerson 9 = .ok (.aload_n 0, 1) := by decide +kernel
theorem dX11_addPerson_10 : decode cX11_addPerson 10 = .ok (.getfield 15, 3) := by decide +kernel
theorem dX11_addPerson_13 : decode cX11_addPerson 13 = .ok (.aload_n 0, 1) := by decide +kernel
theorem dX11_addPerson_14 : decode cX11_addPerson 14 = .ok (.getfield 50, 3) := by decide +kernel
theorem dX11_addPerson_17 : decode cX11_addPerson 17 = .ok (.lload_n 1, 1) := by decide +kernel
theorem dX11_addPerson_18 : decode cX11_addPerson 18 = .ok (.lastore, 1) := by decide +kernel
theorem dX11_addPerson_19 : decode cX11_addPerson 19 = .ok (.aload_n 0, 1) := by decide +kernel
theorem dX11_addPerson_20 : decode cX11_addPerson 20 = .ok (.getfield 28, 3) := by decide +kernel
theorem dX11_addPerson_23 : decode cX11_addPerson 23 = .ok (.aload_n 0, 1) := by decide +kernel
theorem dX11_addPerson_24 : decode cX11_addPerson 24 = .ok (.getfield 50, 3) := by decide +kernel
theorem dX11_addPerson_27 : decode cX11_addPerson 27 = .ok (.iload_n 3, 1) := by decide +kernel
theorem dX11_addPerson_28 : decode cX11_addPerson 28 = .ok (.iastore, 1) := by decide +kernel
theorem dX11_addPerson_29 : decode cX11_addPerson 29 = .ok (.aload_n 0, 1) := by decide +kernel
theorem dX11_addPerson_30 : decode cX11_addPerson 30 = .ok (.getfield 25, 3) := by decide +kernel
theorem dX11_addPerson_33 : decode cX11_addPerson 33 = .ok (.aload_n 0, 1) := by decide +kernel
theorem dX11_addPerson_34 : decode cX11_addPerson 34 = .ok (.getfield 50, 3) := by decide +kernel
theorem dX11_addPerson_37 : decode cX11_addPerson 37 = .ok (.iload 4, 2) := by decide +kernel
theorem dX11_addPerson_39 : decode cX11_addPerson 39 = .ok (.iastore, 1) := by decide +kernel
theorem dX11_addPerson_40 : decode cX11_addPerson 40 = .ok (.aload_n 0, 1) := by decide +kernel
theorem dX11_addPerson_41 : decode cX11_addPerson 41 = .ok (.getfield 31, 3) := by decide +kernel
theorem dX11_addPerson_44 : decode cX11_addPerson 44 = .ok (.aload_n 0, 1) := by decide +kernel
theorem dX11_addPerson_45 : decode cX11_addPerson 45 = .ok (.getfield 50, 3) := by decide +kernel
theorem dX11_addPerson_48 : decode cX11_addPerson 48 = .ok (.iconst 0, 1) := by decide +kernel
theorem dX11_addPerson_49 : decode cX11_addPerson 49 = .ok (.iastore, 1) := by decide +kernel
theorem dX11_addPerson_50 : decode cX11_addPerson 50 = .ok (.aload_n 0, 1) := by decide +kernel
theorem dX11_addPerson_51 : decode cX11_addPerson 51 = .ok (.getfield 34, 3) := by decide +kernel
theorem dX11_addPerson_54 : decode cX11_addPerson 54 = .ok (.aload_n 0, 1) := by decide +kernel
theorem dX11_addPerson_55 : decode cX11_addPerson 55 = .ok (.getfield 50, 3) := by decide +kernel
theorem dX11_addPerson_58 : decode cX11_addPerson 58 = .ok (.iconst 0, 1) := by decide +kernel
theorem dX11_addPerson_59 : decode cX11_addPerson 59 = .ok (.iastore, 1) := by decide +kernel
theorem dX11_addPerson_60 : decode cX11_addPerson 60 = .ok (.aload_n 0, 1) := by decide +kernel
theorem dX11_addPerson_61 : decode cX11_addPerson 61 = .ok (.getfield 37, 3) := by decide +kernel
theorem dX11_addPerson_64 : decode cX11_addPerson 64 = .ok (.aload_n 0, 1) := by decide +kernel
theorem dX11_addPerson_65 : decode cX11_addPerson 65 = .ok (.getfield 50, 3) := by decide +kernel
theorem dX11_addPerson_68 : decode cX11_addPerson 68 = .ok (.iconst (-1), 1) := by decide +kernel
theorem dX11_addPerson_69 : decode cX11_addPerson 69 = .ok (.iastore, 1) := by decide +kernel
theorem dX11_addPerson_70 : decode cX11_addPerson 70 = .ok (.aload_n 0, 1) := by decide +kernel
theorem dX11_addPerson_71 : decode cX11_addPerson 71 = .ok (.dup, 1) := by decide +kernel
theorem dX11_addPerson_72 : decode cX11_addPerson 72 = .ok (.getfield 50, 3) := by decide +kernel
theorem dX11_addPerson_75 : decode cX11_addPerson 75 = .ok (.iconst 1, 1) := by decide +kernel
theorem dX11_addPerson_76 : decode cX11_addPerson 76 = .ok (.iadd, 1) := by decide +kernel
theorem dX11_addPerson_77 : decode cX11_addPerson 77 = .ok (.putfield 50, 3) := by decide +kernel
theorem dX11_addPerson_80 : decode cX11_addPerson 80 = .ok (.return_, 1) := by decide +kernel
theorem bX11_addPerson_0 {G : Gt} {d bc bs : Nat} {Q : QT} {l : Ls} {z : List Value} {h : Hp} (k : (tAld 0 (tGetf 9 1 (tPush (.int 8) (tIf2 (fun x y => y ≤ x) (fun l z h => T G d bc bs mX11_addPerson 80 l z h Q) (fun l z h => T G d bc bs mX11_addPerson 9 l z h Q))))) l z h) : T G d bc bs mX11_addPerson 0 l z h Q := by
  refine R_aload_n dX11_addPerson_0 rfl (fun l z h k => ?_) k
  refine R_getf (ci := 9) (f := 1) (C := RX11) (N := 14) (Tt := TX11) dX11_addPerson_1 rfl i_X11 (by decide) w_252 (fun l z h k => ?_) k
  refine R_bipush dX11_addPerson_4 (by decide) (fun l z h k => ?_) k
  exact R_icmp_ge dX11_addPerson_6 (by decide) (fun _ _ _ k => k) (fun _ _ _ k => k) k
theorem bX11_addPerson_9 {G : Gt} {d bc bs : Nat} {Q : QT} {l : Ls} {z : List Value} {h : Hp} (k : (tAld 0 (tGetf 9 4 (tAld 0 (tGetf 9 1 (tLld 1 (tJast (tAld 0 (tGetf 9 8 (tAld 0 (tGetf 9 1 (tIld 3 (tXast 0 (tAld 0 (tGetf 9 7 (tAld 0 (tGetf 9 1 (tIld 4 (tXast 0 (tAld 0 (tGetf 9 9 (tAld 0 (tGetf 9 1 (tPush (.int 0) (tXast 0 (tAld 0 (tGetf 9 10 (tAld 0 (tGetf 9 1 (tPush (.int 0) (tXast 0 (tAld 0 (tGetf 9 11 (tAld 0 (tGetf 9 1 (tPush (.int (-1)) (tXast 0 (tAld 0 (tDup (tGetf 9 1 (tPush (.int 1) (tB (fun x y => x + y) (tPutf isI 9 1 ((fun l z h => T G d bc bs mX11_addPerson 80 l z h Q)))))))))))))))))))))))))))))))))))))))))))) l z h) : T G d bc bs mX11_addPerson 9 l z h Q := by
  refine R_aload_n dX11_addPerson_9 rfl (fun l z h k => ?_) k
  refine R_getf (ci := 9) (f := 4) (C := RX11) (N := 14) (Tt := TX11) dX11_addPerson_10 rfl i_X11 (by decide) w_265 (fun l z h k => ?_) k
  refine R_aload_n dX11_addPerson_13 rfl (fun l z h k => ?_) k
  refine R_getf (ci := 9) (f := 1) (C := RX11) (N := 14) (Tt := TX11) dX11_addPerson_14 rfl i_X11 (by decide) w_252 (fun l z h k => ?_) k
  refine R_lload_n dX11_addPerson_17 rfl (fun l z h k => ?_) k
  refine R_lastore dX11_addPerson_18 (fun l z h k => ?_) k
  refine R_aload_n dX11_addPerson_19 rfl (fun l z h k => ?_) k
  refine R_getf (ci := 9) (f := 8) (C := RX11) (N := 14) (Tt := TX11) dX11_addPerson_20 rfl i_X11 (by decide) w_275 (fun l z h k => ?_) k
  refine R_aload_n dX11_addPerson_23 rfl (fun l z h k => ?_) k
  refine R_getf (ci := 9) (f := 1) (C := RX11) (N := 14) (Tt := TX11) dX11_addPerson_24 rfl i_X11 (by decide) w_252 (fun l z h k => ?_) k
  refine R_iload_n dX11_addPerson_27 rfl (fun l z h k => ?_) k
  refine R_iastore dX11_addPerson_28 (fun l z h k => ?_) k
  refine R_aload_n dX11_addPerson_29 rfl (fun l z h k => ?_) k
  refine R_getf (ci := 9) (f := 7) (C := RX11) (N := 14) (Tt := TX11) dX11_addPerson_30 rfl i_X11 (by decide) w_271 (fun l z h k => ?_) k
  refine R_aload_n dX11_addPerson_33 rfl (fun l z h k => ?_) k
  refine R_getf (ci := 9) (f := 1) (C := RX11) (N := 14) (Tt := TX11) dX11_addPerson_34 rfl i_X11 (by decide) w_252 (fun l z h k => ?_) k
  refine R_iload dX11_addPerson_37 (fun l z h k => ?_) k
  refine R_iastore dX11_addPerson_39 (fun l z h k => ?_) k
  refine R_aload_n dX11_addPerson_40 rfl (fun l z h k => ?_) k
  refine R_getf (ci := 9) (f := 9) (C := RX11) (N := 14) (Tt := TX11) dX11_addPerson_41 rfl i_X11 (by decide) w_279 (fun l z h k => ?_) k
  refine R_aload_n dX11_addPerson_44 rfl (fun l z h k => ?_) k
  refine R_getf (ci := 9) (f := 1) (C := RX11) (N := 14) (Tt := TX11) dX11_addPerson_45 rfl i_X11 (by decide) w_252 (fun l z h k => ?_) k
  refine R_iconst dX11_addPerson_48 (by decide) (fun l z h k => ?_) k
  refine R_iastore dX11_addPerson_49 (fun l z h k => ?_) k
  refine R_aload_n dX11_addPerson_50 rfl (fun l z h k => ?_) k
  refine R_getf (ci := 9) (f := 10) (C := RX11) (N := 14) (Tt := TX11) dX11_addPerson_51 rfl i_X11 (by decide) w_282 (fun l z h k => ?_) k
  refine R_aload_n dX11_addPerson_54 rfl (fun l z h k => ?_) k
  refine R_getf (ci := 9) (f := 1) (C := RX11) (N := 14) (Tt := TX11) dX11_addPerson_55 rfl i_X11 (by decide) w_252 (fun l z h k => ?_) k
  refine R_iconst dX11_addPerson_58 (by decide) (fun l z h k => ?_) k
  refine R_iastore dX11_addPerson_59 (fun l z h k => ?_) k
  refine R_aload_n dX11_addPerson_60 rfl (fun l z h k => ?_) k
  refine R_getf (ci := 9) (f := 11) (C := RX11) (N := 14) (Tt := TX11) dX11_addPerson_61 rfl i_X11 (by decide) w_285 (fun l z h k => ?_) k
  refine R_aload_n dX11_addPerson_64 rfl (fun l z h k => ?_) k
  refine R_getf (ci := 9) (f := 1) (C := RX11) (N := 14) (Tt := TX11) dX11_addPerson_65 rfl i_X11 (by decide) w_252 (fun l z h k => ?_) k
  refine R_iconst dX11_addPerson_68 (by decide) (fun l z h k => ?_) k
  refine R_iastore dX11_addPerson_69 (fun l z h k => ?_) k
  refine R_aload_n dX11_addPerson_70 rfl (fun l z h k => ?_) k
  refine R_dup dX11_addPerson_71 (fun l z h k => ?_) k
  refine R_getf (ci := 9) (f := 1) (C := RX11) (N := 14) (Tt := TX11) dX11_addPerson_72 rfl i_X11 (by decide) w_252 (fun l z h k => ?_) k
  refine R_iconst dX11_addPerson_75 (by decide) (fun l z h k => ?_) k
  refine R_iadd dX11_addPerson_76 (fun l z h k => ?_) k
  refine R_putf (ci := 9) (f := 1) (C := RX11) (N := 14) (Tt := TX11) tyX11 tyX11_ok nmX11 dX11_addPerson_77 rfl i_X11 (by decide) w_252 rfl (tyX11_ok 1 (by decide)) p_int (fun l z h k => ?_) k
  exact k
theorem bX11_addPerson_80 {G : Gt} {d bc bs : Nat} {Q : QT} {l : Ls} {z : List Value} {h : Hp} (k : (tRetV Q) l z h) : T G d bc bs mX11_addPerson 80 l z h Q := by
  exact R_vret dX11_addPerson_80 rfl k
theorem dX11_thingNamed_0 : decode cX11_thingNamed 0 = .ok (.iconst 0, 1) := by decide +kernel
theorem dX11_thingNamed_1 : decode cX11_thingNamed 1 = .ok (.istore_n 3, 1) := by decide +kernel
theorem dX11_thingNamed_2 : decode cX11_thingNamed 2 = .ok (.iload_n 3, 1) := by decide +kernel
theorem dX11_thingNamed_3 : decode cX11_thingNamed 3 = .ok (.aload_n 0, 1) := by decide +kernel
theorem dX11_thingNamed_4 : decode cX11_thingNamed 4 = .ok (.getfield 46, 3) := by decide +kernel
theorem dX11_thingNamed_7 : decode cX11_thingNamed 7 = .ok (.if_icmp .ge 22, 3) := by decide +kernel
theorem dX11_thingNamed_10 : decode cX11_thingNamed 10 = .ok (.aload_n 0, 1) := by decide +kernel
theorem dX11_thingNamed_11 : decode cX11_thingNamed 11 = .ok (.getfield 9, 3) := by decide +kernel
theorem dX11_thingNamed_14 : decode cX11_thingNamed 14 = .ok (.iload_n 3, 1) := by decide +kernel
theorem dX11_thingNamed_15 : decode cX11_thingNamed 15 = .ok (.laload, 1) := by decide +kernel
theorem dX11_thingNamed_16 : decode cX11_thingNamed 16 = .ok (.lload_n 1, 1) := by decide +kernel
theorem dX11_thingNamed_17 : decode cX11_thingNamed 17 = .ok (.lcmp, 1) := by decide +kernel
theorem dX11_thingNamed_18 : decode cX11_thingNamed 18 = .ok (.ifCond .ne 5, 3) := by decide +kernel
theorem dX11_thingNamed_21 : decode cX11_thingNamed 21 = .ok (.iload_n 3, 1) := by decide +kernel
theorem dX11_thingNamed_22 : decode cX11_thingNamed 22 = .ok (.ireturn, 1) := by decide +kernel
theorem dX11_thingNamed_23 : decode cX11_thingNamed 23 = .ok (.iinc 3 1, 3) := by decide +kernel
theorem dX11_thingNamed_26 : decode cX11_thingNamed 26 = .ok (.goto (-24), 3) := by decide +kernel
theorem dX11_thingNamed_29 : decode cX11_thingNamed 29 = .ok (.iconst (-1), 1) := by decide +kernel
theorem dX11_thingNamed_30 : decode cX11_thingNamed 30 = .ok (.ireturn, 1) := by decide +kernel
theorem bX11_thingNamed_0 {G : Gt} {d bc bs : Nat} {Q : QT} {l : Ls} {z : List Value} {h : Hp} (k : (tPush (.int 0) (tIst 3 ((fun l z h => T G d bc bs mX11_thingNamed 2 l z h Q)))) l z h) : T G d bc bs mX11_thingNamed 0 l z h Q := by
  refine R_iconst dX11_thingNamed_0 (by decide) (fun l z h k => ?_) k
  refine R_istore_n dX11_thingNamed_1 rfl (by decide) (fun l z h k => ?_) k
  exact k
theorem bX11_thingNamed_2 {G : Gt} {d bc bs : Nat} {Q : QT} {l : Ls} {z : List Value} {h : Hp} (k : (tIld 3 (tAld 0 (tGetf 9 0 (tIf2 (fun x y => y ≤ x) (fun l z h => T G d bc bs mX11_thingNamed 29 l z h Q) (fun l z h => T G d bc bs mX11_thingNamed 10 l z h Q))))) l z h) : T G d bc bs mX11_thingNamed 2 l z h Q := by
  refine R_iload_n dX11_thingNamed_2 rfl (fun l z h k => ?_) k
  refine R_aload_n dX11_thingNamed_3 rfl (fun l z h k => ?_) k
  refine R_getf (ci := 9) (f := 0) (C := RX11) (N := 14) (Tt := TX11) dX11_thingNamed_4 rfl i_X11 (by decide) w_248 (fun l z h k => ?_) k
  exact R_icmp_ge dX11_thingNamed_7 (by decide) (fun _ _ _ k => k) (fun _ _ _ k => k) k
theorem bX11_thingNamed_10 {G : Gt} {d bc bs : Nat} {Q : QT} {l : Ls} {z : List Value} {h : Hp} (k : (tAld 0 (tGetf 9 3 (tIld 3 (tJald (tLld 1 (tLcmp (tIf (fun x => x = 0) (fun l z h => T G d bc bs mX11_thingNamed 21 l z h Q) (fun l z h => T G d bc bs mX11_thingNamed 23 l z h Q)))))))) l z h) : T G d bc bs mX11_thingNamed 10 l z h Q := by
  refine R_aload_n dX11_thingNamed_10 rfl (fun l z h k => ?_) k
  refine R_getf (ci := 9) (f := 3) (C := RX11) (N := 14) (Tt := TX11) dX11_thingNamed_11 rfl i_X11 (by decide) w_263 (fun l z h k => ?_) k
  refine R_iload_n dX11_thingNamed_14 rfl (fun l z h k => ?_) k
  refine R_laload dX11_thingNamed_15 (fun l z h k => ?_) k
  refine R_lload_n dX11_thingNamed_16 rfl (fun l z h k => ?_) k
  refine R_lcmp dX11_thingNamed_17 (fun l z h k => ?_) k
  exact R_if_ne dX11_thingNamed_18 (by decide) (fun _ _ _ k => k) (fun _ _ _ k => k) k
theorem bX11_thingNamed_21 {G : Gt} {d bc bs : Nat} {Q : QT} {l : Ls} {z : List Value} {h : Hp} (k : (tIld 3 (tRetI Q)) l z h) : T G d bc bs mX11_thingNamed 21 l z h Q := by
  refine R_iload_n dX11_thingNamed_21 rfl (fun l z h k => ?_) k
  exact R_iret dX11_thingNamed_22 rfl k
theorem bX11_thingNamed_23 {G : Gt} {d bc bs : Nat} {Q : QT} {l : Ls} {z : List Value} {h : Hp} (k : (tInc 3 1 ((fun l z h => T G d bc bs mX11_thingNamed 2 l z h Q))) l z h) : T G d bc bs mX11_thingNamed 23 l z h Q := by
  refine R_iinc dX11_thingNamed_23 (by decide) (by decide) (fun l z h k => ?_) k
  exact R_goto dX11_thingNamed_26 (by decide) (fun _ _ _ k => k) k
theorem bX11_thingNamed_29 {G : Gt} {d bc bs : Nat} {Q : QT} {l : Ls} {z : List Value} {h : Hp} (k : (tPush (.int (-1)) (tRetI Q)) l z h) : T G d bc bs mX11_thingNamed 29 l z h Q := by
  refine R_iconst dX11_thingNamed_29 (by decide) (fun l z h k => ?_) k
  exact R_iret dX11_thingNamed_30 rfl k
theorem dX11_personNamed_0 : decode cX11_personNamed 0 = .ok (.iconst 0, 1) := by decide +kernel
theorem dX11_personNamed_1 : decode cX11_personNamed 1 = .ok (.istore_n 3, 1) := by decide +kernel
theorem dX11_personNamed_2 : decode cX11_personNamed 2 = .ok (.iload_n 3, 1) := by decide +kernel
theorem dX11_personNamed_3 : decode cX11_personNamed 3 = .ok (.aload_n 0, 1) := by decide +kernel
theorem dX11_personNamed_4 : decode cX11_personNamed 4 = .ok (.getfield 50, 3) := by decide +kernel
theorem dX11_personNamed_7 : decode cX11_personNamed 7 = .ok (.if_icmp .ge 22, 3) := by decide +kernel
theorem dX11_personNamed_10 : decode cX11_personNamed 10 = .ok (.aload_n 0, 1) := by decide +kernel
theorem dX11_personNamed_11 : decode cX11_personNamed 11 = .ok (.getfield 15, 3) := by decide +kernel
theorem dX11_personNamed_14 : decode cX11_personNamed 14 = .ok (.iload_n 3, 1) := by decide +kernel
theorem dX11_personNamed_15 : decode cX11_personNamed 15 = .ok (.laload, 1) := by decide +kernel
theorem dX11_personNamed_16 : decode cX11_personNamed 16 = .ok (.lload_n 1, 1) := by decide +kernel
theorem dX11_personNamed_17 : decode cX11_personNamed 17 = .ok (.lcmp, 1) := by decide +kernel
theorem dX11_personNamed_18 : decode cX11_personNamed 18 = .ok (.ifCond .ne 5, 3) := by decide +kernel
theorem dX11_personNamed_21 : decode cX11_personNamed 21 = .ok (.iload_n 3, 1) := by decide +kernel
theorem dX11_personNamed_22 : decode cX11_personNamed 22 = .ok (.ireturn, 1) := by decide +kernel
theorem dX11_personNamed_23 : decode cX11_personNamed 23 = .ok (.iinc 3 1, 3) := by decide +kernel
theorem dX11_personNamed_26 : decode cX11_personNamed 26 = .ok (.goto (-24), 3) := by decide +kernel
theorem dX11_personNamed_29 : decode cX11_personNamed 29 = .ok (.iconst (-1), 1) := by decide +kernel
theorem dX11_personNamed_30 : decode cX11_personNamed 30 = .ok (.ireturn, 1) := by decide +kernel
theorem bX11_personNamed_0 {G : Gt} {d bc bs : Nat} {Q : QT} {l : Ls} {z : List Value} {h : Hp} (k : (tPush (.int 0) (tIst 3 ((fun l z h => T G d bc bs mX11_personNamed 2 l z h Q)))) l z h) : T G d bc bs mX11_personNamed 0 l z h Q := by
  refine R_iconst dX11_personNamed_0 (by decide) (fun l z h k => ?_) k
  refine R_istore_n dX11_personNamed_1 rfl (by decide) (fun l z h k => ?_) k
  exact k
theorem bX11_personNamed_2 {G : Gt} {d bc bs : Nat} {Q : QT} {l : Ls} {z : List Value} {h : Hp} (k : (tIld 3 (tAld 0 (tGetf 9 1 (tIf2 (fun x y => y ≤ x) (fun l z h => T G d bc bs mX11_personNamed 29 l z h Q) (fun l z h => T G d bc bs mX11_personNamed 10 l z h Q))))) l z h) : T G d bc bs mX11_personNamed 2 l z h Q := by
  refine R_iload_n dX11_personNamed_2 rfl (fun l z h k => ?_) k
  refine R_aload_n dX11_personNamed_3 rfl (fun l z h k => ?_) k
  refine R_getf (ci := 9) (f := 1) (C := RX11) (N := 14) (Tt := TX11) dX11_personNamed_4 rfl i_X11 (by decide) w_252 (fun l z h k => ?_) k
  exact R_icmp_ge dX11_personNamed_7 (by decide) (fun _ _ _ k => k) (fun _ _ _ k => k) k
theorem bX11_personNamed_10 {G : Gt} {d bc bs : Nat} {Q : QT} {l : Ls} {z : List Value} {h : Hp} (k : (tAld 0 (tGetf 9 4 (tIld 3 (tJald (tLld 1 (tLcmp (tIf (fun x => x = 0) (fun l z h => T G d bc bs mX11_personNamed 21 l z h Q) (fun l z h => T G d bc bs mX11_personNamed 23 l z h Q)))))))) l z h) : T G d bc bs mX11_personNamed 10 l z h Q := by
  refine R_aload_n dX11_personNamed_10 rfl (fun l z h k => ?_) k
  refine R_getf (ci := 9) (f := 4) (C := RX11) (N := 14) (Tt := TX11) dX11_personNamed_11 rfl i_X11 (by decide) w_265 (fun l z h k => ?_) k
  refine R_iload_n dX11_personNamed_14 rfl (fun l z h k => ?_) k
  refine R_laload dX11_personNamed_15 (fun l z h k => ?_) k
  refine R_lload_n dX11_personNamed_16 rfl (fun l z h k => ?_) k
  refine R_lcmp dX11_personNamed_17 (fun l z h k => ?_) k
  exact R_if_ne dX11_personNamed_18 (by decide) (fun _ _ _ k => k) (fun _ _ _ k => k) k
theorem bX11_personNamed_21 {G : Gt} {d bc bs : Nat} {Q : QT} {l : Ls} {z : List Value} {h : Hp} (k : (tIld 3 (tRetI Q)) l z h) : T G d bc bs mX11_personNamed 21 l z h Q := by
  refine R_iload_n dX11_personNamed_21 rfl (fun l z h k => ?_) k
  exact R_iret dX11_personNamed_22 rfl k
theorem bX11_personNamed_23 {G : Gt} {d bc bs : Nat} {Q : QT} {l : Ls} {z : List Value} {h : Hp} (k : (tInc 3 1 ((fun l z h => T G d bc bs mX11_personNamed 2 l z h Q))) l z h) : T G d bc bs mX11_personNamed 23 l z h Q := by
  refine R_iinc dX11_personNamed_23 (by decide) (by decide) (fun l z h k => ?_) k
  exact R_goto dX11_personNamed_26 (by decide) (fun _ _ _ k => k) k
theorem bX11_personNamed_29 {G : Gt} {d bc bs : Nat} {Q : QT} {l : Ls} {z : List Value} {h : Hp} (k : (tPush (.int (-1)) (tRetI Q)) l z h) : T G d bc bs mX11_personNamed 29 l z h Q := by
  refine R_iconst dX11_personNamed_29 (by decide) (fun l z h k => ?_) k
  exact R_iret dX11_personNamed_30 rfl k
theorem dX11_isThing_0 : decode cX11_isThing 0 = .ok (.iload_n 1, 1) := by decide +kernel
theorem dX11_isThing_1 : decode cX11_isThing 1 = .ok (.ifCond .lt 15, 3) := by decide +kernel
theorem dX11_isThing_4 : decode cX11_isThing 4 = .ok (.iload_n 1, 1) := by decide +kernel
theorem dX11_isThing_5 : decode cX11_isThing 5 = .ok (.aload_n 0, 1) := by decide +kernel
theorem dX11_isThing_6 : decode cX11_isThing 6 = .ok (.getfield 46, 3) := by decide +kernel
theorem dX11_isThing_9 : decode cX11_isThing 9 = .ok (.if_icmp .ge 7, 3) := by decide +kernel
theorem dX11_isThing_12 : decode cX11_isThing 12 = .ok (.iconst 1, 1) := by decide +kernel
theorem dX11_isThing_13 : decode cX11_isThing 13 = .ok (.goto 4, 3) := by decide +kernel
theorem dX11_isThing_16 : decode cX11_isThing 16 = .ok (.iconst 0, 1) := by decide +kernel
theorem dX11_isThing_17 : decode cX11_isThing 17 = .ok (.ireturn, 1) := by decide +kernel
theorem bX11_isThing_0 {G : Gt} {d bc bs : Nat} {Q : QT} {l : Ls} {z : List Value} {h : Hp} (k : (tIld 1 (tIf (fun x => x < 0) (fun l z h => T G d bc bs mX11_isThing 16 l z h Q) (fun l z h => T G d bc bs mX11_isThing 4 l z h Q))) l z h) : T G d bc bs mX11_isThing 0 l z h Q := by
  refine R_iload_n dX11_isThing_0 rfl (fun l z h k => ?_) k
  exact R_if_lt dX11_isThing_1 (by decide) (fun _ _ _ k => k) (fun _ _ _ k => k) k
theorem bX11_isThing_4 {G : Gt} {d bc bs : Nat} {Q : QT} {l : Ls} {z : List Value} {h : Hp} (k : (tIld 1 (tAld 0 (tGetf 9 0 (tIf2 (fun x y => y ≤ x) (fun l z h => T G d bc bs mX11_isThing 16 l z h Q) (fun l z h => T G d bc bs mX11_isThing 12 l z h Q))))) l z h) : T G d bc bs mX11_isThing 4 l z h Q := by
  refine R_iload_n dX11_isThing_4 rfl (fun l z h k => ?_) k
  refine R_aload_n dX11_isThing_5 rfl (fun l z h k => ?_) k
  refine R_getf (ci := 9) (f := 0) (C := RX11) (N := 14) (Tt := TX11) dX11_isThing_6 rfl i_X11 (by decide) w_248 (fun l z h k => ?_) k
  exact R_icmp_ge dX11_isThing_9 (by decide) (fun _ _ _ k => k) (fun _ _ _ k => k) k
theorem bX11_isThing_12 {G : Gt} {d bc bs : Nat} {Q : QT} {l : Ls} {z : List Value} {h : Hp} (k : (tPush (.int 1) ((fun l z h => T G d bc bs mX11_isThing 17 l z h Q))) l z h) : T G d bc bs mX11_isThing 12 l z h Q := by
  refine R_iconst dX11_isThing_12 (by decide) (fun l z h k => ?_) k
  exact R_goto dX11_isThing_13 (by decide) (fun _ _ _ k => k) k
theorem bX11_isThing_16 {G : Gt} {d bc bs : Nat} {Q : QT} {l : Ls} {z : List Value} {h : Hp} (k : (tPush (.int 0) ((fun l z h => T G d bc bs mX11_isThing 17 l z h Q))) l z h) : T G d bc bs mX11_isThing 16 l z h Q := by
  refine R_iconst dX11_isThing_16 (by decide) (fun l z h k => ?_) k
  exact k
theorem bX11_isThing_17 {G : Gt} {d bc bs : Nat} {Q : QT} {l : Ls} {z : List Value} {h : Hp} (k : (tRetZ Q) l z h) : T G d bc bs mX11_isThing 17 l z h Q := by
  exact R_zret dX11_isThing_17 rfl k
theorem dX11_isPerson_0 : decode cX11_isPerson 0 = .ok (.iload_n 1, 1) := by decide +kernel
theorem dX11_isPerson_1 : decode cX11_isPerson 1 = .ok (.ifCond .lt 15, 3) := by decide +kernel
theorem dX11_isPerson_4 : decode cX11_isPerson 4 = .ok (.iload_n 1, 1) := by decide +kernel
theorem dX11_isPerson_5 : decode cX11_isPerson 5 = .ok (.aload_n 0, 1) := by decide +kernel
theorem dX11_isPerson_6 : decode cX11_isPerson 6 = .ok (.getfield 50, 3) := by decide +kernel
theorem dX11_isPerson_9 : decode cX11_isPerson 9 = .ok (.if_icmp .ge 7, 3) := by decide +kernel
theorem dX11_isPerson_12 : decode cX11_isPerson 12 = .ok (.iconst 1, 1) := by decide +kernel
theorem dX11_isPerson_13 : decode cX11_isPerson 13 = .ok (.goto 4, 3) := by decide +kernel
theorem dX11_isPerson_16 : decode cX11_isPerson 16 = .ok (.iconst 0, 1) := by decide +kernel
theorem dX11_isPerson_17 : decode cX11_isPerson 17 = .ok (.ireturn, 1) := by decide +kernel
theorem bX11_isPerson_0 {G : Gt} {d bc bs : Nat} {Q : QT} {l : Ls} {z : List Value} {h : Hp} (k : (tIld 1 (tIf (fun x => x < 0) (fun l z h => T G d bc bs mX11_isPerson 16 l z h Q) (fun l z h => T G d bc bs mX11_isPerson 4 l z h Q))) l z h) : T G d bc bs mX11_isPerson 0 l z h Q := by
  refine R_iload_n dX11_isPerson_0 rfl (fun l z h k => ?_) k
  exact R_if_lt dX11_isPerson_1 (by decide) (fun _ _ _ k => k) (fun _ _ _ k => k) k
theorem bX11_isPerson_4 {G : Gt} {d bc bs : Nat} {Q : QT} {l : Ls} {z : List Value} {h : Hp} (k : (tIld 1 (tAld 0 (tGetf 9 1 (tIf2 (fun x y => y ≤ x) (fun l z h => T G d bc bs mX11_isPerson 16 l z h Q) (fun l z h => T G d bc bs mX11_isPerson 12 l z h Q))))) l z h) : T G d bc bs mX11_isPerson 4 l z h Q := by
  refine R_iload_n dX11_isPerson_4 rfl (fun l z h k => ?_) k
  refine R_aload_n dX11_isPerson_5 rfl (fun l z h k => ?_) k
  refine R_getf (ci := 9) (f := 1) (C := RX11) (N := 14) (Tt := TX11) dX11_isPerson_6 rfl i_X11 (by decide) w_252 (fun l z h k => ?_) k
  exact R_icmp_ge dX11_isPerson_9 (by decide) (fun _ _ _ k => k) (fun _ _ _ k => k) k
theorem bX11_isPerson_12 {G : Gt} {d bc bs : Nat} {Q : QT} {l : Ls} {z : List Value} {h : Hp} (k : (tPush (.int 1) ((fun l z h => T G d bc bs mX11_isPerson 17 l z h Q))) l z h) : T G d bc bs mX11_isPerson 12 l z h Q := by
  refine R_iconst dX11_isPerson_12 (by decide) (fun l z h k => ?_) k
  exact R_goto dX11_isPerson_13 (by decide) (fun _ _ _ k => k) k
theorem bX11_isPerson_16 {G : Gt} {d bc bs : Nat} {Q : QT} {l : Ls} {z : List Value} {h : Hp} (k : (tPush (.int 0) ((fun l z h => T G d bc bs mX11_isPerson 17 l z h Q))) l z h) : T G d bc bs mX11_isPerson 16 l z h Q := by
  refine R_iconst dX11_isPerson_16 (by decide) (fun l z h k => ?_) k
  exact k
theorem bX11_isPerson_17 {G : Gt} {d bc bs : Nat} {Q : QT} {l : Ls} {z : List Value} {h : Hp} (k : (tRetZ Q) l z h) : T G d bc bs mX11_isPerson 17 l z h Q := by
  exact R_zret dX11_isPerson_17 rfl k
theorem dX11_held_0 : decode cX11_held 0 = .ok (.aload_n 0, 1) := by decide +kernel
theorem dX11_held_1 : decode cX11_held 1 = .ok (.getfield 40, 3) := by decide +kernel
theorem dX11_held_4 : decode cX11_held 4 = .ok (.iload_n 1, 1) := by decide +kernel
theorem dX11_held_5 : decode cX11_held 5 = .ok (.bipush 6, 2) := by decide +kernel
theorem dX11_held_7 : decode cX11_held 7 = .ok (.imul, 1) := by decide +kernel
theorem dX11_held_8 : decode cX11_held 8 = .ok (.iload_n 2, 1) := by decide +kernel
theorem dX11_held_9 : decode cX11_held 9 = .ok (.iadd, 1) := by decide +kernel
theorem dX11_held_10 : decode cX11_held 10 = .ok (.iaload, 1) := by decide +kernel
theorem dX11_held_11 : decode cX11_held 11 = .ok (.ireturn, 1) := by decide +kernel
theorem bX11_held_0 {G : Gt} {d bc bs : Nat} {Q : QT} {l : Ls} {z : List Value} {h : Hp} (k : (tAld 0 (tGetf 9 12 (tIld 1 (tPush (.int 6) (tB (fun x y => x * y) (tIld 2 (tB (fun x y => x + y) (tXald 0 (tRetI Q))))))))) l z h) : T G d bc bs mX11_held 0 l z h Q := by
  refine R_aload_n dX11_held_0 rfl (fun l z h k => ?_) k
  refine R_getf (ci := 9) (f := 12) (C := RX11) (N := 14) (Tt := TX11) dX11_held_1 rfl i_X11 (by decide) w_289 (fun l z h k => ?_) k
  refine R_iload_n dX11_held_4 rfl (fun l z h k => ?_) k
  refine R_bipush dX11_held_5 (by decide) (fun l z h k => ?_) k
  refine R_imul dX11_held_7 (fun l z h k => ?_) k
  refine R_iload_n dX11_held_8 rfl (fun l z h k => ?_) k
  refine R_iadd dX11_held_9 (fun l z h k => ?_) k
  refine R_iaload dX11_held_10 (fun l z h k => ?_) k
  exact R_iret dX11_held_11 rfl k
theorem dX11_setHeld_0 : decode cX11_setHeld 0 = .ok (.aload_n 0, 1) := by decide +kernel
theorem dX11_setHeld_1 : decode cX11_setHeld 1 = .ok (.getfield 40, 3) := by decide +kernel
theorem dX11_setHeld_4 : decode cX11_setHeld 4 = .ok (.iload_n 1, 1) := by decide +kernel
theorem dX11_setHeld_5 : decode cX11_setHeld 5 = .ok (.bipush 6, 2) := by decide +kernel
theorem dX11_setHeld_7 : decode cX11_setHeld 7 = .ok (.imul, 1) := by decide +kernel
theorem dX11_setHeld_8 : decode cX11_setHeld 8 = .ok (.iload_n 2, 1) := by decide +kernel
theorem dX11_setHeld_9 : decode cX11_setHeld 9 = .ok (.iadd, 1) := by decide +kernel
theorem dX11_setHeld_10 : decode cX11_setHeld 10 = .ok (.iload_n 3, 1) := by decide +kernel
theorem dX11_setHeld_11 : decode cX11_setHeld 11 = .ok (.bipush 12, 2) := by decide +kernel
theorem dX11_setHeld_13 : decode cX11_setHeld 13 = .ok (.if_icmp .ge 7, 3) := by decide +kernel
theorem dX11_setHeld_16 : decode cX11_setHeld 16 = .ok (.iload_n 3, 1) := by decide +kernel
theorem dX11_setHeld_17 : decode cX11_setHeld 17 = .ok (.goto 5, 3) := by decide +kernel
theorem dX11_setHeld_20 : decode cX11_setHeld 20 = .ok (.bipush 12, 2) := by decide +kernel
theorem dX11_setHeld_22 : decode cX11_setHeld 22 = .ok (.iastore, 1) := by decide +kernel
theorem dX11_setHeld_23 : decode cX11_setHeld 23 = .ok (.return_, 1) := by decide +kernel
theorem bX11_setHeld_0 {G : Gt} {d bc bs : Nat} {Q : QT} {l : Ls} {z : List Value} {h : Hp} (k : (tAld 0 (tGetf 9 12 (tIld 1 (tPush (.int 6) (tB (fun x y => x * y) (tIld 2 (tB (fun x y => x + y) (tIld 3 (tPush (.int 12) (tIf2 (fun x y => y ≤ x) (fun l z h => T G d bc bs mX11_setHeld 20 l z h Q) (fun l z h => T G d bc bs mX11_setHeld 16 l z h Q))))))))))) l z h) : T G d bc bs mX11_setHeld 0 l z h Q := by
  refine R_aload_n dX11_setHeld_0 rfl (fun l z h k => ?_) k
  refine R_getf (ci := 9) (f := 12) (C := RX11) (N := 14) (Tt := TX11) dX11_setHeld_1 rfl i_X11 (by decide) w_289 (fun l z h k => ?_) k
  refine R_iload_n dX11_setHeld_4 rfl (fun l z h k => ?_) k
  refine R_bipush dX11_setHeld_5 (by decide) (fun l z h k => ?_) k
  refine R_imul dX11_setHeld_7 (fun l z h k => ?_) k
  refine R_iload_n dX11_setHeld_8 rfl (fun l z h k => ?_) k
  refine R_iadd dX11_setHeld_9 (fun l z h k => ?_) k
  refine R_iload_n dX11_setHeld_10 rfl (fun l z h k => ?_) k
  refine R_bipush dX11_setHeld_11 (by decide) (fun l z h k => ?_) k
  exact R_icmp_ge dX11_setHeld_13 (by decide) (fun _ _ _ k => k) (fun _ _ _ k => k) k
theorem bX11_setHeld_16 {G : Gt} {d bc bs : Nat} {Q : QT} {l : Ls} {z : List Value} {h : Hp} (k : (tIld 3 ((fun l z h => T G d bc bs mX11_setHeld 22 l z h Q))) l z h) : T G d bc bs mX11_setHeld 16 l z h Q := by
  refine R_iload_n dX11_setHeld_16 rfl (fun l z h k => ?_) k
  exact R_goto dX11_setHeld_17 (by decide) (fun _ _ _ k => k) k
theorem bX11_setHeld_20 {G : Gt} {d bc bs : Nat} {Q : QT} {l : Ls} {z : List Value} {h : Hp} (k : (tPush (.int 12) ((fun l z h => T G d bc bs mX11_setHeld 22 l z h Q))) l z h) : T G d bc bs mX11_setHeld 20 l z h Q := by
  refine R_bipush dX11_setHeld_20 (by decide) (fun l z h k => ?_) k
  exact k
theorem bX11_setHeld_22 {G : Gt} {d bc bs : Nat} {Q : QT} {l : Ls} {z : List Value} {h : Hp} (k : (tXast 0 (tRetV Q)) l z h) : T G d bc bs mX11_setHeld 22 l z h Q := by
  refine R_iastore dX11_setHeld_22 (fun l z h k => ?_) k
  exact R_vret dX11_setHeld_23 rfl k
theorem dX11_askedAt_0 : decode cX11_askedAt 0 = .ok (.aload_n 0, 1) := by decide +kernel
theorem dX11_askedAt_1 : decode cX11_askedAt 1 = .ok (.getfield 43, 3) := by decide +kernel
theorem dX11_askedAt_4 : decode cX11_askedAt 4 = .ok (.iload_n 1, 1) := by decide +kernel
theorem dX11_askedAt_5 : decode cX11_askedAt 5 = .ok (.bipush 6, 2) := by decide +kernel
theorem dX11_askedAt_7 : decode cX11_askedAt 7 = .ok (.imul, 1) := by decide +kernel
theorem dX11_askedAt_8 : decode cX11_askedAt 8 = .ok (.iload_n 2, 1) := by decide +kernel
theorem dX11_askedAt_9 : decode cX11_askedAt 9 = .ok (.iadd, 1) := by decide +kernel
theorem dX11_askedAt_10 : decode cX11_askedAt 10 = .ok (.iaload, 1) := by decide +kernel
theorem dX11_askedAt_11 : decode cX11_askedAt 11 = .ok (.ireturn, 1) := by decide +kernel
theorem bX11_askedAt_0 {G : Gt} {d bc bs : Nat} {Q : QT} {l : Ls} {z : List Value} {h : Hp} (k : (tAld 0 (tGetf 9 13 (tIld 1 (tPush (.int 6) (tB (fun x y => x * y) (tIld 2 (tB (fun x y => x + y) (tXald 0 (tRetI Q))))))))) l z h) : T G d bc bs mX11_askedAt 0 l z h Q := by
  refine R_aload_n dX11_askedAt_0 rfl (fun l z h k => ?_) k
  refine R_getf (ci := 9) (f := 13) (C := RX11) (N := 14) (Tt := TX11) dX11_askedAt_1 rfl i_X11 (by decide) w_290 (fun l z h k => ?_) k
  refine R_iload_n dX11_askedAt_4 rfl (fun l z h k => ?_) k
  refine R_bipush dX11_askedAt_5 (by decide) (fun l z h k => ?_) k
  refine R_imul dX11_askedAt_7 (fun l z h k => ?_) k
  refine R_iload_n dX11_askedAt_8 rfl (fun l z h k => ?_) k
  refine R_iadd dX11_askedAt_9 (fun l z h k => ?_) k
  refine R_iaload dX11_askedAt_10 (fun l z h k => ?_) k
  exact R_iret dX11_askedAt_11 rfl k
theorem dX11_setAsked_0 : decode cX11_setAsked 0 = .ok (.aload_n 0, 1) := by decide +kernel
theorem dX11_setAsked_1 : decode cX11_setAsked 1 = .ok (.getfield 43, 3) := by decide +kernel
theorem dX11_setAsked_4 : decode cX11_setAsked 4 = .ok (.iload_n 1, 1) := by decide +kernel
theorem dX11_setAsked_5 : decode cX11_setAsked 5 = .ok (.bipush 6, 2) := by decide +kernel
theorem dX11_setAsked_7 : decode cX11_setAsked 7 = .ok (.imul, 1) := by decide +kernel
theorem dX11_setAsked_8 : decode cX11_setAsked 8 = .ok (.iload_n 2, 1) := by decide +kernel
theorem dX11_setAsked_9 : decode cX11_setAsked 9 = .ok (.iadd, 1) := by decide +kernel
theorem dX11_setAsked_10 : decode cX11_setAsked 10 = .ok (.iload_n 3, 1) := by decide +kernel
theorem dX11_setAsked_11 : decode cX11_setAsked 11 = .ok (.iastore, 1) := by decide +kernel
theorem dX11_setAsked_12 : decode cX11_setAsked 12 = .ok (.return_, 1) := by decide +kernel
theorem bX11_setAsked_0 {G : Gt} {d bc bs : Nat} {Q : QT} {l : Ls} {z : List Value} {h : Hp} (k : (tAld 0 (tGetf 9 13 (tIld 1 (tPush (.int 6) (tB (fun x y => x * y) (tIld 2 (tB (fun x y => x + y) (tIld 3 (tXast 0 (tRetV Q)))))))))) l z h) : T G d bc bs mX11_setAsked 0 l z h Q := by
  refine R_aload_n dX11_setAsked_0 rfl (fun l z h k => ?_) k
  refine R_getf (ci := 9) (f := 13) (C := RX11) (N := 14) (Tt := TX11) dX11_setAsked_1 rfl i_X11 (by decide) w_290 (fun l z h k => ?_) k
  refine R_iload_n dX11_setAsked_4 rfl (fun l z h k => ?_) k
  refine R_bipush dX11_setAsked_5 (by decide) (fun l z h k => ?_) k
  refine R_imul dX11_setAsked_7 (fun l z h k => ?_) k
  refine R_iload_n dX11_setAsked_8 rfl (fun l z h k => ?_) k
  refine R_iadd dX11_setAsked_9 (fun l z h k => ?_) k
  refine R_iload_n dX11_setAsked_10 rfl (fun l z h k => ?_) k
  refine R_iastore dX11_setAsked_11 (fun l z h k => ?_) k
  exact R_vret dX11_setAsked_12 rfl k
theorem dX11_allOf_0 : decode cX11_allOf 0 = .ok (.iconst 0, 1) := by decide +kernel
theorem dX11_allOf_1 : decode cX11_allOf 1 = .ok (.istore_n 2, 1) := by decide +kernel
theorem dX11_allOf_2 : decode cX11_allOf 2 = .ok (.iconst 0, 1) := by decide +kernel
theorem dX11_allOf_3 : decode cX11_allOf 3 = .ok (.istore_n 3, 1) := by decide +kernel
theorem dX11_allOf_4 : decode cX11_allOf 4 = .ok (.iload_n 3, 1) := by decide +kernel
theorem dX11_allOf_5 : decode cX11_allOf 5 = .ok (.aload_n 0, 1) := by decide +kernel
theorem dX11_allOf_6 : decode cX11_allOf 6 = .ok (.getfield 46, 3) := by decide +kernel
theorem dX11_allOf_9 : decode cX11_allOf 9 = .ok (.if_icmp .ge 18, 3) := by decide +kernel
theorem dX11_allOf_12 : decode cX11_allOf 12 = .ok (.iload_n 2, 1) := by decide +kernel
theorem dX11_allOf_13 : decode cX11_allOf 13 = .ok (.aload_n 0, 1) := by decide +kernel
theorem dX11_allOf_14 : decode cX11_allOf 14 = .ok (.iload_n 1, 1) := by decide +kernel
theorem dX11_allOf_15 : decode cX11_allOf 15 = .ok (.iload_n 3, 1) := by decide +kernel
theorem dX11_allOf_16 : decode cX11_allOf 16 = .ok (.invokevirtual 68, 3) := by decide +kernel
theorem dX11_allOf_19 : decode cX11_allOf 19 = .ok (.iadd, 1) := by decide +kernel
theorem dX11_allOf_20 : decode cX11_allOf 20 = .ok (.istore_n 2, 1) := by decide +kernel
theorem dX11_allOf_21 : decode cX11_allOf 21 = .ok (.iinc 3 1, 3) := by decide +kernel
theorem dX11_allOf_24 : decode cX11_allOf 24 = .ok (.goto (-20), 3) := by decide +kernel
theorem dX11_allOf_27 : decode cX11_allOf 27 = .ok (.iload_n 2, 1) := by decide +kernel
theorem dX11_allOf_28 : decode cX11_allOf 28 = .ok (.ireturn, 1) := by decide +kernel
theorem bX11_allOf_0 {G : Gt} {d bc bs : Nat} {Q : QT} {l : Ls} {z : List Value} {h : Hp} (k : (tPush (.int 0) (tIst 2 (tPush (.int 0) (tIst 3 ((fun l z h => T G d bc bs mX11_allOf 4 l z h Q)))))) l z h) : T G d bc bs mX11_allOf 0 l z h Q := by
  refine R_iconst dX11_allOf_0 (by decide) (fun l z h k => ?_) k
  refine R_istore_n dX11_allOf_1 rfl (by decide) (fun l z h k => ?_) k
  refine R_iconst dX11_allOf_2 (by decide) (fun l z h k => ?_) k
  refine R_istore_n dX11_allOf_3 rfl (by decide) (fun l z h k => ?_) k
  exact k
theorem bX11_allOf_4 {G : Gt} {d bc bs : Nat} {Q : QT} {l : Ls} {z : List Value} {h : Hp} (k : (tIld 3 (tAld 0 (tGetf 9 0 (tIf2 (fun x y => y ≤ x) (fun l z h => T G d bc bs mX11_allOf 27 l z h Q) (fun l z h => T G d bc bs mX11_allOf 12 l z h Q))))) l z h) : T G d bc bs mX11_allOf 4 l z h Q := by
  refine R_iload_n dX11_allOf_4 rfl (fun l z h k => ?_) k
  refine R_aload_n dX11_allOf_5 rfl (fun l z h k => ?_) k
  refine R_getf (ci := 9) (f := 0) (C := RX11) (N := 14) (Tt := TX11) dX11_allOf_6 rfl i_X11 (by decide) w_248 (fun l z h k => ?_) k
  exact R_icmp_ge dX11_allOf_9 (by decide) (fun _ _ _ k => k) (fun _ _ _ k => k) k
theorem bX11_allOf_12 {G : Gt} {d bc bs : Nat} {Q : QT} {l : Ls} {z : List Value} {h : Hp} (k : (tIld 2 (tAld 0 (tIld 1 (tIld 3 (tCV2 G d 0 0 9 mX11_held (fun l z h => T G d bc bs mX11_allOf 19 l z h Q)))))) l z h) : T G d bc bs mX11_allOf 12 l z h Q := by
  refine R_iload_n dX11_allOf_12 rfl (fun l z h k => ?_) k
  refine R_aload_n dX11_allOf_13 rfl (fun l z h k => ?_) k
  refine R_iload_n dX11_allOf_14 rfl (fun l z h k => ?_) k
  refine R_iload_n dX11_allOf_15 rfl (fun l z h k => ?_) k
  exact R_cv2 (M := mX11_allOf) (pc := 16) (bc := bc) (bs := bs) (cb := 0) (cs := 0) (M' := mX11_held) dX11_allOf_16 rfl (by decide) w_739 w_136 w_824 w_737 w_738 (by decide +kernel) (fun _ _ _ k => k) k
theorem bX11_allOf_19 {G : Gt} {d bc bs : Nat} {Q : QT} {l : Ls} {z : List Value} {h : Hp} (k : (tB (fun x y => x + y) (tIst 2 (tInc 3 1 ((fun l z h => T G d bc bs mX11_allOf 4 l z h Q))))) l z h) : T G d bc bs mX11_allOf 19 l z h Q := by
  refine R_iadd dX11_allOf_19 (fun l z h k => ?_) k
  refine R_istore_n dX11_allOf_20 rfl (by decide) (fun l z h k => ?_) k
  refine R_iinc dX11_allOf_21 (by decide) (by decide) (fun l z h k => ?_) k
  exact R_goto dX11_allOf_24 (by decide) (fun _ _ _ k => k) k
theorem bX11_allOf_27 {G : Gt} {d bc bs : Nat} {Q : QT} {l : Ls} {z : List Value} {h : Hp} (k : (tIld 2 (tRetI Q)) l z h) : T G d bc bs mX11_allOf 27 l z h Q := by
  refine R_iload_n dX11_allOf_27 rfl (fun l z h k => ?_) k
  exact R_iret dX11_allOf_28 rfl k
theorem dX11_heldByAll_0 : decode cX11_heldByAll 0 = .ok (.iconst 0, 1) := by decide +kernel
theorem dX11_heldByAll_1 : decode cX11_heldByAll 1 = .ok (.istore_n 2, 1) := by decide +kernel
theorem dX11_heldByAll_2 : decode cX11_heldByAll 2 = .ok (.iconst 0, 1) := by decide +kernel
theorem dX11_heldByAll_3 : decode cX11_heldByAll 3 = .ok (.istore_n 3, 1) := by decide +kernel
theorem dX11_heldByAll_4 : decode cX11_heldByAll 4 = .ok (.iload_n 3, 1) := by decide +kernel
theorem dX11_heldByAll_5 : decode cX11_heldByAll 5 = .ok (.aload_n 0, 1) := by decide +kernel
theorem dX11_heldByAll_6 : decode cX11_heldByAll 6 = .ok (.getfield 50, 3) := by decide +kernel
theorem dX11_heldByAll_9 : decode cX11_heldByAll 9 = .ok (.if_icmp .ge 18, 3) := by decide +kernel
theorem dX11_heldByAll_12 : decode cX11_heldByAll 12 = .ok (.iload_n 2, 1) := by decide +kernel
theorem dX11_heldByAll_13 : decode cX11_heldByAll 13 = .ok (.aload_n 0, 1) := by decide +kernel
theorem dX11_heldByAll_14 : decode cX11_heldByAll 14 = .ok (.iload_n 3, 1) := by decide +kernel
theorem dX11_heldByAll_15 : decode cX11_heldByAll 15 = .ok (.iload_n 1, 1) := by decide +kernel
theorem dX11_heldByAll_16 : decode cX11_heldByAll 16 = .ok (.invokevirtual 68, 3) := by decide +kernel
theorem dX11_heldByAll_19 : decode cX11_heldByAll 19 = .ok (.iadd, 1) := by decide +kernel
theorem dX11_heldByAll_20 : decode cX11_heldByAll 20 = .ok (.istore_n 2, 1) := by decide +kernel
theorem dX11_heldByAll_21 : decode cX11_heldByAll 21 = .ok (.iinc 3 1, 3) := by decide +kernel
theorem dX11_heldByAll_24 : decode cX11_heldByAll 24 = .ok (.goto (-20), 3) := by decide +kernel
theorem dX11_heldByAll_27 : decode cX11_heldByAll 27 = .ok (.iload_n 2, 1) := by decide +kernel
theorem dX11_heldByAll_28 : decode cX11_heldByAll 28 = .ok (.ireturn, 1) := by decide +kernel
theorem bX11_heldByAll_0 {G : Gt} {d bc bs : Nat} {Q : QT} {l : Ls} {z : List Value} {h : Hp} (k : (tPush (.int 0) (tIst 2 (tPush (.int 0) (tIst 3 ((fun l z h => T G d bc bs mX11_heldByAll 4 l z h Q)))))) l z h) : T G d bc bs mX11_heldByAll 0 l z h Q := by
  refine R_iconst dX11_heldByAll_0 (by decide) (fun l z h k => ?_) k
  refine R_istore_n dX11_heldByAll_1 rfl (by decide) (fun l z h k => ?_) k
  refine R_iconst dX11_heldByAll_2 (by decide) (fun l z h k => ?_) k
  refine R_istore_n dX11_heldByAll_3 rfl (by decide) (fun l z h k => ?_) k
  exact k
theorem bX11_heldByAll_4 {G : Gt} {d bc bs : Nat} {Q : QT} {l : Ls} {z : List Value} {h : Hp} (k : (tIld 3 (tAld 0 (tGetf 9 1 (tIf2 (fun x y => y ≤ x) (fun l z h => T G d bc bs mX11_heldByAll 27 l z h Q) (fun l z h => T G d bc bs mX11_heldByAll 12 l z h Q))))) l z h) : T G d bc bs mX11_heldByAll 4 l z h Q := by
  refine R_iload_n dX11_heldByAll_4 rfl (fun l z h k => ?_) k
  refine R_aload_n dX11_heldByAll_5 rfl (fun l z h k => ?_) k
  refine R_getf (ci := 9) (f := 1) (C := RX11) (N := 14) (Tt := TX11) dX11_heldByAll_6 rfl i_X11 (by decide) w_252 (fun l z h k => ?_) k
  exact R_icmp_ge dX11_heldByAll_9 (by decide) (fun _ _ _ k => k) (fun _ _ _ k => k) k
theorem bX11_heldByAll_12 {G : Gt} {d bc bs : Nat} {Q : QT} {l : Ls} {z : List Value} {h : Hp} (k : (tIld 2 (tAld 0 (tIld 3 (tIld 1 (tCV2 G d 0 0 9 mX11_held (fun l z h => T G d bc bs mX11_heldByAll 19 l z h Q)))))) l z h) : T G d bc bs mX11_heldByAll 12 l z h Q := by
  refine R_iload_n dX11_heldByAll_12 rfl (fun l z h k => ?_) k
  refine R_aload_n dX11_heldByAll_13 rfl (fun l z h k => ?_) k
  refine R_iload_n dX11_heldByAll_14 rfl (fun l z h k => ?_) k
  refine R_iload_n dX11_heldByAll_15 rfl (fun l z h k => ?_) k
  exact R_cv2 (M := mX11_heldByAll) (pc := 16) (bc := bc) (bs := bs) (cb := 0) (cs := 0) (M' := mX11_held) dX11_heldByAll_16 rfl (by decide) w_739 w_136 w_824 w_737 w_738 (by decide +kernel) (fun _ _ _ k => k) k
theorem bX11_heldByAll_19 {G : Gt} {d bc bs : Nat} {Q : QT} {l : Ls} {z : List Value} {h : Hp} (k : (tB (fun x y => x + y) (tIst 2 (tInc 3 1 ((fun l z h => T G d bc bs mX11_heldByAll 4 l z h Q))))) l z h) : T G d bc bs mX11_heldByAll 19 l z h Q := by
  refine R_iadd dX11_heldByAll_19 (fun l z h k => ?_) k
  refine R_istore_n dX11_heldByAll_20 rfl (by decide) (fun l z h k => ?_) k
  refine R_iinc dX11_heldByAll_21 (by decide) (by decide) (fun l z h k => ?_) k
  exact R_goto dX11_heldByAll_24 (by decide) (fun _ _ _ k => k) k
theorem bX11_heldByAll_27 {G : Gt} {d bc bs : Nat} {Q : QT} {l : Ls} {z : List Value} {h : Hp} (k : (tIld 2 (tRetI Q)) l z h) : T G d bc bs mX11_heldByAll 27 l z h Q := by
  refine R_iload_n dX11_heldByAll_27 rfl (fun l z h k => ?_) k
  exact R_iret dX11_heldByAll_28 rfl k
theorem dX11_allHeld_0 : decode cX11_allHeld 0 = .ok (.iconst 0, 1) := by decide +kernel
theorem dX11_allHeld_1 : decode cX11_allHeld 1 = .ok (.istore_n 1, 1) := by decide +kernel
theorem dX11_allHeld_2 : decode cX11_allHeld 2 = .ok (.iconst 0, 1) := by decide +kernel
theorem dX11_allHeld_3 : decode cX11_allHeld 3 = .ok (.istore_n 2, 1) := by decide +kernel
theorem dX11_allHeld_4 : decode cX11_allHeld 4 = .ok (.iload_n 2, 1) := by decide +kernel
theorem dX11_allHeld_5 : decode cX11_allHeld 5 = .ok (.aload_n 0, 1) := by decide +kernel
theorem dX11_allHeld_6 : decode cX11_allHeld 6 = .ok (.getfield 50, 3) := by decide +kernel
theorem dX11_allHeld_9 : decode cX11_allHeld 9 = .ok (.if_icmp .ge 17, 3) := by decide +kernel
theorem dX11_allHeld_12 : decode cX11_allHeld 12 = .ok (.iload_n 1, 1) := by decide +kernel
theorem dX11_allHeld_13 : decode cX11_allHeld 13 = .ok (.aload_n 0, 1) := by decide +kernel
theorem dX11_allHeld_14 : decode cX11_allHeld 14 = .ok (.iload_n 2, 1) := by decide +kernel
theorem dX11_allHeld_15 : decode cX11_allHeld 15 = .ok (.invokevirtual 72, 3) := by decide +kernel
theorem dX11_allHeld_18 : decode cX11_allHeld 18 = .ok (.iadd, 1) := by decide +kernel
theorem dX11_allHeld_19 : decode cX11_allHeld 19 = .ok (.istore_n 1, 1) := by decide +kernel
theorem dX11_allHeld_20 : decode cX11_allHeld 20 = .ok (.iinc 2 1, 3) := by decide +kernel
theorem dX11_allHeld_23 : decode cX11_allHeld 23 = .ok (.goto (-19), 3) := by decide +kernel
theorem dX11_allHeld_26 : decode cX11_allHeld 26 = .ok (.iload_n 1, 1) := by decide +kernel
theorem dX11_allHeld_27 : decode cX11_allHeld 27 = .ok (.ireturn, 1) := by decide +kernel
theorem bX11_allHeld_0 {G : Gt} {d bc bs : Nat} {Q : QT} {l : Ls} {z : List Value} {h : Hp} (k : (tPush (.int 0) (tIst 1 (tPush (.int 0) (tIst 2 ((fun l z h => T G d bc bs mX11_allHeld 4 l z h Q)))))) l z h) : T G d bc bs mX11_allHeld 0 l z h Q := by
  refine R_iconst dX11_allHeld_0 (by decide) (fun l z h k => ?_) k
  refine R_istore_n dX11_allHeld_1 rfl (by decide) (fun l z h k => ?_) k
  refine R_iconst dX11_allHeld_2 (by decide) (fun l z h k => ?_) k
  refine R_istore_n dX11_allHeld_3 rfl (by decide) (fun l z h k => ?_) k
  exact k
theorem bX11_allHeld_4 {G : Gt} {d bc bs : Nat} {Q : QT} {l : Ls} {z : List Value} {h : Hp} (k : (tIld 2 (tAld 0 (tGetf 9 1 (tIf2 (fun x y => y ≤ x) (fun l z h => T G d bc bs mX11_allHeld 26 l z h Q) (fun l z h => T G d bc bs mX11_allHeld 12 l z h Q))))) l z h) : T G d bc bs mX11_allHeld 4 l z h Q := by
  refine R_iload_n dX11_allHeld_4 rfl (fun l z h k => ?_) k
  refine R_aload_n dX11_allHeld_5 rfl (fun l z h k => ?_) k
  refine R_getf (ci := 9) (f := 1) (C := RX11) (N := 14) (Tt := TX11) dX11_allHeld_6 rfl i_X11 (by decide) w_252 (fun l z h k => ?_) k
  exact R_icmp_ge dX11_allHeld_9 (by decide) (fun _ _ _ k => k) (fun _ _ _ k => k) k
theorem bX11_allHeld_12 {G : Gt} {d bc bs : Nat} {Q : QT} {l : Ls} {z : List Value} {h : Hp} (k : (tIld 1 (tAld 0 (tIld 2 (tCV1 G d 0 0 9 mX11_allOf (fun l z h => T G d bc bs mX11_allHeld 18 l z h Q))))) l z h) : T G d bc bs mX11_allHeld 12 l z h Q := by
  refine R_iload_n dX11_allHeld_12 rfl (fun l z h k => ?_) k
  refine R_aload_n dX11_allHeld_13 rfl (fun l z h k => ?_) k
  refine R_iload_n dX11_allHeld_14 rfl (fun l z h k => ?_) k
  exact R_cv1 (M := mX11_allHeld) (pc := 15) (bc := bc) (bs := bs) (cb := 0) (cs := 0) (M' := mX11_allOf) dX11_allHeld_15 rfl (by decide) w_865 w_136 w_862 w_863 w_864 (by decide +kernel) (fun _ _ _ k => k) k
theorem bX11_allHeld_18 {G : Gt} {d bc bs : Nat} {Q : QT} {l : Ls} {z : List Value} {h : Hp} (k : (tB (fun x y => x + y) (tIst 1 (tInc 2 1 ((fun l z h => T G d bc bs mX11_allHeld 4 l z h Q))))) l z h) : T G d bc bs mX11_allHeld 18 l z h Q := by
  refine R_iadd dX11_allHeld_18 (fun l z h k => ?_) k
  refine R_istore_n dX11_allHeld_19 rfl (by decide) (fun l z h k => ?_) k
  refine R_iinc dX11_allHeld_20 (by decide) (by decide) (fun l z h k => ?_) k
  exact R_goto dX11_allHeld_23 (by decide) (fun _ _ _ k => k) k
theorem bX11_allHeld_26 {G : Gt} {d bc bs : Nat} {Q : QT} {l : Ls} {z : List Value} {h : Hp} (k : (tIld 1 (tRetI Q)) l z h) : T G d bc bs mX11_allHeld 26 l z h Q := by
  refine R_iload_n dX11_allHeld_26 rfl (fun l z h k => ?_) k
  exact R_iret dX11_allHeld_27 rfl k
theorem dX11_allGone_0 : decode cX11_allGone 0 = .ok (.iconst 0, 1) := by decide +kernel
theorem dX11_allGone_1 : decode cX11_allGone 1 = .ok (.istore_n 1, 1) := by decide +kernel
theorem dX11_allGone_2 : decode cX11_allGone 2 = .ok (.iconst 0, 1) := by decide +kernel
theorem dX11_allGone_3 : decode cX11_allGone 3 = .ok (.istore_n 2, 1) := by decide +kernel
theorem dX11_allGone_4 : decode cX11_allGone 4 = .ok (.iload_n 2, 1) := by decide +kernel
theorem dX11_allGone_5 : decode cX11_allGone 5 = .ok (.aload_n 0, 1) := by decide +kernel
theorem dX11_allGone_6 : decode cX11_allGone 6 = .ok (.getfield 50, 3) := by decide +kernel
theorem dX11_allGone_9 : decode cX11_allGone 9 = .ok (.if_icmp .ge 18, 3) := by decide +kernel
theorem dX11_allGone_12 : decode cX11_allGone 12 = .ok (.iload_n 1, 1) := by decide +kernel
theorem dX11_allGone_13 : decode cX11_allGone 13 = .ok (.aload_n 0, 1) := by decide +kernel
theorem dX11_allGone_14 : decode cX11_allGone 14 = .ok (.getfield 34, 3) := by decide +kernel
theorem dX11_allGone_17 : decode cX11_allGone 17 = .ok (.iload_n 2, 1) := by decide +kernel
theorem dX11_allGone_18 : decode cX11_allGone 18 = .ok (.iaload, 1) := by decide +kernel
theorem dX11_allGone_19 : decode cX11_allGone 19 = .ok (.iadd, 1) := by decide +kernel
theorem dX11_allGone_20 : decode cX11_allGone 20 = .ok (.istore_n 1, 1) := by decide +kernel
theorem dX11_allGone_21 : decode cX11_allGone 21 = .ok (.iinc 2 1, 3) := by decide +kernel
theorem dX11_allGone_24 : decode cX11_allGone 24 = .ok (.goto (-20), 3) := by decide +kernel
theorem dX11_allGone_27 : decode cX11_allGone 27 = .ok (.iload_n 1, 1) := by decide +kernel
theorem dX11_allGone_28 : decode cX11_allGone 28 = .ok (.ireturn, 1) := by decide +kernel
theorem bX11_allGone_0 {G : Gt} {d bc bs : Nat} {Q : QT} {l : Ls} {z : List Value} {h : Hp} (k : (tPush (.int 0) (tIst 1 (tPush (.int 0) (tIst 2 ((fun l z h => T G d bc bs mX11_allGone 4 l z h Q)))))) l z h) : T G d bc bs mX11_allGone 0 l z h Q := by
  refine R_iconst dX11_allGone_0 (by decide) (fun l z h k => ?_) k
  refine R_istore_n dX11_allGone_1 rfl (by decide) (fun l z h k => ?_) k
  refine R_iconst dX11_allGone_2 (by decide) (fun l z h k => ?_) k
  refine R_istore_n dX11_allGone_3 rfl (by decide) (fun l z h k => ?_) k
  exact k
theorem bX11_allGone_4 {G : Gt} {d bc bs : Nat} {Q : QT} {l : Ls} {z : List Value} {h : Hp} (k : (tIld 2 (tAld 0 (tGetf 9 1 (tIf2 (fun x y => y ≤ x) (fun l z h => T G d bc bs mX11_allGone 27 l z h Q) (fun l z h => T G d bc bs mX11_allGone 12 l z h Q))))) l z h) : T G d bc bs mX11_allGone 4 l z h Q := by
  refine R_iload_n dX11_allGone_4 rfl (fun l z h k => ?_) k
  refine R_aload_n dX11_allGone_5 rfl (fun l z h k => ?_) k
  refine R_getf (ci := 9) (f := 1) (C := RX11) (N := 14) (Tt := TX11) dX11_allGone_6 rfl i_X11 (by decide) w_252 (fun l z h k => ?_) k
  exact R_icmp_ge dX11_allGone_9 (by decide) (fun _ _ _ k => k) (fun _ _ _ k => k) k
theorem bX11_allGone_12 {G : Gt} {d bc bs : Nat} {Q : QT} {l : Ls} {z : List Value} {h : Hp} (k : (tIld 1 (tAld 0 (tGetf 9 10 (tIld 2 (tXald 0 (tB (fun x y => x + y) (tIst 1 (tInc 2 1 ((fun l z h => T G d bc bs mX11_allGone 4 l z h Q)))))))))) l z h) : T G d bc bs mX11_allGone 12 l z h Q := by
  refine R_iload_n dX11_allGone_12 rfl (fun l z h k => ?_) k
  refine R_aload_n dX11_allGone_13 rfl (fun l z h k => ?_) k
  refine R_getf (ci := 9) (f := 10) (C := RX11) (N := 14) (Tt := TX11) dX11_allGone_14 rfl i_X11 (by decide) w_282 (fun l z h k => ?_) k
  refine R_iload_n dX11_allGone_17 rfl (fun l z h k => ?_) k
  refine R_iaload dX11_allGone_18 (fun l z h k => ?_) k
  refine R_iadd dX11_allGone_19 (fun l z h k => ?_) k
  refine R_istore_n dX11_allGone_20 rfl (by decide) (fun l z h k => ?_) k
  refine R_iinc dX11_allGone_21 (by decide) (by decide) (fun l z h k => ?_) k
  exact R_goto dX11_allGone_24 (by decide) (fun _ _ _ k => k) k
theorem bX11_allGone_27 {G : Gt} {d bc bs : Nat} {Q : QT} {l : Ls} {z : List Value} {h : Hp} (k : (tIld 1 (tRetI Q)) l z h) : T G d bc bs mX11_allGone 27 l z h Q := by
  refine R_iload_n dX11_allGone_27 rfl (fun l z h k => ?_) k
  exact R_iret dX11_allGone_28 rfl k
theorem dX11_whoIsAt_0 : decode cX11_whoIsAt 0 = .ok (.iconst 0, 1) := by decide +kernel
theorem dX11_whoIsAt_1 : decode cX11_whoIsAt 1 = .ok (.istore_n 2, 1) := by decide +kernel
theorem dX11_whoIsAt_2 : decode cX11_whoIsAt 2 = .ok (.iconst 0, 1) := by decide +kernel
theorem dX11_whoIsAt_3 : decode cX11_whoIsAt 3 = .ok (.istore_n 3, 1) := by decide +kernel
theorem dX11_whoIsAt_4 : decode cX11_whoIsAt 4 = .ok (.iload_n 3, 1) := by decide +kernel
theorem dX11_whoIsAt_5 : decode cX11_whoIsAt 5 = .ok (.aload_n 0, 1) := by decide +kernel
theorem dX11_whoIsAt_6 : decode cX11_whoIsAt 6 = .ok (.getfield 50, 3) := by decide +kernel
theorem dX11_whoIsAt_9 : decode cX11_whoIsAt 9 = .ok (.if_icmp .ge 25, 3) := by decide +kernel
theorem dX11_whoIsAt_12 : decode cX11_whoIsAt 12 = .ok (.aload_n 0, 1) := by decide +kernel
theorem dX11_whoIsAt_13 : decode cX11_whoIsAt 13 = .ok (.getfield 28, 3) := by decide +kernel
theorem dX11_whoIsAt_16 : decode cX11_whoIsAt 16 = .ok (.iload_n 3, 1) := by decide +kernel
theorem dX11_whoIsAt_17 : decode cX11_whoIsAt 17 = .ok (.iaload, 1) := by decide +kernel
theorem dX11_whoIsAt_18 : decode cX11_whoIsAt 18 = .ok (.iload_n 1, 1) := by decide +kernel
theorem dX11_whoIsAt_19 : decode cX11_whoIsAt 19 = .ok (.if_icmp .ne 9, 3) := by decide +kernel
theorem dX11_whoIsAt_22 : decode cX11_whoIsAt 22 = .ok (.iload_n 2, 1) := by decide +kernel
theorem dX11_whoIsAt_23 : decode cX11_whoIsAt 23 = .ok (.iconst 1, 1) := by decide +kernel
theorem dX11_whoIsAt_24 : decode cX11_whoIsAt 24 = .ok (.iload_n 3, 1) := by decide +kernel
theorem dX11_whoIsAt_25 : decode cX11_whoIsAt 25 = .ok (.ishl, 1) := by decide +kernel
theorem dX11_whoIsAt_26 : decode cX11_whoIsAt 26 = .ok (.ior, 1) := by decide +kernel
theorem dX11_whoIsAt_27 : decode cX11_whoIsAt 27 = .ok (.istore_n 2, 1) := by decide +kernel
theorem dX11_whoIsAt_28 : decode cX11_whoIsAt 28 = .ok (.iinc 3 1, 3) := by decide +kernel
theorem dX11_whoIsAt_31 : decode cX11_whoIsAt 31 = .ok (.goto (-27), 3) := by decide +kernel
theorem dX11_whoIsAt_34 : decode cX11_whoIsAt 34 = .ok (.iload_n 2, 1) := by decide +kernel
theorem dX11_whoIsAt_35 : decode cX11_whoIsAt 35 = .ok (.ireturn, 1) := by decide +kernel
theorem bX11_whoIsAt_0 {G : Gt} {d bc bs : Nat} {Q : QT} {l : Ls} {z : List Value} {h : Hp} (k : (tPush (.int 0) (tIst 2 (tPush (.int 0) (tIst 3 ((fun l z h => T G d bc bs mX11_whoIsAt 4 l z h Q)))))) l z h) : T G d bc bs mX11_whoIsAt 0 l z h Q := by
  refine R_iconst dX11_whoIsAt_0 (by decide) (fun l z h k => ?_) k
  refine R_istore_n dX11_whoIsAt_1 rfl (by decide) (fun l z h k => ?_) k
  refine R_iconst dX11_whoIsAt_2 (by decide) (fun l z h k => ?_) k
  refine R_istore_n dX11_whoIsAt_3 rfl (by decide) (fun l z h k => ?_) k
  exact k
theorem bX11_whoIsAt_4 {G : Gt} {d bc bs : Nat} {Q : QT} {l : Ls} {z : List Value} {h : Hp} (k : (tIld 3 (tAld 0 (tGetf 9 1 (tIf2 (fun x y => y ≤ x) (fun l z h => T G d bc bs mX11_whoIsAt 34 l z h Q) (fun l z h => T G d bc bs mX11_whoIsAt 12 l z h Q))))) l z h) : T G d bc bs mX11_whoIsAt 4 l z h Q := by
  refine R_iload_n dX11_whoIsAt_4 rfl (fun l z h k => ?_) k
  refine R_aload_n dX11_whoIsAt_5 rfl (fun l z h k => ?_) k
  refine R_getf (ci := 9) (f := 1) (C := RX11) (N := 14) (Tt := TX11) dX11_whoIsAt_6 rfl i_X11 (by decide) w_252 (fun l z h k => ?_) k
  exact R_icmp_ge dX11_whoIsAt_9 (by decide) (fun _ _ _ k => k) (fun _ _ _ k => k) k
theorem bX11_whoIsAt_12 {G : Gt} {d bc bs : Nat} {Q : QT} {l : Ls} {z : List Value} {h : Hp} (k : (tAld 0 (tGetf 9 8 (tIld 3 (tXald 0 (tIld 1 (tIf2 (fun x y => x = y) (fun l z h => T G d bc bs mX11_whoIsAt 22 l z h Q) (fun l z h => T G d bc bs mX11_whoIsAt 28 l z h Q))))))) l z h) : T G d bc bs mX11_whoIsAt 12 l z h Q := by
  refine R_aload_n dX11_whoIsAt_12 rfl (fun l z h k => ?_) k
  refine R_getf (ci := 9) (f := 8) (C := RX11) (N := 14) (Tt := TX11) dX11_whoIsAt_13 rfl i_X11 (by decide) w_275 (fun l z h k => ?_) k
  refine R_iload_n dX11_whoIsAt_16 rfl (fun l z h k => ?_) k
  refine R_iaload dX11_whoIsAt_17 (fun l z h k => ?_) k
  refine R_iload_n dX11_whoIsAt_18 rfl (fun l z h k => ?_) k
  exact R_icmp_ne dX11_whoIsAt_19 (by decide) (fun _ _ _ k => k) (fun _ _ _ k => k) k
theorem bX11_whoIsAt_22 {G : Gt} {d bc bs : Nat} {Q : QT} {l : Ls} {z : List Value} {h : Hp} (k : (tIld 2 (tPush (.int 1) (tIld 3 (tB (fun x y => x <<< (y &&& 31)) (tB (fun x y => x ||| y) (tIst 2 ((fun l z h => T G d bc bs mX11_whoIsAt 28 l z h Q)))))))) l z h) : T G d bc bs mX11_whoIsAt 22 l z h Q := by
  refine R_iload_n dX11_whoIsAt_22 rfl (fun l z h k => ?_) k
  refine R_iconst dX11_whoIsAt_23 (by decide) (fun l z h k => ?_) k
  refine R_iload_n dX11_whoIsAt_24 rfl (fun l z h k => ?_) k
  refine R_ishl dX11_whoIsAt_25 (fun l z h k => ?_) k
  refine R_ior dX11_whoIsAt_26 (fun l z h k => ?_) k
  refine R_istore_n dX11_whoIsAt_27 rfl (by decide) (fun l z h k => ?_) k
  exact k
theorem bX11_whoIsAt_28 {G : Gt} {d bc bs : Nat} {Q : QT} {l : Ls} {z : List Value} {h : Hp} (k : (tInc 3 1 ((fun l z h => T G d bc bs mX11_whoIsAt 4 l z h Q))) l z h) : T G d bc bs mX11_whoIsAt 28 l z h Q := by
  refine R_iinc dX11_whoIsAt_28 (by decide) (by decide) (fun l z h k => ?_) k
  exact R_goto dX11_whoIsAt_31 (by decide) (fun _ _ _ k => k) k
theorem bX11_whoIsAt_34 {G : Gt} {d bc bs : Nat} {Q : QT} {l : Ls} {z : List Value} {h : Hp} (k : (tIld 2 (tRetI Q)) l z h) : T G d bc bs mX11_whoIsAt 34 l z h Q := by
  refine R_iload_n dX11_whoIsAt_34 rfl (fun l z h k => ?_) k
  exact R_iret dX11_whoIsAt_35 rfl k
theorem dX11_lackedBits_0 : decode cX11_lackedBits 0 = .ok (.iconst 0, 1) := by decide +kernel
theorem dX11_lackedBits_1 : decode cX11_lackedBits 1 = .ok (.istore_n 3, 1) := by decide +kernel
theorem dX11_lackedBits_2 : decode cX11_lackedBits 2 = .ok (.iconst 0, 1) := by decide +kernel
theorem dX11_lackedBits_3 : decode cX11_lackedBits 3 = .ok (.istore 4, 2) := by decide +kernel
theorem dX11_lackedBits_5 : decode cX11_lackedBits 5 = .ok (.iload 4, 2) := by decide +kernel
theorem dX11_lackedBits_7 : decode cX11_lackedBits 7 = .ok (.aload_n 0, 1) := by decide +kernel
theorem dX11_lackedBits_8 : decode cX11_lackedBits 8 = .ok (.getfield 46, 3) := by decide +kernel
theorem dX11_lackedBits_11 : decode cX11_lackedBits 11 = .ok (.if_icmp .ge 33, 3) := by decide +kernel
theorem dX11_lackedBits_14 : decode cX11_lackedBits 14 = .ok (.aload_n 0, 1) := by decide +kernel
theorem dX11_lackedBits_15 : decode cX11_lackedBits 15 = .ok (.iload_n 1, 1) := by decide +kernel
theorem dX11_lackedBits_16 : decode cX11_lackedBits 16 = .ok (.iload 4, 2) := by decide +kernel
theorem dX11_lackedBits_18 : decode cX11_lackedBits 18 = .ok (.invokevirtual 68, 3) := by decide +kernel
theorem dX11_lackedBits_21 : decode cX11_lackedBits 21 = .ok (.aload_n 0, 1) := by decide +kernel
theorem dX11_lackedBits_22 : decode cX11_lackedBits 22 = .ok (.iload_n 2, 1) := by decide +kernel
theorem dX11_lackedBits_23 : decode cX11_lackedBits 23 = .ok (.iload 4, 2) := by decide +kernel
theorem dX11_lackedBits_25 : decode cX11_lackedBits 25 = .ok (.invokevirtual 76, 3) := by decide +kernel
theorem dX11_lackedBits_28 : decode cX11_lackedBits 28 = .ok (.if_icmp .ge 10, 3) := by decide +kernel
theorem dX11_lackedBits_31 : decode cX11_lackedBits 31 = .ok (.iload_n 3, 1) := by decide +kernel
theorem dX11_lackedBits_32 : decode cX11_lackedBits 32 = .ok (.iconst 1, 1) := by decide +kernel
theorem dX11_lackedBits_33 : decode cX11_lackedBits 33 = .ok (.iload 4, 2) := by decide +kernel
theorem dX11_lackedBits_35 : decode cX11_lackedBits 35 = .ok (.ishl, 1) := by decide +kernel
theorem dX11_lackedBits_36 : decode cX11_lackedBits 36 = .ok (.ior, 1) := by decide +kernel
theorem dX11_lackedBits_37 : decode cX11_lackedBits 37 = .ok (.istore_n 3, 1) := by decide +kernel
theorem dX11_lackedBits_38 : decode cX11_lackedBits 38 = .ok (.iinc 4 1, 3) := by decide +kernel
theorem dX11_lackedBits_41 : decode cX11_lackedBits 41 = .ok (.goto (-36), 3) := by decide +kernel
theorem dX11_lackedBits_44 : decode cX11_lackedBits 44 = .ok (.iload_n 3, 1) := by decide +kernel
theorem dX11_lackedBits_45 : decode cX11_lackedBits 45 = .ok (.ireturn, 1) := by decide +kernel
theorem bX11_lackedBits_0 {G : Gt} {d bc bs : Nat} {Q : QT} {l : Ls} {z : List Value} {h : Hp} (k : (tPush (.int 0) (tIst 3 (tPush (.int 0) (tIst 4 ((fun l z h => T G d bc bs mX11_lackedBits 5 l z h Q)))))) l z h) : T G d bc bs mX11_lackedBits 0 l z h Q := by
  refine R_iconst dX11_lackedBits_0 (by decide) (fun l z h k => ?_) k
  refine R_istore_n dX11_lackedBits_1 rfl (by decide) (fun l z h k => ?_) k
  refine R_iconst dX11_lackedBits_2 (by decide) (fun l z h k => ?_) k
  refine R_istore dX11_lackedBits_3 (by decide) (fun l z h k => ?_) k
  exact k
theorem bX11_lackedBits_5 {G : Gt} {d bc bs : Nat} {Q : QT} {l : Ls} {z : List Value} {h : Hp} (k : (tIld 4 (tAld 0 (tGetf 9 0 (tIf2 (fun x y => y ≤ x) (fun l z h => T G d bc bs mX11_lackedBits 44 l z h Q) (fun l z h => T G d bc bs mX11_lackedBits 14 l z h Q))))) l z h) : T G d bc bs mX11_lackedBits 5 l z h Q := by
  refine R_iload dX11_lackedBits_5 (fun l z h k => ?_) k
  refine R_aload_n dX11_lackedBits_7 rfl (fun l z h k => ?_) k
  refine R_getf (ci := 9) (f := 0) (C := RX11) (N := 14) (Tt := TX11) dX11_lackedBits_8 rfl i_X11 (by decide) w_248 (fun l z h k => ?_) k
  exact R_icmp_ge dX11_lackedBits_11 (by decide) (fun _ _ _ k => k) (fun _ _ _ k => k) k
theorem bX11_lackedBits_14 {G : Gt} {d bc bs : Nat} {Q : QT} {l : Ls} {z : List Value} {h : Hp} (k : (tAld 0 (tIld 1 (tIld 4 (tCV2 G d 0 0 9 mX11_held (fun l z h => T G d bc bs mX11_lackedBits 21 l z h Q))))) l z h) : T G d bc bs mX11_lackedBits 14 l z h Q := by
  refine R_aload_n dX11_lackedBits_14 rfl (fun l z h k => ?_) k
  refine R_iload_n dX11_lackedBits_15 rfl (fun l z h k => ?_) k
  refine R_iload dX11_lackedBits_16 (fun l z h k => ?_) k
  exact R_cv2 (M := mX11_lackedBits) (pc := 18) (bc := bc) (bs := bs) (cb := 0) (cs := 0) (M' := mX11_held) dX11_lackedBits_18 rfl (by decide) w_739 w_136 w_824 w_737 w_738 (by decide +kernel) (fun _ _ _ k => k) k
theorem bX11_lackedBits_21 {G : Gt} {d bc bs : Nat} {Q : QT} {l : Ls} {z : List Value} {h : Hp} (k : (tAld 0 (tIld 2 (tIld 4 (tCV2 G d 0 0 9 mX11_askedAt (fun l z h => T G d bc bs mX11_lackedBits 28 l z h Q))))) l z h) : T G d bc bs mX11_lackedBits 21 l z h Q := by
  refine R_aload_n dX11_lackedBits_21 rfl (fun l z h k => ?_) k
  refine R_iload_n dX11_lackedBits_22 rfl (fun l z h k => ?_) k
  refine R_iload dX11_lackedBits_23 (fun l z h k => ?_) k
  exact R_cv2 (M := mX11_lackedBits) (pc := 25) (bc := bc) (bs := bs) (cb := 0) (cs := 0) (M' := mX11_askedAt) dX11_lackedBits_25 rfl (by decide) w_753 w_136 w_853 w_751 w_752 (by decide +kernel) (fun _ _ _ k => k) k
theorem bX11_lackedBits_28 {G : Gt} {d bc bs : Nat} {Q : QT} {l : Ls} {z : List Value} {h : Hp} (k : (tIf2 (fun x y => y ≤ x) (fun l z h => T G d bc bs mX11_lackedBits 38 l z h Q) (fun l z h => T G d bc bs mX11_lackedBits 31 l z h Q)) l z h) : T G d bc bs mX11_lackedBits 28 l z h Q := by
  exact R_icmp_ge dX11_lackedBits_28 (by decide) (fun _ _ _ k => k) (fun _ _ _ k => k) k
theorem bX11_lackedBits_31 {G : Gt} {d bc bs : Nat} {Q : QT} {l : Ls} {z : List Value} {h : Hp} (k : (tIld 3 (tPush (.int 1) (tIld 4 (tB (fun x y => x <<< (y &&& 31)) (tB (fun x y => x ||| y) (tIst 3 ((fun l z h => T G d bc bs mX11_lackedBits 38 l z h Q)))))))) l z h) : T G d bc bs mX11_lackedBits 31 l z h Q := by
  refine R_iload_n dX11_lackedBits_31 rfl (fun l z h k => ?_) k
  refine R_iconst dX11_lackedBits_32 (by decide) (fun l z h k => ?_) k
  refine R_iload dX11_lackedBits_33 (fun l z h k => ?_) k
  refine R_ishl dX11_lackedBits_35 (fun l z h k => ?_) k
  refine R_ior dX11_lackedBits_36 (fun l z h k => ?_) k
  refine R_istore_n dX11_lackedBits_37 rfl (by decide) (fun l z h k => ?_) k
  exact k
theorem bX11_lackedBits_38 {G : Gt} {d bc bs : Nat} {Q : QT} {l : Ls} {z : List Value} {h : Hp} (k : (tInc 4 1 ((fun l z h => T G d bc bs mX11_lackedBits 5 l z h Q))) l z h) : T G d bc bs mX11_lackedBits 38 l z h Q := by
  refine R_iinc dX11_lackedBits_38 (by decide) (by decide) (fun l z h k => ?_) k
  exact R_goto dX11_lackedBits_41 (by decide) (fun _ _ _ k => k) k
theorem bX11_lackedBits_44 {G : Gt} {d bc bs : Nat} {Q : QT} {l : Ls} {z : List Value} {h : Hp} (k : (tIld 3 (tRetI Q)) l z h) : T G d bc bs mX11_lackedBits 44 l z h Q := by
  refine R_iload_n dX11_lackedBits_44 rfl (fun l z h k => ?_) k
  exact R_iret dX11_lackedBits_45 rfl k
theorem dX11_couldPay_0 : decode cX11_couldPay 0 = .ok (.aload_n 0, 1) := by decide +kernel
theorem dX11_couldPay_1 : decode cX11_couldPay 1 = .ok (.iload_n 1, 1) := by decide +kernel
theorem dX11_couldPay_2 : decode cX11_couldPay 2 = .ok (.iload_n 2, 1) := by decide +kernel
theorem dX11_couldPay_3 : decode cX11_couldPay 3 = .ok (.invokevirtual 79, 3) := by decide +kernel
theorem dX11_couldPay_6 : decode cX11_couldPay 6 = .ok (.ifCond .ne 7, 3) := by decide +kernel
theorem dX11_couldPay_9 : decode cX11_couldPay 9 = .ok (.iconst 1, 1) := by decide +kernel
theorem dX11_couldPay_10 : decode cX11_couldPay 10 = .ok (.goto 4, 3) := by decide +kernel
theorem dX11_couldPay_13 : decode cX11_couldPay 13 = .ok (.iconst 0, 1) := by decide +kernel
theorem dX11_couldPay_14 : decode cX11_couldPay 14 = .ok (.ireturn, 1) := by decide +kernel
theorem bX11_couldPay_0 {G : Gt} {d bc bs : Nat} {Q : QT} {l : Ls} {z : List Value} {h : Hp} (k : (tAld 0 (tIld 1 (tIld 2 (tCV2 G d 0 0 9 mX11_lackedBits (fun l z h => T G d bc bs mX11_couldPay 6 l z h Q))))) l z h) : T G d bc bs mX11_couldPay 0 l z h Q := by
  refine R_aload_n dX11_couldPay_0 rfl (fun l z h k => ?_) k
  refine R_iload_n dX11_couldPay_1 rfl (fun l z h k => ?_) k
  refine R_iload_n dX11_couldPay_2 rfl (fun l z h k => ?_) k
  exact R_cv2 (M := mX11_couldPay) (pc := 3) (bc := bc) (bs := bs) (cb := 0) (cs := 0) (M' := mX11_lackedBits) dX11_couldPay_3 rfl (by decide) w_852 w_136 w_849 w_850 w_851 (by decide +kernel) (fun _ _ _ k => k) k
theorem bX11_couldPay_6 {G : Gt} {d bc bs : Nat} {Q : QT} {l : Ls} {z : List Value} {h : Hp} (k : (tIf (fun x => x = 0) (fun l z h => T G d bc bs mX11_couldPay 9 l z h Q) (fun l z h => T G d bc bs mX11_couldPay 13 l z h Q)) l z h) : T G d bc bs mX11_couldPay 6 l z h Q := by
  exact R_if_ne dX11_couldPay_6 (by decide) (fun _ _ _ k => k) (fun _ _ _ k => k) k
theorem bX11_couldPay_9 {G : Gt} {d bc bs : Nat} {Q : QT} {l : Ls} {z : List Value} {h : Hp} (k : (tPush (.int 1) ((fun l z h => T G d bc bs mX11_couldPay 14 l z h Q))) l z h) : T G d bc bs mX11_couldPay 9 l z h Q := by
  refine R_iconst dX11_couldPay_9 (by decide) (fun l z h k => ?_) k
  exact R_goto dX11_couldPay_10 (by decide) (fun _ _ _ k => k) k
theorem bX11_couldPay_13 {G : Gt} {d bc bs : Nat} {Q : QT} {l : Ls} {z : List Value} {h : Hp} (k : (tPush (.int 0) ((fun l z h => T G d bc bs mX11_couldPay 14 l z h Q))) l z h) : T G d bc bs mX11_couldPay 13 l z h Q := by
  refine R_iconst dX11_couldPay_13 (by decide) (fun l z h k => ?_) k
  exact k
theorem bX11_couldPay_14 {G : Gt} {d bc bs : Nat} {Q : QT} {l : Ls} {z : List Value} {h : Hp} (k : (tRetZ Q) l z h) : T G d bc bs mX11_couldPay 14 l z h Q := by
  exact R_zret dX11_couldPay_14 rfl k
theorem dX11_whoCouldPay_0 : decode cX11_whoCouldPay 0 = .ok (.iconst 0, 1) := by decide +kernel
theorem dX11_whoCouldPay_1 : decode cX11_whoCouldPay 1 = .ok (.istore_n 1, 1) := by decide +kernel
theorem dX11_whoCouldPay_2 : decode cX11_whoCouldPay 2 = .ok (.iconst 0, 1) := by decide +kernel
theorem dX11_whoCouldPay_3 : decode cX11_whoCouldPay 3 = .ok (.istore_n 2, 1) := by decide +kernel
theorem dX11_whoCouldPay_4 : decode cX11_whoCouldPay 4 = .ok (.iload_n 2, 1) := by decide +kernel
theorem dX11_whoCouldPay_5 : decode cX11_whoCouldPay 5 = .ok (.aload_n 0, 1) := by decide +kernel
theorem dX11_whoCouldPay_6 : decode cX11_whoCouldPay 6 = .ok (.getfield 50, 3) := by decide +kernel
theorem dX11_whoCouldPay_9 : decode cX11_whoCouldPay 9 = .ok (.if_icmp .ge 29, 3) := by decide +kernel
theorem dX11_whoCouldPay_12 : decode cX11_whoCouldPay 12 = .ok (.aload_n 0, 1) := by decide +kernel
theorem dX11_whoCouldPay_13 : decode cX11_whoCouldPay 13 = .ok (.iload_n 2, 1) := by decide +kernel
theorem dX11_whoCouldPay_14 : decode cX11_whoCouldPay 14 = .ok (.aload_n 0, 1) := by decide +kernel
theorem dX11_whoCouldPay_15 : decode cX11_whoCouldPay 15 = .ok (.getfield 25, 3) := by decide +kernel
theorem dX11_whoCouldPay_18 : decode cX11_whoCouldPay 18 = .ok (.iload_n 2, 1) := by decide +kernel
theorem dX11_whoCouldPay_19 : decode cX11_whoCouldPay 19 = .ok (.iaload, 1) := by decide +kernel
theorem dX11_whoCouldPay_20 : decode cX11_whoCouldPay 20 = .ok (.invokevirtual 82, 3) := by decide +kernel
theorem dX11_whoCouldPay_23 : decode cX11_whoCouldPay 23 = .ok (.ifCond .eq 9, 3) := by decide +kernel
theorem dX11_whoCouldPay_26 : decode cX11_whoCouldPay 26 = .ok (.iload_n 1, 1) := by decide +kernel
theorem dX11_whoCouldPay_27 : decode cX11_whoCouldPay 27 = .ok (.iconst 1, 1) := by decide +kernel
theorem dX11_whoCouldPay_28 : decode cX11_whoCouldPay 28 = .ok (.iload_n 2, 1) := by decide +kernel
theorem dX11_whoCouldPay_29 : decode cX11_whoCouldPay 29 = .ok (.ishl, 1) := by decide +kernel
theorem dX11_whoCouldPay_30 : decode cX11_whoCouldPay 30 = .ok (.ior, 1) := by decide +kernel
theorem dX11_whoCouldPay_31 : decode cX11_whoCouldPay 31 = .ok (.istore_n 1, 1) := by decide +kernel
theorem dX11_whoCouldPay_32 : decode cX11_whoCouldPay 32 = .ok (.iinc 2 1, 3) := by decide +kernel
theorem dX11_whoCouldPay_35 : decode cX11_whoCouldPay 35 = .ok (.goto (-31), 3) := by decide +kernel
theorem dX11_whoCouldPay_38 : decode cX11_whoCouldPay 38 = .ok (.iload_n 1, 1) := by decide +kernel
theorem dX11_whoCouldPay_39 : decode cX11_whoCouldPay 39 = .ok (.ireturn, 1) := by decide +kernel
theorem bX11_whoCouldPay_0 {G : Gt} {d bc bs : Nat} {Q : QT} {l : Ls} {z : List Value} {h : Hp} (k : (tPush (.int 0) (tIst 1 (tPush (.int 0) (tIst 2 ((fun l z h => T G d bc bs mX11_whoCouldPay 4 l z h Q)))))) l z h) : T G d bc bs mX11_whoCouldPay 0 l z h Q := by
  refine R_iconst dX11_whoCouldPay_0 (by decide) (fun l z h k => ?_) k
  refine R_istore_n dX11_whoCouldPay_1 rfl (by decide) (fun l z h k => ?_) k
  refine R_iconst dX11_whoCouldPay_2 (by decide) (fun l z h k => ?_) k
  refine R_istore_n dX11_whoCouldPay_3 rfl (by decide) (fun l z h k => ?_) k
  exact k
theorem bX11_whoCouldPay_4 {G : Gt} {d bc bs : Nat} {Q : QT} {l : Ls} {z : List Value} {h : Hp} (k : (tIld 2 (tAld 0 (tGetf 9 1 (tIf2 (fun x y => y ≤ x) (fun l z h => T G d bc bs mX11_whoCouldPay 38 l z h Q) (fun l z h => T G d bc bs mX11_whoCouldPay 12 l z h Q))))) l z h) : T G d bc bs mX11_whoCouldPay 4 l z h Q := by
  refine R_iload_n dX11_whoCouldPay_4 rfl (fun l z h k => ?_) k
  refine R_aload_n dX11_whoCouldPay_5 rfl (fun l z h k => ?_) k
  refine R_getf (ci := 9) (f := 1) (C := RX11) (N := 14) (Tt := TX11) dX11_whoCouldPay_6 rfl i_X11 (by decide) w_252 (fun l z h k => ?_) k
  exact R_icmp_ge dX11_whoCouldPay_9 (by decide) (fun _ _ _ k => k) (fun _ _ _ k => k) k
theorem bX11_whoCouldPay_12 {G : Gt} {d bc bs : Nat} {Q : QT} {l : Ls} {z : List Value} {h : Hp} (k : (tAld 0 (tIld 2 (tAld 0 (tGetf 9 7 (tIld 2 (tXald 0 (tCV2 G d 0 0 9 mX11_couldPay (fun l z h => T G d bc bs mX11_whoCouldPay 23 l z h Q)))))))) l z h) : T G d bc bs mX11_whoCouldPay 12 l z h Q := by
  refine R_aload_n dX11_whoCouldPay_12 rfl (fun l z h k => ?_) k
  refine R_iload_n dX11_whoCouldPay_13 rfl (fun l z h k => ?_) k
  refine R_aload_n dX11_whoCouldPay_14 rfl (fun l z h k => ?_) k
  refine R_getf (ci := 9) (f := 7) (C := RX11) (N := 14) (Tt := TX11) dX11_whoCouldPay_15 rfl i_X11 (by decide) w_271 (fun l z h k => ?_) k
  refine R_iload_n dX11_whoCouldPay_18 rfl (fun l z h k => ?_) k
  refine R_iaload dX11_whoCouldPay_19 (fun l z h k => ?_) k
  exact R_cv2 (M := mX11_whoCouldPay) (pc := 20) (bc := bc) (bs := bs) (cb := 0) (cs := 0) (M' := mX11_couldPay) dX11_whoCouldPay_20 rfl (by decide) w_848 w_136 w_845 w_846 w_847 (by decide +kernel) (fun _ _ _ k => k) k
theorem bX11_whoCouldPay_23 {G : Gt} {d bc bs : Nat} {Q : QT} {l : Ls} {z : List Value} {h : Hp} (k : (tIf (fun x => x = 0) (fun l z h => T G d bc bs mX11_whoCouldPay 32 l z h Q) (fun l z h => T G d bc bs mX11_whoCouldPay 26 l z h Q)) l z h) : T G d bc bs mX11_whoCouldPay 23 l z h Q := by
  exact R_if_eq dX11_whoCouldPay_23 (by decide) (fun _ _ _ k => k) (fun _ _ _ k => k) k
theorem bX11_whoCouldPay_26 {G : Gt} {d bc bs : Nat} {Q : QT} {l : Ls} {z : List Value} {h : Hp} (k : (tIld 1 (tPush (.int 1) (tIld 2 (tB (fun x y => x <<< (y &&& 31)) (tB (fun x y => x ||| y) (tIst 1 ((fun l z h => T G d bc bs mX11_whoCouldPay 32 l z h Q)))))))) l z h) : T G d bc bs mX11_whoCouldPay 26 l z h Q := by
  refine R_iload_n dX11_whoCouldPay_26 rfl (fun l z h k => ?_) k
  refine R_iconst dX11_whoCouldPay_27 (by decide) (fun l z h k => ?_) k
  refine R_iload_n dX11_whoCouldPay_28 rfl (fun l z h k => ?_) k
  refine R_ishl dX11_whoCouldPay_29 (fun l z h k => ?_) k
  refine R_ior dX11_whoCouldPay_30 (fun l z h k => ?_) k
  refine R_istore_n dX11_whoCouldPay_31 rfl (by decide) (fun l z h k => ?_) k
  exact k
theorem bX11_whoCouldPay_32 {G : Gt} {d bc bs : Nat} {Q : QT} {l : Ls} {z : List Value} {h : Hp} (k : (tInc 2 1 ((fun l z h => T G d bc bs mX11_whoCouldPay 4 l z h Q))) l z h) : T G d bc bs mX11_whoCouldPay 32 l z h Q := by
  refine R_iinc dX11_whoCouldPay_32 (by decide) (by decide) (fun l z h k => ?_) k
  exact R_goto dX11_whoCouldPay_35 (by decide) (fun _ _ _ k => k) k
theorem bX11_whoCouldPay_38 {G : Gt} {d bc bs : Nat} {Q : QT} {l : Ls} {z : List Value} {h : Hp} (k : (tIld 1 (tRetI Q)) l z h) : T G d bc bs mX11_whoCouldPay 38 l z h Q := by
  refine R_iload_n dX11_whoCouldPay_38 rfl (fun l z h k => ?_) k
  exact R_iret dX11_whoCouldPay_39 rfl k
theorem dX11_isAtWanted_0 : decode cX11_isAtWanted 0 = .ok (.aload_n 0, 1) := by decide +kernel
theorem dX11_isAtWanted_1 : decode cX11_isAtWanted 1 = .ok (.getfield 28, 3) := by decide +kernel
theorem dX11_isAtWanted_4 : decode cX11_isAtWanted 4 = .ok (.iload_n 1, 1) := by decide +kernel
theorem dX11_isAtWanted_5 : decode cX11_isAtWanted 5 = .ok (.iaload, 1) := by decide +kernel
theorem dX11_isAtWanted_6 : decode cX11_isAtWanted 6 = .ok (.aload_n 0, 1) := by decide +kernel
theorem dX11_isAtWanted_7 : decode cX11_isAtWanted 7 = .ok (.getfield 25, 3) := by decide +kernel
theorem dX11_isAtWanted_10 : decode cX11_isAtWanted 10 = .ok (.iload_n 1, 1) := by decide +kernel
theorem dX11_isAtWanted_11 : decode cX11_isAtWanted 11 = .ok (.iaload, 1) := by decide +kernel
theorem dX11_isAtWanted_12 : decode cX11_isAtWanted 12 = .ok (.invokestatic 86, 3) := by decide +kernel
theorem dX11_isAtWanted_15 : decode cX11_isAtWanted 15 = .ok (.if_icmp .ne 7, 3) := by decide +kernel
theorem dX11_isAtWanted_18 : decode cX11_isAtWanted 18 = .ok (.iconst 1, 1) := by decide +kernel
theorem dX11_isAtWanted_19 : decode cX11_isAtWanted 19 = .ok (.goto 4, 3) := by decide +kernel
theorem dX11_isAtWanted_22 : decode cX11_isAtWanted 22 = .ok (.iconst 0, 1) := by decide +kernel
theorem dX11_isAtWanted_23 : decode cX11_isAtWanted 23 = .ok (.ireturn, 1) := by decide +kernel
theorem bX11_isAtWanted_0 {G : Gt} {d bc bs : Nat} {Q : QT} {l : Ls} {z : List Value} {h : Hp} (k : (tAld 0 (tGetf 9 8 (tIld 1 (tXald 0 (tAld 0 (tGetf 9 7 (tIld 1 (tXald 0 (tCS1 G d 0 0 mX12_placeOf (fun l z h => T G d bc bs mX11_isAtWanted 15 l z h Q)))))))))) l z h) : T G d bc bs mX11_isAtWanted 0 l z h Q := by
  refine R_aload_n dX11_isAtWanted_0 rfl (fun l z h k => ?_) k
  refine R_getf (ci := 9) (f := 8) (C := RX11) (N := 14) (Tt := TX11) dX11_isAtWanted_1 rfl i_X11 (by decide) w_275 (fun l z h k => ?_) k
  refine R_iload_n dX11_isAtWanted_4 rfl (fun l z h k => ?_) k
  refine R_iaload dX11_isAtWanted_5 (fun l z h k => ?_) k
  refine R_aload_n dX11_isAtWanted_6 rfl (fun l z h k => ?_) k
  refine R_getf (ci := 9) (f := 7) (C := RX11) (N := 14) (Tt := TX11) dX11_isAtWanted_7 rfl i_X11 (by decide) w_271 (fun l z h k => ?_) k
  refine R_iload_n dX11_isAtWanted_10 rfl (fun l z h k => ?_) k
  refine R_iaload dX11_isAtWanted_11 (fun l z h k => ?_) k
  exact R_csN1 (M := mX11_isAtWanted) (pc := 12) (bc := bc) (bs := bs) (cb := 0) (cs := 0) (M' := mX12_placeOf) dX11_isAtWanted_12 (by decide) w_1142 w_130 n_1140 w_1141 (by decide +kernel) (fun _ _ _ k => k) k
theorem bX11_isAtWanted_15 {G : Gt} {d bc bs : Nat} {Q : QT} {l : Ls} {z : List Value} {h : Hp} (k : (tIf2 (fun x y => x = y) (fun l z h => T G d bc bs mX11_isAtWanted 18 l z h Q) (fun l z h => T G d bc bs mX11_isAtWanted 22 l z h Q)) l z h) : T G d bc bs mX11_isAtWanted 15 l z h Q := by
  exact R_icmp_ne dX11_isAtWanted_15 (by decide) (fun _ _ _ k => k) (fun _ _ _ k => k) k
theorem bX11_isAtWanted_18 {G : Gt} {d bc bs : Nat} {Q : QT} {l : Ls} {z : List Value} {h : Hp} (k : (tPush (.int 1) ((fun l z h => T G d bc bs mX11_isAtWanted 23 l z h Q))) l z h) : T G d bc bs mX11_isAtWanted 18 l z h Q := by
  refine R_iconst dX11_isAtWanted_18 (by decide) (fun l z h k => ?_) k
  exact R_goto dX11_isAtWanted_19 (by decide) (fun _ _ _ k => k) k
theorem bX11_isAtWanted_22 {G : Gt} {d bc bs : Nat} {Q : QT} {l : Ls} {z : List Value} {h : Hp} (k : (tPush (.int 0) ((fun l z h => T G d bc bs mX11_isAtWanted 23 l z h Q))) l z h) : T G d bc bs mX11_isAtWanted 22 l z h Q := by
  refine R_iconst dX11_isAtWanted_22 (by decide) (fun l z h k => ?_) k
  exact k
theorem bX11_isAtWanted_23 {G : Gt} {d bc bs : Nat} {Q : QT} {l : Ls} {z : List Value} {h : Hp} (k : (tRetZ Q) l z h) : T G d bc bs mX11_isAtWanted 23 l z h Q := by
  exact R_zret dX11_isAtWanted_23 rfl k
theorem dX11_whoCouldPassFor_0 : decode cX11_whoCouldPassFor 0 = .ok (.iconst 0, 1) := by decide +kernel
theorem dX11_whoCouldPassFor_1 : decode cX11_whoCouldPassFor 1 = .ok (.istore_n 2, 1) := by decide +kernel
theorem dX11_whoCouldPassFor_2 : decode cX11_whoCouldPassFor 2 = .ok (.iconst 0, 1) := by decide +kernel
theorem dX11_whoCouldPassFor_3 : decode cX11_whoCouldPassFor 3 = .ok (.istore_n 3, 1) := by decide +kernel
theorem dX11_whoCouldPassFor_4 : decode cX11_whoCouldPassFor 4 = .ok (.iload_n 3, 1) := by decide +kernel
theorem dX11_whoCouldPassFor_5 : decode cX11_whoCouldPassFor 5 = .ok (.aload_n 0, 1) := by decide +kernel
theorem dX11_whoCouldPassFor_6 : decode cX11_whoCouldPassFor 6 = .ok (.getfield 50, 3) := by decide +kernel
theorem dX11_whoCouldPassFor_9 : decode cX11_whoCouldPassFor 9 = .ok (.if_icmp .ge 29, 3) := by decide +kernel
theorem dX11_whoCouldPassFor_12 : decode cX11_whoCouldPassFor 12 = .ok (.iload_n 3, 1) := by decide +kernel
theorem dX11_whoCouldPassFor_13 : decode cX11_whoCouldPassFor 13 = .ok (.iload_n 1, 1) := by decide +kernel
theorem dX11_whoCouldPassFor_14 : decode cX11_whoCouldPassFor 14 = .ok (.if_icmp .eq 18, 3) := by decide +kernel
theorem dX11_whoCouldPassFor_17 : decode cX11_whoCouldPassFor 17 = .ok (.aload_n 0, 1) := by decide +kernel
theorem dX11_whoCouldPassFor_18 : decode cX11_whoCouldPassFor 18 = .ok (.iload_n 3, 1) := by decide +kernel
theorem dX11_whoCouldPassFor_19 : decode cX11_whoCouldPassFor 19 = .ok (.iload_n 1, 1) := by decide +kernel
theorem dX11_whoCouldPassFor_20 : decode cX11_whoCouldPassFor 20 = .ok (.invokevirtual 89, 3) := by decide +kernel
theorem dX11_whoCouldPassFor_23 : decode cX11_whoCouldPassFor 23 = .ok (.ifCond .eq 9, 3) := by decide +kernel
theorem dX11_whoCouldPassFor_26 : decode cX11_whoCouldPassFor 26 = .ok (.iload_n 2, 1) := by decide +kernel
theorem dX11_whoCouldPassFor_27 : decode cX11_whoCouldPassFor 27 = .ok (.iconst 1, 1) := by decide +kernel
theorem dX11_whoCouldPassFor_28 : decode cX11_whoCouldPassFor 28 = .ok (.iload_n 3, 1) := by decide +kernel
theorem dX11_whoCouldPassFor_29 : decode cX11_whoCouldPassFor 29 = .ok (.ishl, 1) := by decide +kernel
theorem dX11_whoCouldPassFor_30 : decode cX11_whoCouldPassFor 30 = .ok (.ior, 1) := by decide +kernel
theorem dX11_whoCouldPassFor_31 : decode cX11_whoCouldPassFor 31 = .ok (.istore_n 2, 1) := by decide +kernel
theorem dX11_whoCouldPassFor_32 : decode cX11_whoCouldPassFor 32 = .ok (.iinc 3 1, 3) := by decide +kernel
theorem dX11_whoCouldPassFor_35 : decode cX11_whoCouldPassFor 35 = .ok (.goto (-31), 3) := by decide +kernel
theorem dX11_whoCouldPassFor_38 : decode cX11_whoCouldPassFor 38 = .ok (.iload_n 2, 1) := by decide +kernel
theorem dX11_whoCouldPassFor_39 : decode cX11_whoCouldPassFor 39 = .ok (.ireturn, 1) := by decide +kernel
theorem bX11_whoCouldPassFor_0 {G : Gt} {d bc bs : Nat} {Q : QT} {l : Ls} {z : List Value} {h : Hp} (k : (tPush (.int 0) (tIst 2 (tPush (.int 0) (tIst 3 ((fun l z h => T G d bc bs mX11_whoCouldPassFor 4 l z h Q)))))) l z h) : T G d bc bs mX11_whoCouldPassFor 0 l z h Q := by
  refine R_iconst dX11_whoCouldPassFor_0 (by decide) (fun l z h k => ?_) k
  refine R_istore_n dX11_whoCouldPassFor_1 rfl (by decide) (fun l z h k => ?_) k
  refine R_iconst dX11_whoCouldPassFor_2 (by decide) (fun l z h k => ?_) k
  refine R_istore_n dX11_whoCouldPassFor_3 rfl (by decide) (fun l z h k => ?_) k
  exact k
theorem bX11_whoCouldPassFor_4 {G : Gt} {d bc bs : Nat} {Q : QT} {l : Ls} {z : List Value} {h : Hp} (k : (tIld 3 (tAld 0 (tGetf 9 1 (tIf2 (fun x y => y ≤ x) (fun l z h => T G d bc bs mX11_whoCouldPassFor 38 l z h Q) (fun l z h => T G d bc bs mX11_whoCouldPassFor 12 l z h Q))))) l z h) : T G d bc bs mX11_whoCouldPassFor 4 l z h Q := by
  refine R_iload_n dX11_whoCouldPassFor_4 rfl (fun l z h k => ?_) k
  refine R_aload_n dX11_whoCouldPassFor_5 rfl (fun l z h k => ?_) k
  refine R_getf (ci := 9) (f := 1) (C := RX11) (N := 14) (Tt := TX11) dX11_whoCouldPassFor_6 rfl i_X11 (by decide) w_252 (fun l z h k => ?_) k
  exact R_icmp_ge dX11_whoCouldPassFor_9 (by decide) (fun _ _ _ k => k) (fun _ _ _ k => k) k
theorem bX11_whoCouldPassFor_12 {G : Gt} {d bc bs : Nat} {Q : QT} {l : Ls} {z : List Value} {h : Hp} (k : (tIld 3 (tIld 1 (tIf2 (fun x y => x = y) (fun l z h => T G d bc bs mX11_whoCouldPassFor 32 l z h Q) (fun l z h => T G d bc bs mX11_whoCouldPassFor 17 l z h Q)))) l z h) : T G d bc bs mX11_whoCouldPassFor 12 l z h Q := by
  refine R_iload_n dX11_whoCouldPassFor_12 rfl (fun l z h k => ?_) k
  refine R_iload_n dX11_whoCouldPassFor_13 rfl (fun l z h k => ?_) k
  exact R_icmp_eq dX11_whoCouldPassFor_14 (by decide) (fun _ _ _ k => k) (fun _ _ _ k => k) k
theorem bX11_whoCouldPassFor_17 {G : Gt} {d bc bs : Nat} {Q : QT} {l : Ls} {z : List Value} {h : Hp} (k : (tAld 0 (tIld 3 (tIld 1 (tCV2 G d 0 0 9 mX11_holdsNoLess (fun l z h => T G d bc bs mX11_whoCouldPassFor 23 l z h Q))))) l z h) : T G d bc bs mX11_whoCouldPassFor 17 l z h Q := by
  refine R_aload_n dX11_whoCouldPassFor_17 rfl (fun l z h k => ?_) k
  refine R_iload_n dX11_whoCouldPassFor_18 rfl (fun l z h k => ?_) k
  refine R_iload_n dX11_whoCouldPassFor_19 rfl (fun l z h k => ?_) k
  exact R_cv2 (M := mX11_whoCouldPassFor) (pc := 20) (bc := bc) (bs := bs) (cb := 0) (cs := 0) (M' := mX11_holdsNoLess) dX11_whoCouldPassFor_20 rfl (by decide) w_1127 w_136 w_1124 w_1126 w_22 (by decide +kernel) (fun _ _ _ k => k) k
theorem bX11_whoCouldPassFor_23 {G : Gt} {d bc bs : Nat} {Q : QT} {l : Ls} {z : List Value} {h : Hp} (k : (tIf (fun x => x = 0) (fun l z h => T G d bc bs mX11_whoCouldPassFor 32 l z h Q) (fun l z h => T G d bc bs mX11_whoCouldPassFor 26 l z h Q)) l z h) : T G d bc bs mX11_whoCouldPassFor 23 l z h Q := by
  exact R_if_eq dX11_whoCouldPassFor_23 (by decide) (fun _ _ _ k => k) (fun _ _ _ k => k) k
theorem bX11_whoCouldPassFor_26 {G : Gt} {d bc bs : Nat} {Q : QT} {l : Ls} {z : List Value} {h : Hp} (k : (tIld 2 (tPush (.int 1) (tIld 3 (tB (fun x y => x <<< (y &&& 31)) (tB (fun x y => x ||| y) (tIst 2 ((fun l z h => T G d bc bs mX11_whoCouldPassFor 32 l z h Q)))))))) l z h) : T G d bc bs mX11_whoCouldPassFor 26 l z h Q := by
  refine R_iload_n dX11_whoCouldPassFor_26 rfl (fun l z h k => ?_) k
  refine R_iconst dX11_whoCouldPassFor_27 (by decide) (fun l z h k => ?_) k
  refine R_iload_n dX11_whoCouldPassFor_28 rfl (fun l z h k => ?_) k
  refine R_ishl dX11_whoCouldPassFor_29 (fun l z h k => ?_) k
  refine R_ior dX11_whoCouldPassFor_30 (fun l z h k => ?_) k
  refine R_istore_n dX11_whoCouldPassFor_31 rfl (by decide) (fun l z h k => ?_) k
  exact k
theorem bX11_whoCouldPassFor_32 {G : Gt} {d bc bs : Nat} {Q : QT} {l : Ls} {z : List Value} {h : Hp} (k : (tInc 3 1 ((fun l z h => T G d bc bs mX11_whoCouldPassFor 4 l z h Q))) l z h) : T G d bc bs mX11_whoCouldPassFor 32 l z h Q := by
  refine R_iinc dX11_whoCouldPassFor_32 (by decide) (by decide) (fun l z h k => ?_) k
  exact R_goto dX11_whoCouldPassFor_35 (by decide) (fun _ _ _ k => k) k
theorem bX11_whoCouldPassFor_38 {G : Gt} {d bc bs : Nat} {Q : QT} {l : Ls} {z : List Value} {h : Hp} (k : (tIld 2 (tRetI Q)) l z h) : T G d bc bs mX11_whoCouldPassFor 38 l z h Q := by
  refine R_iload_n dX11_whoCouldPassFor_38 rfl (fun l z h k => ?_) k
  exact R_iret dX11_whoCouldPassFor_39 rfl k
theorem dX11_holdsNoLess_0 : decode cX11_holdsNoLess 0 = .ok (.iconst 0, 1) := by decide +kernel
theorem dX11_holdsNoLess_1 : decode cX11_holdsNoLess 1 = .ok (.istore_n 3, 1) := by decide +kernel
theorem dX11_holdsNoLess_2 : decode cX11_holdsNoLess 2 = .ok (.iload_n 3, 1) := by decide +kernel
theorem dX11_holdsNoLess_3 : decode cX11_holdsNoLess 3 = .ok (.aload_n 0, 1) := by decide +kernel
theorem dX11_holdsNoLess_4 : decode cX11_holdsNoLess 4 = .ok (.getfield 46, 3) := by decide +kernel
theorem dX11_holdsNoLess_7 : decode cX11_holdsNoLess 7 = .ok (.if_icmp .ge 26, 3) := by decide +kernel
theorem dX11_holdsNoLess_10 : decode cX11_holdsNoLess 10 = .ok (.aload_n 0, 1) := by decide +kernel
theorem dX11_holdsNoLess_11 : decode cX11_holdsNoLess 11 = .ok (.iload_n 1, 1) := by decide +kernel
theorem dX11_holdsNoLess_12 : decode cX11_holdsNoLess 12 = .ok (.iload_n 3, 1) := by decide +kernel
theorem dX11_holdsNoLess_13 : decode cX11_holdsNoLess 13 = .ok (.invokevirtual 68, 3) := by decide +kernel
theorem dX11_holdsNoLess_16 : decode cX11_holdsNoLess 16 = .ok (.aload_n 0, 1) := by decide +kernel
theorem dX11_holdsNoLess_17 : decode cX11_holdsNoLess 17 = .ok (.iload_n 2, 1) := by decide +kernel
theorem dX11_holdsNoLess_18 : decode cX11_holdsNoLess 18 = .ok (.iload_n 3, 1) := by decide +kernel
theorem dX11_holdsNoLess_19 : decode cX11_holdsNoLess 19 = .ok (.invokevirtual 68, 3) := by decide +kernel
theorem dX11_holdsNoLess_22 : decode cX11_holdsNoLess 22 = .ok (.if_icmp .ge 5, 3) := by decide +kernel
theorem dX11_holdsNoLess_25 : decode cX11_holdsNoLess 25 = .ok (.iconst 0, 1) := by decide +kernel
theorem dX11_holdsNoLess_26 : decode cX11_holdsNoLess 26 = .ok (.ireturn, 1) := by decide +kernel
theorem dX11_holdsNoLess_27 : decode cX11_holdsNoLess 27 = .ok (.iinc 3 1, 3) := by decide +kernel
theorem dX11_holdsNoLess_30 : decode cX11_holdsNoLess 30 = .ok (.goto (-28), 3) := by decide +kernel
theorem dX11_holdsNoLess_33 : decode cX11_holdsNoLess 33 = .ok (.iconst 1, 1) := by decide +kernel
theorem dX11_holdsNoLess_34 : decode cX11_holdsNoLess 34 = .ok (.ireturn, 1) := by decide +kernel
theorem bX11_holdsNoLess_0 {G : Gt} {d bc bs : Nat} {Q : QT} {l : Ls} {z : List Value} {h : Hp} (k : (tPush (.int 0) (tIst 3 ((fun l z h => T G d bc bs mX11_holdsNoLess 2 l z h Q)))) l z h) : T G d bc bs mX11_holdsNoLess 0 l z h Q := by
  refine R_iconst dX11_holdsNoLess_0 (by decide) (fun l z h k => ?_) k
  refine R_istore_n dX11_holdsNoLess_1 rfl (by decide) (fun l z h k => ?_) k
  exact k
theorem bX11_holdsNoLess_2 {G : Gt} {d bc bs : Nat} {Q : QT} {l : Ls} {z : List Value} {h : Hp} (k : (tIld 3 (tAld 0 (tGetf 9 0 (tIf2 (fun x y => y ≤ x) (fun l z h => T G d bc bs mX11_holdsNoLess 33 l z h Q) (fun l z h => T G d bc bs mX11_holdsNoLess 10 l z h Q))))) l z h) : T G d bc bs mX11_holdsNoLess 2 l z h Q := by
  refine R_iload_n dX11_holdsNoLess_2 rfl (fun l z h k => ?_) k
  refine R_aload_n dX11_holdsNoLess_3 rfl (fun l z h k => ?_) k
  refine R_getf (ci := 9) (f := 0) (C := RX11) (N := 14) (Tt := TX11) dX11_holdsNoLess_4 rfl i_X11 (by decide) w_248 (fun l z h k => ?_) k
  exact R_icmp_ge dX11_holdsNoLess_7 (by decide) (fun _ _ _ k => k) (fun _ _ _ k => k) k
theorem bX11_holdsNoLess_10 {G : Gt} {d bc bs : Nat} {Q : QT} {l : Ls} {z : List Value} {h : Hp} (k : (tAld 0 (tIld 1 (tIld 3 (tCV2 G d 0 0 9 mX11_held (fun l z h => T G d bc bs mX11_holdsNoLess 16 l z h Q))))) l z h) : T G d bc bs mX11_holdsNoLess 10 l z h Q := by
  refine R_aload_n dX11_holdsNoLess_10 rfl (fun l z h k => ?_) k
  refine R_iload_n dX11_holdsNoLess_11 rfl (fun l z h k => ?_) k
  refine R_iload_n dX11_holdsNoLess_12 rfl (fun l z h k => ?_) k
  exact R_cv2 (M := mX11_holdsNoLess) (pc := 13) (bc := bc) (bs := bs) (cb := 0) (cs := 0) (M' := mX11_held) dX11_holdsNoLess_13 rfl (by decide) w_739 w_136 w_824 w_737 w_738 (by decide +kernel) (fun _ _ _ k => k) k
theorem bX11_holdsNoLess_16 {G : Gt} {d bc bs : Nat} {Q : QT} {l : Ls} {z : List Value} {h : Hp} (k : (tAld 0 (tIld 2 (tIld 3 (tCV2 G d 0 0 9 mX11_held (fun l z h => T G d bc bs mX11_holdsNoLess 22 l z h Q))))) l z h) : T G d bc bs mX11_holdsNoLess 16 l z h Q := by
  refine R_aload_n dX11_holdsNoLess_16 rfl (fun l z h k => ?_) k
  refine R_iload_n dX11_holdsNoLess_17 rfl (fun l z h k => ?_) k
  refine R_iload_n dX11_holdsNoLess_18 rfl (fun l z h k => ?_) k
  exact R_cv2 (M := mX11_holdsNoLess) (pc := 19) (bc := bc) (bs := bs) (cb := 0) (cs := 0) (M' := mX11_held) dX11_holdsNoLess_19 rfl (by decide) w_739 w_136 w_824 w_737 w_738 (by decide +kernel) (fun _ _ _ k => k) k
theorem bX11_holdsNoLess_22 {G : Gt} {d bc bs : Nat} {Q : QT} {l : Ls} {z : List Value} {h : Hp} (k : (tIf2 (fun x y => y ≤ x) (fun l z h => T G d bc bs mX11_holdsNoLess 27 l z h Q) (fun l z h => T G d bc bs mX11_holdsNoLess 25 l z h Q)) l z h) : T G d bc bs mX11_holdsNoLess 22 l z h Q := by
  exact R_icmp_ge dX11_holdsNoLess_22 (by decide) (fun _ _ _ k => k) (fun _ _ _ k => k) k
theorem bX11_holdsNoLess_25 {G : Gt} {d bc bs : Nat} {Q : QT} {l : Ls} {z : List Value} {h : Hp} (k : (tPush (.int 0) (tRetZ Q)) l z h) : T G d bc bs mX11_holdsNoLess 25 l z h Q := by
  refine R_iconst dX11_holdsNoLess_25 (by decide) (fun l z h k => ?_) k
  exact R_zret dX11_holdsNoLess_26 rfl k
theorem bX11_holdsNoLess_27 {G : Gt} {d bc bs : Nat} {Q : QT} {l : Ls} {z : List Value} {h : Hp} (k : (tInc 3 1 ((fun l z h => T G d bc bs mX11_holdsNoLess 2 l z h Q))) l z h) : T G d bc bs mX11_holdsNoLess 27 l z h Q := by
  refine R_iinc dX11_holdsNoLess_27 (by decide) (by decide) (fun l z h k => ?_) k
  exact R_goto dX11_holdsNoLess_30 (by decide) (fun _ _ _ k => k) k
theorem bX11_holdsNoLess_33 {G : Gt} {d bc bs : Nat} {Q : QT} {l : Ls} {z : List Value} {h : Hp} (k : (tPush (.int 1) (tRetZ Q)) l z h) : T G d bc bs mX11_holdsNoLess 33 l z h Q := by
  refine R_iconst dX11_holdsNoLess_33 (by decide) (fun l z h k => ?_) k
  exact R_zret dX11_holdsNoLess_34 rfl k
theorem dX11_excessAsked_0 : decode cX11_excessAsked 0 = .ok (.iconst 0, 1) := by decide +kernel
theorem dX11_excessAsked_1 : decode cX11_excessAsked 1 = .ok (.istore_n 2, 1) := by decide +kernel
theorem dX11_excessAsked_2 : decode cX11_excessAsked 2 = .ok (.iconst 0, 1) := by decide +kernel
theorem dX11_excessAsked_3 : decode cX11_excessAsked 3 = .ok (.istore_n 3, 1) := by decide +kernel
theorem dX11_excessAsked_4 : decode cX11_excessAsked 4 = .ok (.iload_n 3, 1) := by decide +kernel
theorem dX11_excessAsked_5 : decode cX11_excessAsked 5 = .ok (.aload_n 0, 1) := by decide +kernel
theorem dX11_excessAsked_6 : decode cX11_excessAsked 6 = .ok (.getfield 46, 3) := by decide +kernel
theorem dX11_excessAsked_9 : decode cX11_excessAsked 9 = .ok (.if_icmp .ge 78, 3) := by decide +kernel
theorem dX11_excessAsked_12 : decode cX11_excessAsked 12 = .ok (.iconst 0, 1) := by decide +kernel
theorem dX11_excessAsked_13 : decode cX11_excessAsked 13 = .ok (.istore 4, 2) := by decide +kernel
theorem dX11_excessAsked_15 : decode cX11_excessAsked 15 = .ok (.iconst 0, 1) := by decide +kernel
theorem dX11_excessAsked_16 : decode cX11_excessAsked 16 = .ok (.istore 5, 2) := by decide +kernel
theorem dX11_excessAsked_18 : decode cX11_excessAsked 18 = .ok (.iload 5, 2) := by decide +kernel
theorem dX11_excessAsked_20 : decode cX11_excessAsked 20 = .ok (.aload_n 0, 1) := by decide +kernel
theorem dX11_excessAsked_21 : decode cX11_excessAsked 21 = .ok (.getfield 50, 3) := by decide +kernel
theorem dX11_excessAsked_24 : decode cX11_excessAsked 24 = .ok (.if_icmp .ge 52, 3) := by decide +kernel
theorem dX11_excessAsked_27 : decode cX11_excessAsked 27 = .ok (.aload_n 0, 1) := by decide +kernel
theorem dX11_excessAsked_28 : decode cX11_excessAsked 28 = .ok (.getfield 28, 3) := by decide +kernel
theorem dX11_excessAsked_31 : decode cX11_excessAsked 31 = .ok (.iload 5, 2) := by decide +kernel
theorem dX11_excessAsked_33 : decode cX11_excessAsked 33 = .ok (.iaload, 1) := by decide +kernel
theorem dX11_excessAsked_34 : decode cX11_excessAsked 34 = .ok (.iconst 1, 1) := by decide +kernel
theorem dX11_excessAsked_35 : decode cX11_excessAsked 35 = .ok (.if_icmp .ne 35, 3) := by decide +kernel
theorem dX11_excessAsked_38 : decode cX11_excessAsked 38 = .ok (.aload_n 0, 1) := by decide +kernel
theorem dX11_excessAsked_39 : decode cX11_excessAsked 39 = .ok (.getfield 25, 3) := by decide +kernel
theorem dX11_excessAsked_42 : decode cX11_excessAsked 42 = .ok (.iload 5, 2) := by decide +kernel
theorem dX11_excessAsked_44 : decode cX11_excessAsked 44 = .ok (.iaload, 1) := by decide +kernel
theorem dX11_excessAsked_45 : decode cX11_excessAsked 45 = .ok (.iload_n 1, 1) := by decide +kernel
theorem dX11_excessAsked_46 : decode cX11_excessAsked 46 = .ok (.if_icmp .ne 24, 3) := by decide +kernel
theorem dX11_excessAsked_49 : decode cX11_excessAsked 49 = .ok (.iload 4, 2) := by decide +kernel
theorem dX11_excessAsked_51 : decode cX11_excessAsked 51 = .ok (.aload_n 0, 1) := by decide +kernel
theorem dX11_excessAsked_52 : decode cX11_excessAsked 52 = .ok (.iload_n 1, 1) := by decide +kernel
theorem dX11_excessAsked_53 : decode cX11_excessAsked 53 = .ok (.iload_n 3, 1) := by decide +kernel
theorem dX11_excessAsked_54 : decode cX11_excessAsked 54 = .ok (.invokevirtual 76, 3) := by decide +kernel
theorem dX11_excessAsked_57 : decode cX11_excessAsked 57 = .ok (.aload_n 0, 1) := by decide +kernel
theorem dX11_excessAsked_58 : decode cX11_excessAsked 58 = .ok (.iload 5, 2) := by decide +kernel
theorem dX11_excessAsked_60 : decode cX11_excessAsked 60 = .ok (.iload_n 3, 1) := by decide +kernel
theorem dX11_excessAsked_61 : decode cX11_excessAsked 61 = .ok (.invokevirtual 68, 3) := by decide +kernel
theorem dX11_excessAsked_64 : decode cX11_excessAsked 64 = .ok (.isub, 1) := by decide +kernel
theorem dX11_excessAsked_65 : decode cX11_excessAsked 65 = .ok (.invokestatic 92, 3) := by decide +kernel
theorem dX11_excessAsked_68 : decode cX11_excessAsked 68 = .ok (.istore 4, 2) := by decide +kernel
theorem dX11_excessAsked_70 : decode cX11_excessAsked 70 = .ok (.iinc 5 1, 3) := by decide +kernel
theorem dX11_excessAsked_73 : decode cX11_excessAsked 73 = .ok (.goto (-55), 3) := by decide +kernel
theorem dX11_excessAsked_76 : decode cX11_excessAsked 76 = .ok (.iload_n 2, 1) := by decide +kernel
theorem dX11_excessAsked_77 : decode cX11_excessAsked 77 = .ok (.iload 4, 2) := by decide +kernel
theorem dX11_excessAsked_79 : decode cX11_excessAsked 79 = .ok (.iadd, 1) := by decide +kernel
theorem dX11_excessAsked_80 : decode cX11_excessAsked 80 = .ok (.istore_n 2, 1) := by decide +kernel
theorem dX11_excessAsked_81 : decode cX11_excessAsked 81 = .ok (.iinc 3 1, 3) := by decide +kernel
theorem dX11_excessAsked_84 : decode cX11_excessAsked 84 = .ok (.goto (-80), 3) := by decide +kernel
theorem dX11_excessAsked_87 : decode cX11_excessAsked 87 = .ok (.iload_n 2, 1) := by decide +kernel
theorem dX11_excessAsked_88 : decode cX11_excessAsked 88 = .ok (.ireturn, 1) := by decide +kernel
theorem bX11_excessAsked_0 {G : Gt} {d bc bs : Nat} {Q : QT} {l : Ls} {z : List Value} {h : Hp} (k : (tPush (.int 0) (tIst 2 (tPush (.int 0) (tIst 3 ((fun l z h => T G d bc bs mX11_excessAsked 4 l z h Q)))))) l z h) : T G d bc bs mX11_excessAsked 0 l z h Q := by
  refine R_iconst dX11_excessAsked_0 (by decide) (fun l z h k => ?_) k
  refine R_istore_n dX11_excessAsked_1 rfl (by decide) (fun l z h k => ?_) k
  refine R_iconst dX11_excessAsked_2 (by decide) (fun l z h k => ?_) k
  refine R_istore_n dX11_excessAsked_3 rfl (by decide) (fun l z h k => ?_) k
  exact k
theorem bX11_excessAsked_4 {G : Gt} {d bc bs : Nat} {Q : QT} {l : Ls} {z : List Value} {h : Hp} (k : (tIld 3 (tAld 0 (tGetf 9 0 (tIf2 (fun x y => y ≤ x) (fun l z h => T G d bc bs mX11_excessAsked 87 l z h Q) (fun l z h => T G d bc bs mX11_excessAsked 12 l z h Q))))) l z h) : T G d bc bs mX11_excessAsked 4 l z h Q := by
  refine R_iload_n dX11_excessAsked_4 rfl (fun l z h k => ?_) k
  refine R_aload_n dX11_excessAsked_5 rfl (fun l z h k => ?_) k
  refine R_getf (ci := 9) (f := 0) (C := RX11) (N := 14) (Tt := TX11) dX11_excessAsked_6 rfl i_X11 (by decide) w_248 (fun l z h k => ?_) k
  exact R_icmp_ge dX11_excessAsked_9 (by decide) (fun _ _ _ k => k) (fun _ _ _ k => k) k
theorem bX11_excessAsked_12 {G : Gt} {d bc bs : Nat} {Q : QT} {l : Ls} {z : List Value} {h : Hp} (k : (tPush (.int 0) (tIst 4 (tPush (.int 0) (tIst 5 ((fun l z h => T G d bc bs mX11_excessAsked 18 l z h Q)))))) l z h) : T G d bc bs mX11_excessAsked 12 l z h Q := by
  refine R_iconst dX11_excessAsked_12 (by decide) (fun l z h k => ?_) k
  refine R_istore dX11_excessAsked_13 (by decide) (fun l z h k => ?_) k
  refine R_iconst dX11_excessAsked_15 (by decide) (fun l z h k => ?_) k
  refine R_istore dX11_excessAsked_16 (by decide) (fun l z h k => ?_) k
  exact k
theorem bX11_excessAsked_18 {G : Gt} {d bc bs : Nat} {Q : QT} {l : Ls} {z : List Value} {h : Hp} (k : (tIld 5 (tAld 0 (tGetf 9 1 (tIf2 (fun x y => y ≤ x) (fun l z h => T G d bc bs mX11_excessAsked 76 l z h Q) (fun l z h => T G d bc bs mX11_excessAsked 27 l z h Q))))) l z h) : T G d bc bs mX11_excessAsked 18 l z h Q := by
  refine R_iload dX11_excessAsked_18 (fun l z h k => ?_) k
  refine R_aload_n dX11_excessAsked_20 rfl (fun l z h k => ?_) k
  refine R_getf (ci := 9) (f := 1) (C := RX11) (N := 14) (Tt := TX11) dX11_excessAsked_21 rfl i_X11 (by decide) w_252 (fun l z h k => ?_) k
  exact R_icmp_ge dX11_excessAsked_24 (by decide) (fun _ _ _ k => k) (fun _ _ _ k => k) k
theorem bX11_excessAsked_27 {G : Gt} {d bc bs : Nat} {Q : QT} {l : Ls} {z : List Value} {h : Hp} (k : (tAld 0 (tGetf 9 8 (tIld 5 (tXald 0 (tPush (.int 1) (tIf2 (fun x y => x = y) (fun l z h => T G d bc bs mX11_excessAsked 38 l z h Q) (fun l z h => T G d bc bs mX11_excessAsked 70 l z h Q))))))) l z h) : T G d bc bs mX11_excessAsked 27 l z h Q := by
  refine R_aload_n dX11_excessAsked_27 rfl (fun l z h k => ?_) k
  refine R_getf (ci := 9) (f := 8) (C := RX11) (N := 14) (Tt := TX11) dX11_excessAsked_28 rfl i_X11 (by decide) w_275 (fun l z h k => ?_) k
  refine R_iload dX11_excessAsked_31 (fun l z h k => ?_) k
  refine R_iaload dX11_excessAsked_33 (fun l z h k => ?_) k
  refine R_iconst dX11_excessAsked_34 (by decide) (fun l z h k => ?_) k
  exact R_icmp_ne dX11_excessAsked_35 (by decide) (fun _ _ _ k => k) (fun _ _ _ k => k) k
theorem bX11_excessAsked_38 {G : Gt} {d bc bs : Nat} {Q : QT} {l : Ls} {z : List Value} {h : Hp} (k : (tAld 0 (tGetf 9 7 (tIld 5 (tXald 0 (tIld 1 (tIf2 (fun x y => x = y) (fun l z h => T G d bc bs mX11_excessAsked 49 l z h Q) (fun l z h => T G d bc bs mX11_excessAsked 70 l z h Q))))))) l z h) : T G d bc bs mX11_excessAsked 38 l z h Q := by
  refine R_aload_n dX11_excessAsked_38 rfl (fun l z h k => ?_) k
  refine R_getf (ci := 9) (f := 7) (C := RX11) (N := 14) (Tt := TX11) dX11_excessAsked_39 rfl i_X11 (by decide) w_271 (fun l z h k => ?_) k
  refine R_iload dX11_excessAsked_42 (fun l z h k => ?_) k
  refine R_iaload dX11_excessAsked_44 (fun l z h k => ?_) k
  refine R_iload_n dX11_excessAsked_45 rfl (fun l z h k => ?_) k
  exact R_icmp_ne dX11_excessAsked_46 (by decide) (fun _ _ _ k => k) (fun _ _ _ k => k) k
theorem bX11_excessAsked_49 {G : Gt} {d bc bs : Nat} {Q : QT} {l : Ls} {z : List Value} {h : Hp} (k : (tIld 4 (tAld 0 (tIld 1 (tIld 3 (tCV2 G d 0 0 9 mX11_askedAt (fun l z h => T G d bc bs mX11_excessAsked 57 l z h Q)))))) l z h) : T G d bc bs mX11_excessAsked 49 l z h Q := by
  refine R_iload dX11_excessAsked_49 (fun l z h k => ?_) k
  refine R_aload_n dX11_excessAsked_51 rfl (fun l z h k => ?_) k
  refine R_iload_n dX11_excessAsked_52 rfl (fun l z h k => ?_) k
  refine R_iload_n dX11_excessAsked_53 rfl (fun l z h k => ?_) k
  exact R_cv2 (M := mX11_excessAsked) (pc := 54) (bc := bc) (bs := bs) (cb := 0) (cs := 0) (M' := mX11_askedAt) dX11_excessAsked_54 rfl (by decide) w_753 w_136 w_853 w_751 w_752 (by decide +kernel) (fun _ _ _ k => k) k
theorem bX11_excessAsked_57 {G : Gt} {d bc bs : Nat} {Q : QT} {l : Ls} {z : List Value} {h : Hp} (k : (tAld 0 (tIld 5 (tIld 3 (tCV2 G d 0 0 9 mX11_held (fun l z h => T G d bc bs mX11_excessAsked 64 l z h Q))))) l z h) : T G d bc bs mX11_excessAsked 57 l z h Q := by
  refine R_aload_n dX11_excessAsked_57 rfl (fun l z h k => ?_) k
  refine R_iload dX11_excessAsked_58 (fun l z h k => ?_) k
  refine R_iload_n dX11_excessAsked_60 rfl (fun l z h k => ?_) k
  exact R_cv2 (M := mX11_excessAsked) (pc := 61) (bc := bc) (bs := bs) (cb := 0) (cs := 0) (M' := mX11_held) dX11_excessAsked_61 rfl (by decide) w_739 w_136 w_824 w_737 w_738 (by decide +kernel) (fun _ _ _ k => k) k
theorem bX11_excessAsked_64 {G : Gt} {d bc bs : Nat} {Q : QT} {l : Ls} {z : List Value} {h : Hp} (hd1 : 1 ≤ d) (k : (tB (fun x y => x - y) (tMax ((fun l z h => T G d bc bs mX11_excessAsked 68 l z h Q)))) l z h) : T G d bc bs mX11_excessAsked 64 l z h Q := by
  refine R_isub dX11_excessAsked_64 (fun l z h k => ?_) k
  refine R_mmax dX11_excessAsked_65 hd1 w_960 (fun l z h k => ?_) k
  exact k
theorem bX11_excessAsked_68 {G : Gt} {d bc bs : Nat} {Q : QT} {l : Ls} {z : List Value} {h : Hp} (k : (tIst 4 ((fun l z h => T G d bc bs mX11_excessAsked 70 l z h Q))) l z h) : T G d bc bs mX11_excessAsked 68 l z h Q := by
  refine R_istore dX11_excessAsked_68 (by decide) (fun l z h k => ?_) k
  exact k
theorem bX11_excessAsked_70 {G : Gt} {d bc bs : Nat} {Q : QT} {l : Ls} {z : List Value} {h : Hp} (k : (tInc 5 1 ((fun l z h => T G d bc bs mX11_excessAsked 18 l z h Q))) l z h) : T G d bc bs mX11_excessAsked 70 l z h Q := by
  refine R_iinc dX11_excessAsked_70 (by decide) (by decide) (fun l z h k => ?_) k
  exact R_goto dX11_excessAsked_73 (by decide) (fun _ _ _ k => k) k
theorem bX11_excessAsked_76 {G : Gt} {d bc bs : Nat} {Q : QT} {l : Ls} {z : List Value} {h : Hp} (k : (tIld 2 (tIld 4 (tB (fun x y => x + y) (tIst 2 (tInc 3 1 ((fun l z h => T G d bc bs mX11_excessAsked 4 l z h Q))))))) l z h) : T G d bc bs mX11_excessAsked 76 l z h Q := by
  refine R_iload_n dX11_excessAsked_76 rfl (fun l z h k => ?_) k
  refine R_iload dX11_excessAsked_77 (fun l z h k => ?_) k
  refine R_iadd dX11_excessAsked_79 (fun l z h k => ?_) k
  refine R_istore_n dX11_excessAsked_80 rfl (by decide) (fun l z h k => ?_) k
  refine R_iinc dX11_excessAsked_81 (by decide) (by decide) (fun l z h k => ?_) k
  exact R_goto dX11_excessAsked_84 (by decide) (fun _ _ _ k => k) k
theorem bX11_excessAsked_87 {G : Gt} {d bc bs : Nat} {Q : QT} {l : Ls} {z : List Value} {h : Hp} (k : (tIld 2 (tRetI Q)) l z h) : T G d bc bs mX11_excessAsked 87 l z h Q := by
  refine R_iload_n dX11_excessAsked_87 rfl (fun l z h k => ?_) k
  exact R_iret dX11_excessAsked_88 rfl k
theorem dX11_walk_0 : decode cX11_walk 0 = .ok (.aload_n 0, 1) := by decide +kernel
theorem dX11_walk_1 : decode cX11_walk 1 = .ok (.getfield 28, 3) := by decide +kernel
theorem dX11_walk_4 : decode cX11_walk 4 = .ok (.iload_n 1, 1) := by decide +kernel
theorem dX11_walk_5 : decode cX11_walk 5 = .ok (.iaload, 1) := by decide +kernel
theorem dX11_walk_6 : decode cX11_walk 6 = .ok (.istore_n 3, 1) := by decide +kernel
theorem dX11_walk_7 : decode cX11_walk 7 = .ok (.iload_n 2, 1) := by decide +kernel
theorem dX11_walk_8 : decode cX11_walk 8 = .ok (.ifCond .lt 18, 3) := by decide +kernel
theorem dX11_walk_11 : decode cX11_walk 11 = .ok (.iload_n 2, 1) := by decide +kernel
theorem dX11_walk_12 : decode cX11_walk 12 = .ok (.iconst 3, 1) := by decide +kernel
theorem dX11_walk_13 : decode cX11_walk 13 = .ok (.if_icmp .ge 13, 3) := by decide +kernel
theorem dX11_walk_16 : decode cX11_walk 16 = .ok (.iload_n 2, 1) := by decide +kernel
theorem dX11_walk_17 : decode cX11_walk 17 = .ok (.iload_n 3, 1) := by decide +kernel
theorem dX11_walk_18 : decode cX11_walk 18 = .ok (.isub, 1) := by decide +kernel
theorem dX11_walk_19 : decode cX11_walk 19 = .ok (.invokestatic 97, 3) := by decide +kernel
theorem dX11_walk_22 : decode cX11_walk 22 = .ok (.iconst 1, 1) := by decide +kernel
theorem dX11_walk_23 : decode cX11_walk 23 = .ok (.if_icmp .eq 5, 3) := by decide +kernel
theorem dX11_walk_26 : decode cX11_walk 26 = .ok (.iconst 1, 1) := by decide +kernel
theorem dX11_walk_27 : decode cX11_walk 27 = .ok (.ireturn, 1) := by decide +kernel
theorem dX11_walk_28 : decode cX11_walk 28 = .ok (.iload_n 3, 1) := by decide +kernel
theorem dX11_walk_29 : decode cX11_walk 29 = .ok (.iconst 1, 1) := by decide +kernel
theorem dX11_walk_30 : decode cX11_walk 30 = .ok (.if_icmp .ne 17, 3) := by decide +kernel
theorem dX11_walk_33 : decode cX11_walk 33 = .ok (.aload_n 0, 1) := by decide +kernel
theorem dX11_walk_34 : decode cX11_walk 34 = .ok (.iload_n 1, 1) := by decide +kernel
theorem dX11_walk_35 : decode cX11_walk 35 = .ok (.iload_n 2, 1) := by decide +kernel
theorem dX11_walk_36 : decode cX11_walk 36 = .ok (.invokestatic 100, 3) := by decide +kernel
theorem dX11_walk_39 : decode cX11_walk 39 = .ok (.invokevirtual 79, 3) := by decide +kernel
theorem dX11_walk_42 : decode cX11_walk 42 = .ok (.ifCond .eq 5, 3) := by decide +kernel
theorem dX11_walk_45 : decode cX11_walk 45 = .ok (.iconst 2, 1) := by decide +kernel
theorem dX11_walk_46 : decode cX11_walk 46 = .ok (.ireturn, 1) := by decide +kernel
theorem dX11_walk_47 : decode cX11_walk 47 = .ok (.aload_n 0, 1) := by decide +kernel
theorem dX11_walk_48 : decode cX11_walk 48 = .ok (.getfield 28, 3) := by decide +kernel
theorem dX11_walk_51 : decode cX11_walk 51 = .ok (.iload_n 1, 1) := by decide +kernel
theorem dX11_walk_52 : decode cX11_walk 52 = .ok (.iload_n 2, 1) := by decide +kernel
theorem dX11_walk_53 : decode cX11_walk 53 = .ok (.iastore, 1) := by decide +kernel
theorem dX11_walk_54 : decode cX11_walk 54 = .ok (.aload_n 0, 1) := by decide +kernel
theorem dX11_walk_55 : decode cX11_walk 55 = .ok (.getfield 31, 3) := by decide +kernel
theorem dX11_walk_58 : decode cX11_walk 58 = .ok (.iload_n 1, 1) := by decide +kernel
theorem dX11_walk_59 : decode cX11_walk 59 = .ok (.iconst 0, 1) := by decide +kernel
theorem dX11_walk_60 : decode cX11_walk 60 = .ok (.iastore, 1) := by decide +kernel
theorem dX11_walk_61 : decode cX11_walk 61 = .ok (.aload_n 0, 1) := by decide +kernel
theorem dX11_walk_62 : decode cX11_walk 62 = .ok (.getfield 34, 3) := by decide +kernel
theorem dX11_walk_65 : decode cX11_walk 65 = .ok (.iload_n 1, 1) := by decide +kernel
theorem dX11_walk_66 : decode cX11_walk 66 = .ok (.dup2, 1) := by decide +kernel
theorem dX11_walk_67 : decode cX11_walk 67 = .ok (.iaload, 1) := by decide +kernel
theorem dX11_walk_68 : decode cX11_walk 68 = .ok (.iconst 1, 1) := by decide +kernel
theorem dX11_walk_69 : decode cX11_walk 69 = .ok (.iadd, 1) := by decide +kernel
theorem dX11_walk_70 : decode cX11_walk 70 = .ok (.iastore, 1) := by decide +kernel
theorem dX11_walk_71 : decode cX11_walk 71 = .ok (.iconst 0, 1) := by decide +kernel
theorem dX11_walk_72 : decode cX11_walk 72 = .ok (.ireturn, 1) := by decide +kernel
theorem bX11_walk_0 {G : Gt} {d bc bs : Nat} {Q : QT} {l : Ls} {z : List Value} {h : Hp} (k : (tAld 0 (tGetf 9 8 (tIld 1 (tXald 0 (tIst 3 (tIld 2 (tIf (fun x => x < 0) (fun l z h => T G d bc bs mX11_walk 26 l z h Q) (fun l z h => T G d bc bs mX11_walk 11 l z h Q)))))))) l z h) : T G d bc bs mX11_walk 0 l z h Q := by
  refine R_aload_n dX11_walk_0 rfl (fun l z h k => ?_) k
  refine R_getf (ci := 9) (f := 8) (C := RX11) (N := 14) (Tt := TX11) dX11_walk_1 rfl i_X11 (by decide) w_275 (fun l z h k => ?_) k
  refine R_iload_n dX11_walk_4 rfl (fun l z h k => ?_) k
  refine R_iaload dX11_walk_5 (fun l z h k => ?_) k
  refine R_istore_n dX11_walk_6 rfl (by decide) (fun l z h k => ?_) k
  refine R_iload_n dX11_walk_7 rfl (fun l z h k => ?_) k
  exact R_if_lt dX11_walk_8 (by decide) (fun _ _ _ k => k) (fun _ _ _ k => k) k
theorem bX11_walk_11 {G : Gt} {d bc bs : Nat} {Q : QT} {l : Ls} {z : List Value} {h : Hp} (k : (tIld 2 (tPush (.int 3) (tIf2 (fun x y => y ≤ x) (fun l z h => T G d bc bs mX11_walk 26 l z h Q) (fun l z h => T G d bc bs mX11_walk 16 l z h Q)))) l z h) : T G d bc bs mX11_walk 11 l z h Q := by
  refine R_iload_n dX11_walk_11 rfl (fun l z h k => ?_) k
  refine R_iconst dX11_walk_12 (by decide) (fun l z h k => ?_) k
  exact R_icmp_ge dX11_walk_13 (by decide) (fun _ _ _ k => k) (fun _ _ _ k => k) k
theorem bX11_walk_16 {G : Gt} {d bc bs : Nat} {Q : QT} {l : Ls} {z : List Value} {h : Hp} (hd1 : 1 ≤ d) (k : (tIld 2 (tIld 3 (tB (fun x y => x - y) (tAbs ((fun l z h => T G d bc bs mX11_walk 22 l z h Q)))))) l z h) : T G d bc bs mX11_walk 16 l z h Q := by
  refine R_iload_n dX11_walk_16 rfl (fun l z h k => ?_) k
  refine R_iload_n dX11_walk_17 rfl (fun l z h k => ?_) k
  refine R_isub dX11_walk_18 (fun l z h k => ?_) k
  refine R_mabs dX11_walk_19 hd1 w_883 (fun l z h k => ?_) k
  exact k
theorem bX11_walk_22 {G : Gt} {d bc bs : Nat} {Q : QT} {l : Ls} {z : List Value} {h : Hp} (k : (tPush (.int 1) (tIf2 (fun x y => x = y) (fun l z h => T G d bc bs mX11_walk 28 l z h Q) (fun l z h => T G d bc bs mX11_walk 26 l z h Q))) l z h) : T G d bc bs mX11_walk 22 l z h Q := by
  refine R_iconst dX11_walk_22 (by decide) (fun l z h k => ?_) k
  exact R_icmp_eq dX11_walk_23 (by decide) (fun _ _ _ k => k) (fun _ _ _ k => k) k
theorem bX11_walk_26 {G : Gt} {d bc bs : Nat} {Q : QT} {l : Ls} {z : List Value} {h : Hp} (k : (tPush (.int 1) (tRetI Q)) l z h) : T G d bc bs mX11_walk 26 l z h Q := by
  refine R_iconst dX11_walk_26 (by decide) (fun l z h k => ?_) k
  exact R_iret dX11_walk_27 rfl k
theorem bX11_walk_28 {G : Gt} {d bc bs : Nat} {Q : QT} {l : Ls} {z : List Value} {h : Hp} (k : (tIld 3 (tPush (.int 1) (tIf2 (fun x y => x = y) (fun l z h => T G d bc bs mX11_walk 33 l z h Q) (fun l z h => T G d bc bs mX11_walk 47 l z h Q)))) l z h) : T G d bc bs mX11_walk 28 l z h Q := by
  refine R_iload_n dX11_walk_28 rfl (fun l z h k => ?_) k
  refine R_iconst dX11_walk_29 (by decide) (fun l z h k => ?_) k
  exact R_icmp_ne dX11_walk_30 (by decide) (fun _ _ _ k => k) (fun _ _ _ k => k) k
theorem bX11_walk_33 {G : Gt} {d bc bs : Nat} {Q : QT} {l : Ls} {z : List Value} {h : Hp} (k : (tAld 0 (tIld 1 (tIld 2 (tCS1 G d 0 0 mX12_endAt (fun l z h => T G d bc bs mX11_walk 39 l z h Q))))) l z h) : T G d bc bs mX11_walk 33 l z h Q := by
  refine R_aload_n dX11_walk_33 rfl (fun l z h k => ?_) k
  refine R_iload_n dX11_walk_34 rfl (fun l z h k => ?_) k
  refine R_iload_n dX11_walk_35 rfl (fun l z h k => ?_) k
  exact R_csN1 (M := mX11_walk) (pc := 36) (bc := bc) (bs := bs) (cb := 0) (cs := 0) (M' := mX12_endAt) dX11_walk_36 (by decide) w_888 w_130 n_886 w_887 (by decide +kernel) (fun _ _ _ k => k) k
theorem bX11_walk_39 {G : Gt} {d bc bs : Nat} {Q : QT} {l : Ls} {z : List Value} {h : Hp} (k : (tCV2 G d 0 0 9 mX11_lackedBits (fun l z h => T G d bc bs mX11_walk 42 l z h Q)) l z h) : T G d bc bs mX11_walk 39 l z h Q := by
  exact R_cv2 (M := mX11_walk) (pc := 39) (bc := bc) (bs := bs) (cb := 0) (cs := 0) (M' := mX11_lackedBits) dX11_walk_39 rfl (by decide) w_852 w_136 w_849 w_850 w_851 (by decide +kernel) (fun _ _ _ k => k) k
theorem bX11_walk_42 {G : Gt} {d bc bs : Nat} {Q : QT} {l : Ls} {z : List Value} {h : Hp} (k : (tIf (fun x => x = 0) (fun l z h => T G d bc bs mX11_walk 47 l z h Q) (fun l z h => T G d bc bs mX11_walk 45 l z h Q)) l z h) : T G d bc bs mX11_walk 42 l z h Q := by
  exact R_if_eq dX11_walk_42 (by decide) (fun _ _ _ k => k) (fun _ _ _ k => k) k
theorem bX11_walk_45 {G : Gt} {d bc bs : Nat} {Q : QT} {l : Ls} {z : List Value} {h : Hp} (k : (tPush (.int 2) (tRetI Q)) l z h) : T G d bc bs mX11_walk 45 l z h Q := by
  refine R_iconst dX11_walk_45 (by decide) (fun l z h k => ?_) k
  exact R_iret dX11_walk_46 rfl k
theorem bX11_walk_47 {G : Gt} {d bc bs : Nat} {Q : QT} {l : Ls} {z : List Value} {h : Hp} (k : (tAld 0 (tGetf 9 8 (tIld 1 (tIld 2 (tXast 0 (tAld 0 (tGetf 9 9 (tIld 1 (tPush (.int 0) (tXast 0 (tAld 0 (tGetf 9 10 (tIld 1 (tDup2 (tXald 0 (tPush (.int 1) (tB (fun x y => x + y) (tXast 0 (tPush (.int 0) (tRetI Q)))))))))))))))))))) l z h) : T G d bc bs mX11_walk 47 l z h Q := by
  refine R_aload_n dX11_walk_47 rfl (fun l z h k => ?_) k
  refine R_getf (ci := 9) (f := 8) (C := RX11) (N := 14) (Tt := TX11) dX11_walk_48 rfl i_X11 (by decide) w_275 (fun l z h k => ?_) k
  refine R_iload_n dX11_walk_51 rfl (fun l z h k => ?_) k
  refine R_iload_n dX11_walk_52 rfl (fun l z h k => ?_) k
  refine R_iastore dX11_walk_53 (fun l z h k => ?_) k
  refine R_aload_n dX11_walk_54 rfl (fun l z h k => ?_) k
  refine R_getf (ci := 9) (f := 9) (C := RX11) (N := 14) (Tt := TX11) dX11_walk_55 rfl i_X11 (by decide) w_279 (fun l z h k => ?_) k
  refine R_iload_n dX11_walk_58 rfl (fun l z h k => ?_) k
  refine R_iconst dX11_walk_59 (by decide) (fun l z h k => ?_) k
  refine R_iastore dX11_walk_60 (fun l z h k => ?_) k
  refine R_aload_n dX11_walk_61 rfl (fun l z h k => ?_) k
  refine R_getf (ci := 9) (f := 10) (C := RX11) (N := 14) (Tt := TX11) dX11_walk_62 rfl i_X11 (by decide) w_282 (fun l z h k => ?_) k
  refine R_iload_n dX11_walk_65 rfl (fun l z h k => ?_) k
  refine R_dup2 dX11_walk_66 (fun l z h k => ?_) k
  refine R_iaload dX11_walk_67 (fun l z h k => ?_) k
  refine R_iconst dX11_walk_68 (by decide) (fun l z h k => ?_) k
  refine R_iadd dX11_walk_69 (fun l z h k => ?_) k
  refine R_iastore dX11_walk_70 (fun l z h k => ?_) k
  refine R_iconst dX11_walk_71 (by decide) (fun l z h k => ?_) k
  exact R_iret dX11_walk_72 rfl k
theorem dX11_placeTowardsWanted_0 : decode cX11_placeTowardsWanted 0 = .ok (.aload_n 0, 1) := by decide +kernel
theorem dX11_placeTowardsWanted_1 : decode cX11_placeTowardsWanted 1 = .ok (.getfield 25, 3) := by decide +kernel
theorem dX11_placeTowardsWanted_4 : decode cX11_placeTowardsWanted 4 = .ok (.iload_n 1, 1) := by decide +kernel
theorem dX11_placeTowardsWanted_5 : decode cX11_placeTowardsWanted 5 = .ok (.iaload, 1) := by decide +kernel
theorem dX11_placeTowardsWanted_6 : decode cX11_placeTowardsWanted 6 = .ok (.iconst 1, 1) := by decide +kernel
theorem dX11_placeTowardsWanted_7 : decode cX11_placeTowardsWanted 7 = .ok (.if_icmp .ne 14, 3) := by decide +kernel
theorem dX11_placeTowardsWanted_10 : decode cX11_placeTowardsWanted 10 = .ok (.aload_n 0, 1) := by decide +kernel
theorem dX11_placeTowardsWanted_11 : decode cX11_placeTowardsWanted 11 = .ok (.getfield 28, 3) := by decide +kernel
theorem dX11_placeTowardsWanted_14 : decode cX11_placeTowardsWanted 14 = .ok (.iload_n 1, 1) := by decide +kernel
theorem dX11_placeTowardsWanted_15 : decode cX11_placeTowardsWanted 15 = .ok (.iaload, 1) := by decide +kernel
theorem dX11_placeTowardsWanted_16 : decode cX11_placeTowardsWanted 16 = .ok (.iconst 1, 1) := by decide +kernel
theorem dX11_placeTowardsWanted_17 : decode cX11_placeTowardsWanted 17 = .ok (.iadd, 1) := by decide +kernel
theorem dX11_placeTowardsWanted_18 : decode cX11_placeTowardsWanted 18 = .ok (.goto 11, 3) := by decide +kernel
theorem dX11_placeTowardsWanted_21 : decode cX11_placeTowardsWanted 21 = .ok (.aload_n 0, 1) := by decide +kernel
theorem dX11_placeTowardsWanted_22 : decode cX11_placeTowardsWanted 22 = .ok (.getfield 28, 3) := by decide +kernel
theorem dX11_placeTowardsWanted_25 : decode cX11_placeTowardsWanted 25 = .ok (.iload_n 1, 1) := by decide +kernel
theorem dX11_placeTowardsWanted_26 : decode cX11_placeTowardsWanted 26 = .ok (.iaload, 1) := by decide +kernel
theorem dX11_placeTowardsWanted_27 : decode cX11_placeTowardsWanted 27 = .ok (.iconst 1, 1) := by decide +kernel
theorem dX11_placeTowardsWanted_28 : decode cX11_placeTowardsWanted 28 = .ok (.isub, 1) := by decide +kernel
theorem dX11_placeTowardsWanted_29 : decode cX11_placeTowardsWanted 29 = .ok (.ireturn, 1) := by decide +kernel
theorem bX11_placeTowardsWanted_0 {G : Gt} {d bc bs : Nat} {Q : QT} {l : Ls} {z : List Value} {h : Hp} (k : (tAld 0 (tGetf 9 7 (tIld 1 (tXald 0 (tPush (.int 1) (tIf2 (fun x y => x = y) (fun l z h => T G d bc bs mX11_placeTowardsWanted 10 l z h Q) (fun l z h => T G d bc bs mX11_placeTowardsWanted 21 l z h Q))))))) l z h) : T G d bc bs mX11_placeTowardsWanted 0 l z h Q := by
  refine R_aload_n dX11_placeTowardsWanted_0 rfl (fun l z h k => ?_) k
  refine R_getf (ci := 9) (f := 7) (C := RX11) (N := 14) (Tt := TX11) dX11_placeTowardsWanted_1 rfl i_X11 (by decide) w_271 (fun l z h k => ?_) k
  refine R_iload_n dX11_placeTowardsWanted_4 rfl (fun l z h k => ?_) k
  refine R_iaload dX11_placeTowardsWanted_5 (fun l z h k => ?_) k
  refine R_iconst dX11_placeTowardsWanted_6 (by decide) (fun l z h k => ?_) k
  exact R_icmp_ne dX11_placeTowardsWanted_7 (by decide) (fun _ _ _ k => k) (fun _ _ _ k => k) k
theorem bX11_placeTowardsWanted_10 {G : Gt} {d bc bs : Nat} {Q : QT} {l : Ls} {z : List Value} {h : Hp} (k : (tAld 0 (tGetf 9 8 (tIld 1 (tXald 0 (tPush (.int 1) (tB (fun x y => x + y) ((fun l z h => T G d bc bs mX11_placeTowardsWanted 29 l z h Q)))))))) l z h) : T G d bc bs mX11_placeTowardsWanted 10 l z h Q := by
  refine R_aload_n dX11_placeTowardsWanted_10 rfl (fun l z h k => ?_) k
  refine R_getf (ci := 9) (f := 8) (C := RX11) (N := 14) (Tt := TX11) dX11_placeTowardsWanted_11 rfl i_X11 (by decide) w_275 (fun l z h k => ?_) k
  refine R_iload_n dX11_placeTowardsWanted_14 rfl (fun l z h k => ?_) k
  refine R_iaload dX11_placeTowardsWanted_15 (fun l z h k => ?_) k
  refine R_iconst dX11_placeTowardsWanted_16 (by decide) (fun l z h k => ?_) k
  refine R_iadd dX11_placeTowardsWanted_17 (fun l z h k => ?_) k
  exact R_goto dX11_placeTowardsWanted_18 (by decide) (fun _ _ _ k => k) k
theorem bX11_placeTowardsWanted_21 {G : Gt} {d bc bs : Nat} {Q : QT} {l : Ls} {z : List Value} {h : Hp} (k : (tAld 0 (tGetf 9 8 (tIld 1 (tXald 0 (tPush (.int 1) (tB (fun x y => x - y) ((fun l z h => T G d bc bs mX11_placeTowardsWanted 29 l z h Q)))))))) l z h) : T G d bc bs mX11_placeTowardsWanted 21 l z h Q := by
  refine R_aload_n dX11_placeTowardsWanted_21 rfl (fun l z h k => ?_) k
  refine R_getf (ci := 9) (f := 8) (C := RX11) (N := 14) (Tt := TX11) dX11_placeTowardsWanted_22 rfl i_X11 (by decide) w_275 (fun l z h k => ?_) k
  refine R_iload_n dX11_placeTowardsWanted_25 rfl (fun l z h k => ?_) k
  refine R_iaload dX11_placeTowardsWanted_26 (fun l z h k => ?_) k
  refine R_iconst dX11_placeTowardsWanted_27 (by decide) (fun l z h k => ?_) k
  refine R_isub dX11_placeTowardsWanted_28 (fun l z h k => ?_) k
  exact k
theorem bX11_placeTowardsWanted_29 {G : Gt} {d bc bs : Nat} {Q : QT} {l : Ls} {z : List Value} {h : Hp} (k : (tRetI Q) l z h) : T G d bc bs mX11_placeTowardsWanted 29 l z h Q := by
  exact R_iret dX11_placeTowardsWanted_29 rfl k
theorem dX11_placeAwayFromWanted_0 : decode cX11_placeAwayFromWanted 0 = .ok (.aload_n 0, 1) := by decide +kernel
theorem dX11_placeAwayFromWanted_1 : decode cX11_placeAwayFromWanted 1 = .ok (.getfield 25, 3) := by decide +kernel
theorem dX11_placeAwayFromWanted_4 : decode cX11_placeAwayFromWanted 4 = .ok (.iload_n 1, 1) := by decide +kernel
theorem dX11_placeAwayFromWanted_5 : decode cX11_placeAwayFromWanted 5 = .ok (.iaload, 1) := by decide +kernel
theorem dX11_placeAwayFromWanted_6 : decode cX11_placeAwayFromWanted 6 = .ok (.iconst 1, 1) := by decide +kernel
theorem dX11_placeAwayFromWanted_7 : decode cX11_placeAwayFromWanted 7 = .ok (.if_icmp .ne 14, 3) := by decide +kernel
theorem dX11_placeAwayFromWanted_10 : decode cX11_placeAwayFromWanted 10 = .ok (.aload_n 0, 1) := by decide +kernel
theorem dX11_placeAwayFromWanted_11 : decode cX11_placeAwayFromWanted 11 = .ok (.getfield 28, 3) := by decide +kernel
theorem dX11_placeAwayFromWanted_14 : decode cX11_placeAwayFromWanted 14 = .ok (.iload_n 1, 1) := by decide +kernel
theorem dX11_placeAwayFromWanted_15 : decode cX11_placeAwayFromWanted 15 = .ok (.iaload, 1) := by decide +kernel
theorem dX11_placeAwayFromWanted_16 : decode cX11_placeAwayFromWanted 16 = .ok (.iconst 1, 1) := by decide +kernel
theorem dX11_placeAwayFromWanted_17 : decode cX11_placeAwayFromWanted 17 = .ok (.isub, 1) := by decide +kernel
theorem dX11_placeAwayFromWanted_18 : decode cX11_placeAwayFromWanted 18 = .ok (.goto 11, 3) := by decide +kernel
theorem dX11_placeAwayFromWanted_21 : decode cX11_placeAwayFromWanted 21 = .ok (.aload_n 0, 1) := by decide +kernel
theorem dX11_placeAwayFromWanted_22 : decode cX11_placeAwayFromWanted 22 = .ok (.getfield 28, 3) := by decide +kernel
theorem dX11_placeAwayFromWanted_25 : decode cX11_placeAwayFromWanted 25 = .ok (.iload_n 1, 1) := by decide +kernel
theorem dX11_placeAwayFromWanted_26 : decode cX11_placeAwayFromWanted 26 = .ok (.iaload, 1) := by decide +kernel
theorem dX11_placeAwayFromWanted_27 : decode cX11_placeAwayFromWanted 27 = .ok (.iconst 1, 1) := by decide +kernel
theorem dX11_placeAwayFromWanted_28 : decode cX11_placeAwayFromWanted 28 = .ok (.iadd, 1) := by decide +kernel
theorem dX11_placeAwayFromWanted_29 : decode cX11_placeAwayFromWanted 29 = .ok (.ireturn, 1) := by decide +kernel
theorem bX11_placeAwayFromWanted_0 {G : Gt} {d bc bs : Nat} {Q : QT} {l : Ls} {z : List Value} {h : Hp} (k : (tAld 0 (tGetf 9 7 (tIld 1 (tXald 0 (tPush (.int 1) (tIf2 (fun x y => x = y) (fun l z h => T G d bc bs mX11_placeAwayFromWanted 10 l z h Q) (fun l z h => T G d bc bs mX11_placeAwayFromWanted 21 l z h Q))))))) l z h) : T G d bc bs mX11_placeAwayFromWanted 0 l z h Q := by
  refine R_aload_n dX11_placeAwayFromWanted_0 rfl (fun l z h k => ?_) k
  refine R_getf (ci := 9) (f := 7) (C := RX11) (N := 14) (Tt := TX11) dX11_placeAwayFromWanted_1 rfl i_X11 (by decide) w_271 (fun l z h k => ?_) k
  refine R_iload_n dX11_placeAwayFromWanted_4 rfl (fun l z h k => ?_) k
  refine R_iaload dX11_placeAwayFromWanted_5 (fun l z h k => ?_) k
  refine R_iconst dX11_placeAwayFromWanted_6 (by decide) (fun l z h k => ?_) k
  exact R_icmp_ne dX11_placeAwayFromWanted_7 (by decide) (fun _ _ _ k => k) (fun _ _ _ k => k) k
theorem bX11_placeAwayFromWanted_10 {G : Gt} {d bc bs : Nat} {Q : QT} {l : Ls} {z : List Value} {h : Hp} (k : (tAld 0 (tGetf 9 8 (tIld 1 (tXald 0 (tPush (.int 1) (tB (fun x y => x - y) ((fun l z h => T G d bc bs mX11_placeAwayFromWanted 29 l z h Q)))))))) l z h) : T G d bc bs mX11_placeAwayFromWanted 10 l z h Q := by
  refine R_aload_n dX11_placeAwayFromWanted_10 rfl (fun l z h k => ?_) k
  refine R_getf (ci := 9) (f := 8) (C := RX11) (N := 14) (Tt := TX11) dX11_placeAwayFromWanted_11 rfl i_X11 (by decide) w_275 (fun l z h k => ?_) k
  refine R_iload_n dX11_placeAwayFromWanted_14 rfl (fun l z h k => ?_) k
  refine R_iaload dX11_placeAwayFromWanted_15 (fun l z h k => ?_) k
  refine R_iconst dX11_placeAwayFromWanted_16 (by decide) (fun l z h k => ?_) k
  refine R_isub dX11_placeAwayFromWanted_17 (fun l z h k => ?_) k
  exact R_goto dX11_placeAwayFromWanted_18 (by decide) (fun _ _ _ k => k) k
theorem bX11_placeAwayFromWanted_21 {G : Gt} {d bc bs : Nat} {Q : QT} {l : Ls} {z : List Value} {h : Hp} (k : (tAld 0 (tGetf 9 8 (tIld 1 (tXald 0 (tPush (.int 1) (tB (fun x y => x + y) ((fun l z h => T G d bc bs mX11_placeAwayFromWanted 29 l z h Q)))))))) l z h) : T G d bc bs mX11_placeAwayFromWanted 21 l z h Q := by
  refine R_aload_n dX11_placeAwayFromWanted_21 rfl (fun l z h k => ?_) k
  refine R_getf (ci := 9) (f := 8) (C := RX11) (N := 14) (Tt := TX11) dX11_placeAwayFromWanted_22 rfl i_X11 (by decide) w_275 (fun l z h k => ?_) k
  refine R_iload_n dX11_placeAwayFromWanted_25 rfl (fun l z h k => ?_) k
  refine R_iaload dX11_placeAwayFromWanted_26 (fun l z h k => ?_) k
  refine R_iconst dX11_placeAwayFromWanted_27 (by decide) (fun l z h k => ?_) k
  refine R_iadd dX11_placeAwayFromWanted_28 (fun l z h k => ?_) k
  exact k
theorem bX11_placeAwayFromWanted_29 {G : Gt} {d bc bs : Nat} {Q : QT} {l : Ls} {z : List Value} {h : Hp} (k : (tRetI Q) l z h) : T G d bc bs mX11_placeAwayFromWanted 29 l z h Q := by
  exact R_iret dX11_placeAwayFromWanted_29 rfl k
theorem dX11_pair_0 : decode cX11_pair 0 = .ok (.iload_n 1, 1) := by decide +kernel
theorem dX11_pair_1 : decode cX11_pair 1 = .ok (.iload_n 2, 1) := by decide +kernel
theorem dX11_pair_2 : decode cX11_pair 2 = .ok (.if_icmp .ne 5, 3) := by decide +kernel
theorem dX11_pair_5 : decode cX11_pair 5 = .ok (.iconst 1, 1) := by decide +kernel
theorem dX11_pair_6 : decode cX11_pair 6 = .ok (.ireturn, 1) := by decide +kernel
theorem dX11_pair_7 : decode cX11_pair 7 = .ok (.aload_n 0, 1) := by decide +kernel
theorem dX11_pair_8 : decode cX11_pair 8 = .ok (.getfield 37, 3) := by decide +kernel
theorem dX11_pair_11 : decode cX11_pair 11 = .ok (.iload_n 1, 1) := by decide +kernel
theorem dX11_pair_12 : decode cX11_pair 12 = .ok (.iaload, 1) := by decide +kernel
theorem dX11_pair_13 : decode cX11_pair 13 = .ok (.iconst (-1), 1) := by decide +kernel
theorem dX11_pair_14 : decode cX11_pair 14 = .ok (.if_icmp .ne 13, 3) := by decide +kernel
theorem dX11_pair_17 : decode cX11_pair 17 = .ok (.aload_n 0, 1) := by decide +kernel
theorem dX11_pair_18 : decode cX11_pair 18 = .ok (.getfield 37, 3) := by decide +kernel
theorem dX11_pair_21 : decode cX11_pair 21 = .ok (.iload_n 2, 1) := by decide +kernel
theorem dX11_pair_22 : decode cX11_pair 22 = .ok (.iaload, 1) := by decide +kernel
theorem dX11_pair_23 : decode cX11_pair 23 = .ok (.iconst (-1), 1) := by decide +kernel
theorem dX11_pair_24 : decode cX11_pair 24 = .ok (.if_icmp .eq 5, 3) := by decide +kernel
theorem dX11_pair_27 : decode cX11_pair 27 = .ok (.iconst 2, 1) := by decide +kernel
theorem dX11_pair_28 : decode cX11_pair 28 = .ok (.ireturn, 1) := by decide +kernel
theorem dX11_pair_29 : decode cX11_pair 29 = .ok (.aload_n 0, 1) := by decide +kernel
theorem dX11_pair_30 : decode cX11_pair 30 = .ok (.getfield 37, 3) := by decide +kernel
theorem dX11_pair_33 : decode cX11_pair 33 = .ok (.iload_n 1, 1) := by decide +kernel
theorem dX11_pair_34 : decode cX11_pair 34 = .ok (.iload_n 2, 1) := by decide +kernel
theorem dX11_pair_35 : decode cX11_pair 35 = .ok (.iastore, 1) := by decide +kernel
theorem dX11_pair_36 : decode cX11_pair 36 = .ok (.aload_n 0, 1) := by decide +kernel
theorem dX11_pair_37 : decode cX11_pair 37 = .ok (.getfield 37, 3) := by decide +kernel
theorem dX11_pair_40 : decode cX11_pair 40 = .ok (.iload_n 2, 1) := by decide +kernel
theorem dX11_pair_41 : decode cX11_pair 41 = .ok (.iload_n 1, 1) := by decide +kernel
theorem dX11_pair_42 : decode cX11_pair 42 = .ok (.iastore, 1) := by decide +kernel
theorem dX11_pair_43 : decode cX11_pair 43 = .ok (.iconst 0, 1) := by decide +kernel
theorem dX11_pair_44 : decode cX11_pair 44 = .ok (.ireturn, 1) := by decide +kernel
theorem bX11_pair_0 {G : Gt} {d bc bs : Nat} {Q : QT} {l : Ls} {z : List Value} {h : Hp} (k : (tIld 1 (tIld 2 (tIf2 (fun x y => x = y) (fun l z h => T G d bc bs mX11_pair 5 l z h Q) (fun l z h => T G d bc bs mX11_pair 7 l z h Q)))) l z h) : T G d bc bs mX11_pair 0 l z h Q := by
  refine R_iload_n dX11_pair_0 rfl (fun l z h k => ?_) k
  refine R_iload_n dX11_pair_1 rfl (fun l z h k => ?_) k
  exact R_icmp_ne dX11_pair_2 (by decide) (fun _ _ _ k => k) (fun _ _ _ k => k) k
theorem bX11_pair_5 {G : Gt} {d bc bs : Nat} {Q : QT} {l : Ls} {z : List Value} {h : Hp} (k : (tPush (.int 1) (tRetI Q)) l z h) : T G d bc bs mX11_pair 5 l z h Q := by
  refine R_iconst dX11_pair_5 (by decide) (fun l z h k => ?_) k
  exact R_iret dX11_pair_6 rfl k
theorem bX11_pair_7 {G : Gt} {d bc bs : Nat} {Q : QT} {l : Ls} {z : List Value} {h : Hp} (k : (tAld 0 (tGetf 9 11 (tIld 1 (tXald 0 (tPush (.int (-1)) (tIf2 (fun x y => x = y) (fun l z h => T G d bc bs mX11_pair 17 l z h Q) (fun l z h => T G d bc bs mX11_pair 27 l z h Q))))))) l z h) : T G d bc bs mX11_pair 7 l z h Q := by
  refine R_aload_n dX11_pair_7 rfl (fun l z h k => ?_) k
  refine R_getf (ci := 9) (f := 11) (C := RX11) (N := 14) (Tt := TX11) dX11_pair_8 rfl i_X11 (by decide) w_285 (fun l z h k => ?_) k
  refine R_iload_n dX11_pair_11 rfl (fun l z h k => ?_) k
  refine R_iaload dX11_pair_12 (fun l z h k => ?_) k
  refine R_iconst dX11_pair_13 (by decide) (fun l z h k => ?_) k
  exact R_icmp_ne dX11_pair_14 (by decide) (fun _ _ _ k => k) (fun _ _ _ k => k) k
theorem bX11_pair_17 {G : Gt} {d bc bs : Nat} {Q : QT} {l : Ls} {z : List Value} {h : Hp} (k : (tAld 0 (tGetf 9 11 (tIld 2 (tXald 0 (tPush (.int (-1)) (tIf2 (fun x y => x = y) (fun l z h => T G d bc bs mX11_pair 29 l z h Q) (fun l z h => T G d bc bs mX11_pair 27 l z h Q))))))) l z h) : T G d bc bs mX11_pair 17 l z h Q := by
  refine R_aload_n dX11_pair_17 rfl (fun l z h k => ?_) k
  refine R_getf (ci := 9) (f := 11) (C := RX11) (N := 14) (Tt := TX11) dX11_pair_18 rfl i_X11 (by decide) w_285 (fun l z h k => ?_) k
  refine R_iload_n dX11_pair_21 rfl (fun l z h k => ?_) k
  refine R_iaload dX11_pair_22 (fun l z h k => ?_) k
  refine R_iconst dX11_pair_23 (by decide) (fun l z h k => ?_) k
  exact R_icmp_eq dX11_pair_24 (by decide) (fun _ _ _ k => k) (fun _ _ _ k => k) k
theorem bX11_pair_27 {G : Gt} {d bc bs : Nat} {Q : QT} {l : Ls} {z : List Value} {h : Hp} (k : (tPush (.int 2) (tRetI Q)) l z h) : T G d bc bs mX11_pair 27 l z h Q := by
  refine R_iconst dX11_pair_27 (by decide) (fun l z h k => ?_) k
  exact R_iret dX11_pair_28 rfl k
theorem bX11_pair_29 {G : Gt} {d bc bs : Nat} {Q : QT} {l : Ls} {z : List Value} {h : Hp} (k : (tAld 0 (tGetf 9 11 (tIld 1 (tIld 2 (tXast 0 (tAld 0 (tGetf 9 11 (tIld 2 (tIld 1 (tXast 0 (tPush (.int 0) (tRetI Q)))))))))))) l z h) : T G d bc bs mX11_pair 29 l z h Q := by
  refine R_aload_n dX11_pair_29 rfl (fun l z h k => ?_) k
  refine R_getf (ci := 9) (f := 11) (C := RX11) (N := 14) (Tt := TX11) dX11_pair_30 rfl i_X11 (by decide) w_285 (fun l z h k => ?_) k
  refine R_iload_n dX11_pair_33 rfl (fun l z h k => ?_) k
  refine R_iload_n dX11_pair_34 rfl (fun l z h k => ?_) k
  refine R_iastore dX11_pair_35 (fun l z h k => ?_) k
  refine R_aload_n dX11_pair_36 rfl (fun l z h k => ?_) k
  refine R_getf (ci := 9) (f := 11) (C := RX11) (N := 14) (Tt := TX11) dX11_pair_37 rfl i_X11 (by decide) w_285 (fun l z h k => ?_) k
  refine R_iload_n dX11_pair_40 rfl (fun l z h k => ?_) k
  refine R_iload_n dX11_pair_41 rfl (fun l z h k => ?_) k
  refine R_iastore dX11_pair_42 (fun l z h k => ?_) k
  refine R_iconst dX11_pair_43 (by decide) (fun l z h k => ?_) k
  exact R_iret dX11_pair_44 rfl k
theorem dX11_unpair_0 : decode cX11_unpair 0 = .ok (.aload_n 0, 1) := by decide +kernel
theorem dX11_unpair_1 : decode cX11_unpair 1 = .ok (.getfield 37, 3) := by decide +kernel
theorem dX11_unpair_4 : decode cX11_unpair 4 = .ok (.iload_n 1, 1) := by decide +kernel
theorem dX11_unpair_5 : decode cX11_unpair 5 = .ok (.iaload, 1) := by decide +kernel
theorem dX11_unpair_6 : decode cX11_unpair 6 = .ok (.istore_n 2, 1) := by decide +kernel
theorem dX11_unpair_7 : decode cX11_unpair 7 = .ok (.aload_n 0, 1) := by decide +kernel
theorem dX11_unpair_8 : decode cX11_unpair 8 = .ok (.iload_n 2, 1) := by decide +kernel
theorem dX11_unpair_9 : decode cX11_unpair 9 = .ok (.invokevirtual 103, 3) := by decide +kernel
theorem dX11_unpair_12 : decode cX11_unpair 12 = .ok (.ifCond .ne 5, 3) := by decide +kernel
theorem dX11_unpair_15 : decode cX11_unpair 15 = .ok (.iconst 1, 1) := by decide +kernel
theorem dX11_unpair_16 : decode cX11_unpair 16 = .ok (.ireturn, 1) := by decide +kernel
theorem dX11_unpair_17 : decode cX11_unpair 17 = .ok (.aload_n 0, 1) := by decide +kernel
theorem dX11_unpair_18 : decode cX11_unpair 18 = .ok (.getfield 37, 3) := by decide +kernel
theorem dX11_unpair_21 : decode cX11_unpair 21 = .ok (.iload_n 1, 1) := by decide +kernel
theorem dX11_unpair_22 : decode cX11_unpair 22 = .ok (.iconst (-1), 1) := by decide +kernel
theorem dX11_unpair_23 : decode cX11_unpair 23 = .ok (.iastore, 1) := by decide +kernel
theorem dX11_unpair_24 : decode cX11_unpair 24 = .ok (.aload_n 0, 1) := by decide +kernel
theorem dX11_unpair_25 : decode cX11_unpair 25 = .ok (.getfield 37, 3) := by decide +kernel
theorem dX11_unpair_28 : decode cX11_unpair 28 = .ok (.iload_n 2, 1) := by decide +kernel
theorem dX11_unpair_29 : decode cX11_unpair 29 = .ok (.iconst (-1), 1) := by decide +kernel
theorem dX11_unpair_30 : decode cX11_unpair 30 = .ok (.iastore, 1) := by decide +kernel
theorem dX11_unpair_31 : decode cX11_unpair 31 = .ok (.iconst 0, 1) := by decide +kernel
theorem dX11_unpair_32 : decode cX11_unpair 32 = .ok (.ireturn, 1) := by decide +kernel
theorem bX11_unpair_0 {G : Gt} {d bc bs : Nat} {Q : QT} {l : Ls} {z : List Value} {h : Hp} (k : (tAld 0 (tGetf 9 11 (tIld 1 (tXald 0 (tIst 2 (tAld 0 (tIld 2 (tCV1 G d 0 0 9 mX11_isPerson (fun l z h => T G d bc bs mX11_unpair 12 l z h Q))))))))) l z h) : T G d bc bs mX11_unpair 0 l z h Q := by
  refine R_aload_n dX11_unpair_0 rfl (fun l z h k => ?_) k
  refine R_getf (ci := 9) (f := 11) (C := RX11) (N := 14) (Tt := TX11) dX11_unpair_1 rfl i_X11 (by decide) w_285 (fun l z h k => ?_) k
  refine R_iload_n dX11_unpair_4 rfl (fun l z h k => ?_) k
  refine R_iaload dX11_unpair_5 (fun l z h k => ?_) k
  refine R_istore_n dX11_unpair_6 rfl (by decide) (fun l z h k => ?_) k
  refine R_aload_n dX11_unpair_7 rfl (fun l z h k => ?_) k
  refine R_iload_n dX11_unpair_8 rfl (fun l z h k => ?_) k
  exact R_cv1 (M := mX11_unpair) (pc := 9) (bc := bc) (bs := bs) (cb := 0) (cs := 0) (M' := mX11_isPerson) dX11_unpair_9 rfl (by decide) w_810 w_136 w_913 w_808 w_809 (by decide +kernel) (fun _ _ _ k => k) k
theorem bX11_unpair_12 {G : Gt} {d bc bs : Nat} {Q : QT} {l : Ls} {z : List Value} {h : Hp} (k : (tIf (fun x => x = 0) (fun l z h => T G d bc bs mX11_unpair 15 l z h Q) (fun l z h => T G d bc bs mX11_unpair 17 l z h Q)) l z h) : T G d bc bs mX11_unpair 12 l z h Q := by
  exact R_if_ne dX11_unpair_12 (by decide) (fun _ _ _ k => k) (fun _ _ _ k => k) k
theorem bX11_unpair_15 {G : Gt} {d bc bs : Nat} {Q : QT} {l : Ls} {z : List Value} {h : Hp} (k : (tPush (.int 1) (tRetI Q)) l z h) : T G d bc bs mX11_unpair 15 l z h Q := by
  refine R_iconst dX11_unpair_15 (by decide) (fun l z h k => ?_) k
  exact R_iret dX11_unpair_16 rfl k
theorem bX11_unpair_17 {G : Gt} {d bc bs : Nat} {Q : QT} {l : Ls} {z : List Value} {h : Hp} (k : (tAld 0 (tGetf 9 11 (tIld 1 (tPush (.int (-1)) (tXast 0 (tAld 0 (tGetf 9 11 (tIld 2 (tPush (.int (-1)) (tXast 0 (tPush (.int 0) (tRetI Q)))))))))))) l z h) : T G d bc bs mX11_unpair 17 l z h Q := by
  refine R_aload_n dX11_unpair_17 rfl (fun l z h k => ?_) k
  refine R_getf (ci := 9) (f := 11) (C := RX11) (N := 14) (Tt := TX11) dX11_unpair_18 rfl i_X11 (by decide) w_285 (fun l z h k => ?_) k
  refine R_iload_n dX11_unpair_21 rfl (fun l z h k => ?_) k
  refine R_iconst dX11_unpair_22 (by decide) (fun l z h k => ?_) k
  refine R_iastore dX11_unpair_23 (fun l z h k => ?_) k
  refine R_aload_n dX11_unpair_24 rfl (fun l z h k => ?_) k
  refine R_getf (ci := 9) (f := 11) (C := RX11) (N := 14) (Tt := TX11) dX11_unpair_25 rfl i_X11 (by decide) w_285 (fun l z h k => ?_) k
  refine R_iload_n dX11_unpair_28 rfl (fun l z h k => ?_) k
  refine R_iconst dX11_unpair_29 (by decide) (fun l z h k => ?_) k
  refine R_iastore dX11_unpair_30 (fun l z h k => ?_) k
  refine R_iconst dX11_unpair_31 (by decide) (fun l z h k => ?_) k
  exact R_iret dX11_unpair_32 rfl k
theorem dX11_swapHalves_0 : decode cX11_swapHalves 0 = .ok (.iload_n 1, 1) := by decide +kernel
theorem dX11_swapHalves_1 : decode cX11_swapHalves 1 = .ok (.iload_n 3, 1) := by decide +kernel
theorem dX11_swapHalves_2 : decode cX11_swapHalves 2 = .ok (.if_icmp .ne 5, 3) := by decide +kernel
theorem dX11_swapHalves_5 : decode cX11_swapHalves 5 = .ok (.iconst 1, 1) := by decide +kernel
theorem dX11_swapHalves_6 : decode cX11_swapHalves 6 = .ok (.ireturn, 1) := by decide +kernel
theorem dX11_swapHalves_7 : decode cX11_swapHalves 7 = .ok (.aload_n 0, 1) := by decide +kernel
theorem dX11_swapHalves_8 : decode cX11_swapHalves 8 = .ok (.getfield 28, 3) := by decide +kernel
theorem dX11_swapHalves_11 : decode cX11_swapHalves 11 = .ok (.iload_n 1, 1) := by decide +kernel
theorem dX11_swapHalves_12 : decode cX11_swapHalves 12 = .ok (.iaload, 1) := by decide +kernel
theorem dX11_swapHalves_13 : decode cX11_swapHalves 13 = .ok (.aload_n 0, 1) := by decide +kernel
theorem dX11_swapHalves_14 : decode cX11_swapHalves 14 = .ok (.getfield 28, 3) := by decide +kernel
theorem dX11_swapHalves_17 : decode cX11_swapHalves 17 = .ok (.iload_n 3, 1) := by decide +kernel
theorem dX11_swapHalves_18 : decode cX11_swapHalves 18 = .ok (.iaload, 1) := by decide +kernel
theorem dX11_swapHalves_19 : decode cX11_swapHalves 19 = .ok (.if_icmp .eq 5, 3) := by decide +kernel
theorem dX11_swapHalves_22 : decode cX11_swapHalves 22 = .ok (.iconst 2, 1) := by decide +kernel
theorem dX11_swapHalves_23 : decode cX11_swapHalves 23 = .ok (.ireturn, 1) := by decide +kernel
theorem dX11_swapHalves_24 : decode cX11_swapHalves 24 = .ok (.aload_n 0, 1) := by decide +kernel
theorem dX11_swapHalves_25 : decode cX11_swapHalves 25 = .ok (.iload_n 1, 1) := by decide +kernel
theorem dX11_swapHalves_26 : decode cX11_swapHalves 26 = .ok (.iload_n 2, 1) := by decide +kernel
theorem dX11_swapHalves_27 : decode cX11_swapHalves 27 = .ok (.invokevirtual 68, 3) := by decide +kernel
theorem dX11_swapHalves_30 : decode cX11_swapHalves 30 = .ok (.iconst 2, 1) := by decide +kernel
theorem dX11_swapHalves_31 : decode cX11_swapHalves 31 = .ok (.if_icmp .lt 14, 3) := by decide +kernel
theorem dX11_swapHalves_34 : decode cX11_swapHalves 34 = .ok (.aload_n 0, 1) := by decide +kernel
theorem dX11_swapHalves_35 : decode cX11_swapHalves 35 = .ok (.iload_n 3, 1) := by decide +kernel
theorem dX11_swapHalves_36 : decode cX11_swapHalves 36 = .ok (.iload 4, 2) := by decide +kernel
theorem dX11_swapHalves_38 : decode cX11_swapHalves 38 = .ok (.invokevirtual 68, 3) := by decide +kernel
theorem dX11_swapHalves_41 : decode cX11_swapHalves 41 = .ok (.iconst 2, 1) := by decide +kernel
theorem dX11_swapHalves_42 : decode cX11_swapHalves 42 = .ok (.if_icmp .ge 5, 3) := by decide +kernel
theorem dX11_swapHalves_45 : decode cX11_swapHalves 45 = .ok (.iconst 3, 1) := by decide +kernel
theorem dX11_swapHalves_46 : decode cX11_swapHalves 46 = .ok (.ireturn, 1) := by decide +kernel
theorem dX11_swapHalves_47 : decode cX11_swapHalves 47 = .ok (.aload_n 0, 1) := by decide +kernel
theorem dX11_swapHalves_48 : decode cX11_swapHalves 48 = .ok (.iload_n 1, 1) := by decide +kernel
theorem dX11_swapHalves_49 : decode cX11_swapHalves 49 = .ok (.iload_n 2, 1) := by decide +kernel
theorem dX11_swapHalves_50 : decode cX11_swapHalves 50 = .ok (.invokevirtual 68, 3) := by decide +kernel
theorem dX11_swapHalves_53 : decode cX11_swapHalves 53 = .ok (.iconst 2, 1) := by decide +kernel
theorem dX11_swapHalves_54 : decode cX11_swapHalves 54 = .ok (.idiv, 1) := by decide +kernel
theorem dX11_swapHalves_55 : decode cX11_swapHalves 55 = .ok (.istore 5, 2) := by decide +kernel
theorem dX11_swapHalves_57 : decode cX11_swapHalves 57 = .ok (.aload_n 0, 1) := by decide +kernel
theorem dX11_swapHalves_58 : decode cX11_swapHalves 58 = .ok (.iload_n 3, 1) := by decide +kernel
theorem dX11_swapHalves_59 : decode cX11_swapHalves 59 = .ok (.iload 4, 2) := by decide +kernel
theorem dX11_swapHalves_61 : decode cX11_swapHalves 61 = .ok (.invokevirtual 68, 3) := by decide +kernel
theorem dX11_swapHalves_64 : decode cX11_swapHalves 64 = .ok (.iconst 2, 1) := by decide +kernel
theorem dX11_swapHalves_65 : decode cX11_swapHalves 65 = .ok (.idiv, 1) := by decide +kernel
theorem dX11_swapHalves_66 : decode cX11_swapHalves 66 = .ok (.istore 6, 2) := by decide +kernel
theorem dX11_swapHalves_68 : decode cX11_swapHalves 68 = .ok (.aload_n 0, 1) := by decide +kernel
theorem dX11_swapHalves_69 : decode cX11_swapHalves 69 = .ok (.iload_n 1, 1) := by decide +kernel
theorem dX11_swapHalves_70 : decode cX11_swapHalves 70 = .ok (.iload_n 2, 1) := by decide +kernel
theorem dX11_swapHalves_71 : decode cX11_swapHalves 71 = .ok (.aload_n 0, 1) := by decide +kernel
theorem dX11_swapHalves_72 : decode cX11_swapHalves 72 = .ok (.iload_n 1, 1) := by decide +kernel
theorem dX11_swapHalves_73 : decode cX11_swapHalves 73 = .ok (.iload_n 2, 1) := by decide +kernel
theorem dX11_swapHalves_74 : decode cX11_swapHalves 74 = .ok (.invokevirtual 68, 3) := by decide +kernel
theorem dX11_swapHalves_77 : decode cX11_swapHalves 77 = .ok (.iload 5, 2) := by decide +kernel
theorem dX11_swapHalves_79 : decode cX11_swapHalves 79 = .ok (.isub, 1) := by decide +kernel
theorem dX11_swapHalves_80 : decode cX11_swapHalves 80 = .ok (.invokevirtual 107, 3) := by decide +kernel
theorem dX11_swapHalves_83 : decode cX11_swapHalves 83 = .ok (.aload_n 0, 1) := by decide +kernel
theorem dX11_swapHalves_84 : decode cX11_swapHalves 84 = .ok (.iload_n 3, 1) := by decide +kernel
theorem dX11_swapHalves_85 : decode cX11_swapHalves 85 = .ok (.iload 4, 2) := by decide +kernel
theorem dX11_swapHalves_87 : decode cX11_swapHalves 87 = .ok (.aload_n 0, 1) := by decide +kernel
theorem dX11_swapHalves_88 : decode cX11_swapHalves 88 = .ok (.iload_n 3, 1) := by decide +kernel
theorem dX11_swapHalves_89 : decode cX11_swapHalves 89 = .ok (.iload 4, 2) := by decide +kernel
theorem dX11_swapHalves_91 : decode cX11_swapHalves 91 = .ok (.invokevirtual 68, 3) := by decide +kernel
theorem dX11_swapHalves_94 : decode cX11_swapHalves 94 = .ok (.iload 6, 2) := by decide +kernel
theorem dX11_swapHalves_96 : decode cX11_swapHalves 96 = .ok (.isub, 1) := by decide +kernel
theorem dX11_swapHalves_97 : decode cX11_swapHalves 97 = .ok (.invokevirtual 107, 3) := by decide +kernel
theorem dX11_swapHalves_100 : decode cX11_swapHalves 100 = .ok (.aload_n 0, 1) := by decide +kernel
theorem dX11_swapHalves_101 : decode cX11_swapHalves 101 = .ok (.iload_n 1, 1) := by decide +kernel
theorem dX11_swapHalves_102 : decode cX11_swapHalves 102 = .ok (.iload 4, 2) := by decide +kernel
theorem dX11_swapHalves_104 : decode cX11_swapHalves 104 = .ok (.aload_n 0, 1) := by decide +kernel
theorem dX11_swapHalves_105 : decode cX11_swapHalves 105 = .ok (.iload_n 1, 1) := by decide +kernel
theorem dX11_swapHalves_106 : decode cX11_swapHalves 106 = .ok (.iload 4, 2) := by decide +kernel
theorem dX11_swapHalves_108 : decode cX11_swapHalves 108 = .ok (.invokevirtual 68, 3) := by decide +kernel
theorem dX11_swapHalves_111 : decode cX11_swapHalves 111 = .ok (.iload 6, 2) := by decide +kernel
theorem dX11_swapHalves_113 : decode cX11_swapHalves 113 = .ok (.iadd, 1) := by decide +kernel
theorem dX11_swapHalves_114 : decode cX11_swapHalves 114 = .ok (.invokevirtual 107, 3) := by decide +kernel
theorem dX11_swapHalves_117 : decode cX11_swapHalves 117 = .ok (.aload_n 0, 1) := by decide +kernel
theorem dX11_swapHalves_118 : decode cX11_swapHalves 118 = .ok (.iload_n 3, 1) := by decide +kernel
theorem dX11_swapHalves_119 : decode cX11_swapHalves 119 = .ok (.iload_n 2, 1) := by decide +kernel
theorem dX11_swapHalves_120 : decode cX11_swapHalves 120 = .ok (.aload_n 0, 1) := by decide +kernel
theorem dX11_swapHalves_121 : decode cX11_swapHalves 121 = .ok (.iload_n 3, 1) := by decide +kernel
theorem dX11_swapHalves_122 : decode cX11_swapHalves 122 = .ok (.iload_n 2, 1) := by decide +kernel
theorem dX11_swapHalves_123 : decode cX11_swapHalves 123 = .ok (.invokevirtual 68, 3) := by decide +kernel
theorem dX11_swapHalves_126 : decode cX11_swapHalves 126 = .ok (.iload 5, 2) := by decide +kernel
theorem dX11_swapHalves_128 : decode cX11_swapHalves 128 = .ok (.iadd, 1) := by decide +kernel
theorem dX11_swapHalves_129 : decode cX11_swapHalves 129 = .ok (.invokevirtual 107, 3) := by decide +kernel
theorem dX11_swapHalves_132 : decode cX11_swapHalves 132 = .ok (.iconst 0, 1) := by decide +kernel
theorem dX11_swapHalves_133 : decode cX11_swapHalves 133 = .ok (.ireturn, 1) := by decide +kernel
theorem bX11_swapHalves_0 {G : Gt} {d bc bs : Nat} {Q : QT} {l : Ls} {z : List Value} {h : Hp} (k : (tIld 1 (tIld 3 (tIf2 (fun x y => x = y) (fun l z h => T G d bc bs mX11_swapHalves 5 l z h Q) (fun l z h => T G d bc bs mX11_swapHalves 7 l z h Q)))) l z h) : T G d bc bs mX11_swapHalves 0 l z h Q := by
  refine R_iload_n dX11_swapHalves_0 rfl (fun l z h k => ?_) k
  refine R_iload_n dX11_swapHalves_1 rfl (fun l z h k => ?_) k
  exact R_icmp_ne dX11_swapHalves_2 (by decide) (fun _ _ _ k => k) (fun _ _ _ k => k) k
theorem bX11_swapHalves_5 {G : Gt} {d bc bs : Nat} {Q : QT} {l : Ls} {z : List Value} {h : Hp} (k : (tPush (.int 1) (tRetI Q)) l z h) : T G d bc bs mX11_swapHalves 5 l z h Q := by
  refine R_iconst dX11_swapHalves_5 (by decide) (fun l z h k => ?_) k
  exact R_iret dX11_swapHalves_6 rfl k
theorem bX11_swapHalves_7 {G : Gt} {d bc bs : Nat} {Q : QT} {l : Ls} {z : List Value} {h : Hp} (k : (tAld 0 (tGetf 9 8 (tIld 1 (tXald 0 (tAld 0 (tGetf 9 8 (tIld 3 (tXald 0 (tIf2 (fun x y => x = y) (fun l z h => T G d bc bs mX11_swapHalves 24 l z h Q) (fun l z h => T G d bc bs mX11_swapHalves 22 l z h Q)))))))))) l z h) : T G d bc bs mX11_swapHalves 7 l z h Q := by
  refine R_aload_n dX11_swapHalves_7 rfl (fun l z h k => ?_) k
  refine R_getf (ci := 9) (f := 8) (C := RX11) (N := 14) (Tt := TX11) dX11_swapHalves_8 rfl i_X11 (by decide) w_275 (fun l z h k => ?_) k
  refine R_iload_n dX11_swapHalves_11 rfl (fun l z h k => ?_) k
  refine R_iaload dX11_swapHalves_12 (fun l z h k => ?_) k
  refine R_aload_n dX11_swapHalves_13 rfl (fun l z h k => ?_) k
  refine R_getf (ci := 9) (f := 8) (C := RX11) (N := 14) (Tt := TX11) dX11_swapHalves_14 rfl i_X11 (by decide) w_275 (fun l z h k => ?_) k
  refine R_iload_n dX11_swapHalves_17 rfl (fun l z h k => ?_) k
  refine R_iaload dX11_swapHalves_18 (fun l z h k => ?_) k
  exact R_icmp_eq dX11_swapHalves_19 (by decide) (fun _ _ _ k => k) (fun _ _ _ k => k) k
theorem bX11_swapHalves_22 {G : Gt} {d bc bs : Nat} {Q : QT} {l : Ls} {z : List Value} {h : Hp} (k : (tPush (.int 2) (tRetI Q)) l z h) : T G d bc bs mX11_swapHalves 22 l z h Q := by
  refine R_iconst dX11_swapHalves_22 (by decide) (fun l z h k => ?_) k
  exact R_iret dX11_swapHalves_23 rfl k
theorem bX11_swapHalves_24 {G : Gt} {d bc bs : Nat} {Q : QT} {l : Ls} {z : List Value} {h : Hp} (k : (tAld 0 (tIld 1 (tIld 2 (tCV2 G d 0 0 9 mX11_held (fun l z h => T G d bc bs mX11_swapHalves 30 l z h Q))))) l z h) : T G d bc bs mX11_swapHalves 24 l z h Q := by
  refine R_aload_n dX11_swapHalves_24 rfl (fun l z h k => ?_) k
  refine R_iload_n dX11_swapHalves_25 rfl (fun l z h k => ?_) k
  refine R_iload_n dX11_swapHalves_26 rfl (fun l z h k => ?_) k
  exact R_cv2 (M := mX11_swapHalves) (pc := 27) (bc := bc) (bs := bs) (cb := 0) (cs := 0) (M' := mX11_held) dX11_swapHalves_27 rfl (by decide) w_739 w_136 w_824 w_737 w_738 (by decide +kernel) (fun _ _ _ k => k) k
theorem bX11_swapHalves_30 {G : Gt} {d bc bs : Nat} {Q : QT} {l : Ls} {z : List Value} {h : Hp} (k : (tPush (.int 2) (tIf2 (fun x y => x < y) (fun l z h => T G d bc bs mX11_swapHalves 45 l z h Q) (fun l z h => T G d bc bs mX11_swapHalves 34 l z h Q))) l z h) : T G d bc bs mX11_swapHalves 30 l z h Q := by
  refine R_iconst dX11_swapHalves_30 (by decide) (fun l z h k => ?_) k
  exact R_icmp_lt dX11_swapHalves_31 (by decide) (fun _ _ _ k => k) (fun _ _ _ k => k) k
theorem bX11_swapHalves_34 {G : Gt} {d bc bs : Nat} {Q : QT} {l : Ls} {z : List Value} {h : Hp} (k : (tAld 0 (tIld 3 (tIld 4 (tCV2 G d 0 0 9 mX11_held (fun l z h => T G d bc bs mX11_swapHalves 41 l z h Q))))) l z h) : T G d bc bs mX11_swapHalves 34 l z h Q := by
  refine R_aload_n dX11_swapHalves_34 rfl (fun l z h k => ?_) k
  refine R_iload_n dX11_swapHalves_35 rfl (fun l z h k => ?_) k
  refine R_iload dX11_swapHalves_36 (fun l z h k => ?_) k
  exact R_cv2 (M := mX11_swapHalves) (pc := 38) (bc := bc) (bs := bs) (cb := 0) (cs := 0) (M' := mX11_held) dX11_swapHalves_38 rfl (by decide) w_739 w_136 w_824 w_737 w_738 (by decide +kernel) (fun _ _ _ k => k) k
theorem bX11_swapHalves_41 {G : Gt} {d bc bs : Nat} {Q : QT} {l : Ls} {z : List Value} {h : Hp} (k : (tPush (.int 2) (tIf2 (fun x y => y ≤ x) (fun l z h => T G d bc bs mX11_swapHalves 47 l z h Q) (fun l z h => T G d bc bs mX11_swapHalves 45 l z h Q))) l z h) : T G d bc bs mX11_swapHalves 41 l z h Q := by
  refine R_iconst dX11_swapHalves_41 (by decide) (fun l z h k => ?_) k
  exact R_icmp_ge dX11_swapHalves_42 (by decide) (fun _ _ _ k => k) (fun _ _ _ k => k) k
theorem bX11_swapHalves_45 {G : Gt} {d bc bs : Nat} {Q : QT} {l : Ls} {z : List Value} {h : Hp} (k : (tPush (.int 3) (tRetI Q)) l z h) : T G d bc bs mX11_swapHalves 45 l z h Q := by
  refine R_iconst dX11_swapHalves_45 (by decide) (fun l z h k => ?_) k
  exact R_iret dX11_swapHalves_46 rfl k
theorem bX11_swapHalves_47 {G : Gt} {d bc bs : Nat} {Q : QT} {l : Ls} {z : List Value} {h : Hp} (k : (tAld 0 (tIld 1 (tIld 2 (tCV2 G d 0 0 9 mX11_held (fun l z h => T G d bc bs mX11_swapHalves 53 l z h Q))))) l z h) : T G d bc bs mX11_swapHalves 47 l z h Q := by
  refine R_aload_n dX11_swapHalves_47 rfl (fun l z h k => ?_) k
  refine R_iload_n dX11_swapHalves_48 rfl (fun l z h k => ?_) k
  refine R_iload_n dX11_swapHalves_49 rfl (fun l z h k => ?_) k
  exact R_cv2 (M := mX11_swapHalves) (pc := 50) (bc := bc) (bs := bs) (cb := 0) (cs := 0) (M' := mX11_held) dX11_swapHalves_50 rfl (by decide) w_739 w_136 w_824 w_737 w_738 (by decide +kernel) (fun _ _ _ k => k) k
theorem bX11_swapHalves_53 {G : Gt} {d bc bs : Nat} {Q : QT} {l : Ls} {z : List Value} {h : Hp} (k : (tPush (.int 2) (tBn (fun x y => x / y) (tIst 5 (tAld 0 (tIld 3 (tIld 4 (tCV2 G d 0 0 9 mX11_held (fun l z h => T G d bc bs mX11_swapHalves 64 l z h Q)))))))) l z h) : T G d bc bs mX11_swapHalves 53 l z h Q := by
  refine R_iconst dX11_swapHalves_53 (by decide) (fun l z h k => ?_) k
  refine R_idiv dX11_swapHalves_54 (fun l z h k => ?_) k
  refine R_istore dX11_swapHalves_55 (by decide) (fun l z h k => ?_) k
  refine R_aload_n dX11_swapHalves_57 rfl (fun l z h k => ?_) k
  refine R_iload_n dX11_swapHalves_58 rfl (fun l z h k => ?_) k
  refine R_iload dX11_swapHalves_59 (fun l z h k => ?_) k
  exact R_cv2 (M := mX11_swapHalves) (pc := 61) (bc := bc) (bs := bs) (cb := 0) (cs := 0) (M' := mX11_held) dX11_swapHalves_61 rfl (by decide) w_739 w_136 w_824 w_737 w_738 (by decide +kernel) (fun _ _ _ k => k) k
theorem bX11_swapHalves_64 {G : Gt} {d bc bs : Nat} {Q : QT} {l : Ls} {z : List Value} {h : Hp} (k : (tPush (.int 2) (tBn (fun x y => x / y) (tIst 6 (tAld 0 (tIld 1 (tIld 2 (tAld 0 (tIld 1 (tIld 2 (tCV2 G d 0 0 9 mX11_held (fun l z h => T G d bc bs mX11_swapHalves 77 l z h Q))))))))))) l z h) : T G d bc bs mX11_swapHalves 64 l z h Q := by
  refine R_iconst dX11_swapHalves_64 (by decide) (fun l z h k => ?_) k
  refine R_idiv dX11_swapHalves_65 (fun l z h k => ?_) k
  refine R_istore dX11_swapHalves_66 (by decide) (fun l z h k => ?_) k
  refine R_aload_n dX11_swapHalves_68 rfl (fun l z h k => ?_) k
  refine R_iload_n dX11_swapHalves_69 rfl (fun l z h k => ?_) k
  refine R_iload_n dX11_swapHalves_70 rfl (fun l z h k => ?_) k
  refine R_aload_n dX11_swapHalves_71 rfl (fun l z h k => ?_) k
  refine R_iload_n dX11_swapHalves_72 rfl (fun l z h k => ?_) k
  refine R_iload_n dX11_swapHalves_73 rfl (fun l z h k => ?_) k
  exact R_cv2 (M := mX11_swapHalves) (pc := 74) (bc := bc) (bs := bs) (cb := 0) (cs := 0) (M' := mX11_held) dX11_swapHalves_74 rfl (by decide) w_739 w_136 w_824 w_737 w_738 (by decide +kernel) (fun _ _ _ k => k) k
theorem bX11_swapHalves_77 {G : Gt} {d bc bs : Nat} {Q : QT} {l : Ls} {z : List Value} {h : Hp} (k : (tIld 5 (tB (fun x y => x - y) (tCV3 G d 0 0 9 mX11_setHeld (fun l z h => T G d bc bs mX11_swapHalves 83 l z h Q)))) l z h) : T G d bc bs mX11_swapHalves 77 l z h Q := by
  refine R_iload dX11_swapHalves_77 (fun l z h k => ?_) k
  refine R_isub dX11_swapHalves_79 (fun l z h k => ?_) k
  exact R_cv3 (M := mX11_swapHalves) (pc := 80) (bc := bc) (bs := bs) (cb := 0) (cs := 0) (M' := mX11_setHeld) dX11_swapHalves_80 rfl (by decide) w_743 w_136 w_922 w_741 w_742 (by decide +kernel) (fun _ _ _ k => k) k
theorem bX11_swapHalves_83 {G : Gt} {d bc bs : Nat} {Q : QT} {l : Ls} {z : List Value} {h : Hp} (k : (tAld 0 (tIld 3 (tIld 4 (tAld 0 (tIld 3 (tIld 4 (tCV2 G d 0 0 9 mX11_held (fun l z h => T G d bc bs mX11_swapHalves 94 l z h Q)))))))) l z h) : T G d bc bs mX11_swapHalves 83 l z h Q := by
  refine R_aload_n dX11_swapHalves_83 rfl (fun l z h k => ?_) k
  refine R_iload_n dX11_swapHalves_84 rfl (fun l z h k => ?_) k
  refine R_iload dX11_swapHalves_85 (fun l z h k => ?_) k
  refine R_aload_n dX11_swapHalves_87 rfl (fun l z h k => ?_) k
  refine R_iload_n dX11_swapHalves_88 rfl (fun l z h k => ?_) k
  refine R_iload dX11_swapHalves_89 (fun l z h k => ?_) k
  exact R_cv2 (M := mX11_swapHalves) (pc := 91) (bc := bc) (bs := bs) (cb := 0) (cs := 0) (M' := mX11_held) dX11_swapHalves_91 rfl (by decide) w_739 w_136 w_824 w_737 w_738 (by decide +kernel) (fun _ _ _ k => k) k
theorem bX11_swapHalves_94 {G : Gt} {d bc bs : Nat} {Q : QT} {l : Ls} {z : List Value} {h : Hp} (k : (tIld 6 (tB (fun x y => x - y) (tCV3 G d 0 0 9 mX11_setHeld (fun l z h => T G d bc bs mX11_swapHalves 100 l z h Q)))) l z h) : T G d bc bs mX11_swapHalves 94 l z h Q := by
  refine R_iload dX11_swapHalves_94 (fun l z h k => ?_) k
  refine R_isub dX11_swapHalves_96 (fun l z h k => ?_) k
  exact R_cv3 (M := mX11_swapHalves) (pc := 97) (bc := bc) (bs := bs) (cb := 0) (cs := 0) (M' := mX11_setHeld) dX11_swapHalves_97 rfl (by decide) w_743 w_136 w_922 w_741 w_742 (by decide +kernel) (fun _ _ _ k => k) k
theorem bX11_swapHalves_100 {G : Gt} {d bc bs : Nat} {Q : QT} {l : Ls} {z : List Value} {h : Hp} (k : (tAld 0 (tIld 1 (tIld 4 (tAld 0 (tIld 1 (tIld 4 (tCV2 G d 0 0 9 mX11_held (fun l z h => T G d bc bs mX11_swapHalves 111 l z h Q)))))))) l z h) : T G d bc bs mX11_swapHalves 100 l z h Q := by
  refine R_aload_n dX11_swapHalves_100 rfl (fun l z h k => ?_) k
  refine R_iload_n dX11_swapHalves_101 rfl (fun l z h k => ?_) k
  refine R_iload dX11_swapHalves_102 (fun l z h k => ?_) k
  refine R_aload_n dX11_swapHalves_104 rfl (fun l z h k => ?_) k
  refine R_iload_n dX11_swapHalves_105 rfl (fun l z h k => ?_) k
  refine R_iload dX11_swapHalves_106 (fun l z h k => ?_) k
  exact R_cv2 (M := mX11_swapHalves) (pc := 108) (bc := bc) (bs := bs) (cb := 0) (cs := 0) (M' := mX11_held) dX11_swapHalves_108 rfl (by decide) w_739 w_136 w_824 w_737 w_738 (by decide +kernel) (fun _ _ _ k => k) k
theorem bX11_swapHalves_111 {G : Gt} {d bc bs : Nat} {Q : QT} {l : Ls} {z : List Value} {h : Hp} (k : (tIld 6 (tB (fun x y => x + y) (tCV3 G d 0 0 9 mX11_setHeld (fun l z h => T G d bc bs mX11_swapHalves 117 l z h Q)))) l z h) : T G d bc bs mX11_swapHalves 111 l z h Q := by
  refine R_iload dX11_swapHalves_111 (fun l z h k => ?_) k
  refine R_iadd dX11_swapHalves_113 (fun l z h k => ?_) k
  exact R_cv3 (M := mX11_swapHalves) (pc := 114) (bc := bc) (bs := bs) (cb := 0) (cs := 0) (M' := mX11_setHeld) dX11_swapHalves_114 rfl (by decide) w_743 w_136 w_922 w_741 w_742 (by decide +kernel) (fun _ _ _ k => k) k
theorem bX11_swapHalves_117 {G : Gt} {d bc bs : Nat} {Q : QT} {l : Ls} {z : List Value} {h : Hp} (k : (tAld 0 (tIld 3 (tIld 2 (tAld 0 (tIld 3 (tIld 2 (tCV2 G d 0 0 9 mX11_held (fun l z h => T G d bc bs mX11_swapHalves 126 l z h Q)))))))) l z h) : T G d bc bs mX11_swapHalves 117 l z h Q := by
  refine R_aload_n dX11_swapHalves_117 rfl (fun l z h k => ?_) k
  refine R_iload_n dX11_swapHalves_118 rfl (fun l z h k => ?_) k
  refine R_iload_n dX11_swapHalves_119 rfl (fun l z h k => ?_) k
  refine R_aload_n dX11_swapHalves_120 rfl (fun l z h k => ?_) k
  refine R_iload_n dX11_swapHalves_121 rfl (fun l z h k => ?_) k
  refine R_iload_n dX11_swapHalves_122 rfl (fun l z h k => ?_) k
  exact R_cv2 (M := mX11_swapHalves) (pc := 123) (bc := bc) (bs := bs) (cb := 0) (cs := 0) (M' := mX11_held) dX11_swapHalves_123 rfl (by decide) w_739 w_136 w_824 w_737 w_738 (by decide +kernel) (fun _ _ _ k => k) k
theorem bX11_swapHalves_126 {G : Gt} {d bc bs : Nat} {Q : QT} {l : Ls} {z : List Value} {h : Hp} (k : (tIld 5 (tB (fun x y => x + y) (tCV3 G d 0 0 9 mX11_setHeld (fun l z h => T G d bc bs mX11_swapHalves 132 l z h Q)))) l z h) : T G d bc bs mX11_swapHalves 126 l z h Q := by
  refine R_iload dX11_swapHalves_126 (fun l z h k => ?_) k
  refine R_iadd dX11_swapHalves_128 (fun l z h k => ?_) k
  exact R_cv3 (M := mX11_swapHalves) (pc := 129) (bc := bc) (bs := bs) (cb := 0) (cs := 0) (M' := mX11_setHeld) dX11_swapHalves_129 rfl (by decide) w_743 w_136 w_922 w_741 w_742 (by decide +kernel) (fun _ _ _ k => k) k
theorem bX11_swapHalves_132 {G : Gt} {d bc bs : Nat} {Q : QT} {l : Ls} {z : List Value} {h : Hp} (k : (tPush (.int 0) (tRetI Q)) l z h) : T G d bc bs mX11_swapHalves 132 l z h Q := by
  refine R_iconst dX11_swapHalves_132 (by decide) (fun l z h k => ?_) k
  exact R_iret dX11_swapHalves_133 rfl k
theorem dX11_demand_0 : decode cX11_demand 0 = .ok (.aload_n 0, 1) := by decide +kernel
theorem dX11_demand_1 : decode cX11_demand 1 = .ok (.iload_n 1, 1) := by decide +kernel
theorem dX11_demand_2 : decode cX11_demand 2 = .ok (.iload_n 2, 1) := by decide +kernel
theorem dX11_demand_3 : decode cX11_demand 3 = .ok (.invokevirtual 76, 3) := by decide +kernel
theorem dX11_demand_6 : decode cX11_demand 6 = .ok (.iload_n 3, 1) := by decide +kernel
theorem dX11_demand_7 : decode cX11_demand 7 = .ok (.if_icmp .ne 5, 3) := by decide +kernel
theorem dX11_demand_10 : decode cX11_demand 10 = .ok (.iconst 1, 1) := by decide +kernel
theorem dX11_demand_11 : decode cX11_demand 11 = .ok (.ireturn, 1) := by decide +kernel
theorem dX11_demand_12 : decode cX11_demand 12 = .ok (.aload_n 0, 1) := by decide +kernel
theorem dX11_demand_13 : decode cX11_demand 13 = .ok (.iload_n 1, 1) := by decide +kernel
theorem dX11_demand_14 : decode cX11_demand 14 = .ok (.iload_n 2, 1) := by decide +kernel
theorem dX11_demand_15 : decode cX11_demand 15 = .ok (.iload_n 3, 1) := by decide +kernel
theorem dX11_demand_16 : decode cX11_demand 16 = .ok (.invokevirtual 111, 3) := by decide +kernel
theorem dX11_demand_19 : decode cX11_demand 19 = .ok (.iconst 0, 1) := by decide +kernel
theorem dX11_demand_20 : decode cX11_demand 20 = .ok (.ireturn, 1) := by decide +kernel
theorem bX11_demand_0 {G : Gt} {d bc bs : Nat} {Q : QT} {l : Ls} {z : List Value} {h : Hp} (k : (tAld 0 (tIld 1 (tIld 2 (tCV2 G d 0 0 9 mX11_askedAt (fun l z h => T G d bc bs mX11_demand 6 l z h Q))))) l z h) : T G d bc bs mX11_demand 0 l z h Q := by
  refine R_aload_n dX11_demand_0 rfl (fun l z h k => ?_) k
  refine R_iload_n dX11_demand_1 rfl (fun l z h k => ?_) k
  refine R_iload_n dX11_demand_2 rfl (fun l z h k => ?_) k
  exact R_cv2 (M := mX11_demand) (pc := 3) (bc := bc) (bs := bs) (cb := 0) (cs := 0) (M' := mX11_askedAt) dX11_demand_3 rfl (by decide) w_753 w_136 w_853 w_751 w_752 (by decide +kernel) (fun _ _ _ k => k) k
theorem bX11_demand_6 {G : Gt} {d bc bs : Nat} {Q : QT} {l : Ls} {z : List Value} {h : Hp} (k : (tIld 3 (tIf2 (fun x y => x = y) (fun l z h => T G d bc bs mX11_demand 10 l z h Q) (fun l z h => T G d bc bs mX11_demand 12 l z h Q))) l z h) : T G d bc bs mX11_demand 6 l z h Q := by
  refine R_iload_n dX11_demand_6 rfl (fun l z h k => ?_) k
  exact R_icmp_ne dX11_demand_7 (by decide) (fun _ _ _ k => k) (fun _ _ _ k => k) k
theorem bX11_demand_10 {G : Gt} {d bc bs : Nat} {Q : QT} {l : Ls} {z : List Value} {h : Hp} (k : (tPush (.int 1) (tRetI Q)) l z h) : T G d bc bs mX11_demand 10 l z h Q := by
  refine R_iconst dX11_demand_10 (by decide) (fun l z h k => ?_) k
  exact R_iret dX11_demand_11 rfl k
theorem bX11_demand_12 {G : Gt} {d bc bs : Nat} {Q : QT} {l : Ls} {z : List Value} {h : Hp} (k : (tAld 0 (tIld 1 (tIld 2 (tIld 3 (tCV3 G d 0 0 9 mX11_setAsked (fun l z h => T G d bc bs mX11_demand 19 l z h Q)))))) l z h) : T G d bc bs mX11_demand 12 l z h Q := by
  refine R_aload_n dX11_demand_12 rfl (fun l z h k => ?_) k
  refine R_iload_n dX11_demand_13 rfl (fun l z h k => ?_) k
  refine R_iload_n dX11_demand_14 rfl (fun l z h k => ?_) k
  refine R_iload_n dX11_demand_15 rfl (fun l z h k => ?_) k
  exact R_cv3 (M := mX11_demand) (pc := 16) (bc := bc) (bs := bs) (cb := 0) (cs := 0) (M' := mX11_setAsked) dX11_demand_16 rfl (by decide) w_757 w_136 w_931 w_755 w_756 (by decide +kernel) (fun _ _ _ k => k) k
theorem bX11_demand_19 {G : Gt} {d bc bs : Nat} {Q : QT} {l : Ls} {z : List Value} {h : Hp} (k : (tPush (.int 0) (tRetI Q)) l z h) : T G d bc bs mX11_demand 19 l z h Q := by
  refine R_iconst dX11_demand_19 (by decide) (fun l z h k => ?_) k
  exact R_iret dX11_demand_20 rfl k
theorem dX11_daysLeft_0 : decode cX11_daysLeft 0 = .ok (.sipush 400, 3) := by decide +kernel
theorem dX11_daysLeft_3 : decode cX11_daysLeft 3 = .ok (.aload_n 0, 1) := by decide +kernel
theorem dX11_daysLeft_4 : decode cX11_daysLeft 4 = .ok (.getfield 53, 3) := by decide +kernel
theorem dX11_daysLeft_7 : decode cX11_daysLeft 7 = .ok (.isub, 1) := by decide +kernel
theorem dX11_daysLeft_8 : decode cX11_daysLeft 8 = .ok (.ireturn, 1) := by decide +kernel
theorem bX11_daysLeft_0 {G : Gt} {d bc bs : Nat} {Q : QT} {l : Ls} {z : List Value} {h : Hp} (k : (tPush (.int 400) (tAld 0 (tGetf 9 2 (tB (fun x y => x - y) (tRetI Q))))) l z h) : T G d bc bs mX11_daysLeft 0 l z h Q := by
  refine R_sipush dX11_daysLeft_0 (by decide) (fun l z h k => ?_) k
  refine R_aload_n dX11_daysLeft_3 rfl (fun l z h k => ?_) k
  refine R_getf (ci := 9) (f := 2) (C := RX11) (N := 14) (Tt := TX11) dX11_daysLeft_4 rfl i_X11 (by decide) w_259 (fun l z h k => ?_) k
  refine R_isub dX11_daysLeft_7 (fun l z h k => ?_) k
  exact R_iret dX11_daysLeft_8 rfl k
theorem dX11_liveDays_0 : decode cX11_liveDays 0 = .ok (.iload_n 1, 1) := by decide +kernel
theorem dX11_liveDays_1 : decode cX11_liveDays 1 = .ok (.aload_n 0, 1) := by decide +kernel
theorem dX11_liveDays_2 : decode cX11_liveDays 2 = .ok (.invokevirtual 114, 3) := by decide +kernel
theorem dX11_liveDays_5 : decode cX11_liveDays 5 = .ok (.invokestatic 118, 3) := by decide +kernel
theorem dX11_liveDays_8 : decode cX11_liveDays 8 = .ok (.istore_n 2, 1) := by decide +kernel
theorem dX11_liveDays_9 : decode cX11_liveDays 9 = .ok (.iconst 0, 1) := by decide +kernel
theorem dX11_liveDays_10 : decode cX11_liveDays 10 = .ok (.istore_n 3, 1) := by decide +kernel
theorem dX11_liveDays_11 : decode cX11_liveDays 11 = .ok (.iload_n 3, 1) := by decide +kernel
theorem dX11_liveDays_12 : decode cX11_liveDays 12 = .ok (.iload_n 2, 1) := by decide +kernel
theorem dX11_liveDays_13 : decode cX11_liveDays 13 = .ok (.if_icmp .ge 13, 3) := by decide +kernel
theorem dX11_liveDays_16 : decode cX11_liveDays 16 = .ok (.aload_n 0, 1) := by decide +kernel
theorem dX11_liveDays_17 : decode cX11_liveDays 17 = .ok (.invokevirtual 121, 3) := by decide +kernel
theorem dX11_liveDays_20 : decode cX11_liveDays 20 = .ok (.iinc 3 1, 3) := by decide +kernel
theorem dX11_liveDays_23 : decode cX11_liveDays 23 = .ok (.goto (-12), 3) := by decide +kernel
theorem dX11_liveDays_26 : decode cX11_liveDays 26 = .ok (.iload_n 2, 1) := by decide +kernel
theorem dX11_liveDays_27 : decode cX11_liveDays 27 = .ok (.iconst 0, 1) := by decide +kernel
theorem dX11_liveDays_28 : decode cX11_liveDays 28 = .ok (.invokestatic 92, 3) := by decide +kernel
theorem dX11_liveDays_31 : decode cX11_liveDays 31 = .ok (.ireturn, 1) := by decide +kernel
theorem bX11_liveDays_0 {G : Gt} {d bc bs : Nat} {Q : QT} {l : Ls} {z : List Value} {h : Hp} (k : (tIld 1 (tAld 0 (tCV0 G d 0 0 9 mX11_daysLeft (fun l z h => T G d bc bs mX11_liveDays 5 l z h Q)))) l z h) : T G d bc bs mX11_liveDays 0 l z h Q := by
  refine R_iload_n dX11_liveDays_0 rfl (fun l z h k => ?_) k
  refine R_aload_n dX11_liveDays_1 rfl (fun l z h k => ?_) k
  exact R_cv0 (M := mX11_liveDays) (pc := 2) (bc := bc) (bs := bs) (cb := 0) (cs := 0) (M' := mX11_daysLeft) dX11_liveDays_2 rfl (by decide) w_946 w_136 w_943 w_944 w_945 (by decide +kernel) (fun _ _ _ k => k) k
theorem bX11_liveDays_5 {G : Gt} {d bc bs : Nat} {Q : QT} {l : Ls} {z : List Value} {h : Hp} (hd1 : 1 ≤ d) (k : (tMin ((fun l z h => T G d bc bs mX11_liveDays 8 l z h Q))) l z h) : T G d bc bs mX11_liveDays 5 l z h Q := by
  refine R_mmin dX11_liveDays_5 hd1 w_947 (fun l z h k => ?_) k
  exact k
theorem bX11_liveDays_8 {G : Gt} {d bc bs : Nat} {Q : QT} {l : Ls} {z : List Value} {h : Hp} (k : (tIst 2 (tPush (.int 0) (tIst 3 ((fun l z h => T G d bc bs mX11_liveDays 11 l z h Q))))) l z h) : T G d bc bs mX11_liveDays 8 l z h Q := by
  refine R_istore_n dX11_liveDays_8 rfl (by decide) (fun l z h k => ?_) k
  refine R_iconst dX11_liveDays_9 (by decide) (fun l z h k => ?_) k
  refine R_istore_n dX11_liveDays_10 rfl (by decide) (fun l z h k => ?_) k
  exact k
theorem bX11_liveDays_11 {G : Gt} {d bc bs : Nat} {Q : QT} {l : Ls} {z : List Value} {h : Hp} (k : (tIld 3 (tIld 2 (tIf2 (fun x y => y ≤ x) (fun l z h => T G d bc bs mX11_liveDays 26 l z h Q) (fun l z h => T G d bc bs mX11_liveDays 16 l z h Q)))) l z h) : T G d bc bs mX11_liveDays 11 l z h Q := by
  refine R_iload_n dX11_liveDays_11 rfl (fun l z h k => ?_) k
  refine R_iload_n dX11_liveDays_12 rfl (fun l z h k => ?_) k
  exact R_icmp_ge dX11_liveDays_13 (by decide) (fun _ _ _ k => k) (fun _ _ _ k => k) k
theorem bX11_liveDays_16 {G : Gt} {d bc bs : Nat} {Q : QT} {l : Ls} {z : List Value} {h : Hp} (k : (tAld 0 (tCV0 G d 0 0 9 mX11_liveDay (fun l z h => T G d bc bs mX11_liveDays 20 l z h Q))) l z h) : T G d bc bs mX11_liveDays 16 l z h Q := by
  refine R_aload_n dX11_liveDays_16 rfl (fun l z h k => ?_) k
  exact R_cv0 (M := mX11_liveDays) (pc := 17) (bc := bc) (bs := bs) (cb := 0) (cs := 0) (M' := mX11_liveDay) dX11_liveDays_17 rfl (by decide) w_951 w_136 w_948 w_949 w_950 (by decide +kernel) (fun _ _ _ k => k) k
theorem bX11_liveDays_20 {G : Gt} {d bc bs : Nat} {Q : QT} {l : Ls} {z : List Value} {h : Hp} (k : (tInc 3 1 ((fun l z h => T G d bc bs mX11_liveDays 11 l z h Q))) l z h) : T G d bc bs mX11_liveDays 20 l z h Q := by
  refine R_iinc dX11_liveDays_20 (by decide) (by decide) (fun l z h k => ?_) k
  exact R_goto dX11_liveDays_23 (by decide) (fun _ _ _ k => k) k
theorem bX11_liveDays_26 {G : Gt} {d bc bs : Nat} {Q : QT} {l : Ls} {z : List Value} {h : Hp} (hd1 : 1 ≤ d) (k : (tIld 2 (tPush (.int 0) (tMax ((fun l z h => T G d bc bs mX11_liveDays 31 l z h Q))))) l z h) : T G d bc bs mX11_liveDays 26 l z h Q := by
  refine R_iload_n dX11_liveDays_26 rfl (fun l z h k => ?_) k
  refine R_iconst dX11_liveDays_27 (by decide) (fun l z h k => ?_) k
  refine R_mmax dX11_liveDays_28 hd1 w_960 (fun l z h k => ?_) k
  exact k
theorem bX11_liveDays_31 {G : Gt} {d bc bs : Nat} {Q : QT} {l : Ls} {z : List Value} {h : Hp} (k : (tRetI Q) l z h) : T G d bc bs mX11_liveDays 31 l z h Q := by
  exact R_iret dX11_liveDays_31 rfl k
theorem dX11_liveDay_0 : decode cX11_liveDay 0 = .ok (.iconst 0, 1) := by decide +kernel
theorem dX11_liveDay_1 : decode cX11_liveDay 1 = .ok (.istore_n 1, 1) := by decide +kernel
theorem dX11_liveDay_2 : decode cX11_liveDay 2 = .ok (.iload_n 1, 1) := by decide +kernel
theorem dX11_liveDay_3 : decode cX11_liveDay 3 = .ok (.aload_n 0, 1) := by decide +kernel
theorem dX11_liveDay_4 : decode cX11_liveDay 4 = .ok (.getfield 50, 3) := by decide +kernel
theorem dX11_liveDay_7 : decode cX11_liveDay 7 = .ok (.if_icmp .ge 14, 3) := by decide +kernel
theorem dX11_liveDay_10 : decode cX11_liveDay 10 = .ok (.aload_n 0, 1) := by decide +kernel
theorem dX11_liveDay_11 : decode cX11_liveDay 11 = .ok (.iload_n 1, 1) := by decide +kernel
theorem dX11_liveDay_12 : decode cX11_liveDay 12 = .ok (.invokevirtual 124, 3) := by decide +kernel
theorem dX11_liveDay_15 : decode cX11_liveDay 15 = .ok (.iinc 1 1, 3) := by decide +kernel
theorem dX11_liveDay_18 : decode cX11_liveDay 18 = .ok (.goto (-16), 3) := by decide +kernel
theorem dX11_liveDay_21 : decode cX11_liveDay 21 = .ok (.iconst 0, 1) := by decide +kernel
theorem dX11_liveDay_22 : decode cX11_liveDay 22 = .ok (.istore_n 1, 1) := by decide +kernel
theorem dX11_liveDay_23 : decode cX11_liveDay 23 = .ok (.iload_n 1, 1) := by decide +kernel
theorem dX11_liveDay_24 : decode cX11_liveDay 24 = .ok (.aload_n 0, 1) := by decide +kernel
theorem dX11_liveDay_25 : decode cX11_liveDay 25 = .ok (.getfield 50, 3) := by decide +kernel
theorem dX11_liveDay_28 : decode cX11_liveDay 28 = .ok (.if_icmp .ge 31, 3) := by decide +kernel
theorem dX11_liveDay_31 : decode cX11_liveDay 31 = .ok (.aload_n 0, 1) := by decide +kernel
theorem dX11_liveDay_32 : decode cX11_liveDay 32 = .ok (.getfield 37, 3) := by decide +kernel
theorem dX11_liveDay_35 : decode cX11_liveDay 35 = .ok (.iload_n 1, 1) := by decide +kernel
theorem dX11_liveDay_36 : decode cX11_liveDay 36 = .ok (.iaload, 1) := by decide +kernel
theorem dX11_liveDay_37 : decode cX11_liveDay 37 = .ok (.iload_n 1, 1) := by decide +kernel
theorem dX11_liveDay_38 : decode cX11_liveDay 38 = .ok (.if_icmp .le 15, 3) := by decide +kernel
theorem dX11_liveDay_41 : decode cX11_liveDay 41 = .ok (.aload_n 0, 1) := by decide +kernel
theorem dX11_liveDay_42 : decode cX11_liveDay 42 = .ok (.iload_n 1, 1) := by decide +kernel
theorem dX11_liveDay_43 : decode cX11_liveDay 43 = .ok (.aload_n 0, 1) := by decide +kernel
theorem dX11_liveDay_44 : decode cX11_liveDay 44 = .ok (.getfield 37, 3) := by decide +kernel
theorem dX11_liveDay_47 : decode cX11_liveDay 47 = .ok (.iload_n 1, 1) := by decide +kernel
theorem dX11_liveDay_48 : decode cX11_liveDay 48 = .ok (.iaload, 1) := by decide +kernel
theorem dX11_liveDay_49 : decode cX11_liveDay 49 = .ok (.invokevirtual 128, 3) := by decide +kernel
theorem dX11_liveDay_52 : decode cX11_liveDay 52 = .ok (.pop, 1) := by decide +kernel
theorem dX11_liveDay_53 : decode cX11_liveDay 53 = .ok (.iinc 1 1, 3) := by decide +kernel
theorem dX11_liveDay_56 : decode cX11_liveDay 56 = .ok (.goto (-33), 3) := by decide +kernel
theorem dX11_liveDay_59 : decode cX11_liveDay 59 = .ok (.aload_n 0, 1) := by decide +kernel
theorem dX11_liveDay_60 : decode cX11_liveDay 60 = .ok (.dup, 1) := by decide +kernel
theorem dX11_liveDay_61 : decode cX11_liveDay 61 = .ok (.getfield 53, 3) := by decide +kernel
theorem dX11_liveDay_64 : decode cX11_liveDay 64 = .ok (.iconst 1, 1) := by decide +kernel
theorem dX11_liveDay_65 : decode cX11_liveDay 65 = .ok (.iadd, 1) := by decide +kernel
theorem dX11_liveDay_66 : decode cX11_liveDay 66 = .ok (.putfield 53, 3) := by decide +kernel
theorem dX11_liveDay_69 : decode cX11_liveDay 69 = .ok (.return_, 1) := by decide +kernel
theorem bX11_liveDay_0 {G : Gt} {d bc bs : Nat} {Q : QT} {l : Ls} {z : List Value} {h : Hp} (k : (tPush (.int 0) (tIst 1 ((fun l z h => T G d bc bs mX11_liveDay 2 l z h Q)))) l z h) : T G d bc bs mX11_liveDay 0 l z h Q := by
  refine R_iconst dX11_liveDay_0 (by decide) (fun l z h k => ?_) k
  refine R_istore_n dX11_liveDay_1 rfl (by decide) (fun l z h k => ?_) k
  exact k
theorem bX11_liveDay_2 {G : Gt} {d bc bs : Nat} {Q : QT} {l : Ls} {z : List Value} {h : Hp} (k : (tIld 1 (tAld 0 (tGetf 9 1 (tIf2 (fun x y => y ≤ x) (fun l z h => T G d bc bs mX11_liveDay 21 l z h Q) (fun l z h => T G d bc bs mX11_liveDay 10 l z h Q))))) l z h) : T G d bc bs mX11_liveDay 2 l z h Q := by
  refine R_iload_n dX11_liveDay_2 rfl (fun l z h k => ?_) k
  refine R_aload_n dX11_liveDay_3 rfl (fun l z h k => ?_) k
  refine R_getf (ci := 9) (f := 1) (C := RX11) (N := 14) (Tt := TX11) dX11_liveDay_4 rfl i_X11 (by decide) w_252 (fun l z h k => ?_) k
  exact R_icmp_ge dX11_liveDay_7 (by decide) (fun _ _ _ k => k) (fun _ _ _ k => k) k
theorem bX11_liveDay_10 {G : Gt} {d bc bs : Nat} {Q : QT} {l : Ls} {z : List Value} {h : Hp} (k : (tAld 0 (tIld 1 (tCV1 G d 0 0 9 mX11_learnByLiving (fun l z h => T G d bc bs mX11_liveDay 15 l z h Q)))) l z h) : T G d bc bs mX11_liveDay 10 l z h Q := by
  refine R_aload_n dX11_liveDay_10 rfl (fun l z h k => ?_) k
  refine R_iload_n dX11_liveDay_11 rfl (fun l z h k => ?_) k
  exact R_cv1 (M := mX11_liveDay) (pc := 12) (bc := bc) (bs := bs) (cb := 0) (cs := 0) (M' := mX11_learnByLiving) dX11_liveDay_12 rfl (by decide) w_955 w_136 w_952 w_953 w_954 (by decide +kernel) (fun _ _ _ k => k) k
theorem bX11_liveDay_15 {G : Gt} {d bc bs : Nat} {Q : QT} {l : Ls} {z : List Value} {h : Hp} (k : (tInc 1 1 ((fun l z h => T G d bc bs mX11_liveDay 2 l z h Q))) l z h) : T G d bc bs mX11_liveDay 15 l z h Q := by
  refine R_iinc dX11_liveDay_15 (by decide) (by decide) (fun l z h k => ?_) k
  exact R_goto dX11_liveDay_18 (by decide) (fun _ _ _ k => k) k
theorem bX11_liveDay_21 {G : Gt} {d bc bs : Nat} {Q : QT} {l : Ls} {z : List Value} {h : Hp} (k : (tPush (.int 0) (tIst 1 ((fun l z h => T G d bc bs mX11_liveDay 23 l z h Q)))) l z h) : T G d bc bs mX11_liveDay 21 l z h Q := by
  refine R_iconst dX11_liveDay_21 (by decide) (fun l z h k => ?_) k
  refine R_istore_n dX11_liveDay_22 rfl (by decide) (fun l z h k => ?_) k
  exact k
theorem bX11_liveDay_23 {G : Gt} {d bc bs : Nat} {Q : QT} {l : Ls} {z : List Value} {h : Hp} (k : (tIld 1 (tAld 0 (tGetf 9 1 (tIf2 (fun x y => y ≤ x) (fun l z h => T G d bc bs mX11_liveDay 59 l z h Q) (fun l z h => T G d bc bs mX11_liveDay 31 l z h Q))))) l z h) : T G d bc bs mX11_liveDay 23 l z h Q := by
  refine R_iload_n dX11_liveDay_23 rfl (fun l z h k => ?_) k
  refine R_aload_n dX11_liveDay_24 rfl (fun l z h k => ?_) k
  refine R_getf (ci := 9) (f := 1) (C := RX11) (N := 14) (Tt := TX11) dX11_liveDay_25 rfl i_X11 (by decide) w_252 (fun l z h k => ?_) k
  exact R_icmp_ge dX11_liveDay_28 (by decide) (fun _ _ _ k => k) (fun _ _ _ k => k) k
theorem bX11_liveDay_31 {G : Gt} {d bc bs : Nat} {Q : QT} {l : Ls} {z : List Value} {h : Hp} (k : (tAld 0 (tGetf 9 11 (tIld 1 (tXald 0 (tIld 1 (tIf2 (fun x y => x ≤ y) (fun l z h => T G d bc bs mX11_liveDay 53 l z h Q) (fun l z h => T G d bc bs mX11_liveDay 41 l z h Q))))))) l z h) : T G d bc bs mX11_liveDay 31 l z h Q := by
  refine R_aload_n dX11_liveDay_31 rfl (fun l z h k => ?_) k
  refine R_getf (ci := 9) (f := 11) (C := RX11) (N := 14) (Tt := TX11) dX11_liveDay_32 rfl i_X11 (by decide) w_285 (fun l z h k => ?_) k
  refine R_iload_n dX11_liveDay_35 rfl (fun l z h k => ?_) k
  refine R_iaload dX11_liveDay_36 (fun l z h k => ?_) k
  refine R_iload_n dX11_liveDay_37 rfl (fun l z h k => ?_) k
  exact R_icmp_le dX11_liveDay_38 (by decide) (fun _ _ _ k => k) (fun _ _ _ k => k) k
theorem bX11_liveDay_41 {G : Gt} {d bc bs : Nat} {Q : QT} {l : Ls} {z : List Value} {h : Hp} (k : (tAld 0 (tIld 1 (tAld 0 (tGetf 9 11 (tIld 1 (tXald 0 (tCV2 G d 0 0 9 mX11_learnByMeeting (fun l z h => T G d bc bs mX11_liveDay 52 l z h Q)))))))) l z h) : T G d bc bs mX11_liveDay 41 l z h Q := by
  refine R_aload_n dX11_liveDay_41 rfl (fun l z h k => ?_) k
  refine R_iload_n dX11_liveDay_42 rfl (fun l z h k => ?_) k
  refine R_aload_n dX11_liveDay_43 rfl (fun l z h k => ?_) k
  refine R_getf (ci := 9) (f := 11) (C := RX11) (N := 14) (Tt := TX11) dX11_liveDay_44 rfl i_X11 (by decide) w_285 (fun l z h k => ?_) k
  refine R_iload_n dX11_liveDay_47 rfl (fun l z h k => ?_) k
  refine R_iaload dX11_liveDay_48 (fun l z h k => ?_) k
  exact R_cv2 (M := mX11_liveDay) (pc := 49) (bc := bc) (bs := bs) (cb := 0) (cs := 0) (M' := mX11_learnByMeeting) dX11_liveDay_49 rfl (by decide) w_959 w_136 w_956 w_957 w_958 (by decide +kernel) (fun _ _ _ k => k) k
theorem bX11_liveDay_52 {G : Gt} {d bc bs : Nat} {Q : QT} {l : Ls} {z : List Value} {h : Hp} (k : (tPop ((fun l z h => T G d bc bs mX11_liveDay 53 l z h Q))) l z h) : T G d bc bs mX11_liveDay 52 l z h Q := by
  refine R_pop dX11_liveDay_52 (fun l z h k => ?_) k
  exact k
theorem bX11_liveDay_53 {G : Gt} {d bc bs : Nat} {Q : QT} {l : Ls} {z : List Value} {h : Hp} (k : (tInc 1 1 ((fun l z h => T G d bc bs mX11_liveDay 23 l z h Q))) l z h) : T G d bc bs mX11_liveDay 53 l z h Q := by
  refine R_iinc dX11_liveDay_53 (by decide) (by decide) (fun l z h k => ?_) k
  exact R_goto dX11_liveDay_56 (by decide) (fun _ _ _ k => k) k
theorem bX11_liveDay_59 {G : Gt} {d bc bs : Nat} {Q : QT} {l : Ls} {z : List Value} {h : Hp} (k : (tAld 0 (tDup (tGetf 9 2 (tPush (.int 1) (tB (fun x y => x + y) (tPutf isI 9 2 (tRetV Q))))))) l z h) : T G d bc bs mX11_liveDay 59 l z h Q := by
  refine R_aload_n dX11_liveDay_59 rfl (fun l z h k => ?_) k
  refine R_dup dX11_liveDay_60 (fun l z h k => ?_) k
  refine R_getf (ci := 9) (f := 2) (C := RX11) (N := 14) (Tt := TX11) dX11_liveDay_61 rfl i_X11 (by decide) w_259 (fun l z h k => ?_) k
  refine R_iconst dX11_liveDay_64 (by decide) (fun l z h k => ?_) k
  refine R_iadd dX11_liveDay_65 (fun l z h k => ?_) k
  refine R_putf (ci := 9) (f := 2) (C := RX11) (N := 14) (Tt := TX11) tyX11 tyX11_ok nmX11 dX11_liveDay_66 rfl i_X11 (by decide) w_259 rfl (tyX11_ok 2 (by decide)) p_int (fun l z h k => ?_) k
  exact R_vret dX11_liveDay_69 rfl k
theorem dX11_learnByLiving_0 : decode cX11_learnByLiving 0 = .ok (.aload_n 0, 1) := by decide +kernel
theorem dX11_learnByLiving_1 : decode cX11_learnByLiving 1 = .ok (.getfield 31, 3) := by decide +kernel
theorem dX11_learnByLiving_4 : decode cX11_learnByLiving 4 = .ok (.iload_n 1, 1) := by decide +kernel
theorem dX11_learnByLiving_5 : decode cX11_learnByLiving 5 = .ok (.dup2, 1) := by decide +kernel
theorem dX11_learnByLiving_6 : decode cX11_learnByLiving 6 = .ok (.iaload, 1) := by decide +kernel
theorem dX11_learnByLiving_7 : decode cX11_learnByLiving 7 = .ok (.iconst 1, 1) := by decide +kernel
theorem dX11_learnByLiving_8 : decode cX11_learnByLiving 8 = .ok (.iadd, 1) := by decide +kernel
theorem dX11_learnByLiving_9 : decode cX11_learnByLiving 9 = .ok (.iastore, 1) := by decide +kernel
theorem dX11_learnByLiving_10 : decode cX11_learnByLiving 10 = .ok (.aload_n 0, 1) := by decide +kernel
theorem dX11_learnByLiving_11 : decode cX11_learnByLiving 11 = .ok (.getfield 28, 3) := by decide +kernel
theorem dX11_learnByLiving_14 : decode cX11_learnByLiving 14 = .ok (.iload_n 1, 1) := by decide +kernel
theorem dX11_learnByLiving_15 : decode cX11_learnByLiving 15 = .ok (.iaload, 1) := by decide +kernel
theorem dX11_learnByLiving_16 : decode cX11_learnByLiving 16 = .ok (.iconst 1, 1) := by decide +kernel
theorem dX11_learnByLiving_17 : decode cX11_learnByLiving 17 = .ok (.if_icmp .ne 4, 3) := by decide +kernel
theorem dX11_learnByLiving_20 : decode cX11_learnByLiving 20 = .ok (.return_, 1) := by decide +kernel
theorem dX11_learnByLiving_21 : decode cX11_learnByLiving 21 = .ok (.aload_n 0, 1) := by decide +kernel
theorem dX11_learnByLiving_22 : decode cX11_learnByLiving 22 = .ok (.getfield 28, 3) := by decide +kernel
theorem dX11_learnByLiving_25 : decode cX11_learnByLiving 25 = .ok (.iload_n 1, 1) := by decide +kernel
theorem dX11_learnByLiving_26 : decode cX11_learnByLiving 26 = .ok (.iaload, 1) := by decide +kernel
theorem dX11_learnByLiving_27 : decode cX11_learnByLiving 27 = .ok (.invokestatic 100, 3) := by decide +kernel
theorem dX11_learnByLiving_30 : decode cX11_learnByLiving 30 = .ok (.istore_n 2, 1) := by decide +kernel
theorem dX11_learnByLiving_31 : decode cX11_learnByLiving 31 = .ok (.iconst 0, 1) := by decide +kernel
theorem dX11_learnByLiving_32 : decode cX11_learnByLiving 32 = .ok (.istore_n 3, 1) := by decide +kernel
theorem dX11_learnByLiving_33 : decode cX11_learnByLiving 33 = .ok (.iload_n 3, 1) := by decide +kernel
theorem dX11_learnByLiving_34 : decode cX11_learnByLiving 34 = .ok (.aload_n 0, 1) := by decide +kernel
theorem dX11_learnByLiving_35 : decode cX11_learnByLiving 35 = .ok (.getfield 46, 3) := by decide +kernel
theorem dX11_learnByLiving_38 : decode cX11_learnByLiving 38 = .ok (.if_icmp .ge 58, 3) := by decide +kernel
theorem dX11_learnByLiving_41 : decode cX11_learnByLiving 41 = .ok (.aload_n 0, 1) := by decide +kernel
theorem dX11_learnByLiving_42 : decode cX11_learnByLiving 42 = .ok (.getfield 18, 3) := by decide +kernel
theorem dX11_learnByLiving_45 : decode cX11_learnByLiving 45 = .ok (.iload_n 3, 1) := by decide +kernel
theorem dX11_learnByLiving_46 : decode cX11_learnByLiving 46 = .ok (.iaload, 1) := by decide +kernel
theorem dX11_learnByLiving_47 : decode cX11_learnByLiving 47 = .ok (.iload_n 2, 1) := by decide +kernel
theorem dX11_learnByLiving_48 : decode cX11_learnByLiving 48 = .ok (.if_icmp .ne 42, 3) := by decide +kernel
theorem dX11_learnByLiving_51 : decode cX11_learnByLiving 51 = .ok (.aload_n 0, 1) := by decide +kernel
theorem dX11_learnByLiving_52 : decode cX11_learnByLiving 52 = .ok (.getfield 22, 3) := by decide +kernel
theorem dX11_learnByLiving_55 : decode cX11_learnByLiving 55 = .ok (.iload_n 3, 1) := by decide +kernel
theorem dX11_learnByLiving_56 : decode cX11_learnByLiving 56 = .ok (.iaload, 1) := by decide +kernel
theorem dX11_learnByLiving_57 : decode cX11_learnByLiving 57 = .ok (.ifCond .le 33, 3) := by decide +kernel
theorem dX11_learnByLiving_60 : decode cX11_learnByLiving 60 = .ok (.aload_n 0, 1) := by decide +kernel
theorem dX11_learnByLiving_61 : decode cX11_learnByLiving 61 = .ok (.getfield 31, 3) := by decide +kernel
theorem dX11_learnByLiving_64 : decode cX11_learnByLiving 64 = .ok (.iload_n 1, 1) := by decide +kernel
theorem dX11_learnByLiving_65 : decode cX11_learnByLiving 65 = .ok (.iaload, 1) := by decide +kernel
theorem dX11_learnByLiving_66 : decode cX11_learnByLiving 66 = .ok (.aload_n 0, 1) := by decide +kernel
theorem dX11_learnByLiving_67 : decode cX11_learnByLiving 67 = .ok (.getfield 22, 3) := by decide +kernel
theorem dX11_learnByLiving_70 : decode cX11_learnByLiving 70 = .ok (.iload_n 3, 1) := by decide +kernel
theorem dX11_learnByLiving_71 : decode cX11_learnByLiving 71 = .ok (.iaload, 1) := by decide +kernel
theorem dX11_learnByLiving_72 : decode cX11_learnByLiving 72 = .ok (.irem, 1) := by decide +kernel
theorem dX11_learnByLiving_73 : decode cX11_learnByLiving 73 = .ok (.ifCond .ne 17, 3) := by decide +kernel
theorem dX11_learnByLiving_76 : decode cX11_learnByLiving 76 = .ok (.aload_n 0, 1) := by decide +kernel
theorem dX11_learnByLiving_77 : decode cX11_learnByLiving 77 = .ok (.iload_n 1, 1) := by decide +kernel
theorem dX11_learnByLiving_78 : decode cX11_learnByLiving 78 = .ok (.iload_n 3, 1) := by decide +kernel
theorem dX11_learnByLiving_79 : decode cX11_learnByLiving 79 = .ok (.aload_n 0, 1) := by decide +kernel
theorem dX11_learnByLiving_80 : decode cX11_learnByLiving 80 = .ok (.iload_n 1, 1) := by decide +kernel
theorem dX11_learnByLiving_81 : decode cX11_learnByLiving 81 = .ok (.iload_n 3, 1) := by decide +kernel
theorem dX11_learnByLiving_82 : decode cX11_learnByLiving 82 = .ok (.invokevirtual 68, 3) := by decide +kernel
theorem dX11_learnByLiving_85 : decode cX11_learnByLiving 85 = .ok (.iconst 1, 1) := by decide +kernel
theorem dX11_learnByLiving_86 : decode cX11_learnByLiving 86 = .ok (.iadd, 1) := by decide +kernel
theorem dX11_learnByLiving_87 : decode cX11_learnByLiving 87 = .ok (.invokevirtual 107, 3) := by decide +kernel
theorem dX11_learnByLiving_90 : decode cX11_learnByLiving 90 = .ok (.iinc 3 1, 3) := by decide +kernel
theorem dX11_learnByLiving_93 : decode cX11_learnByLiving 93 = .ok (.goto (-60), 3) := by decide +kernel
theorem dX11_learnByLiving_96 : decode cX11_learnByLiving 96 = .ok (.return_, 1) := by decide +kernel
theorem bX11_learnByLiving_0 {G : Gt} {d bc bs : Nat} {Q : QT} {l : Ls} {z : List Value} {h : Hp} (k : (tAld 0 (tGetf 9 9 (tIld 1 (tDup2 (tXald 0 (tPush (.int 1) (tB (fun x y => x + y) (tXast 0 (tAld 0 (tGetf 9 8 (tIld 1 (tXald 0 (tPush (.int 1) (tIf2 (fun x y => x = y) (fun l z h => T G d bc bs mX11_learnByLiving 20 l z h Q) (fun l z h => T G d bc bs mX11_learnByLiving 21 l z h Q))))))))))))))) l z h) : T G d bc bs mX11_learnByLiving 0 l z h Q := by
  refine R_aload_n dX11_learnByLiving_0 rfl (fun l z h k => ?_) k
  refine R_getf (ci := 9) (f := 9) (C := RX11) (N := 14) (Tt := TX11) dX11_learnByLiving_1 rfl i_X11 (by decide) w_279 (fun l z h k => ?_) k
  refine R_iload_n dX11_learnByLiving_4 rfl (fun l z h k => ?_) k
  refine R_dup2 dX11_learnByLiving_5 (fun l z h k => ?_) k
  refine R_iaload dX11_learnByLiving_6 (fun l z h k => ?_) k
  refine R_iconst dX11_learnByLiving_7 (by decide) (fun l z h k => ?_) k
  refine R_iadd dX11_learnByLiving_8 (fun l z h k => ?_) k
  refine R_iastore dX11_learnByLiving_9 (fun l z h k => ?_) k
  refine R_aload_n dX11_learnByLiving_10 rfl (fun l z h k => ?_) k
  refine R_getf (ci := 9) (f := 8) (C := RX11) (N := 14) (Tt := TX11) dX11_learnByLiving_11 rfl i_X11 (by decide) w_275 (fun l z h k => ?_) k
  refine R_iload_n dX11_learnByLiving_14 rfl (fun l z h k => ?_) k
  refine R_iaload dX11_learnByLiving_15 (fun l z h k => ?_) k
  refine R_iconst dX11_learnByLiving_16 (by decide) (fun l z h k => ?_) k
  exact R_icmp_ne dX11_learnByLiving_17 (by decide) (fun _ _ _ k => k) (fun _ _ _ k => k) k
theorem bX11_learnByLiving_20 {G : Gt} {d bc bs : Nat} {Q : QT} {l : Ls} {z : List Value} {h : Hp} (k : (tRetV Q) l z h) : T G d bc bs mX11_learnByLiving 20 l z h Q := by
  exact R_vret dX11_learnByLiving_20 rfl k
theorem bX11_learnByLiving_21 {G : Gt} {d bc bs : Nat} {Q : QT} {l : Ls} {z : List Value} {h : Hp} (k : (tAld 0 (tGetf 9 8 (tIld 1 (tXald 0 (tCS1 G d 0 0 mX12_endAt (fun l z h => T G d bc bs mX11_learnByLiving 30 l z h Q)))))) l z h) : T G d bc bs mX11_learnByLiving 21 l z h Q := by
  refine R_aload_n dX11_learnByLiving_21 rfl (fun l z h k => ?_) k
  refine R_getf (ci := 9) (f := 8) (C := RX11) (N := 14) (Tt := TX11) dX11_learnByLiving_22 rfl i_X11 (by decide) w_275 (fun l z h k => ?_) k
  refine R_iload_n dX11_learnByLiving_25 rfl (fun l z h k => ?_) k
  refine R_iaload dX11_learnByLiving_26 (fun l z h k => ?_) k
  exact R_csN1 (M := mX11_learnByLiving) (pc := 27) (bc := bc) (bs := bs) (cb := 0) (cs := 0) (M' := mX12_endAt) dX11_learnByLiving_27 (by decide) w_888 w_130 n_886 w_887 (by decide +kernel) (fun _ _ _ k => k) k
theorem bX11_learnByLiving_30 {G : Gt} {d bc bs : Nat} {Q : QT} {l : Ls} {z : List Value} {h : Hp} (k : (tIst 2 (tPush (.int 0) (tIst 3 ((fun l z h => T G d bc bs mX11_learnByLiving 33 l z h Q))))) l z h) : T G d bc bs mX11_learnByLiving 30 l z h Q := by
  refine R_istore_n dX11_learnByLiving_30 rfl (by decide) (fun l z h k => ?_) k
  refine R_iconst dX11_learnByLiving_31 (by decide) (fun l z h k => ?_) k
  refine R_istore_n dX11_learnByLiving_32 rfl (by decide) (fun l z h k => ?_) k
  exact k
theorem bX11_learnByLiving_33 {G : Gt} {d bc bs : Nat} {Q : QT} {l : Ls} {z : List Value} {h : Hp} (k : (tIld 3 (tAld 0 (tGetf 9 0 (tIf2 (fun x y => y ≤ x) (fun l z h => T G d bc bs mX11_learnByLiving 96 l z h Q) (fun l z h => T G d bc bs mX11_learnByLiving 41 l z h Q))))) l z h) : T G d bc bs mX11_learnByLiving 33 l z h Q := by
  refine R_iload_n dX11_learnByLiving_33 rfl (fun l z h k => ?_) k
  refine R_aload_n dX11_learnByLiving_34 rfl (fun l z h k => ?_) k
  refine R_getf (ci := 9) (f := 0) (C := RX11) (N := 14) (Tt := TX11) dX11_learnByLiving_35 rfl i_X11 (by decide) w_248 (fun l z h k => ?_) k
  exact R_icmp_ge dX11_learnByLiving_38 (by decide) (fun _ _ _ k => k) (fun _ _ _ k => k) k
theorem bX11_learnByLiving_41 {G : Gt} {d bc bs : Nat} {Q : QT} {l : Ls} {z : List Value} {h : Hp} (k : (tAld 0 (tGetf 9 5 (tIld 3 (tXald 0 (tIld 2 (tIf2 (fun x y => x = y) (fun l z h => T G d bc bs mX11_learnByLiving 51 l z h Q) (fun l z h => T G d bc bs mX11_learnByLiving 90 l z h Q))))))) l z h) : T G d bc bs mX11_learnByLiving 41 l z h Q := by
  refine R_aload_n dX11_learnByLiving_41 rfl (fun l z h k => ?_) k
  refine R_getf (ci := 9) (f := 5) (C := RX11) (N := 14) (Tt := TX11) dX11_learnByLiving_42 rfl i_X11 (by decide) w_267 (fun l z h k => ?_) k
  refine R_iload_n dX11_learnByLiving_45 rfl (fun l z h k => ?_) k
  refine R_iaload dX11_learnByLiving_46 (fun l z h k => ?_) k
  refine R_iload_n dX11_learnByLiving_47 rfl (fun l z h k => ?_) k
  exact R_icmp_ne dX11_learnByLiving_48 (by decide) (fun _ _ _ k => k) (fun _ _ _ k => k) k
theorem bX11_learnByLiving_51 {G : Gt} {d bc bs : Nat} {Q : QT} {l : Ls} {z : List Value} {h : Hp} (k : (tAld 0 (tGetf 9 6 (tIld 3 (tXald 0 (tIf (fun x => x ≤ 0) (fun l z h => T G d bc bs mX11_learnByLiving 90 l z h Q) (fun l z h => T G d bc bs mX11_learnByLiving 60 l z h Q)))))) l z h) : T G d bc bs mX11_learnByLiving 51 l z h Q := by
  refine R_aload_n dX11_learnByLiving_51 rfl (fun l z h k => ?_) k
  refine R_getf (ci := 9) (f := 6) (C := RX11) (N := 14) (Tt := TX11) dX11_learnByLiving_52 rfl i_X11 (by decide) w_269 (fun l z h k => ?_) k
  refine R_iload_n dX11_learnByLiving_55 rfl (fun l z h k => ?_) k
  refine R_iaload dX11_learnByLiving_56 (fun l z h k => ?_) k
  exact R_if_le dX11_learnByLiving_57 (by decide) (fun _ _ _ k => k) (fun _ _ _ k => k) k
theorem bX11_learnByLiving_60 {G : Gt} {d bc bs : Nat} {Q : QT} {l : Ls} {z : List Value} {h : Hp} (k : (tAld 0 (tGetf 9 9 (tIld 1 (tXald 0 (tAld 0 (tGetf 9 6 (tIld 3 (tXald 0 (tBn (fun x y => x - x / y * y) (tIf (fun x => x = 0) (fun l z h => T G d bc bs mX11_learnByLiving 76 l z h Q) (fun l z h => T G d bc bs mX11_learnByLiving 90 l z h Q))))))))))) l z h) : T G d bc bs mX11_learnByLiving 60 l z h Q := by
  refine R_aload_n dX11_learnByLiving_60 rfl (fun l z h k => ?_) k
  refine R_getf (ci := 9) (f := 9) (C := RX11) (N := 14) (Tt := TX11) dX11_learnByLiving_61 rfl i_X11 (by decide) w_279 (fun l z h k => ?_) k
  refine R_iload_n dX11_learnByLiving_64 rfl (fun l z h k => ?_) k
  refine R_iaload dX11_learnByLiving_65 (fun l z h k => ?_) k
  refine R_aload_n dX11_learnByLiving_66 rfl (fun l z h k => ?_) k
  refine R_getf (ci := 9) (f := 6) (C := RX11) (N := 14) (Tt := TX11) dX11_learnByLiving_67 rfl i_X11 (by decide) w_269 (fun l z h k => ?_) k
  refine R_iload_n dX11_learnByLiving_70 rfl (fun l z h k => ?_) k
  refine R_iaload dX11_learnByLiving_71 (fun l z h k => ?_) k
  refine R_irem dX11_learnByLiving_72 (fun l z h k => ?_) k
  exact R_if_ne dX11_learnByLiving_73 (by decide) (fun _ _ _ k => k) (fun _ _ _ k => k) k
theorem bX11_learnByLiving_76 {G : Gt} {d bc bs : Nat} {Q : QT} {l : Ls} {z : List Value} {h : Hp} (k : (tAld 0 (tIld 1 (tIld 3 (tAld 0 (tIld 1 (tIld 3 (tCV2 G d 0 0 9 mX11_held (fun l z h => T G d bc bs mX11_learnByLiving 85 l z h Q)))))))) l z h) : T G d bc bs mX11_learnByLiving 76 l z h Q := by
  refine R_aload_n dX11_learnByLiving_76 rfl (fun l z h k => ?_) k
  refine R_iload_n dX11_learnByLiving_77 rfl (fun l z h k => ?_) k
  refine R_iload_n dX11_learnByLiving_78 rfl (fun l z h k => ?_) k
  refine R_aload_n dX11_learnByLiving_79 rfl (fun l z h k => ?_) k
  refine R_iload_n dX11_learnByLiving_80 rfl (fun l z h k => ?_) k
  refine R_iload_n dX11_learnByLiving_81 rfl (fun l z h k => ?_) k
  exact R_cv2 (M := mX11_learnByLiving) (pc := 82) (bc := bc) (bs := bs) (cb := 0) (cs := 0) (M' := mX11_held) dX11_learnByLiving_82 rfl (by decide) w_739 w_136 w_824 w_737 w_738 (by decide +kernel) (fun _ _ _ k => k) k
theorem bX11_learnByLiving_85 {G : Gt} {d bc bs : Nat} {Q : QT} {l : Ls} {z : List Value} {h : Hp} (k : (tPush (.int 1) (tB (fun x y => x + y) (tCV3 G d 0 0 9 mX11_setHeld (fun l z h => T G d bc bs mX11_learnByLiving 90 l z h Q)))) l z h) : T G d bc bs mX11_learnByLiving 85 l z h Q := by
  refine R_iconst dX11_learnByLiving_85 (by decide) (fun l z h k => ?_) k
  refine R_iadd dX11_learnByLiving_86 (fun l z h k => ?_) k
  exact R_cv3 (M := mX11_learnByLiving) (pc := 87) (bc := bc) (bs := bs) (cb := 0) (cs := 0) (M' := mX11_setHeld) dX11_learnByLiving_87 rfl (by decide) w_743 w_136 w_922 w_741 w_742 (by decide +kernel) (fun _ _ _ k => k) k
theorem bX11_learnByLiving_90 {G : Gt} {d bc bs : Nat} {Q : QT} {l : Ls} {z : List Value} {h : Hp} (k : (tInc 3 1 ((fun l z h => T G d bc bs mX11_learnByLiving 33 l z h Q))) l z h) : T G d bc bs mX11_learnByLiving 90 l z h Q := by
  refine R_iinc dX11_learnByLiving_90 (by decide) (by decide) (fun l z h k => ?_) k
  exact R_goto dX11_learnByLiving_93 (by decide) (fun _ _ _ k => k) k
theorem bX11_learnByLiving_96 {G : Gt} {d bc bs : Nat} {Q : QT} {l : Ls} {z : List Value} {h : Hp} (k : (tRetV Q) l z h) : T G d bc bs mX11_learnByLiving 96 l z h Q := by
  exact R_vret dX11_learnByLiving_96 rfl k
theorem dX11_learnByMeeting_0 : decode cX11_learnByMeeting 0 = .ok (.aload_n 0, 1) := by decide +kernel
theorem dX11_learnByMeeting_1 : decode cX11_learnByMeeting 1 = .ok (.iload_n 2, 1) := by decide +kernel
theorem dX11_learnByMeeting_2 : decode cX11_learnByMeeting 2 = .ok (.invokevirtual 103, 3) := by decide +kernel
theorem dX11_learnByMeeting_5 : decode cX11_learnByMeeting 5 = .ok (.ifCond .eq 18, 3) := by decide +kernel
theorem dX11_learnByMeeting_8 : decode cX11_learnByMeeting 8 = .ok (.aload_n 0, 1) := by decide +kernel
theorem dX11_learnByMeeting_9 : decode cX11_learnByMeeting 9 = .ok (.getfield 28, 3) := by decide +kernel
theorem dX11_learnByMeeting_12 : decode cX11_learnByMeeting 12 = .ok (.iload_n 1, 1) := by decide +kernel
theorem dX11_learnByMeeting_13 : decode cX11_learnByMeeting 13 = .ok (.iaload, 1) := by decide +kernel
theorem dX11_learnByMeeting_14 : decode cX11_learnByMeeting 14 = .ok (.aload_n 0, 1) := by decide +kernel
theorem dX11_learnByMeeting_15 : decode cX11_learnByMeeting 15 = .ok (.getfield 28, 3) := by decide +kernel
theorem dX11_learnByMeeting_18 : decode cX11_learnByMeeting 18 = .ok (.iload_n 2, 1) := by decide +kernel
theorem dX11_learnByMeeting_19 : decode cX11_learnByMeeting 19 = .ok (.iaload, 1) := by decide +kernel
theorem dX11_learnByMeeting_20 : decode cX11_learnByMeeting 20 = .ok (.if_icmp .eq 5, 3) := by decide +kernel
theorem dX11_learnByMeeting_23 : decode cX11_learnByMeeting 23 = .ok (.iconst 0, 1) := by decide +kernel
theorem dX11_learnByMeeting_24 : decode cX11_learnByMeeting 24 = .ok (.ireturn, 1) := by decide +kernel
theorem dX11_learnByMeeting_25 : decode cX11_learnByMeeting 25 = .ok (.iconst 0, 1) := by decide +kernel
theorem dX11_learnByMeeting_26 : decode cX11_learnByMeeting 26 = .ok (.istore_n 3, 1) := by decide +kernel
theorem dX11_learnByMeeting_27 : decode cX11_learnByMeeting 27 = .ok (.iconst 0, 1) := by decide +kernel
theorem dX11_learnByMeeting_28 : decode cX11_learnByMeeting 28 = .ok (.istore 4, 2) := by decide +kernel
theorem dX11_learnByMeeting_30 : decode cX11_learnByMeeting 30 = .ok (.iload 4, 2) := by decide +kernel
theorem dX11_learnByMeeting_32 : decode cX11_learnByMeeting 32 = .ok (.aload_n 0, 1) := by decide +kernel
theorem dX11_learnByMeeting_33 : decode cX11_learnByMeeting 33 = .ok (.getfield 46, 3) := by decide +kernel
theorem dX11_learnByMeeting_36 : decode cX11_learnByMeeting 36 = .ok (.if_icmp .ge 78, 3) := by decide +kernel
theorem dX11_learnByMeeting_39 : decode cX11_learnByMeeting 39 = .ok (.aload_n 0, 1) := by decide +kernel
theorem dX11_learnByMeeting_40 : decode cX11_learnByMeeting 40 = .ok (.iload_n 1, 1) := by decide +kernel
theorem dX11_learnByMeeting_41 : decode cX11_learnByMeeting 41 = .ok (.iload 4, 2) := by decide +kernel
theorem dX11_learnByMeeting_43 : decode cX11_learnByMeeting 43 = .ok (.invokevirtual 68, 3) := by decide +kernel
theorem dX11_learnByMeeting_46 : decode cX11_learnByMeeting 46 = .ok (.aload_n 0, 1) := by decide +kernel
theorem dX11_learnByMeeting_47 : decode cX11_learnByMeeting 47 = .ok (.iload_n 2, 1) := by decide +kernel
theorem dX11_learnByMeeting_48 : decode cX11_learnByMeeting 48 = .ok (.iload 4, 2) := by decide +kernel
theorem dX11_learnByMeeting_50 : decode cX11_learnByMeeting 50 = .ok (.invokevirtual 68, 3) := by decide +kernel
theorem dX11_learnByMeeting_53 : decode cX11_learnByMeeting 53 = .ok (.isub, 1) := by decide +kernel
theorem dX11_learnByMeeting_54 : decode cX11_learnByMeeting 54 = .ok (.istore 5, 2) := by decide +kernel
theorem dX11_learnByMeeting_56 : decode cX11_learnByMeeting 56 = .ok (.iload 5, 2) := by decide +kernel
theorem dX11_learnByMeeting_58 : decode cX11_learnByMeeting 58 = .ok (.iconst 2, 1) := by decide +kernel
theorem dX11_learnByMeeting_59 : decode cX11_learnByMeeting 59 = .ok (.if_icmp .lt 24, 3) := by decide +kernel
theorem dX11_learnByMeeting_62 : decode cX11_learnByMeeting 62 = .ok (.aload_n 0, 1) := by decide +kernel
theorem dX11_learnByMeeting_63 : decode cX11_learnByMeeting 63 = .ok (.iload_n 2, 1) := by decide +kernel
theorem dX11_learnByMeeting_64 : decode cX11_learnByMeeting 64 = .ok (.iload 4, 2) := by decide +kernel
theorem dX11_learnByMeeting_66 : decode cX11_learnByMeeting 66 = .ok (.aload_n 0, 1) := by decide +kernel
theorem dX11_learnByMeeting_67 : decode cX11_learnByMeeting 67 = .ok (.iload_n 2, 1) := by decide +kernel
theorem dX11_learnByMeeting_68 : decode cX11_learnByMeeting 68 = .ok (.iload 4, 2) := by decide +kernel
theorem dX11_learnByMeeting_70 : decode cX11_learnByMeeting 70 = .ok (.invokevirtual 68, 3) := by decide +kernel
theorem dX11_learnByMeeting_73 : decode cX11_learnByMeeting 73 = .ok (.iconst 1, 1) := by decide +kernel
theorem dX11_learnByMeeting_74 : decode cX11_learnByMeeting 74 = .ok (.iadd, 1) := by decide +kernel
theorem dX11_learnByMeeting_75 : decode cX11_learnByMeeting 75 = .ok (.invokevirtual 107, 3) := by decide +kernel
theorem dX11_learnByMeeting_78 : decode cX11_learnByMeeting 78 = .ok (.iconst 1, 1) := by decide +kernel
theorem dX11_learnByMeeting_79 : decode cX11_learnByMeeting 79 = .ok (.istore_n 3, 1) := by decide +kernel
theorem dX11_learnByMeeting_80 : decode cX11_learnByMeeting 80 = .ok (.goto 28, 3) := by decide +kernel
theorem dX11_learnByMeeting_83 : decode cX11_learnByMeeting 83 = .ok (.iload 5, 2) := by decide +kernel
theorem dX11_learnByMeeting_85 : decode cX11_learnByMeeting 85 = .ok (.bipush (-2), 2) := by decide +kernel
theorem dX11_learnByMeeting_87 : decode cX11_learnByMeeting 87 = .ok (.if_icmp .gt 21, 3) := by decide +kernel
theorem dX11_learnByMeeting_90 : decode cX11_learnByMeeting 90 = .ok (.aload_n 0, 1) := by decide +kernel
theorem dX11_learnByMeeting_91 : decode cX11_learnByMeeting 91 = .ok (.iload_n 1, 1) := by decide +kernel
theorem dX11_learnByMeeting_92 : decode cX11_learnByMeeting 92 = .ok (.iload 4, 2) := by decide +kernel
theorem dX11_learnByMeeting_94 : decode cX11_learnByMeeting 94 = .ok (.aload_n 0, 1) := by decide +kernel
theorem dX11_learnByMeeting_95 : decode cX11_learnByMeeting 95 = .ok (.iload_n 1, 1) := by decide +kernel
theorem dX11_learnByMeeting_96 : decode cX11_learnByMeeting 96 = .ok (.iload 4, 2) := by decide +kernel
theorem dX11_learnByMeeting_98 : decode cX11_learnByMeeting 98 = .ok (.invokevirtual 68, 3) := by decide +kernel
theorem dX11_learnByMeeting_101 : decode cX11_learnByMeeting 101 = .ok (.iconst 1, 1) := by decide +kernel
theorem dX11_learnByMeeting_102 : decode cX11_learnByMeeting 102 = .ok (.iadd, 1) := by decide +kernel
theorem dX11_learnByMeeting_103 : decode cX11_learnByMeeting 103 = .ok (.invokevirtual 107, 3) := by decide +kernel
theorem dX11_learnByMeeting_106 : decode cX11_learnByMeeting 106 = .ok (.iconst 1, 1) := by decide +kernel
theorem dX11_learnByMeeting_107 : decode cX11_learnByMeeting 107 = .ok (.istore_n 3, 1) := by decide +kernel
theorem dX11_learnByMeeting_108 : decode cX11_learnByMeeting 108 = .ok (.iinc 4 1, 3) := by decide +kernel
theorem dX11_learnByMeeting_111 : decode cX11_learnByMeeting 111 = .ok (.goto (-81), 3) := by decide +kernel
theorem dX11_learnByMeeting_114 : decode cX11_learnByMeeting 114 = .ok (.iload_n 3, 1) := by decide +kernel
theorem dX11_learnByMeeting_115 : decode cX11_learnByMeeting 115 = .ok (.ireturn, 1) := by decide +kernel
theorem bX11_learnByMeeting_0 {G : Gt} {d bc bs : Nat} {Q : QT} {l : Ls} {z : List Value} {h : Hp} (k : (tAld 0 (tIld 2 (tCV1 G d 0 0 9 mX11_isPerson (fun l z h => T G d bc bs mX11_learnByMeeting 5 l z h Q)))) l z h) : T G d bc bs mX11_learnByMeeting 0 l z h Q := by
  refine R_aload_n dX11_learnByMeeting_0 rfl (fun l z h k => ?_) k
  refine R_iload_n dX11_learnByMeeting_1 rfl (fun l z h k => ?_) k
  exact R_cv1 (M := mX11_learnByMeeting) (pc := 2) (bc := bc) (bs := bs) (cb := 0) (cs := 0) (M' := mX11_isPerson) dX11_learnByMeeting_2 rfl (by decide) w_810 w_136 w_913 w_808 w_809 (by decide +kernel) (fun _ _ _ k => k) k
theorem bX11_learnByMeeting_5 {G : Gt} {d bc bs : Nat} {Q : QT} {l : Ls} {z : List Value} {h : Hp} (k : (tIf (fun x => x = 0) (fun l z h => T G d bc bs mX11_learnByMeeting 23 l z h Q) (fun l z h => T G d bc bs mX11_learnByMeeting 8 l z h Q)) l z h) : T G d bc bs mX11_learnByMeeting 5 l z h Q := by
  exact R_if_eq dX11_learnByMeeting_5 (by decide) (fun _ _ _ k => k) (fun _ _ _ k => k) k
theorem bX11_learnByMeeting_8 {G : Gt} {d bc bs : Nat} {Q : QT} {l : Ls} {z : List Value} {h : Hp} (k : (tAld 0 (tGetf 9 8 (tIld 1 (tXald 0 (tAld 0 (tGetf 9 8 (tIld 2 (tXald 0 (tIf2 (fun x y => x = y) (fun l z h => T G d bc bs mX11_learnByMeeting 25 l z h Q) (fun l z h => T G d bc bs mX11_learnByMeeting 23 l z h Q)))))))))) l z h) : T G d bc bs mX11_learnByMeeting 8 l z h Q := by
  refine R_aload_n dX11_learnByMeeting_8 rfl (fun l z h k => ?_) k
  refine R_getf (ci := 9) (f := 8) (C := RX11) (N := 14) (Tt := TX11) dX11_learnByMeeting_9 rfl i_X11 (by decide) w_275 (fun l z h k => ?_) k
  refine R_iload_n dX11_learnByMeeting_12 rfl (fun l z h k => ?_) k
  refine R_iaload dX11_learnByMeeting_13 (fun l z h k => ?_) k
  refine R_aload_n dX11_learnByMeeting_14 rfl (fun l z h k => ?_) k
  refine R_getf (ci := 9) (f := 8) (C := RX11) (N := 14) (Tt := TX11) dX11_learnByMeeting_15 rfl i_X11 (by decide) w_275 (fun l z h k => ?_) k
  refine R_iload_n dX11_learnByMeeting_18 rfl (fun l z h k => ?_) k
  refine R_iaload dX11_learnByMeeting_19 (fun l z h k => ?_) k
  exact R_icmp_eq dX11_learnByMeeting_20 (by decide) (fun _ _ _ k => k) (fun _ _ _ k => k) k
theorem bX11_learnByMeeting_23 {G : Gt} {d bc bs : Nat} {Q : QT} {l : Ls} {z : List Value} {h : Hp} (k : (tPush (.int 0) (tRetZ Q)) l z h) : T G d bc bs mX11_learnByMeeting 23 l z h Q := by
  refine R_iconst dX11_learnByMeeting_23 (by decide) (fun l z h k => ?_) k
  exact R_zret dX11_learnByMeeting_24 rfl k
theorem bX11_learnByMeeting_25 {G : Gt} {d bc bs : Nat} {Q : QT} {l : Ls} {z : List Value} {h : Hp} (k : (tPush (.int 0) (tIst 3 (tPush (.int 0) (tIst 4 ((fun l z h => T G d bc bs mX11_learnByMeeting 30 l z h Q)))))) l z h) : T G d bc bs mX11_learnByMeeting 25 l z h Q := by
  refine R_iconst dX11_learnByMeeting_25 (by decide) (fun l z h k => ?_) k
  refine R_istore_n dX11_learnByMeeting_26 rfl (by decide) (fun l z h k => ?_) k
  refine R_iconst dX11_learnByMeeting_27 (by decide) (fun l z h k => ?_) k
  refine R_istore dX11_learnByMeeting_28 (by decide) (fun l z h k => ?_) k
  exact k
theorem bX11_learnByMeeting_30 {G : Gt} {d bc bs : Nat} {Q : QT} {l : Ls} {z : List Value} {h : Hp} (k : (tIld 4 (tAld 0 (tGetf 9 0 (tIf2 (fun x y => y ≤ x) (fun l z h => T G d bc bs mX11_learnByMeeting 114 l z h Q) (fun l z h => T G d bc bs mX11_learnByMeeting 39 l z h Q))))) l z h) : T G d bc bs mX11_learnByMeeting 30 l z h Q := by
  refine R_iload dX11_learnByMeeting_30 (fun l z h k => ?_) k
  refine R_aload_n dX11_learnByMeeting_32 rfl (fun l z h k => ?_) k
  refine R_getf (ci := 9) (f := 0) (C := RX11) (N := 14) (Tt := TX11) dX11_learnByMeeting_33 rfl i_X11 (by decide) w_248 (fun l z h k => ?_) k
  exact R_icmp_ge dX11_learnByMeeting_36 (by decide) (fun _ _ _ k => k) (fun _ _ _ k => k) k
theorem bX11_learnByMeeting_39 {G : Gt} {d bc bs : Nat} {Q : QT} {l : Ls} {z : List Value} {h : Hp} (k : (tAld 0 (tIld 1 (tIld 4 (tCV2 G d 0 0 9 mX11_held (fun l z h => T G d bc bs mX11_learnByMeeting 46 l z h Q))))) l z h) : T G d bc bs mX11_learnByMeeting 39 l z h Q := by
  refine R_aload_n dX11_learnByMeeting_39 rfl (fun l z h k => ?_) k
  refine R_iload_n dX11_learnByMeeting_40 rfl (fun l z h k => ?_) k
  refine R_iload dX11_learnByMeeting_41 (fun l z h k => ?_) k
  exact R_cv2 (M := mX11_learnByMeeting) (pc := 43) (bc := bc) (bs := bs) (cb := 0) (cs := 0) (M' := mX11_held) dX11_learnByMeeting_43 rfl (by decide) w_739 w_136 w_824 w_737 w_738 (by decide +kernel) (fun _ _ _ k => k) k
theorem bX11_learnByMeeting_46 {G : Gt} {d bc bs : Nat} {Q : QT} {l : Ls} {z : List Value} {h : Hp} (k : (tAld 0 (tIld 2 (tIld 4 (tCV2 G d 0 0 9 mX11_held (fun l z h => T G d bc bs mX11_learnByMeeting 53 l z h Q))))) l z h) : T G d bc bs mX11_learnByMeeting 46 l z h Q := by
  refine R_aload_n dX11_learnByMeeting_46 rfl (fun l z h k => ?_) k
  refine R_iload_n dX11_learnByMeeting_47 rfl (fun l z h k => ?_) k
  refine R_iload dX11_learnByMeeting_48 (fun l z h k => ?_) k
  exact R_cv2 (M := mX11_learnByMeeting) (pc := 50) (bc := bc) (bs := bs) (cb := 0) (cs := 0) (M' := mX11_held) dX11_learnByMeeting_50 rfl (by decide) w_739 w_136 w_824 w_737 w_738 (by decide +kernel) (fun _ _ _ k => k) k
theorem bX11_learnByMeeting_53 {G : Gt} {d bc bs : Nat} {Q : QT} {l : Ls} {z : List Value} {h : Hp} (k : (tB (fun x y => x - y) (tIst 5 (tIld 5 (tPush (.int 2) (tIf2 (fun x y => x < y) (fun l z h => T G d bc bs mX11_learnByMeeting 83 l z h Q) (fun l z h => T G d bc bs mX11_learnByMeeting 62 l z h Q)))))) l z h) : T G d bc bs mX11_learnByMeeting 53 l z h Q := by
  refine R_isub dX11_learnByMeeting_53 (fun l z h k => ?_) k
  refine R_istore dX11_learnByMeeting_54 (by decide) (fun l z h k => ?_) k
  refine R_iload dX11_learnByMeeting_56 (fun l z h k => ?_) k
  refine R_iconst dX11_learnByMeeting_58 (by decide) (fun l z h k => ?_) k
  exact R_icmp_lt dX11_learnByMeeting_59 (by decide) (fun _ _ _ k => k) (fun _ _ _ k => k) k
theorem bX11_learnByMeeting_62 {G : Gt} {d bc bs : Nat} {Q : QT} {l : Ls} {z : List Value} {h : Hp} (k : (tAld 0 (tIld 2 (tIld 4 (tAld 0 (tIld 2 (tIld 4 (tCV2 G d 0 0 9 mX11_held (fun l z h => T G d bc bs mX11_learnByMeeting 73 l z h Q)))))))) l z h) : T G d bc bs mX11_learnByMeeting 62 l z h Q := by
  refine R_aload_n dX11_learnByMeeting_62 rfl (fun l z h k => ?_) k
  refine R_iload_n dX11_learnByMeeting_63 rfl (fun l z h k => ?_) k
  refine R_iload dX11_learnByMeeting_64 (fun l z h k => ?_) k
  refine R_aload_n dX11_learnByMeeting_66 rfl (fun l z h k => ?_) k
  refine R_iload_n dX11_learnByMeeting_67 rfl (fun l z h k => ?_) k
  refine R_iload dX11_learnByMeeting_68 (fun l z h k => ?_) k
  exact R_cv2 (M := mX11_learnByMeeting) (pc := 70) (bc := bc) (bs := bs) (cb := 0) (cs := 0) (M' := mX11_held) dX11_learnByMeeting_70 rfl (by decide) w_739 w_136 w_824 w_737 w_738 (by decide +kernel) (fun _ _ _ k => k) k
theorem bX11_learnByMeeting_73 {G : Gt} {d bc bs : Nat} {Q : QT} {l : Ls} {z : List Value} {h : Hp} (k : (tPush (.int 1) (tB (fun x y => x + y) (tCV3 G d 0 0 9 mX11_setHeld (fun l z h => T G d bc bs mX11_learnByMeeting 78 l z h Q)))) l z h) : T G d bc bs mX11_learnByMeeting 73 l z h Q := by
  refine R_iconst dX11_learnByMeeting_73 (by decide) (fun l z h k => ?_) k
  refine R_iadd dX11_learnByMeeting_74 (fun l z h k => ?_) k
  exact R_cv3 (M := mX11_learnByMeeting) (pc := 75) (bc := bc) (bs := bs) (cb := 0) (cs := 0) (M' := mX11_setHeld) dX11_learnByMeeting_75 rfl (by decide) w_743 w_136 w_922 w_741 w_742 (by decide +kernel) (fun _ _ _ k => k) k
theorem bX11_learnByMeeting_78 {G : Gt} {d bc bs : Nat} {Q : QT} {l : Ls} {z : List Value} {h : Hp} (k : (tPush (.int 1) (tIst 3 ((fun l z h => T G d bc bs mX11_learnByMeeting 108 l z h Q)))) l z h) : T G d bc bs mX11_learnByMeeting 78 l z h Q := by
  refine R_iconst dX11_learnByMeeting_78 (by decide) (fun l z h k => ?_) k
  refine R_istore_n dX11_learnByMeeting_79 rfl (by decide) (fun l z h k => ?_) k
  exact R_goto dX11_learnByMeeting_80 (by decide) (fun _ _ _ k => k) k
theorem bX11_learnByMeeting_83 {G : Gt} {d bc bs : Nat} {Q : QT} {l : Ls} {z : List Value} {h : Hp} (k : (tIld 5 (tPush (.int (-2)) (tIf2 (fun x y => y < x) (fun l z h => T G d bc bs mX11_learnByMeeting 108 l z h Q) (fun l z h => T G d bc bs mX11_learnByMeeting 90 l z h Q)))) l z h) : T G d bc bs mX11_learnByMeeting 83 l z h Q := by
  refine R_iload dX11_learnByMeeting_83 (fun l z h k => ?_) k
  refine R_bipush dX11_learnByMeeting_85 (by decide) (fun l z h k => ?_) k
  exact R_icmp_gt dX11_learnByMeeting_87 (by decide) (fun _ _ _ k => k) (fun _ _ _ k => k) k
theorem bX11_learnByMeeting_90 {G : Gt} {d bc bs : Nat} {Q : QT} {l : Ls} {z : List Value} {h : Hp} (k : (tAld 0 (tIld 1 (tIld 4 (tAld 0 (tIld 1 (tIld 4 (tCV2 G d 0 0 9 mX11_held (fun l z h => T G d bc bs mX11_learnByMeeting 101 l z h Q)))))))) l z h) : T G d bc bs mX11_learnByMeeting 90 l z h Q := by
  refine R_aload_n dX11_learnByMeeting_90 rfl (fun l z h k => ?_) k
  refine R_iload_n dX11_learnByMeeting_91 rfl (fun l z h k => ?_) k
  refine R_iload dX11_learnByMeeting_92 (fun l z h k => ?_) k
  refine R_aload_n dX11_learnByMeeting_94 rfl (fun l z h k => ?_) k
  refine R_iload_n dX11_learnByMeeting_95 rfl (fun l z h k => ?_) k
  refine R_iload dX11_learnByMeeting_96 (fun l z h k => ?_) k
  exact R_cv2 (M := mX11_learnByMeeting) (pc := 98) (bc := bc) (bs := bs) (cb := 0) (cs := 0) (M' := mX11_held) dX11_learnByMeeting_98 rfl (by decide) w_739 w_136 w_824 w_737 w_738 (by decide +kernel) (fun _ _ _ k => k) k
theorem bX11_learnByMeeting_101 {G : Gt} {d bc bs : Nat} {Q : QT} {l : Ls} {z : List Value} {h : Hp} (k : (tPush (.int 1) (tB (fun x y => x + y) (tCV3 G d 0 0 9 mX11_setHeld (fun l z h => T G d bc bs mX11_learnByMeeting 106 l z h Q)))) l z h) : T G d bc bs mX11_learnByMeeting 101 l z h Q := by
  refine R_iconst dX11_learnByMeeting_101 (by decide) (fun l z h k => ?_) k
  refine R_iadd dX11_learnByMeeting_102 (fun l z h k => ?_) k
  exact R_cv3 (M := mX11_learnByMeeting) (pc := 103) (bc := bc) (bs := bs) (cb := 0) (cs := 0) (M' := mX11_setHeld) dX11_learnByMeeting_103 rfl (by decide) w_743 w_136 w_922 w_741 w_742 (by decide +kernel) (fun _ _ _ k => k) k
theorem bX11_learnByMeeting_106 {G : Gt} {d bc bs : Nat} {Q : QT} {l : Ls} {z : List Value} {h : Hp} (k : (tPush (.int 1) (tIst 3 ((fun l z h => T G d bc bs mX11_learnByMeeting 108 l z h Q)))) l z h) : T G d bc bs mX11_learnByMeeting 106 l z h Q := by
  refine R_iconst dX11_learnByMeeting_106 (by decide) (fun l z h k => ?_) k
  refine R_istore_n dX11_learnByMeeting_107 rfl (by decide) (fun l z h k => ?_) k
  exact k
theorem bX11_learnByMeeting_108 {G : Gt} {d bc bs : Nat} {Q : QT} {l : Ls} {z : List Value} {h : Hp} (k : (tInc 4 1 ((fun l z h => T G d bc bs mX11_learnByMeeting 30 l z h Q))) l z h) : T G d bc bs mX11_learnByMeeting 108 l z h Q := by
  refine R_iinc dX11_learnByMeeting_108 (by decide) (by decide) (fun l z h k => ?_) k
  exact R_goto dX11_learnByMeeting_111 (by decide) (fun _ _ _ k => k) k
theorem bX11_learnByMeeting_114 {G : Gt} {d bc bs : Nat} {Q : QT} {l : Ls} {z : List Value} {h : Hp} (k : (tIld 3 (tRetZ Q)) l z h) : T G d bc bs mX11_learnByMeeting 114 l z h Q := by
  refine R_iload_n dX11_learnByMeeting_114 rfl (fun l z h k => ?_) k
  exact R_zret dX11_learnByMeeting_115 rfl k
