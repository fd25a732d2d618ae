/-! ===== the blocks with rows of rows ===== -/
theorem w_335 : Cond.classLink "BridgeToll$Book" 17 "[[I" ∈ wsA := mem_wsA 335 (by decide +kernel) (by decide +kernel)
theorem w_337 : Cond.classLink "BridgeToll$Book" 22 "BridgeToll$World" ∈ wsA := mem_wsA 337 (by decide +kernel) (by decide +kernel)
theorem w_435 : Cond.classLink "BridgeToll$Outlook" 29 "[[I" ∈ wsA := mem_wsA 435 (by decide +kernel) (by decide +kernel)
theorem n_338 : Cond.methodLinkNest "BridgeToll$Book" 24 ⟨"BridgeToll$World", "<init>", "()V"⟩ "BridgeToll" ∈ lw_tbl := List.mem_of_getElem? (i := 338) (by decide +kernel)
theorem bX1_init_4 {G : Gt} {d bc bs : Nat} {Q : QT} {l : Ls} {z : List Value} {h : Hp} (k : (tAld 0 (tPush (.int 40) (tNewR 0 40 (tPutf isA 0 1 (tAld 0 (tPush (.int 40) (tPush (.int 4) (tMul 40 4 (tPutf isA 0 2 (tAld 0 (tNew 9 [.int 0, .int 0, .int 0, .null, .null, .null, .null, .null, .null, .null, .null, .null, .null, .null] (tDup (tCI0 G d 11 126 mX11_init (fun l z h => T G d bc bs mX1_init 32 l z h Q)))))))))))))) l z h) : T G d (bc + 11 + 1 + (1 + 40) + 1) (bs + 126 + 14 + (40 + 40 * 4) + 40) mX1_init 4 l z h Q := by
  refine R_aload_n dX1_init_4 rfl (fun l z h k => ?_) k
  refine R_bipush dX1_init_5 (by decide) (fun l z h k => ?_) k
  refine R_newR (C := "BridgeToll$Word") dX1_init_7 (by decide) rfl (fun _ _ h => h.2.2.2.2.2.1) w_334 (by decide) (fun l z h k => ?_) k
  refine R_putF (ci := 0) (f := 1) (C := RX1) (N := 6) (Tt := TX1) tyX1 tyX1_ok nmX1 dX1_init_10 rfl i_X1 (by decide) w_344 rfl rfl rfl (tyX1_ok 1 (by decide)) (p_ref rfl) (fun l z h k => ?_) k
  refine R_aload_n dX1_init_13 rfl (fun l z h k => ?_) k
  refine R_bipush dX1_init_14 (by decide) (fun l z h k => ?_) k
  refine R_iconst dX1_init_16 (by decide) (fun l z h k => ?_) k
  refine R_mna (N := 40) (P := 4) dX1_init_17 (by decide) w_335 w_183 (by decide) (by decide) (by decide) (fun l z h k => ?_) k
  refine R_putF (ci := 0) (f := 2) (C := RX1) (N := 6) (Tt := TX1) tyX1 tyX1_ok nmX1 dX1_init_21 rfl i_X1 (by decide) w_345 rfl rfl rfl (tyX1_ok 2 (by decide)) (p_ref rfl) (fun l z h k => ?_) k
  refine R_aload_n dX1_init_24 rfl (fun l z h k => ?_) k
  refine R_new (ci := 9) (C := RX11) (N := 14) (Tt := TX11) (fs := [.int 0, .int 0, .int 0, .null, .null, .null, .null, .null, .null, .null, .null, .null, .null, .null]) tyX11 tyX11_ok dX1_init_25 rfl i_X11 w_337 w_243 w_136 rfl (fun j hj => by rcases (show j = 0 ∨ j = 1 ∨ j = 2 ∨ j = 3 ∨ j = 4 ∨ j = 5 ∨ j = 6 ∨ j = 7 ∨ j = 8 ∨ j = 9 ∨ j = 10 ∨ j = 11 ∨ j = 12 ∨ j = 13 by omega) with rfl | rfl | rfl | rfl | rfl | rfl | rfl | rfl | rfl | rfl | rfl | rfl | rfl | rfl <;> rfl) (fun l z h k => ?_) k
  refine R_dup dX1_init_28 (fun l z h k => ?_) k
  exact R_ciN0 (M := mX1_init) (pc := 29) (bc := bc) (bs := bs) (cb := 11) (cs := 126) (M' := mX11_init) dX1_init_29 (by decide) rfl w_246 w_136 n_338 w_245 rfl (by decide +kernel) (fun _ _ _ k => k) k
theorem bX5_init_12 {G : Gt} {d bc bs : Nat} {Q : QT} {l : Ls} {z : List Value} {h : Hp} (k : (tPutf isA 4 1 (tAld 0 (tPush (.int (-1)) (tPutf isI 4 2 (tAld 0 (tPush (.int (-1)) (tPutf isI 4 3 (tAld 0 (tPush (.int 8) (tNewI 0 8 (tPutf isA 4 4 (tAld 0 (tPush (.int 8) (tPush (.int 8) (tMul 8 8 (tPutf isA 4 5 (tAld 0 (tPush (.int 8) (tNewI 0 8 (tPutf isA 4 6 (tAld 0 (tAld 1 (tPutf isA 4 0 (tAld 0 (tGetf 4 4 (tPush (.int (-1)) (tCS2 G d 0 0 mJ7_fill_53178 (fun l z h => T G d bc bs mX5_init 66 l z h Q)))))))))))))))))))))))))))) l z h) : T G d (bc + 1 + (1 + 8) + 1) (bs + 8 + (8 + 8 * 8) + 8) mX5_init 12 l z h Q := by
  refine R_putF (ci := 4) (f := 1) (C := RX5) (N := 8) (Tt := TX5) tyX5 tyX5_ok nmX5 dX5_init_12 rfl i_X5 (by decide) w_438 rfl rfl rfl (tyX5_ok 1 (by decide)) (p_ref rfl) (fun l z h k => ?_) k
  refine R_aload_n dX5_init_15 rfl (fun l z h k => ?_) k
  refine R_iconst dX5_init_16 (by decide) (fun l z h k => ?_) k
  refine R_putf (ci := 4) (f := 2) (C := RX5) (N := 8) (Tt := TX5) tyX5 tyX5_ok nmX5 dX5_init_17 rfl i_X5 (by decide) w_439 rfl (tyX5_ok 2 (by decide)) p_int (fun l z h k => ?_) k
  refine R_aload_n dX5_init_20 rfl (fun l z h k => ?_) k
  refine R_iconst dX5_init_21 (by decide) (fun l z h k => ?_) k
  refine R_putf (ci := 4) (f := 3) (C := RX5) (N := 8) (Tt := TX5) tyX5 tyX5_ok nmX5 dX5_init_22 rfl i_X5 (by decide) w_441 rfl (tyX5_ok 3 (by decide)) p_int (fun l z h k => ?_) k
  refine R_aload_n dX5_init_25 rfl (fun l z h k => ?_) k
  refine R_bipush dX5_init_26 (by decide) (fun l z h k => ?_) k
  refine R_newI (ty := .int) dX5_init_28 (by decide) rfl rfl (fun _ _ => rfl) rfl w_183 (by decide) (fun l z h k => ?_) k
  refine R_putF (ci := 4) (f := 4) (C := RX5) (N := 8) (Tt := TX5) tyX5 tyX5_ok nmX5 dX5_init_30 rfl i_X5 (by decide) w_443 rfl rfl rfl (tyX5_ok 4 (by decide)) (p_ref rfl) (fun l z h k => ?_) k
  refine R_aload_n dX5_init_33 rfl (fun l z h k => ?_) k
  refine R_bipush dX5_init_34 (by decide) (fun l z h k => ?_) k
  refine R_bipush dX5_init_36 (by decide) (fun l z h k => ?_) k
  refine R_mna (N := 8) (P := 8) dX5_init_38 (by decide) w_435 w_183 (by decide) (by decide) (by decide) (fun l z h k => ?_) k
  refine R_putF (ci := 4) (f := 5) (C := RX5) (N := 8) (Tt := TX5) tyX5 tyX5_ok nmX5 dX5_init_42 rfl i_X5 (by decide) w_444 rfl rfl rfl (tyX5_ok 5 (by decide)) (p_ref rfl) (fun l z h k => ?_) k
  refine R_aload_n dX5_init_45 rfl (fun l z h k => ?_) k
  refine R_bipush dX5_init_46 (by decide) (fun l z h k => ?_) k
  refine R_newI (ty := .int) dX5_init_48 (by decide) rfl rfl (fun _ _ => rfl) rfl w_183 (by decide) (fun l z h k => ?_) k
  refine R_putF (ci := 4) (f := 6) (C := RX5) (N := 8) (Tt := TX5) tyX5 tyX5_ok nmX5 dX5_init_50 rfl i_X5 (by decide) w_445 rfl rfl rfl (tyX5_ok 6 (by decide)) (p_ref rfl) (fun l z h k => ?_) k
  refine R_aload_n dX5_init_53 rfl (fun l z h k => ?_) k
  refine R_aload_n dX5_init_54 rfl (fun l z h k => ?_) k
  refine R_putF (ci := 4) (f := 0) (C := RX5) (N := 8) (Tt := TX5) tyX5 tyX5_ok nmX5 dX5_init_55 rfl i_X5 (by decide) w_437 rfl rfl rfl (tyX5_ok 0 (by decide)) (p_ref rfl) (fun l z h k => ?_) k
  refine R_aload_n dX5_init_58 rfl (fun l z h k => ?_) k
  refine R_getf (ci := 4) (f := 4) (C := RX5) (N := 8) (Tt := TX5) dX5_init_59 rfl i_X5 (by decide) w_443 (fun l z h k => ?_) k
  refine R_iconst dX5_init_62 (by decide) (fun l z h k => ?_) k
  exact R_cs2 (M := mX5_init) (pc := 63) (bc := bc) (bs := bs) (cb := 0) (cs := 0) (M' := mJ7_fill_53178) dX5_init_63 (by decide) w_341 w_138 w_436 w_340 (by decide +kernel) (fun _ _ _ k => k) k

