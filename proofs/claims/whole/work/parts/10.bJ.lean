theorem dJx29ce0_ordinal_8abf5_0 : decode cJx29ce0_ordinal_8abf5 0 = .ok (.aload_n 0, 1) := by decide +kernel
theorem dJx29ce0_ordinal_8abf5_1 : decode cJx29ce0_ordinal_8abf5 1 = .ok (.getfield 7, 3) := by decide +kernel
theorem dJx29ce0_ordinal_8abf5_4 : decode cJx29ce0_ordinal_8abf5 4 = .ok (.ireturn, 1) := by decide +kernel
theorem bJx29ce0_ordinal_8abf5_0 {G : Gt} {d bc bs : Nat} {Q : QT} {l : Ls} {z : List Value} {h : Hp} (k : (tAld 0 (tGx (xOrd G) (tRetI Q))) l z h) : T G d bc bs mJx29ce0_ordinal_8abf5 0 l z h Q := by
  refine R_aload_n dJx29ce0_ordinal_8abf5_0 rfl (fun l z h k => ?_) k
  refine R_gx dJx29ce0_ordinal_8abf5_1 w_2173 xOrd_ok (fun l z h k => ?_) k
  exact R_iret dJx29ce0_ordinal_8abf5_4 rfl k
theorem dJ6_bitCount_0f7a4_0 : decode cJ6_bitCount_0f7a4 0 = .ok (.iload_n 0, 1) := by decide +kernel
theorem dJ6_bitCount_0f7a4_1 : decode cJ6_bitCount_0f7a4 1 = .ok (.iload_n 0, 1) := by decide +kernel
theorem dJ6_bitCount_0f7a4_2 : decode cJ6_bitCount_0f7a4 2 = .ok (.iconst 1, 1) := by decide +kernel
theorem dJ6_bitCount_0f7a4_3 : decode cJ6_bitCount_0f7a4 3 = .ok (.iushr, 1) := by decide +kernel
theorem dJ6_bitCount_0f7a4_4 : decode cJ6_bitCount_0f7a4 4 = .ok (.ldc_w 265, 3) := by decide +kernel
theorem dJ6_bitCount_0f7a4_7 : decode cJ6_bitCount_0f7a4 7 = .ok (.iand, 1) := by decide +kernel
theorem dJ6_bitCount_0f7a4_8 : decode cJ6_bitCount_0f7a4 8 = .ok (.isub, 1) := by decide +kernel
theorem dJ6_bitCount_0f7a4_9 : decode cJ6_bitCount_0f7a4 9 = .ok (.istore_n 0, 1) := by decide +kernel
theorem dJ6_bitCount_0f7a4_10 : decode cJ6_bitCount_0f7a4 10 = .ok (.iload_n 0, 1) := by decide +kernel
theorem dJ6_bitCount_0f7a4_11 : decode cJ6_bitCount_0f7a4 11 = .ok (.ldc_w 266, 3) := by decide +kernel
theorem dJ6_bitCount_0f7a4_14 : decode cJ6_bitCount_0f7a4 14 = .ok (.iand, 1) := by decide +kernel
theorem dJ6_bitCount_0f7a4_15 : decode cJ6_bitCount_0f7a4 15 = .ok (.iload_n 0, 1) := by decide +kernel
theorem dJ6_bitCount_0f7a4_16 : decode cJ6_bitCount_0f7a4 16 = .ok (.iconst 2, 1) := by decide +kernel
theorem dJ6_bitCount_0f7a4_17 : decode cJ6_bitCount_0f7a4 17 = .ok (.iushr, 1) := by decide +kernel
theorem dJ6_bitCount_0f7a4_18 : decode cJ6_bitCount_0f7a4 18 = .ok (.ldc_w 266, 3) := by decide +kernel
theorem dJ6_bitCount_0f7a4_21 : decode cJ6_bitCount_0f7a4 21 = .ok (.iand, 1) := by decide +kernel
theorem dJ6_bitCount_0f7a4_22 : decode cJ6_bitCount_0f7a4 22 = .ok (.iadd, 1) := by decide +kernel
theorem dJ6_bitCount_0f7a4_23 : decode cJ6_bitCount_0f7a4 23 = .ok (.istore_n 0, 1) := by decide +kernel
theorem dJ6_bitCount_0f7a4_24 : decode cJ6_bitCount_0f7a4 24 = .ok (.iload_n 0, 1) := by decide +kernel
theorem dJ6_bitCount_0f7a4_25 : decode cJ6_bitCount_0f7a4 25 = .ok (.iload_n 0, 1) := by decide +kernel
theorem dJ6_bitCount_0f7a4_26 : decode cJ6_bitCount_0f7a4 26 = .ok (.iconst 4, 1) := by decide +kernel
theorem dJ6_bitCount_0f7a4_27 : decode cJ6_bitCount_0f7a4 27 = .ok (.iushr, 1) := by decide +kernel
theorem dJ6_bitCount_0f7a4_28 : decode cJ6_bitCount_0f7a4 28 = .ok (.iadd, 1) := by decide +kernel
theorem dJ6_bitCount_0f7a4_29 : decode cJ6_bitCount_0f7a4 29 = .ok (.ldc_w 267, 3) := by decide +kernel
theorem dJ6_bitCount_0f7a4_32 : decode cJ6_bitCount_0f7a4 32 = .ok (.iand, 1) := by decide +kernel
theorem dJ6_bitCount_0f7a4_33 : decode cJ6_bitCount_0f7a4 33 = .ok (.istore_n 0, 1) := by decide +kernel
theorem dJ6_bitCount_0f7a4_34 : decode cJ6_bitCount_0f7a4 34 = .ok (.iload_n 0, 1) := by decide +kernel
theorem dJ6_bitCount_0f7a4_35 : decode cJ6_bitCount_0f7a4 35 = .ok (.iload_n 0, 1) := by decide +kernel
theorem dJ6_bitCount_0f7a4_36 : decode cJ6_bitCount_0f7a4 36 = .ok (.bipush 8, 2) := by decide +kernel
theorem dJ6_bitCount_0f7a4_38 : decode cJ6_bitCount_0f7a4 38 = .ok (.iushr, 1) := by decide +kernel
theorem dJ6_bitCount_0f7a4_39 : decode cJ6_bitCount_0f7a4 39 = .ok (.iadd, 1) := by decide +kernel
theorem dJ6_bitCount_0f7a4_40 : decode cJ6_bitCount_0f7a4 40 = .ok (.istore_n 0, 1) := by decide +kernel
theorem dJ6_bitCount_0f7a4_41 : decode cJ6_bitCount_0f7a4 41 = .ok (.iload_n 0, 1) := by decide +kernel
theorem dJ6_bitCount_0f7a4_42 : decode cJ6_bitCount_0f7a4 42 = .ok (.iload_n 0, 1) := by decide +kernel
theorem dJ6_bitCount_0f7a4_43 : decode cJ6_bitCount_0f7a4 43 = .ok (.bipush 16, 2) := by decide +kernel
theorem dJ6_bitCount_0f7a4_45 : decode cJ6_bitCount_0f7a4 45 = .ok (.iushr, 1) := by decide +kernel
theorem dJ6_bitCount_0f7a4_46 : decode cJ6_bitCount_0f7a4 46 = .ok (.iadd, 1) := by decide +kernel
theorem dJ6_bitCount_0f7a4_47 : decode cJ6_bitCount_0f7a4 47 = .ok (.istore_n 0, 1) := by decide +kernel
theorem dJ6_bitCount_0f7a4_48 : decode cJ6_bitCount_0f7a4 48 = .ok (.iload_n 0, 1) := by decide +kernel
theorem dJ6_bitCount_0f7a4_49 : decode cJ6_bitCount_0f7a4 49 = .ok (.bipush 63, 2) := by decide +kernel
theorem dJ6_bitCount_0f7a4_51 : decode cJ6_bitCount_0f7a4 51 = .ok (.iand, 1) := by decide +kernel
theorem dJ6_bitCount_0f7a4_52 : decode cJ6_bitCount_0f7a4 52 = .ok (.ireturn, 1) := by decide +kernel
theorem bJ6_bitCount_0f7a4_0 {G : Gt} {d bc bs : Nat} {Q : QT} {l : Ls} {z : List Value} {h : Hp} (k : (tIld 0 (tIld 0 (tPush (.int 1) (tB (fun x y => (x.toUInt32 >>> (y.toUInt32 &&& Int32.toUInt32 31)).toInt32) (tPush (.int 1431655765) (tB (fun x y => x &&& y) (tB (fun x y => x - y) (tIst 0 (tIld 0 (tPush (.int 858993459) (tB (fun x y => x &&& y) (tIld 0 (tPush (.int 2) (tB (fun x y => (x.toUInt32 >>> (y.toUInt32 &&& Int32.toUInt32 31)).toInt32) (tPush (.int 858993459) (tB (fun x y => x &&& y) (tB (fun x y => x + y) (tIst 0 (tIld 0 (tIld 0 (tPush (.int 4) (tB (fun x y => (x.toUInt32 >>> (y.toUInt32 &&& Int32.toUInt32 31)).toInt32) (tB (fun x y => x + y) (tPush (.int 252645135) (tB (fun x y => x &&& y) (tIst 0 (tIld 0 (tIld 0 (tPush (.int 8) (tB (fun x y => (x.toUInt32 >>> (y.toUInt32 &&& Int32.toUInt32 31)).toInt32) (tB (fun x y => x + y) (tIst 0 (tIld 0 (tIld 0 (tPush (.int 16) (tB (fun x y => (x.toUInt32 >>> (y.toUInt32 &&& Int32.toUInt32 31)).toInt32) (tB (fun x y => x + y) (tIst 0 (tIld 0 (tPush (.int 63) (tB (fun x y => x &&& y) (tRetI Q)))))))))))))))))))))))))))))))))))))))))) l z h) : T G d bc bs mJ6_bitCount_0f7a4 0 l z h Q := by
  refine R_iload_n dJ6_bitCount_0f7a4_0 rfl (fun l z h k => ?_) k
  refine R_iload_n dJ6_bitCount_0f7a4_1 rfl (fun l z h k => ?_) k
  refine R_iconst dJ6_bitCount_0f7a4_2 (by decide) (fun l z h k => ?_) k
  refine R_iushr dJ6_bitCount_0f7a4_3 (fun l z h k => ?_) k
  refine R_ldcw dJ6_bitCount_0f7a4_4 w_1100 (fun l z h k => ?_) k
  refine R_iand dJ6_bitCount_0f7a4_7 (fun l z h k => ?_) k
  refine R_isub dJ6_bitCount_0f7a4_8 (fun l z h k => ?_) k
  refine R_istore_n dJ6_bitCount_0f7a4_9 rfl (by decide) (fun l z h k => ?_) k
  refine R_iload_n dJ6_bitCount_0f7a4_10 rfl (fun l z h k => ?_) k
  refine R_ldcw dJ6_bitCount_0f7a4_11 w_1101 (fun l z h k => ?_) k
  refine R_iand dJ6_bitCount_0f7a4_14 (fun l z h k => ?_) k
  refine R_iload_n dJ6_bitCount_0f7a4_15 rfl (fun l z h k => ?_) k
  refine R_iconst dJ6_bitCount_0f7a4_16 (by decide) (fun l z h k => ?_) k
  refine R_iushr dJ6_bitCount_0f7a4_17 (fun l z h k => ?_) k
  refine R_ldcw dJ6_bitCount_0f7a4_18 w_1101 (fun l z h k => ?_) k
  refine R_iand dJ6_bitCount_0f7a4_21 (fun l z h k => ?_) k
  refine R_iadd dJ6_bitCount_0f7a4_22 (fun l z h k => ?_) k
  refine R_istore_n dJ6_bitCount_0f7a4_23 rfl (by decide) (fun l z h k => ?_) k
  refine R_iload_n dJ6_bitCount_0f7a4_24 rfl (fun l z h k => ?_) k
  refine R_iload_n dJ6_bitCount_0f7a4_25 rfl (fun l z h k => ?_) k
  refine R_iconst dJ6_bitCount_0f7a4_26 (by decide) (fun l z h k => ?_) k
  refine R_iushr dJ6_bitCount_0f7a4_27 (fun l z h k => ?_) k
  refine R_iadd dJ6_bitCount_0f7a4_28 (fun l z h k => ?_) k
  refine R_ldcw dJ6_bitCount_0f7a4_29 w_1102 (fun l z h k => ?_) k
  refine R_iand dJ6_bitCount_0f7a4_32 (fun l z h k => ?_) k
  refine R_istore_n dJ6_bitCount_0f7a4_33 rfl (by decide) (fun l z h k => ?_) k
  refine R_iload_n dJ6_bitCount_0f7a4_34 rfl (fun l z h k => ?_) k
  refine R_iload_n dJ6_bitCount_0f7a4_35 rfl (fun l z h k => ?_) k
  refine R_bipush dJ6_bitCount_0f7a4_36 (by decide) (fun l z h k => ?_) k
  refine R_iushr dJ6_bitCount_0f7a4_38 (fun l z h k => ?_) k
  refine R_iadd dJ6_bitCount_0f7a4_39 (fun l z h k => ?_) k
  refine R_istore_n dJ6_bitCount_0f7a4_40 rfl (by decide) (fun l z h k => ?_) k
  refine R_iload_n dJ6_bitCount_0f7a4_41 rfl (fun l z h k => ?_) k
  refine R_iload_n dJ6_bitCount_0f7a4_42 rfl (fun l z h k => ?_) k
  refine R_bipush dJ6_bitCount_0f7a4_43 (by decide) (fun l z h k => ?_) k
  refine R_iushr dJ6_bitCount_0f7a4_45 (fun l z h k => ?_) k
  refine R_iadd dJ6_bitCount_0f7a4_46 (fun l z h k => ?_) k
  refine R_istore_n dJ6_bitCount_0f7a4_47 rfl (by decide) (fun l z h k => ?_) k
  refine R_iload_n dJ6_bitCount_0f7a4_48 rfl (fun l z h k => ?_) k
  refine R_bipush dJ6_bitCount_0f7a4_49 (by decide) (fun l z h k => ?_) k
  refine R_iand dJ6_bitCount_0f7a4_51 (fun l z h k => ?_) k
  exact R_iret dJ6_bitCount_0f7a4_52 rfl k
theorem dJ9_abs_0f7a4_0 : decode cJ9_abs_0f7a4 0 = .ok (.iload_n 0, 1) := by decide +kernel
theorem dJ9_abs_0f7a4_1 : decode cJ9_abs_0f7a4 1 = .ok (.ifCond .ge 8, 3) := by decide +kernel
theorem dJ9_abs_0f7a4_4 : decode cJ9_abs_0f7a4 4 = .ok (.iload_n 0, 1) := by decide +kernel
theorem dJ9_abs_0f7a4_5 : decode cJ9_abs_0f7a4 5 = .ok (.ineg, 1) := by decide +kernel
theorem dJ9_abs_0f7a4_6 : decode cJ9_abs_0f7a4 6 = .ok (.goto 4, 3) := by decide +kernel
theorem dJ9_abs_0f7a4_9 : decode cJ9_abs_0f7a4 9 = .ok (.iload_n 0, 1) := by decide +kernel
theorem dJ9_abs_0f7a4_10 : decode cJ9_abs_0f7a4 10 = .ok (.ireturn, 1) := by decide +kernel
theorem bJ9_abs_0f7a4_0 {G : Gt} {d bc bs : Nat} {Q : QT} {l : Ls} {z : List Value} {h : Hp} (k : (tIld 0 (tIf (fun x => 0 ≤ x) (fun l z h => T G d bc bs mJ9_abs_0f7a4 9 l z h Q) (fun l z h => T G d bc bs mJ9_abs_0f7a4 4 l z h Q))) l z h) : T G d bc bs mJ9_abs_0f7a4 0 l z h Q := by
  refine R_iload_n dJ9_abs_0f7a4_0 rfl (fun l z h k => ?_) k
  exact R_if_ge dJ9_abs_0f7a4_1 (by decide) (fun _ _ _ k => k) (fun _ _ _ k => k) k
theorem bJ9_abs_0f7a4_4 {G : Gt} {d bc bs : Nat} {Q : QT} {l : Ls} {z : List Value} {h : Hp} (k : (tIld 0 (tU (fun x => -x) ((fun l z h => T G d bc bs mJ9_abs_0f7a4 10 l z h Q)))) l z h) : T G d bc bs mJ9_abs_0f7a4 4 l z h Q := by
  refine R_iload_n dJ9_abs_0f7a4_4 rfl (fun l z h k => ?_) k
  refine R_ineg dJ9_abs_0f7a4_5 (fun l z h k => ?_) k
  exact R_goto dJ9_abs_0f7a4_6 (by decide) (fun _ _ _ k => k) k
theorem bJ9_abs_0f7a4_9 {G : Gt} {d bc bs : Nat} {Q : QT} {l : Ls} {z : List Value} {h : Hp} (k : (tIld 0 ((fun l z h => T G d bc bs mJ9_abs_0f7a4 10 l z h Q))) l z h) : T G d bc bs mJ9_abs_0f7a4 9 l z h Q := by
  refine R_iload_n dJ9_abs_0f7a4_9 rfl (fun l z h k => ?_) k
  exact k
theorem bJ9_abs_0f7a4_10 {G : Gt} {d bc bs : Nat} {Q : QT} {l : Ls} {z : List Value} {h : Hp} (k : (tRetI Q) l z h) : T G d bc bs mJ9_abs_0f7a4 10 l z h Q := by
  exact R_iret dJ9_abs_0f7a4_10 rfl k
theorem dJ9_max_7cf53_0 : decode cJ9_max_7cf53 0 = .ok (.iload_n 0, 1) := by decide +kernel
theorem dJ9_max_7cf53_1 : decode cJ9_max_7cf53 1 = .ok (.iload_n 1, 1) := by decide +kernel
theorem dJ9_max_7cf53_2 : decode cJ9_max_7cf53 2 = .ok (.if_icmp .lt 7, 3) := by decide +kernel
theorem dJ9_max_7cf53_5 : decode cJ9_max_7cf53 5 = .ok (.iload_n 0, 1) := by decide +kernel
theorem dJ9_max_7cf53_6 : decode cJ9_max_7cf53 6 = .ok (.goto 4, 3) := by decide +kernel
theorem dJ9_max_7cf53_9 : decode cJ9_max_7cf53 9 = .ok (.iload_n 1, 1) := by decide +kernel
theorem dJ9_max_7cf53_10 : decode cJ9_max_7cf53 10 = .ok (.ireturn, 1) := by decide +kernel
theorem bJ9_max_7cf53_0 {G : Gt} {d bc bs : Nat} {Q : QT} {l : Ls} {z : List Value} {h : Hp} (k : (tIld 0 (tIld 1 (tIf2 (fun x y => x < y) (fun l z h => T G d bc bs mJ9_max_7cf53 9 l z h Q) (fun l z h => T G d bc bs mJ9_max_7cf53 5 l z h Q)))) l z h) : T G d bc bs mJ9_max_7cf53 0 l z h Q := by
  refine R_iload_n dJ9_max_7cf53_0 rfl (fun l z h k => ?_) k
  refine R_iload_n dJ9_max_7cf53_1 rfl (fun l z h k => ?_) k
  exact R_icmp_lt dJ9_max_7cf53_2 (by decide) (fun _ _ _ k => k) (fun _ _ _ k => k) k
theorem bJ9_max_7cf53_5 {G : Gt} {d bc bs : Nat} {Q : QT} {l : Ls} {z : List Value} {h : Hp} (k : (tIld 0 ((fun l z h => T G d bc bs mJ9_max_7cf53 10 l z h Q))) l z h) : T G d bc bs mJ9_max_7cf53 5 l z h Q := by
  refine R_iload_n dJ9_max_7cf53_5 rfl (fun l z h k => ?_) k
  exact R_goto dJ9_max_7cf53_6 (by decide) (fun _ _ _ k => k) k
theorem bJ9_max_7cf53_9 {G : Gt} {d bc bs : Nat} {Q : QT} {l : Ls} {z : List Value} {h : Hp} (k : (tIld 1 ((fun l z h => T G d bc bs mJ9_max_7cf53 10 l z h Q))) l z h) : T G d bc bs mJ9_max_7cf53 9 l z h Q := by
  refine R_iload_n dJ9_max_7cf53_9 rfl (fun l z h k => ?_) k
  exact k
theorem bJ9_max_7cf53_10 {G : Gt} {d bc bs : Nat} {Q : QT} {l : Ls} {z : List Value} {h : Hp} (k : (tRetI Q) l z h) : T G d bc bs mJ9_max_7cf53 10 l z h Q := by
  exact R_iret dJ9_max_7cf53_10 rfl k
theorem dJ9_min_7cf53_0 : decode cJ9_min_7cf53 0 = .ok (.iload_n 0, 1) := by decide +kernel
theorem dJ9_min_7cf53_1 : decode cJ9_min_7cf53 1 = .ok (.iload_n 1, 1) := by decide +kernel
theorem dJ9_min_7cf53_2 : decode cJ9_min_7cf53 2 = .ok (.if_icmp .gt 7, 3) := by decide +kernel
theorem dJ9_min_7cf53_5 : decode cJ9_min_7cf53 5 = .ok (.iload_n 0, 1) := by decide +kernel
theorem dJ9_min_7cf53_6 : decode cJ9_min_7cf53 6 = .ok (.goto 4, 3) := by decide +kernel
theorem dJ9_min_7cf53_9 : decode cJ9_min_7cf53 9 = .ok (.iload_n 1, 1) := by decide +kernel
theorem dJ9_min_7cf53_10 : decode cJ9_min_7cf53 10 = .ok (.ireturn, 1) := by decide +kernel
theorem bJ9_min_7cf53_0 {G : Gt} {d bc bs : Nat} {Q : QT} {l : Ls} {z : List Value} {h : Hp} (k : (tIld 0 (tIld 1 (tIf2 (fun x y => y < x) (fun l z h => T G d bc bs mJ9_min_7cf53 9 l z h Q) (fun l z h => T G d bc bs mJ9_min_7cf53 5 l z h Q)))) l z h) : T G d bc bs mJ9_min_7cf53 0 l z h Q := by
  refine R_iload_n dJ9_min_7cf53_0 rfl (fun l z h k => ?_) k
  refine R_iload_n dJ9_min_7cf53_1 rfl (fun l z h k => ?_) k
  exact R_icmp_gt dJ9_min_7cf53_2 (by decide) (fun _ _ _ k => k) (fun _ _ _ k => k) k
theorem bJ9_min_7cf53_5 {G : Gt} {d bc bs : Nat} {Q : QT} {l : Ls} {z : List Value} {h : Hp} (k : (tIld 0 ((fun l z h => T G d bc bs mJ9_min_7cf53 10 l z h Q))) l z h) : T G d bc bs mJ9_min_7cf53 5 l z h Q := by
  refine R_iload_n dJ9_min_7cf53_5 rfl (fun l z h k => ?_) k
  exact R_goto dJ9_min_7cf53_6 (by decide) (fun _ _ _ k => k) k
theorem bJ9_min_7cf53_9 {G : Gt} {d bc bs : Nat} {Q : QT} {l : Ls} {z : List Value} {h : Hp} (k : (tIld 1 ((fun l z h => T G d bc bs mJ9_min_7cf53 10 l z h Q))) l z h) : T G d bc bs mJ9_min_7cf53 9 l z h Q := by
  refine R_iload_n dJ9_min_7cf53_9 rfl (fun l z h k => ?_) k
  exact k
theorem bJ9_min_7cf53_10 {G : Gt} {d bc bs : Nat} {Q : QT} {l : Ls} {z : List Value} {h : Hp} (k : (tRetI Q) l z h) : T G d bc bs mJ9_min_7cf53 10 l z h Q := by
  exact R_iret dJ9_min_7cf53_10 rfl k
theorem dJ0_length_8abf5_0 : decode cJ0_length_8abf5 0 = .ok (.aload_n 0, 1) := by decide +kernel
theorem dJ0_length_8abf5_1 : decode cJ0_length_8abf5 1 = .ok (.getfield 9, 3) := by decide +kernel
theorem dJ0_length_8abf5_4 : decode cJ0_length_8abf5 4 = .ok (.arraylength, 1) := by decide +kernel
theorem dJ0_length_8abf5_5 : decode cJ0_length_8abf5 5 = .ok (.aload_n 0, 1) := by decide +kernel
theorem dJ0_length_8abf5_6 : decode cJ0_length_8abf5 6 = .ok (.invokevirtual 335, 3) := by decide +kernel
theorem dJ0_length_8abf5_9 : decode cJ0_length_8abf5 9 = .ok (.ishr, 1) := by decide +kernel
theorem dJ0_length_8abf5_10 : decode cJ0_length_8abf5 10 = .ok (.ireturn, 1) := by decide +kernel
theorem bJ0_length_8abf5_0 {G : Gt} {d bc bs : Nat} {Q : QT} {l : Ls} {z : List Value} {h : Hp} (k : (tAld 0 (tGx (xVal G) (tTlen (fun a n => ∃ f, yTxt G a n f) (tAld 0 (tCK G d 0 mJ0_coder_7d493 (fun l z h => T G d bc bs mJ0_length_8abf5 9 l z h Q)))))) l z h) : T G d bc bs mJ0_length_8abf5 0 l z h Q := by
  refine R_aload_n dJ0_length_8abf5_0 rfl (fun l z h k => ?_) k
  refine R_gx dJ0_length_8abf5_1 w_2171 xVal_ok (fun l z h k => ?_) k
  refine R_tlen yTxt_ok dJ0_length_8abf5_4 (fun l z h k => ?_) k
  refine R_aload_n dJ0_length_8abf5_5 rfl (fun l z h k => ?_) k
  exact R_callK (M' := mJ0_coder_7d493) dJ0_length_8abf5_6 (by decide) w_594 w_145 w_591 w_592 w_593 (by decide +kernel) (fun _ _ _ k => k) k
theorem bJ0_length_8abf5_9 {G : Gt} {d bc bs : Nat} {Q : QT} {l : Ls} {z : List Value} {h : Hp} (k : (tB (fun x y => x >>> (y &&& 31)) (tRetI Q)) l z h) : T G d bc bs mJ0_length_8abf5 9 l z h Q := by
  refine R_ishr dJ0_length_8abf5_9 (fun l z h k => ?_) k
  exact R_iret dJ0_length_8abf5_10 rfl k
theorem dJ0_charAt_5068e_0 : decode cJ0_charAt_5068e 0 = .ok (.aload_n 0, 1) := by decide +kernel
theorem dJ0_charAt_5068e_1 : decode cJ0_charAt_5068e 1 = .ok (.invokevirtual 492, 3) := by decide +kernel
theorem dJ0_charAt_5068e_4 : decode cJ0_charAt_5068e 4 = .ok (.ifCond .eq 12, 3) := by decide +kernel
theorem dJ0_charAt_5068e_7 : decode cJ0_charAt_5068e 7 = .ok (.aload_n 0, 1) := by decide +kernel
theorem dJ0_charAt_5068e_8 : decode cJ0_charAt_5068e 8 = .ok (.getfield 9, 3) := by decide +kernel
theorem dJ0_charAt_5068e_11 : decode cJ0_charAt_5068e 11 = .ok (.iload_n 1, 1) := by decide +kernel
theorem dJ0_charAt_5068e_12 : decode cJ0_charAt_5068e 12 = .ok (.invokestatic 495, 3) := by decide +kernel
theorem dJ0_charAt_5068e_15 : decode cJ0_charAt_5068e 15 = .ok (.ireturn, 1) := by decide +kernel
theorem dJ0_charAt_5068e_16 : decode cJ0_charAt_5068e 16 = .ok (.aload_n 0, 1) := by decide +kernel
theorem dJ0_charAt_5068e_17 : decode cJ0_charAt_5068e 17 = .ok (.getfield 9, 3) := by decide +kernel
theorem dJ0_charAt_5068e_20 : decode cJ0_charAt_5068e 20 = .ok (.iload_n 1, 1) := by decide +kernel
theorem dJ0_charAt_5068e_21 : decode cJ0_charAt_5068e 21 = .ok (.invokestatic 498, 3) := by decide +kernel
theorem dJ0_charAt_5068e_24 : decode cJ0_charAt_5068e 24 = .ok (.ireturn, 1) := by decide +kernel
theorem bJ0_charAt_5068e_0 {G : Gt} {d bc bs : Nat} {Q : QT} {l : Ls} {z : List Value} {h : Hp} (k : (tAld 0 (tCK G d 0 mJ0_isLatin1_aae02 (fun l z h => T G d bc bs mJ0_charAt_5068e 4 l z h Q))) l z h) : T G d bc bs mJ0_charAt_5068e 0 l z h Q := by
  refine R_aload_n dJ0_charAt_5068e_0 rfl (fun l z h k => ?_) k
  exact R_callK (M' := mJ0_isLatin1_aae02) dJ0_charAt_5068e_1 (by decide) w_608 w_145 w_605 w_606 w_607 (by decide +kernel) (fun _ _ _ k => k) k
theorem bJ0_charAt_5068e_4 {G : Gt} {d bc bs : Nat} {Q : QT} {l : Ls} {z : List Value} {h : Hp} (k : (tIf (fun x => x = 0) (fun l z h => T G d bc bs mJ0_charAt_5068e 16 l z h Q) (fun l z h => T G d bc bs mJ0_charAt_5068e 7 l z h Q)) l z h) : T G d bc bs mJ0_charAt_5068e 4 l z h Q := by
  exact R_if_eq dJ0_charAt_5068e_4 (by decide) (fun _ _ _ k => k) (fun _ _ _ k => k) k
theorem bJ0_charAt_5068e_7 {G : Gt} {d bc bs : Nat} {Q : QT} {l : Ls} {z : List Value} {h : Hp} (k : (tAld 0 (tGx (xVal G) (tIld 1 (tCS2 G d 0 0 mJ1_charAt_3b067 (fun l z h => T G d bc bs mJ0_charAt_5068e 15 l z h Q))))) l z h) : T G d bc bs mJ0_charAt_5068e 7 l z h Q := by
  refine R_aload_n dJ0_charAt_5068e_7 rfl (fun l z h k => ?_) k
  refine R_gx dJ0_charAt_5068e_8 w_2171 xVal_ok (fun l z h k => ?_) k
  refine R_iload_n dJ0_charAt_5068e_11 rfl (fun l z h k => ?_) k
  exact R_cs2 (M := mJ0_charAt_5068e) (pc := 12) (bc := bc) (bs := bs) (cb := 0) (cs := 0) (M' := mJ1_charAt_3b067) dJ0_charAt_5068e_12 (by decide) w_611 w_146 w_609 w_610 (by decide +kernel) (fun _ _ _ k => k) k
theorem bJ0_charAt_5068e_15 {G : Gt} {d bc bs : Nat} {Q : QT} {l : Ls} {z : List Value} {h : Hp} (k : (tRetC .char Q) l z h) : T G d bc bs mJ0_charAt_5068e 15 l z h Q := by
  exact R_cret dJ0_charAt_5068e_15 rfl k
theorem bJ0_charAt_5068e_24 {G : Gt} {d bc bs : Nat} {Q : QT} {l : Ls} {z : List Value} {h : Hp} (k : (tRetC .char Q) l z h) : T G d bc bs mJ0_charAt_5068e 24 l z h Q := by
  exact R_cret dJ0_charAt_5068e_24 rfl k
theorem dJ0_coder_7d493_0 : decode cJ0_coder_7d493 0 = .ok (.getstatic 38, 3) := by decide +kernel
theorem dJ0_coder_7d493_3 : decode cJ0_coder_7d493 3 = .ok (.ifCond .eq 10, 3) := by decide +kernel
theorem dJ0_coder_7d493_6 : decode cJ0_coder_7d493 6 = .ok (.aload_n 0, 1) := by decide +kernel
theorem dJ0_coder_7d493_7 : decode cJ0_coder_7d493 7 = .ok (.getfield 15, 3) := by decide +kernel
theorem dJ0_coder_7d493_10 : decode cJ0_coder_7d493 10 = .ok (.goto 4, 3) := by decide +kernel
theorem dJ0_coder_7d493_13 : decode cJ0_coder_7d493 13 = .ok (.iconst 1, 1) := by decide +kernel
theorem dJ0_coder_7d493_14 : decode cJ0_coder_7d493 14 = .ok (.ireturn, 1) := by decide +kernel
theorem bJ0_coder_7d493_0 {G : Gt} {d bc bs : Nat} {Q : QT} {l : Ls} {z : List Value} {h : Hp} (k : (tPush (.int 1) (tIf (fun x => x = 0) (fun l z h => T G d bc bs mJ0_coder_7d493 13 l z h Q) (fun l z h => T G d bc bs mJ0_coder_7d493 6 l z h Q))) l z h) : T G d bc bs mJ0_coder_7d493 0 l z h Q := by
  refine R_compact dJ0_coder_7d493_0 w_595 (fun l z h k => ?_) k
  exact R_if_eq dJ0_coder_7d493_3 (by decide) (fun _ _ _ k => k) (fun _ _ _ k => k) k
theorem bJ0_coder_7d493_6 {G : Gt} {d bc bs : Nat} {Q : QT} {l : Ls} {z : List Value} {h : Hp} (k : (tAld 0 (tGx (xCod G) ((fun l z h => T G d bc bs mJ0_coder_7d493 14 l z h Q)))) l z h) : T G d bc bs mJ0_coder_7d493 6 l z h Q := by
  refine R_aload_n dJ0_coder_7d493_6 rfl (fun l z h k => ?_) k
  refine R_gx dJ0_coder_7d493_7 w_2172 xCod_ok (fun l z h k => ?_) k
  exact R_goto dJ0_coder_7d493_10 (by decide) (fun _ _ _ k => k) k
theorem bJ0_coder_7d493_13 {G : Gt} {d bc bs : Nat} {Q : QT} {l : Ls} {z : List Value} {h : Hp} (k : (tPush (.int 1) ((fun l z h => T G d bc bs mJ0_coder_7d493 14 l z h Q))) l z h) : T G d bc bs mJ0_coder_7d493 13 l z h Q := by
  refine R_iconst dJ0_coder_7d493_13 (by decide) (fun l z h k => ?_) k
  exact k
theorem bJ0_coder_7d493_14 {G : Gt} {d bc bs : Nat} {Q : QT} {l : Ls} {z : List Value} {h : Hp} (k : (tRetC .byte Q) l z h) : T G d bc bs mJ0_coder_7d493 14 l z h Q := by
  exact R_cret dJ0_coder_7d493_14 rfl k
theorem dJ0_isLatin1_aae02_0 : decode cJ0_isLatin1_aae02 0 = .ok (.getstatic 38, 3) := by decide +kernel
theorem dJ0_isLatin1_aae02_3 : decode cJ0_isLatin1_aae02 3 = .ok (.ifCond .eq 14, 3) := by decide +kernel
theorem dJ0_isLatin1_aae02_6 : decode cJ0_isLatin1_aae02 6 = .ok (.aload_n 0, 1) := by decide +kernel
theorem dJ0_isLatin1_aae02_7 : decode cJ0_isLatin1_aae02 7 = .ok (.getfield 15, 3) := by decide +kernel
theorem dJ0_isLatin1_aae02_10 : decode cJ0_isLatin1_aae02 10 = .ok (.ifCond .ne 7, 3) := by decide +kernel
theorem dJ0_isLatin1_aae02_13 : decode cJ0_isLatin1_aae02 13 = .ok (.iconst 1, 1) := by decide +kernel
theorem dJ0_isLatin1_aae02_14 : decode cJ0_isLatin1_aae02 14 = .ok (.goto 4, 3) := by decide +kernel
theorem dJ0_isLatin1_aae02_17 : decode cJ0_isLatin1_aae02 17 = .ok (.iconst 0, 1) := by decide +kernel
theorem dJ0_isLatin1_aae02_18 : decode cJ0_isLatin1_aae02 18 = .ok (.ireturn, 1) := by decide +kernel
theorem bJ0_isLatin1_aae02_0 {G : Gt} {d bc bs : Nat} {Q : QT} {l : Ls} {z : List Value} {h : Hp} (k : (tPush (.int 1) (tIf (fun x => x = 0) (fun l z h => T G d bc bs mJ0_isLatin1_aae02 17 l z h Q) (fun l z h => T G d bc bs mJ0_isLatin1_aae02 6 l z h Q))) l z h) : T G d bc bs mJ0_isLatin1_aae02 0 l z h Q := by
  refine R_compact dJ0_isLatin1_aae02_0 w_595 (fun l z h k => ?_) k
  exact R_if_eq dJ0_isLatin1_aae02_3 (by decide) (fun _ _ _ k => k) (fun _ _ _ k => k) k
theorem bJ0_isLatin1_aae02_6 {G : Gt} {d bc bs : Nat} {Q : QT} {l : Ls} {z : List Value} {h : Hp} (k : (tAld 0 (tGx (xCod G) (tIf (fun x => x = 0) (fun l z h => T G d bc bs mJ0_isLatin1_aae02 13 l z h Q) (fun l z h => T G d bc bs mJ0_isLatin1_aae02 17 l z h Q)))) l z h) : T G d bc bs mJ0_isLatin1_aae02 6 l z h Q := by
  refine R_aload_n dJ0_isLatin1_aae02_6 rfl (fun l z h k => ?_) k
  refine R_gx dJ0_isLatin1_aae02_7 w_2172 xCod_ok (fun l z h k => ?_) k
  exact R_if_ne dJ0_isLatin1_aae02_10 (by decide) (fun _ _ _ k => k) (fun _ _ _ k => k) k
theorem bJ0_isLatin1_aae02_13 {G : Gt} {d bc bs : Nat} {Q : QT} {l : Ls} {z : List Value} {h : Hp} (k : (tPush (.int 1) ((fun l z h => T G d bc bs mJ0_isLatin1_aae02 18 l z h Q))) l z h) : T G d bc bs mJ0_isLatin1_aae02 13 l z h Q := by
  refine R_iconst dJ0_isLatin1_aae02_13 (by decide) (fun l z h k => ?_) k
  exact R_goto dJ0_isLatin1_aae02_14 (by decide) (fun _ _ _ k => k) k
theorem bJ0_isLatin1_aae02_17 {G : Gt} {d bc bs : Nat} {Q : QT} {l : Ls} {z : List Value} {h : Hp} (k : (tPush (.int 0) ((fun l z h => T G d bc bs mJ0_isLatin1_aae02 18 l z h Q))) l z h) : T G d bc bs mJ0_isLatin1_aae02 17 l z h Q := by
  refine R_iconst dJ0_isLatin1_aae02_17 (by decide) (fun l z h k => ?_) k
  exact k
theorem bJ0_isLatin1_aae02_18 {G : Gt} {d bc bs : Nat} {Q : QT} {l : Ls} {z : List Value} {h : Hp} (k : (tRetZ Q) l z h) : T G d bc bs mJ0_isLatin1_aae02 18 l z h Q := by
  exact R_zret dJ0_isLatin1_aae02_18 rfl k
theorem dJ0_checkIndex_df160_0 : decode cJ0_checkIndex_df160 0 = .ok (.iload_n 0, 1) := by decide +kernel
theorem dJ0_checkIndex_df160_1 : decode cJ0_checkIndex_df160 1 = .ok (.iload_n 1, 1) := by decide +kernel
theorem dJ0_checkIndex_df160_2 : decode cJ0_checkIndex_df160 2 = .ok (.getstatic 1053, 3) := by decide +kernel
theorem dJ0_checkIndex_df160_5 : decode cJ0_checkIndex_df160 5 = .ok (.invokestatic 1059, 3) := by decide +kernel
theorem dJ0_checkIndex_df160_8 : decode cJ0_checkIndex_df160 8 = .ok (.pop, 1) := by decide +kernel
theorem dJ0_checkIndex_df160_9 : decode cJ0_checkIndex_df160 9 = .ok (.return_, 1) := by decide +kernel
theorem bJ0_checkIndex_df160_0 {G : Gt} {d bc bs : Nat} {Q : QT} {l : Ls} {z : List Value} {h : Hp} (k : (tIld 0 (tIld 1 (tAny (tCS3 G d 0 0 mJ3_checkIndex_8e157 (fun l z h => T G d bc bs mJ0_checkIndex_df160 8 l z h Q))))) l z h) : T G d bc bs mJ0_checkIndex_df160 0 l z h Q := by
  refine R_iload_n dJ0_checkIndex_df160_0 rfl (fun l z h k => ?_) k
  refine R_iload_n dJ0_checkIndex_df160_1 rfl (fun l z h k => ?_) k
  refine R_fmt dJ0_checkIndex_df160_2 w_615 (fun l z h k => ?_) k
  exact R_cs3 (M := mJ0_checkIndex_df160) (pc := 5) (bc := bc) (bs := bs) (cb := 0) (cs := 0) (M' := mJ3_checkIndex_8e157) dJ0_checkIndex_df160_5 (by decide) w_619 w_147 w_617 w_618 (by decide +kernel) (fun _ _ _ k => k) k
theorem bJ0_checkIndex_df160_8 {G : Gt} {d bc bs : Nat} {Q : QT} {l : Ls} {z : List Value} {h : Hp} (k : (tPop (tRetV Q)) l z h) : T G d bc bs mJ0_checkIndex_df160 8 l z h Q := by
  refine R_pop dJ0_checkIndex_df160_8 (fun l z h k => ?_) k
  exact R_vret dJ0_checkIndex_df160_9 rfl k
theorem dJ1_charAt_3b067_0 : decode cJ1_charAt_3b067 0 = .ok (.iload_n 1, 1) := by decide +kernel
theorem dJ1_charAt_3b067_1 : decode cJ1_charAt_3b067 1 = .ok (.aload_n 0, 1) := by decide +kernel
theorem dJ1_charAt_3b067_2 : decode cJ1_charAt_3b067 2 = .ok (.arraylength, 1) := by decide +kernel
theorem dJ1_charAt_3b067_3 : decode cJ1_charAt_3b067 3 = .ok (.invokestatic 9, 3) := by decide +kernel
theorem dJ1_charAt_3b067_6 : decode cJ1_charAt_3b067 6 = .ok (.aload_n 0, 1) := by decide +kernel
theorem dJ1_charAt_3b067_7 : decode cJ1_charAt_3b067 7 = .ok (.iload_n 1, 1) := by decide +kernel
theorem dJ1_charAt_3b067_8 : decode cJ1_charAt_3b067 8 = .ok (.baload, 1) := by decide +kernel
theorem dJ1_charAt_3b067_9 : decode cJ1_charAt_3b067 9 = .ok (.sipush 255, 3) := by decide +kernel
theorem dJ1_charAt_3b067_12 : decode cJ1_charAt_3b067 12 = .ok (.iand, 1) := by decide +kernel
theorem dJ1_charAt_3b067_13 : decode cJ1_charAt_3b067 13 = .ok (.i2c, 1) := by decide +kernel
theorem dJ1_charAt_3b067_14 : decode cJ1_charAt_3b067 14 = .ok (.ireturn, 1) := by decide +kernel
theorem bJ1_charAt_3b067_0 {G : Gt} {d bc bs : Nat} {Q : QT} {l : Ls} {z : List Value} {h : Hp} (k : (tIld 1 (tAld 0 (tTlen (fun a n => ∃ f, yTxt G a n f) (tCS2 G d 0 0 mJ0_checkIndex_df160 (fun l z h => T G d bc bs mJ1_charAt_3b067 6 l z h Q))))) l z h) : T G d bc bs mJ1_charAt_3b067 0 l z h Q := by
  refine R_iload_n dJ1_charAt_3b067_0 rfl (fun l z h k => ?_) k
  refine R_aload_n dJ1_charAt_3b067_1 rfl (fun l z h k => ?_) k
  refine R_tlen yTxt_ok dJ1_charAt_3b067_2 (fun l z h k => ?_) k
  exact R_cs2 (M := mJ1_charAt_3b067) (pc := 3) (bc := bc) (bs := bs) (cb := 0) (cs := 0) (M' := mJ0_checkIndex_df160) dJ1_charAt_3b067_3 (by decide) w_614 w_145 w_612 w_613 (by decide +kernel) (fun _ _ _ k => k) k
theorem bJ1_charAt_3b067_6 {G : Gt} {d bc bs : Nat} {Q : QT} {l : Ls} {z : List Value} {h : Hp} (k : (tAld 0 (tIld 1 (tTald (yTxt G) (tPush (.int 255) (tB (fun x y => x &&& y) (tU (fun x => (x.toUInt32 % 65536).toInt32) (tRetC .char Q))))))) l z h) : T G d bc bs mJ1_charAt_3b067 6 l z h Q := by
  refine R_aload_n dJ1_charAt_3b067_6 rfl (fun l z h k => ?_) k
  refine R_iload_n dJ1_charAt_3b067_7 rfl (fun l z h k => ?_) k
  refine R_txald dJ1_charAt_3b067_8 (fun l z h k => ?_) k
  refine R_sipush dJ1_charAt_3b067_9 (by decide) (fun l z h k => ?_) k
  refine R_iand dJ1_charAt_3b067_12 (fun l z h k => ?_) k
  refine R_i2c dJ1_charAt_3b067_13 (fun l z h k => ?_) k
  exact R_cret dJ1_charAt_3b067_14 rfl k
theorem dJ7_fill_53178_0 : decode cJ7_fill_53178 0 = .ok (.iconst 0, 1) := by decide +kernel
theorem dJ7_fill_53178_1 : decode cJ7_fill_53178 1 = .ok (.istore_n 2, 1) := by decide +kernel
theorem dJ7_fill_53178_2 : decode cJ7_fill_53178 2 = .ok (.aload_n 0, 1) := by decide +kernel
theorem dJ7_fill_53178_3 : decode cJ7_fill_53178 3 = .ok (.arraylength, 1) := by decide +kernel
theorem dJ7_fill_53178_4 : decode cJ7_fill_53178 4 = .ok (.istore_n 3, 1) := by decide +kernel
theorem dJ7_fill_53178_5 : decode cJ7_fill_53178 5 = .ok (.iload_n 2, 1) := by decide +kernel
theorem dJ7_fill_53178_6 : decode cJ7_fill_53178 6 = .ok (.iload_n 3, 1) := by decide +kernel
theorem dJ7_fill_53178_7 : decode cJ7_fill_53178 7 = .ok (.if_icmp .ge 13, 3) := by decide +kernel
theorem dJ7_fill_53178_10 : decode cJ7_fill_53178 10 = .ok (.aload_n 0, 1) := by decide +kernel
theorem dJ7_fill_53178_11 : decode cJ7_fill_53178 11 = .ok (.iload_n 2, 1) := by decide +kernel
theorem dJ7_fill_53178_12 : decode cJ7_fill_53178 12 = .ok (.iload_n 1, 1) := by decide +kernel
theorem dJ7_fill_53178_13 : decode cJ7_fill_53178 13 = .ok (.iastore, 1) := by decide +kernel
theorem dJ7_fill_53178_14 : decode cJ7_fill_53178 14 = .ok (.iinc 2 1, 3) := by decide +kernel
theorem dJ7_fill_53178_17 : decode cJ7_fill_53178 17 = .ok (.goto (-12), 3) := by decide +kernel
theorem dJ7_fill_53178_20 : decode cJ7_fill_53178 20 = .ok (.return_, 1) := by decide +kernel
theorem bJ7_fill_53178_0 {G : Gt} {d bc bs : Nat} {Q : QT} {l : Ls} {z : List Value} {h : Hp} (k : (tPush (.int 0) (tIst 2 (tAld 0 (tLen (tIst 3 ((fun l z h => T G d bc bs mJ7_fill_53178 5 l z h Q))))))) l z h) : T G d bc bs mJ7_fill_53178 0 l z h Q := by
  refine R_iconst dJ7_fill_53178_0 (by decide) (fun l z h k => ?_) k
  refine R_istore_n dJ7_fill_53178_1 rfl (by decide) (fun l z h k => ?_) k
  refine R_aload_n dJ7_fill_53178_2 rfl (fun l z h k => ?_) k
  refine R_alen dJ7_fill_53178_3 (fun l z h k => ?_) k
  refine R_istore_n dJ7_fill_53178_4 rfl (by decide) (fun l z h k => ?_) k
  exact k
theorem bJ7_fill_53178_5 {G : Gt} {d bc bs : Nat} {Q : QT} {l : Ls} {z : List Value} {h : Hp} (k : (tIld 2 (tIld 3 (tIf2 (fun x y => y ≤ x) (fun l z h => T G d bc bs mJ7_fill_53178 20 l z h Q) (fun l z h => T G d bc bs mJ7_fill_53178 10 l z h Q)))) l z h) : T G d bc bs mJ7_fill_53178 5 l z h Q := by
  refine R_iload_n dJ7_fill_53178_5 rfl (fun l z h k => ?_) k
  refine R_iload_n dJ7_fill_53178_6 rfl (fun l z h k => ?_) k
  exact R_icmp_ge dJ7_fill_53178_7 (by decide) (fun _ _ _ k => k) (fun _ _ _ k => k) k
theorem bJ7_fill_53178_10 {G : Gt} {d bc bs : Nat} {Q : QT} {l : Ls} {z : List Value} {h : Hp} (k : (tAld 0 (tIld 2 (tIld 1 (tXast 0 (tInc 2 1 ((fun l z h => T G d bc bs mJ7_fill_53178 5 l z h Q))))))) l z h) : T G d bc bs mJ7_fill_53178 10 l z h Q := by
  refine R_aload_n dJ7_fill_53178_10 rfl (fun l z h k => ?_) k
  refine R_iload_n dJ7_fill_53178_11 rfl (fun l z h k => ?_) k
  refine R_iload_n dJ7_fill_53178_12 rfl (fun l z h k => ?_) k
  refine R_iastore dJ7_fill_53178_13 (fun l z h k => ?_) k
  refine R_iinc dJ7_fill_53178_14 (by decide) (by decide) (fun l z h k => ?_) k
  exact R_goto dJ7_fill_53178_17 (by decide) (fun _ _ _ k => k) k
theorem bJ7_fill_53178_20 {G : Gt} {d bc bs : Nat} {Q : QT} {l : Ls} {z : List Value} {h : Hp} (k : (tRetV Q) l z h) : T G d bc bs mJ7_fill_53178 20 l z h Q := by
  exact R_vret dJ7_fill_53178_20 rfl k
theorem dJ3_checkIndex_8e157_0 : decode cJ3_checkIndex_8e157 0 = .ok (.iload_n 0, 1) := by decide +kernel
theorem dJ3_checkIndex_8e157_1 : decode cJ3_checkIndex_8e157 1 = .ok (.ifCond .lt 8, 3) := by decide +kernel
theorem dJ3_checkIndex_8e157_4 : decode cJ3_checkIndex_8e157 4 = .ok (.iload_n 0, 1) := by decide +kernel
theorem dJ3_checkIndex_8e157_5 : decode cJ3_checkIndex_8e157 5 = .ok (.iload_n 1, 1) := by decide +kernel
theorem dJ3_checkIndex_8e157_6 : decode cJ3_checkIndex_8e157 6 = .ok (.if_icmp .lt 10, 3) := by decide +kernel
theorem dJ3_checkIndex_8e157_9 : decode cJ3_checkIndex_8e157 9 = .ok (.aload_n 2, 1) := by decide +kernel
theorem dJ3_checkIndex_8e157_10 : decode cJ3_checkIndex_8e157 10 = .ok (.iload_n 0, 1) := by decide +kernel
theorem dJ3_checkIndex_8e157_11 : decode cJ3_checkIndex_8e157 11 = .ok (.iload_n 1, 1) := by decide +kernel
theorem dJ3_checkIndex_8e157_12 : decode cJ3_checkIndex_8e157 12 = .ok (.invokestatic 95, 3) := by decide +kernel
theorem dJ3_checkIndex_8e157_15 : decode cJ3_checkIndex_8e157 15 = .ok (.athrow, 1) := by decide +kernel
theorem dJ3_checkIndex_8e157_16 : decode cJ3_checkIndex_8e157 16 = .ok (.iload_n 0, 1) := by decide +kernel
theorem dJ3_checkIndex_8e157_17 : decode cJ3_checkIndex_8e157 17 = .ok (.ireturn, 1) := by decide +kernel
theorem bJ3_checkIndex_8e157_0 {G : Gt} {d bc bs : Nat} {Q : QT} {l : Ls} {z : List Value} {h : Hp} (k : (tIld 0 (tIf (fun x => x < 0) (fun l z h => T G d bc bs mJ3_checkIndex_8e157 9 l z h Q) (fun l z h => T G d bc bs mJ3_checkIndex_8e157 4 l z h Q))) l z h) : T G d bc bs mJ3_checkIndex_8e157 0 l z h Q := by
  refine R_iload_n dJ3_checkIndex_8e157_0 rfl (fun l z h k => ?_) k
  exact R_if_lt dJ3_checkIndex_8e157_1 (by decide) (fun _ _ _ k => k) (fun _ _ _ k => k) k
theorem bJ3_checkIndex_8e157_4 {G : Gt} {d bc bs : Nat} {Q : QT} {l : Ls} {z : List Value} {h : Hp} (k : (tIld 0 (tIld 1 (tIf2 (fun x y => x < y) (fun l z h => T G d bc bs mJ3_checkIndex_8e157 16 l z h Q) (fun l z h => T G d bc bs mJ3_checkIndex_8e157 9 l z h Q)))) l z h) : T G d bc bs mJ3_checkIndex_8e157 4 l z h Q := by
  refine R_iload_n dJ3_checkIndex_8e157_4 rfl (fun l z h k => ?_) k
  refine R_iload_n dJ3_checkIndex_8e157_5 rfl (fun l z h k => ?_) k
  exact R_icmp_lt dJ3_checkIndex_8e157_6 (by decide) (fun _ _ _ k => k) (fun _ _ _ k => k) k
theorem bJ3_checkIndex_8e157_16 {G : Gt} {d bc bs : Nat} {Q : QT} {l : Ls} {z : List Value} {h : Hp} (k : (tIld 0 (tRetI Q)) l z h) : T G d bc bs mJ3_checkIndex_8e157 16 l z h Q := by
  refine R_iload_n dJ3_checkIndex_8e157_16 rfl (fun l z h k => ?_) k
  exact R_iret dJ3_checkIndex_8e157_17 rfl k
