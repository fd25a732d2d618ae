/-! ===== what stands fast, at the law's start ===== -/
theorem va_En.congr {E d : String} {nm : List String} {F : List (String × String × String × List Int32)} {ad K : Nat → Nat} {A : Nat → Prop} {U : State} {H : Heap} (h : va_En E d nm F ad A U H) (e : ∀ i, i < nm.length → K i = ad i) : va_En E d nm F K A U H :=
  ⟨fun i hi => by rw [e i hi]; exact h.1 i hi, fun i j hi hj q => h.2 i j hi hj (by rw [← e i hi, ← e j hj]; exact q)⟩
theorem ar_prim {args : Array Value} {s : State} {ty : FieldType} (h : (Cond.arrayClass ty).before args s = true) : ∃ cA : ClassId, ArrOfT s cA ty ∧ s.vm.findClass ("[" ++ ty.toString) = some cA := by
  obtain ⟨c, k, comp, h1, h2, h3⟩ := Cond.arrayClass_spec h
  exact ⟨c, fun n z => ⟨fun q hq => (by cases hq), k, h2, comp, h3⟩, h1⟩
theorem ar_obj {args : Array Value} {s : State} {C : String} (h : (Cond.arrayOver (.object C)).before args s = true) : ∃ cA : ClassId, ArrOfT s cA (.object C) ∧ va_RA s cA (.object C) := by
  obtain ⟨comp, c, k, h1, -, h3, h4, h5⟩ := Cond.arrayOver_spec h
  exact ⟨c, fun n z => ⟨fun q hq => (by cases hq), k, h3, comp, h4⟩, k, comp, h3, h4, h1, h5⟩
theorem ar_arr {args : Array Value} {s : State} {t : FieldType} (h : (Cond.arrayOver (.array t)).before args s = true) : ∃ cA : ClassId, ArrOfT s cA (.array t) ∧ va_RA s cA (.array t) := by
  obtain ⟨comp, c, k, h1, -, h3, h4, h5⟩ := arrayOverA_spec h
  exact ⟨c, fun n z => ⟨fun q hq => (by cases hq), k, h3, comp, h4⟩, h5⟩
section Gds
variable {s : State} {a : Array Value}
theorem gd_str (hn : ∀ w ∈ flN, w.before a s = true) (i : Nat) (hi : i < 29) : ∃ q r : Nat, (tmS i).eval a s none [] s = some (.ref q) ∧ va_O strN q (fun q => s.heap.size ≤ q) s s.heap ∧ va_OF strN "coder" "B" (.int 0) q (fun q => s.heap.size ≤ q) s s.heap ∧ va_OF strN "value" "[B" (.ref r) q (fun q => s.heap.size ≤ q) s s.heap ∧ va_T .byte r (strT.getD i []).length (fun j => .int ((strT.getD i []).getD j 0)) (fun q => s.heap.size ≤ q) s s.heap := by
  have hA : ∀ q : Nat, q < s.heap.size → ¬ (fun q : Nat => s.heap.size ≤ q) q := fun q h => Nat.not_le.mpr h
  have hr := List.mem_range.mpr hi
  have h5 := hn _ (g5_in _ (List.mem_map.mpr ⟨i, hr, rfl⟩))
  have h6 := hn _ (g6_in _ (List.mem_map.mpr ⟨i, hr, rfl⟩))
  have h7 := hn _ (g7_in _ (List.mem_map.mpr ⟨i, hr, rfl⟩))
  have h8 := hn _ (g8_in _ (List.mem_map.mpr ⟨i, hr, rfl⟩))
  obtain ⟨q, c, cell, k, q1, q2, q3, q4, q5, q6, -⟩ := Cond.exactly_spec h5
  have hlen : (strT.getD i []).length < 2 ^ 31 := by
    have : ∀ j, j < 29 → (strT.getD j []).length < 2 ^ 31 := by decide
    exact this i hi
  obtain ⟨r, r1, r2⟩ := va_Tof (tm := tmV i) (f := fun j => .int ((strT.getD i []).getD j 0)) hlen h7 (va_eqt h8) (fun j hj => va_eqt (hn _ (g9_in _ (List.mem_flatMap.mpr ⟨i, hr, List.mem_map.mpr ⟨j, List.mem_range.mpr hj, rfl⟩⟩)))) hA
  exact ⟨q, r, q1, va_Oof h5 q1 hA, vk_OFof q1 (va_eqt h6) hA, vk_OFof q1 r1 hA, r2⟩
theorem gd_all {b : Nat} (hts : ∀ w ∈ lw_tbl, w.before #[Value.ref b] s = true) (hg : (Jvm.Cond.and given_1 narrow_1).before #[Value.ref b] s = true) : (∃ G : Gt, G.2.2.1 = s.heap.size ∧ Gd G s s.heap) ∧ NX s := by
  generalize (#[Value.ref b] : Array Value) = a at hts hg
  have hn : ∀ w ∈ flN, w.before a s = true := flat_of_before _ hg
  have hA : ∀ q : Nat, q < s.heap.size → ¬ (fun q : Nat => s.heap.size ≤ q) q := fun q h => Nat.not_le.mpr h
  have hwA : ∀ w ∈ wsA, w.before a s = true := fun w hw => hts w (List.mem_filter.mp hw).1
  have h14 : ∀ (k : Nat) (w : Cond), gL14[k]? = some w → w.before a s = true := fun k w hk => hts w (g14_in w (by first | exact List.mem_of_getElem? hk | exact List.getElem?_mem hk))
  have h12 : ∀ (k : Nat) (w : Cond), gL12[k]? = some w → w.before a s = true := fun k w hk => hn w (g12_in w (by first | exact List.mem_of_getElem? hk | exact List.getElem?_mem hk))
  have rg : ∀ {i n : Nat}, i < n → i ∈ List.range n := fun h => List.mem_range.mpr h
  -- the words
  obtain ⟨ad, hE, hev⟩ := va_Enof2 (args := a) (s := s) (E := wdC) (d := wdD) (nm := nmW) (F := [("java/lang/Enum", "ordinal", "I", ordW)]) (A := fun q => s.heap.size ≤ q) (fun i hi => hts _ (g13_in _ (List.mem_map.mpr ⟨i, rg hi, rfl⟩))) (h14 6 _ rfl) (fun i hi => hn _ (g1_in _ (List.mem_map.mpr ⟨i, rg hi, rfl⟩)))
    (fun q hq i hi => by
      cases List.mem_singleton.mp hq
      exact hn _ (g2_in _ (List.mem_map.mpr ⟨i, rg hi, rfl⟩)))
    (fun i j hi hj hij => by
      have key : ∀ i j, i < 25 → j < i → (gN j i).before a s = true := fun i j hi hj => hn _ (g4c_in _ (List.mem_flatMap.mpr ⟨i, rg hi, List.mem_map.mpr ⟨j, rg hj, rfl⟩⟩))
      have two : ∀ i j, (gN j i).before a s = true → (Cond.not (.eq (.static wdC (nmW.getD i "") wdD) (.static wdC (nmW.getD j "") wdD))).before a s = true ∨ (Cond.not (.eq (.static wdC (nmW.getD j "") wdD) (.static wdC (nmW.getD i "") wdD))).before a s = true := fun i j h => by
        unfold gN at h
        split at h
        · exact Or.inr h
        · exact Or.inl h
      rcases Nat.lt_or_gt_of_ne hij with h | h
      · exact (two j i (key j i hj h)).symm
      · exact two i j (key i j hi h)) hA
  -- the texts
  have hS : ∀ i : Nat, ∃ q : Nat × Nat, i < 29 → (tmS i).eval a s none [] s = some (.ref q.1) ∧ va_O strN q.1 (fun q => s.heap.size ≤ q) s s.heap ∧ va_OF strN "coder" "B" (.int 0) q.1 (fun q => s.heap.size ≤ q) s s.heap ∧ va_OF strN "value" "[B" (.ref q.2) q.1 (fun q => s.heap.size ≤ q) s s.heap ∧ va_T .byte q.2 (strT.getD i []).length (fun j => .int ((strT.getD i []).getD j 0)) (fun q => s.heap.size ≤ q) s s.heap := fun i => by
    by_cases hi : i < 29
    · obtain ⟨q, r, h⟩ := gd_str hn i hi
      exact ⟨(q, r), fun _ => h⟩
    · exact ⟨(0, 0), fun h => absurd h hi⟩
  obtain ⟨sq, hsq⟩ := Classical.axiomOfChoice hS
  -- the two tables
  obtain ⟨tW, tW1, tW2⟩ := va_Tof (tm := .static "BridgeToll" "WORDS" "[LBridgeToll$Word;") (N := 25) (f := fun j => .ref (ad j)) (by decide) (h12 0 _ rfl) (va_eqt (h12 1 _ rfl)) (fun j hj => va_eqv (hn _ (g10_in _ (List.mem_map.mpr ⟨j, rg hj, rfl⟩))) (hev j hj)) hA
  obtain ⟨tM, tM1, tM2⟩ := va_Tof (tm := .static "BridgeToll$1" "$SwitchMap$BridgeToll$Word" "[I") (N := 25) (f := fun j => .int (swM.getD j 0)) (by decide) (h12 2 _ rfl) (va_eqt (h12 3 _ rfl)) (fun j hj => va_eqt (hn _ (g11_in _ (List.mem_map.mpr ⟨j, rg hj, rfl⟩)))) hA
  -- classes
  obtain ⟨d0, e0, u0⟩ := u_known hwA i_X1 (hwA _ w_329)
  obtain ⟨d1, e1, u1⟩ := u_known hwA i_X2 (hwA _ w_237)
  obtain ⟨d2, e2, u2⟩ := u_known hwA i_X3 (hwA _ w_418)
  obtain ⟨d3, e3, u3⟩ := u_known hwA i_X4 (hwA _ w_465)
  obtain ⟨d4, e4, u4⟩ := u_known hwA i_X5 (hwA _ w_428)
  obtain ⟨d5, e5, u5⟩ := u_known hwA i_X6 (hwA _ w_367)
  obtain ⟨d6, e6, u6⟩ := u_known hwA i_X7 (hwA _ w_386)
  obtain ⟨d7, e7, u7⟩ := u_known hwA i_X8 (hwA _ w_166)
  obtain ⟨d8, e8, u8⟩ := u_known hwA i_X9 (hwA _ w_185)
  obtain ⟨d9, e9, u9⟩ := u_known hwA i_X11 (hwA _ w_243)
  obtain ⟨d10, e10, u10⟩ := u_known hwA i_X12 (hwA _ w_158)
  obtain ⟨d11, e11, u11⟩ := u_known hwA i_X13 (hwA _ w_1462)
  obtain ⟨c0, a0, b0⟩ := ar_prim (h14 16 _ rfl)
  obtain ⟨c1, a1, b1⟩ := ar_prim (h14 17 _ rfl)
  obtain ⟨c2, a2, b2⟩ := ar_prim (h14 18 _ rfl)
  obtain ⟨c3, a3, b3⟩ := ar_prim (h14 19 _ rfl)
  obtain ⟨c4, a4, b4⟩ := ar_obj (h14 20 _ rfl)
  obtain ⟨c5, a5, b5⟩ := ar_obj (h14 21 _ rfl)
  obtain ⟨c6, a6, b6⟩ := ar_obj (h14 22 _ rfl)
  obtain ⟨c7, a7, b7⟩ := ar_arr (h14 23 _ rfl)
  refine ⟨⟨((fun k => [d0, d1, d2, d3, d4, d5, d6, d7, d8, d9, d10, d11].getD k 0, fun k => [e0, e1, e2, e3, e4, e5, e6, e7, e8, e9, e10, e11].getD k (fun _ => 0)), (fun k => [c0, c1, c2, c3, c4, c5, c6, c7].getD k 0), s.heap.size, fun k => if k < 25 then ad k else if k = 50 then tW else if k = 51 then tM else if k < 200 then (sq (k - 100)).1 else (sq (k - 200)).2), rfl, ?_⟩, va_Nw.of rfl (h14 24 _ rfl), va_Nw.of rfl (h14 25 _ rfl), va_Nw.of rfl (h14 26 _ rfl), va_Nw.of rfl (h14 27 _ rfl)⟩
  have k100 : ∀ (i : Nat), i < 29 → (if 100 + i < 25 then ad (100 + i) else if 100 + i = 50 then tW else if 100 + i = 51 then tM else if 100 + i < 200 then (sq (100 + i - 100)).1 else (sq (100 + i - 200)).2) = (sq i).1 := fun i hi => by
    rw [if_neg (by omega), if_neg (by omega), if_neg (by omega), if_pos (by omega), show 100 + i - 100 = i by omega]
  have k200 : ∀ (i : Nat), i < 29 → (if 200 + i < 25 then ad (200 + i) else if 200 + i = 50 then tW else if 200 + i = 51 then tM else if 200 + i < 200 then (sq (200 + i - 100)).1 else (sq (200 + i - 200)).2) = (sq i).2 := fun i hi => by
    rw [if_neg (by omega), if_neg (by omega), if_neg (by omega), if_neg (by omega), show 200 + i - 200 = i by omega]
  refine ⟨⟨fun k q hk => ?_, fun k q hk => ?_⟩, Nat.le_refl _, fun w hw hz => ?_, va_AO.of (h14 21 _ rfl), va_AO.of (h14 22 _ rfl), va_AO.of (h14 20 _ rfl), (fun _ => h14 23 _ rfl), ⟨?_, ?_, ?_, ?_, ?_, ?_, ?_, ?_, ?_, ?_, ?_⟩, ?_, ?_, ?_, ?_⟩
  · have hlt : k < 12 := (List.getElem?_eq_some_iff.mp hk).1
    rcases (by omega : k = 0 ∨ k = 1 ∨ k = 2 ∨ k = 3 ∨ k = 4 ∨ k = 5 ∨ k = 6 ∨ k = 7 ∨ k = 8 ∨ k = 9 ∨ k = 10 ∨ k = 11) with rfl | rfl | rfl | rfl | rfl | rfl | rfl | rfl | rfl | rfl | rfl | rfl <;> cases hk
    · exact u0
    · exact u1
    · exact u2
    · exact u3
    · exact u4
    · exact u5
    · exact u6
    · exact u7
    · exact u8
    · exact u9
    · exact u10
    · exact u11
  · have hlt : k < 8 := (List.getElem?_eq_some_iff.mp hk).1
    rcases (by omega : k = 0 ∨ k = 1 ∨ k = 2 ∨ k = 3 ∨ k = 4 ∨ k = 5 ∨ k = 6 ∨ k = 7) with rfl | rfl | rfl | rfl | rfl | rfl | rfl | rfl <;> cases hk
    · exact ⟨a0, b0⟩
    · exact ⟨a1, b1⟩
    · exact ⟨a2, b2⟩
    · exact ⟨a3, b3⟩
    · exact ⟨a4, b4⟩
    · exact ⟨a5, b5⟩
    · exact ⟨a6, b6⟩
    · exact ⟨a7, b7⟩
  · have h9 := hts w hw
    cases w <;> first | (exact va_Nw.of rfl h9) | (cases hz)
  · exact hE.congr (fun i hi => if_pos (show i < 25 from hi))
  · refine va_Efof (E := wdC) (d0 := wdD) (nm := nmW) (tm := tmS) (fun i hi => ?_) (fun i hi => hn _ (g3_in _ (List.mem_map.mpr ⟨i, rg hi, rfl⟩))) (fun i hi => ?_) hA
    · rw [hev i hi]
      exact congrArg (fun x => some (Value.ref x)) (if_pos hi).symm
    · rw [(hsq i (by omega)).1]
      exact congrArg (fun x => some (Value.ref x)) (k100 i (by omega)).symm
  · intro i hi
    have e1 := k100 i hi
    have e2 := k200 i hi
    obtain ⟨z1, z2, z3, z4, z5⟩ := hsq i hi
    unfold sK sV
    dsimp only
    rw [e1, e2]
    exact ⟨z2, z3, z4, z5⟩
  · exact va_Zof (h14 0 _ rfl) (h14 7 _ rfl) tW1 hA
  · obtain ⟨cell, z1, z2, z3, z4, z5, z6, z7⟩ := tW2
    exact ⟨cell, z1, z2, z3, z4, z5, fun j hj => (z6 j hj).trans (congrArg (fun x => some (Value.ref x)) (if_pos hj).symm), z7⟩
  · exact va_Zof (h14 1 _ rfl) (h14 8 _ rfl) tM1 hA
  · exact tM2
  · exact va_Zof (h14 2 _ rfl) (h14 9 _ rfl) (va_eqi (h12 4 _ rfl)) hA
  · exact vx_Zqof (h14 3 _ rfl) (h14 10 _ rfl) (h12 5 _ rfl) hA
  · exact vx_Zqof (h14 4 _ rfl) (h14 10 _ rfl) (h12 6 _ rfl) hA
  · exact va_Zqof (h14 5 _ rfl) (h14 11 _ rfl) (h12 7 _ rfl) hA
  · exact vk_R.of (A := a) (h14 12 _ rfl) ((hsq 25 (by decide)).1)
  · exact vk_R.of (A := a) (h14 13 _ rfl) ((hsq 26 (by decide)).1)
  · exact vk_R.of (A := a) (h14 14 _ rfl) ((hsq 27 (by decide)).1)
  · exact vk_R.of (A := a) (h14 15 _ rfl) ((hsq 28 (by decide)).1)
end Gds

