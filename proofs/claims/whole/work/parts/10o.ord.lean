/-! ===== a word's ordinal ===== -/
theorem ct_ordinal {G : Gt} {h : Hp} {k : Nat} (hk : k < 25) : Mt G 1 0 0 mJx29ce0_ordinal_8abf5 [.ref (adW G k)] h (fun v h' => v = some (.int (ordW.getD k 0)) ∧ h' = h) := by
  refine Mt.of rfl (Nat.le_of_ble_eq_true rfl) ?_
  refine bJx29ce0_ordinal_8abf5_0 ?_
  simp +decide only [lv_args, Value.category, tAld, tGx, tRetI, lk, if_true, if_false]
  exact ⟨_, ⟨k, hk, rfl, rfl⟩, rfl, trivial⟩
theorem R_ord {G : Gt} {d bc bs : Nat} {M : Mth} {pc : Nat} {K : KT} {Q : QT} {l : Ls} {z : List Value} {h : Hp} {idx : Nat} (hd : decode M.2.1 pc = .ok (.invokevirtual idx, 3)) (hlink : Cond.methodLink M.1.cls idx ⟨"BridgeToll$Word", "ordinal", "()I"⟩ ∈ wsA) (hK : ∀ l z h, K l z h → T G d bc bs M (pc + 3) l z h Q) (k : tOrd G d K l z h) : T G d bc bs M pc l z h Q := by
  unfold tOrd at k
  split at k
  · rename_i b r
    obtain ⟨hcat, h1d, kk, hk, rfl, k⟩ := k
    intro p la e R s m args below meth co H locs cells slots lsA hC h1 h2 h3 h4 hR hS hL
    have hts := hC.2.2.2.2.2.1
    obtain ⟨cell, g1, g2, g3, -⟩ := (hC.st.1.1 kk hk).2.1.kept hS.2.1
    refine call_on (bc := bc) (bs := bs) (cb := 0) (cs := 0) (Q1 := fun v h' => v = some (.int (ordW.getD kk 0)) ∧ h' = h) (va_runU (As := []) (Ts := wsA) (own := M.1.cls) (C := "BridgeToll$Word") (owner := "java/lang/Enum") (nL := M.2.2.1) (x := ⟨"BridgeToll$Word", "ordinal", "()I"⟩) (y := yJx29ce0_ordinal_8abf5) (bytes := cJx29ce0_ordinal_8abf5) (maxL := 1) (ret := some .int) (n := 0) (rm := roomT 1 0 0) ⟨hC.1, hC.2.1, hC.2.2.2.1, hC.2.2.2.2.1, hts⟩ (ct_ordinal (h := h) hk la) ?_ ⟨blindT, ⟨cell, g1, g2, g3⟩, fun U hU hW => Pm.of hU hW hC.2.2.2.2.2.2.2.2 hS hR⟩ rfl rfl hL.1 rfl (lv_room hcat) hd ⟨by omega, by omega⟩) hC h1 h2 h3 h4 hS hL (fun v h' hq => ?_)
    · refine ⟨⟨rfl, rfl, (show 1 + 1 ≤ R.frames by omega), (show 8 + (1 + 11) + 1 * 64 ≤ R.locals by omega), ?_, List.mem_cons_self⟩, hts _ w_1266, hts _ w_133, ⟨by decide, by decide⟩, ?_, hts _ hlink, hts _ w_1262, va_Decl.of (hts _ w_1265) (hts _ w_1266), hts _ w_1264, hts _ w_1265⟩
      · intro w hw a' U hW
        rcases List.mem_cons.mp hw with rfl | hw
        · exact word_at hW (wsA_good w_1266) (hts _ w_1266)
        · exact word_at hW (wsA_good hw) (hts _ hw)
      · intro sig hs
        have h9 : (parseMethodDescriptor "()I").map (fun d => d.parameters.length) = some 0 := by decide +kernel
        rw [hs] at h9
        exact (Option.some.inj h9).symm
    · obtain ⟨rfl, rfl⟩ := hq
      exact hK _ _ _ k
  · exact k.elim
