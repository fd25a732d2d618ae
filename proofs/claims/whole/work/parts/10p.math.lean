/-! ===== Math: max, min, abs ===== -/
section RulesM
variable {G : Gt} {d bc bs : Nat} {M : Mth} {pc : Nat} {K : KT} {Q : QT} {l : Ls} {z : List Value} {h : Hp}
theorem wc_max : Cond.code Lib.Math.max.name Lib.Math.max.code 2 (some .int) ∈ wsA := mem_wsA 645 (by decide +kernel) (by decide +kernel)
theorem ws_max : Cond.static Lib.Math.max.name ∈ wsA := mem_wsA 644 (by decide +kernel) (by decide +kernel)
theorem wc_min : Cond.code Lib.Math.min.name Lib.Math.min.code 2 (some .int) ∈ wsA := mem_wsA 899 (by decide +kernel) (by decide +kernel)
theorem ws_min : Cond.static Lib.Math.min.name ∈ wsA := mem_wsA 898 (by decide +kernel) (by decide +kernel)
theorem wc_abs : Cond.code Lib.Math.abs.name Lib.Math.abs.code 1 (some .int) ∈ wsA := mem_wsA 885 (by decide +kernel) (by decide +kernel)
theorem ws_abs : Cond.static Lib.Math.abs.name ∈ wsA := mem_wsA 884 (by decide +kernel) (by decide +kernel)
theorem wi_math : Cond.initialized "java/lang/Math" ∈ wsA := mem_wsA 149 (by decide +kernel) (by decide +kernel)
def tMax (K : KT) : KT := fun l z h => match z with
  | .int y :: .int x :: r => (r.map (fun v => v.category)).sum ≤ 8 ∧ K l (.int (if x < y then y else x) :: r) h
  | _ => False
theorem R_mmax {idx : Nat} (hd : decode M.2.1 pc = .ok (.invokestatic idx, 3)) (hd1 : 1 ≤ d) (hl : Cond.methodLink M.1.cls idx Lib.Math.max.name ∈ wsA) (hK : ∀ l z h, K l z h → T G d bc bs M (pc + 3) l z h Q) (k : tMax K l z h) : T G d bc bs M pc l z h Q := by
  unfold tMax at k
  split at k
  · intro p la e R s m args below meth c H locs cells slots lsA hC h1 h2 h3 h4 hR hS hL
    have hts := hC.2.2.2.2.2.1
    have k1 := k.1
    exact va_mmax hC.1 hC.2.1 (hC.2.2.2.1.trans hL.1.symm) hC.2.2.2.2.1 (hts _ hl) (hts _ ws_max) (hts _ wi_math) (hts _ wc_max) (by omega) (by omega) (by omega) (by omega) hd (hK _ _ _ k.2 p la e R s m args below meth c H locs cells slots lsA hC h1 h2 h3 h4 hR hS hL)
  · exact k.elim
def tMin (K : KT) : KT := fun l z h => match z with
  | .int y :: .int x :: r => (r.map (fun v => v.category)).sum ≤ 8 ∧ K l (.int (if y < x then y else x) :: r) h
  | _ => False
theorem R_mmin {idx : Nat} (hd : decode M.2.1 pc = .ok (.invokestatic idx, 3)) (hd1 : 1 ≤ d) (hl : Cond.methodLink M.1.cls idx Lib.Math.min.name ∈ wsA) (hK : ∀ l z h, K l z h → T G d bc bs M (pc + 3) l z h Q) (k : tMin K l z h) : T G d bc bs M pc l z h Q := by
  unfold tMin at k
  split at k
  · intro p la e R s m args below meth c H locs cells slots lsA hC h1 h2 h3 h4 hR hS hL
    have hts := hC.2.2.2.2.2.1
    have k1 := k.1
    exact va_mmin hC.1 hC.2.1 (hC.2.2.2.1.trans hL.1.symm) hC.2.2.2.2.1 (hts _ hl) (hts _ ws_min) (hts _ wi_math) (hts _ wc_min) (by omega) (by omega) (by omega) (by omega) hd (hK _ _ _ k.2 p la e R s m args below meth c H locs cells slots lsA hC h1 h2 h3 h4 hR hS hL)
  · exact k.elim
def tAbs (K : KT) : KT := fun l z h => match z with
  | .int x :: r => (r.map (fun v => v.category)).sum ≤ 8 ∧ K l (.int (if 0 ≤ x then x else 0 - x) :: r) h
  | _ => False
theorem R_mabs {idx : Nat} (hd : decode M.2.1 pc = .ok (.invokestatic idx, 3)) (hd1 : 1 ≤ d) (hl : Cond.methodLink M.1.cls idx Lib.Math.abs.name ∈ wsA) (hK : ∀ l z h, K l z h → T G d bc bs M (pc + 3) l z h Q) (k : tAbs K l z h) : T G d bc bs M pc l z h Q := by
  unfold tAbs at k
  split at k
  · intro p la e R s m args below meth c H locs cells slots lsA hC h1 h2 h3 h4 hR hS hL
    have hts := hC.2.2.2.2.2.1
    have k1 := k.1
    exact va_mabs hC.1 hC.2.1 (hC.2.2.2.1.trans hL.1.symm) hC.2.2.2.2.1 (hts _ hl) (hts _ ws_abs) (hts _ wi_math) (hts _ wc_abs) (by omega) (by omega) (by omega) (by omega) hd (hK _ _ _ k.2 p la e R s m args below meth c H locs cells slots lsA hC h1 h2 h3 h4 hR hS hL)
  · exact k.elim
end RulesM
