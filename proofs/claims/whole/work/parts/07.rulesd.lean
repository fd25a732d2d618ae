/-! ===== calls by the number of their arguments; switches ===== -/
section RulesD
variable {G : Gt} {d bc bs : Nat} {M : Mth} {pc : Nat} {K : KT} {Q : QT} {l : Ls} {z : List Value} {h : Hp}
def tCV0 (G : Gt) (d cb cs ci : Nat) (M' : Mth) (K : KT) : KT := fun l z h => match z with
  | .ref b :: r => (∃ fs, h.2 b = some (.inl (ci, fs))) ∧ Cal G d cb cs M' [.ref b] r l h K
  | _ => False
theorem R_cv0 {idx cb cs ci : Nat} {M' : Mth} {q : vw_C} (hd : decode M.2.1 pc = .ok (.invokevirtual idx, 3)) (hc : clsA[ci]? = some q) (hnl : M'.2.2.1 ≤ 45) (hcode : Cond.code M'.1 M'.2.1 M'.2.2.1 M'.2.2.2 ∈ wsA) (hini : Cond.initialized M'.1.cls ∈ wsA) (hlink : Cond.methodLink M.1.cls idx M'.1 ∈ wsA) (hinst : Cond.instanceMethod M'.1 ∈ wsA) (hsel : Cond.selects q.1 M'.1 M'.1 ∈ wsA) (hy : M'.1.cls ≠ "java/lang/invoke/MethodHandle" ∧ M'.1.cls ≠ "java/lang/invoke/VarHandle" ∧ (parseMethodDescriptor M'.1.desc).map (fun d => d.parameters.length) = some 0) (hK : ∀ l z h, K l z h → T G d bc bs M (pc + 3) l z h Q) (k : tCV0 G d cb cs ci M' K l z h) : T G d (bc + cb) (bs + cs) M pc l z h Q := by
  unfold tCV0 at k
  split at k
  · rename_i b r
    obtain ⟨⟨fs, ha⟩, k⟩ := k
    exact R_callV (As := []) hd hc hnl hcode hini hlink hinst hsel hy rfl rfl ha hK k
  · exact k.elim
def tCV1 (G : Gt) (d cb cs ci : Nat) (M' : Mth) (K : KT) : KT := fun l z h => match z with
  | a1 :: .ref b :: r => (∃ fs, h.2 b = some (.inl (ci, fs))) ∧ Cal G d cb cs M' [.ref b, a1] r l h K
  | _ => False
theorem R_cv1 {idx cb cs ci : Nat} {M' : Mth} {q : vw_C} (hd : decode M.2.1 pc = .ok (.invokevirtual idx, 3)) (hc : clsA[ci]? = some q) (hnl : M'.2.2.1 ≤ 45) (hcode : Cond.code M'.1 M'.2.1 M'.2.2.1 M'.2.2.2 ∈ wsA) (hini : Cond.initialized M'.1.cls ∈ wsA) (hlink : Cond.methodLink M.1.cls idx M'.1 ∈ wsA) (hinst : Cond.instanceMethod M'.1 ∈ wsA) (hsel : Cond.selects q.1 M'.1 M'.1 ∈ wsA) (hy : M'.1.cls ≠ "java/lang/invoke/MethodHandle" ∧ M'.1.cls ≠ "java/lang/invoke/VarHandle" ∧ (parseMethodDescriptor M'.1.desc).map (fun d => d.parameters.length) = some 1) (hK : ∀ l z h, K l z h → T G d bc bs M (pc + 3) l z h Q) (k : tCV1 G d cb cs ci M' K l z h) : T G d (bc + cb) (bs + cs) M pc l z h Q := by
  unfold tCV1 at k
  split at k
  · rename_i a1 b r
    obtain ⟨⟨fs, ha⟩, k⟩ := k
    exact R_callV (As := [a1]) hd hc hnl hcode hini hlink hinst hsel hy rfl rfl ha hK k
  · exact k.elim
def tCV2 (G : Gt) (d cb cs ci : Nat) (M' : Mth) (K : KT) : KT := fun l z h => match z with
  | a2 :: a1 :: .ref b :: r => (∃ fs, h.2 b = some (.inl (ci, fs))) ∧ Cal G d cb cs M' [.ref b, a1, a2] r l h K
  | _ => False
theorem R_cv2 {idx cb cs ci : Nat} {M' : Mth} {q : vw_C} (hd : decode M.2.1 pc = .ok (.invokevirtual idx, 3)) (hc : clsA[ci]? = some q) (hnl : M'.2.2.1 ≤ 45) (hcode : Cond.code M'.1 M'.2.1 M'.2.2.1 M'.2.2.2 ∈ wsA) (hini : Cond.initialized M'.1.cls ∈ wsA) (hlink : Cond.methodLink M.1.cls idx M'.1 ∈ wsA) (hinst : Cond.instanceMethod M'.1 ∈ wsA) (hsel : Cond.selects q.1 M'.1 M'.1 ∈ wsA) (hy : M'.1.cls ≠ "java/lang/invoke/MethodHandle" ∧ M'.1.cls ≠ "java/lang/invoke/VarHandle" ∧ (parseMethodDescriptor M'.1.desc).map (fun d => d.parameters.length) = some 2) (hK : ∀ l z h, K l z h → T G d bc bs M (pc + 3) l z h Q) (k : tCV2 G d cb cs ci M' K l z h) : T G d (bc + cb) (bs + cs) M pc l z h Q := by
  unfold tCV2 at k
  split at k
  · rename_i a2 a1 b r
    obtain ⟨⟨fs, ha⟩, k⟩ := k
    exact R_callV (As := [a1, a2]) hd hc hnl hcode hini hlink hinst hsel hy rfl rfl ha hK k
  · exact k.elim
def tCV3 (G : Gt) (d cb cs ci : Nat) (M' : Mth) (K : KT) : KT := fun l z h => match z with
  | a3 :: a2 :: a1 :: .ref b :: r => (∃ fs, h.2 b = some (.inl (ci, fs))) ∧ Cal G d cb cs M' [.ref b, a1, a2, a3] r l h K
  | _ => False
theorem R_cv3 {idx cb cs ci : Nat} {M' : Mth} {q : vw_C} (hd : decode M.2.1 pc = .ok (.invokevirtual idx, 3)) (hc : clsA[ci]? = some q) (hnl : M'.2.2.1 ≤ 45) (hcode : Cond.code M'.1 M'.2.1 M'.2.2.1 M'.2.2.2 ∈ wsA) (hini : Cond.initialized M'.1.cls ∈ wsA) (hlink : Cond.methodLink M.1.cls idx M'.1 ∈ wsA) (hinst : Cond.instanceMethod M'.1 ∈ wsA) (hsel : Cond.selects q.1 M'.1 M'.1 ∈ wsA) (hy : M'.1.cls ≠ "java/lang/invoke/MethodHandle" ∧ M'.1.cls ≠ "java/lang/invoke/VarHandle" ∧ (parseMethodDescriptor M'.1.desc).map (fun d => d.parameters.length) = some 3) (hK : ∀ l z h, K l z h → T G d bc bs M (pc + 3) l z h Q) (k : tCV3 G d cb cs ci M' K l z h) : T G d (bc + cb) (bs + cs) M pc l z h Q := by
  unfold tCV3 at k
  split at k
  · rename_i a3 a2 a1 b r
    obtain ⟨⟨fs, ha⟩, k⟩ := k
    exact R_callV (As := [a1, a2, a3]) hd hc hnl hcode hini hlink hinst hsel hy rfl rfl ha hK k
  · exact k.elim
def tCV4 (G : Gt) (d cb cs ci : Nat) (M' : Mth) (K : KT) : KT := fun l z h => match z with
  | a4 :: a3 :: a2 :: a1 :: .ref b :: r => (∃ fs, h.2 b = some (.inl (ci, fs))) ∧ Cal G d cb cs M' [.ref b, a1, a2, a3, a4] r l h K
  | _ => False
theorem R_cv4 {idx cb cs ci : Nat} {M' : Mth} {q : vw_C} (hd : decode M.2.1 pc = .ok (.invokevirtual idx, 3)) (hc : clsA[ci]? = some q) (hnl : M'.2.2.1 ≤ 45) (hcode : Cond.code M'.1 M'.2.1 M'.2.2.1 M'.2.2.2 ∈ wsA) (hini : Cond.initialized M'.1.cls ∈ wsA) (hlink : Cond.methodLink M.1.cls idx M'.1 ∈ wsA) (hinst : Cond.instanceMethod M'.1 ∈ wsA) (hsel : Cond.selects q.1 M'.1 M'.1 ∈ wsA) (hy : M'.1.cls ≠ "java/lang/invoke/MethodHandle" ∧ M'.1.cls ≠ "java/lang/invoke/VarHandle" ∧ (parseMethodDescriptor M'.1.desc).map (fun d => d.parameters.length) = some 4) (hK : ∀ l z h, K l z h → T G d bc bs M (pc + 3) l z h Q) (k : tCV4 G d cb cs ci M' K l z h) : T G d (bc + cb) (bs + cs) M pc l z h Q := by
  unfold tCV4 at k
  split at k
  · rename_i a4 a3 a2 a1 b r
    obtain ⟨⟨fs, ha⟩, k⟩ := k
    exact R_callV (As := [a1, a2, a3, a4]) hd hc hnl hcode hini hlink hinst hsel hy rfl rfl ha hK k
  · exact k.elim
def tCV5 (G : Gt) (d cb cs ci : Nat) (M' : Mth) (K : KT) : KT := fun l z h => match z with
  | a5 :: a4 :: a3 :: a2 :: a1 :: .ref b :: r => (∃ fs, h.2 b = some (.inl (ci, fs))) ∧ Cal G d cb cs M' [.ref b, a1, a2, a3, a4, a5] r l h K
  | _ => False
theorem R_cv5 {idx cb cs ci : Nat} {M' : Mth} {q : vw_C} (hd : decode M.2.1 pc = .ok (.invokevirtual idx, 3)) (hc : clsA[ci]? = some q) (hnl : M'.2.2.1 ≤ 45) (hcode : Cond.code M'.1 M'.2.1 M'.2.2.1 M'.2.2.2 ∈ wsA) (hini : Cond.initialized M'.1.cls ∈ wsA) (hlink : Cond.methodLink M.1.cls idx M'.1 ∈ wsA) (hinst : Cond.instanceMethod M'.1 ∈ wsA) (hsel : Cond.selects q.1 M'.1 M'.1 ∈ wsA) (hy : M'.1.cls ≠ "java/lang/invoke/MethodHandle" ∧ M'.1.cls ≠ "java/lang/invoke/VarHandle" ∧ (parseMethodDescriptor M'.1.desc).map (fun d => d.parameters.length) = some 5) (hK : ∀ l z h, K l z h → T G d bc bs M (pc + 3) l z h Q) (k : tCV5 G d cb cs ci M' K l z h) : T G d (bc + cb) (bs + cs) M pc l z h Q := by
  unfold tCV5 at k
  split at k
  · rename_i a5 a4 a3 a2 a1 b r
    obtain ⟨⟨fs, ha⟩, k⟩ := k
    exact R_callV (As := [a1, a2, a3, a4, a5]) hd hc hnl hcode hini hlink hinst hsel hy rfl rfl ha hK k
  · exact k.elim
def tCS0 (G : Gt) (d cb cs : Nat) (M' : Mth) (K : KT) : KT := fun l z h => Cal G d cb cs M' [] z l h K
def tCS1 (G : Gt) (d cb cs : Nat) (M' : Mth) (K : KT) : KT := fun l z h => match z with
  | a1 :: r => Cal G d cb cs M' [a1] r l h K
  | _ => False
theorem R_cs1 {idx cb cs : Nat} {M' : Mth} (hd : decode M.2.1 pc = .ok (.invokestatic idx, 3)) (hnl : M'.2.2.1 ≤ 45) (hcode : Cond.code M'.1 M'.2.1 M'.2.2.1 M'.2.2.2 ∈ wsA) (hini : Cond.initialized M'.1.cls ∈ wsA) (hlink : Cond.methodLink M.1.cls idx M'.1 ∈ wsA) (hst : Cond.static M'.1 ∈ wsA) (hy : M'.1.cls ≠ "java/lang/invoke/MethodHandle" ∧ M'.1.cls ≠ "java/lang/invoke/VarHandle" ∧ (parseMethodDescriptor M'.1.desc).map (fun d => d.parameters.length) = some 1) (hK : ∀ l z h, K l z h → T G d bc bs M (pc + 3) l z h Q) (k : tCS1 G d cb cs M' K l z h) : T G d (bc + cb) (bs + cs) M pc l z h Q := by
  unfold tCS1 at k
  split at k
  · rename_i a1 r
    exact R_callS (As := [a1]) hd hnl hcode hini hlink hst hy rfl rfl hK k
  · exact k.elim
theorem R_csN1 {idx cb cs : Nat} {host : String} {M' : Mth} (hd : decode M.2.1 pc = .ok (.invokestatic idx, 3)) (hnl : M'.2.2.1 ≤ 45) (hcode : Cond.code M'.1 M'.2.1 M'.2.2.1 M'.2.2.2 ∈ wsA) (hini : Cond.initialized M'.1.cls ∈ wsA) (hlink : Cond.methodLinkNest M.1.cls idx M'.1 host ∈ lw_tbl) (hst : Cond.static M'.1 ∈ wsA) (hy : M'.1.cls ≠ "java/lang/invoke/MethodHandle" ∧ M'.1.cls ≠ "java/lang/invoke/VarHandle" ∧ (parseMethodDescriptor M'.1.desc).map (fun d => d.parameters.length) = some 1) (hK : ∀ l z h, K l z h → T G d bc bs M (pc + 3) l z h Q) (k : tCS1 G d cb cs M' K l z h) : T G d (bc + cb) (bs + cs) M pc l z h Q := by
  unfold tCS1 at k
  split at k
  · rename_i a1 r
    exact R_callSN (As := [a1]) hd hnl hcode hini hlink hst hy rfl rfl hK k
  · exact k.elim
def tCS2 (G : Gt) (d cb cs : Nat) (M' : Mth) (K : KT) : KT := fun l z h => match z with
  | a2 :: a1 :: r => Cal G d cb cs M' [a1, a2] r l h K
  | _ => False
theorem R_cs2 {idx cb cs : Nat} {M' : Mth} (hd : decode M.2.1 pc = .ok (.invokestatic idx, 3)) (hnl : M'.2.2.1 ≤ 45) (hcode : Cond.code M'.1 M'.2.1 M'.2.2.1 M'.2.2.2 ∈ wsA) (hini : Cond.initialized M'.1.cls ∈ wsA) (hlink : Cond.methodLink M.1.cls idx M'.1 ∈ wsA) (hst : Cond.static M'.1 ∈ wsA) (hy : M'.1.cls ≠ "java/lang/invoke/MethodHandle" ∧ M'.1.cls ≠ "java/lang/invoke/VarHandle" ∧ (parseMethodDescriptor M'.1.desc).map (fun d => d.parameters.length) = some 2) (hK : ∀ l z h, K l z h → T G d bc bs M (pc + 3) l z h Q) (k : tCS2 G d cb cs M' K l z h) : T G d (bc + cb) (bs + cs) M pc l z h Q := by
  unfold tCS2 at k
  split at k
  · rename_i a2 a1 r
    exact R_callS (As := [a1, a2]) hd hnl hcode hini hlink hst hy rfl rfl hK k
  · exact k.elim
theorem R_csN2 {idx cb cs : Nat} {host : String} {M' : Mth} (hd : decode M.2.1 pc = .ok (.invokestatic idx, 3)) (hnl : M'.2.2.1 ≤ 45) (hcode : Cond.code M'.1 M'.2.1 M'.2.2.1 M'.2.2.2 ∈ wsA) (hini : Cond.initialized M'.1.cls ∈ wsA) (hlink : Cond.methodLinkNest M.1.cls idx M'.1 host ∈ lw_tbl) (hst : Cond.static M'.1 ∈ wsA) (hy : M'.1.cls ≠ "java/lang/invoke/MethodHandle" ∧ M'.1.cls ≠ "java/lang/invoke/VarHandle" ∧ (parseMethodDescriptor M'.1.desc).map (fun d => d.parameters.length) = some 2) (hK : ∀ l z h, K l z h → T G d bc bs M (pc + 3) l z h Q) (k : tCS2 G d cb cs M' K l z h) : T G d (bc + cb) (bs + cs) M pc l z h Q := by
  unfold tCS2 at k
  split at k
  · rename_i a2 a1 r
    exact R_callSN (As := [a1, a2]) hd hnl hcode hini hlink hst hy rfl rfl hK k
  · exact k.elim
def tCS3 (G : Gt) (d cb cs : Nat) (M' : Mth) (K : KT) : KT := fun l z h => match z with
  | a3 :: a2 :: a1 :: r => Cal G d cb cs M' [a1, a2, a3] r l h K
  | _ => False
theorem R_cs3 {idx cb cs : Nat} {M' : Mth} (hd : decode M.2.1 pc = .ok (.invokestatic idx, 3)) (hnl : M'.2.2.1 ≤ 45) (hcode : Cond.code M'.1 M'.2.1 M'.2.2.1 M'.2.2.2 ∈ wsA) (hini : Cond.initialized M'.1.cls ∈ wsA) (hlink : Cond.methodLink M.1.cls idx M'.1 ∈ wsA) (hst : Cond.static M'.1 ∈ wsA) (hy : M'.1.cls ≠ "java/lang/invoke/MethodHandle" ∧ M'.1.cls ≠ "java/lang/invoke/VarHandle" ∧ (parseMethodDescriptor M'.1.desc).map (fun d => d.parameters.length) = some 3) (hK : ∀ l z h, K l z h → T G d bc bs M (pc + 3) l z h Q) (k : tCS3 G d cb cs M' K l z h) : T G d (bc + cb) (bs + cs) M pc l z h Q := by
  unfold tCS3 at k
  split at k
  · rename_i a3 a2 a1 r
    exact R_callS (As := [a1, a2, a3]) hd hnl hcode hini hlink hst hy rfl rfl hK k
  · exact k.elim
theorem R_csN3 {idx cb cs : Nat} {host : String} {M' : Mth} (hd : decode M.2.1 pc = .ok (.invokestatic idx, 3)) (hnl : M'.2.2.1 ≤ 45) (hcode : Cond.code M'.1 M'.2.1 M'.2.2.1 M'.2.2.2 ∈ wsA) (hini : Cond.initialized M'.1.cls ∈ wsA) (hlink : Cond.methodLinkNest M.1.cls idx M'.1 host ∈ lw_tbl) (hst : Cond.static M'.1 ∈ wsA) (hy : M'.1.cls ≠ "java/lang/invoke/MethodHandle" ∧ M'.1.cls ≠ "java/lang/invoke/VarHandle" ∧ (parseMethodDescriptor M'.1.desc).map (fun d => d.parameters.length) = some 3) (hK : ∀ l z h, K l z h → T G d bc bs M (pc + 3) l z h Q) (k : tCS3 G d cb cs M' K l z h) : T G d (bc + cb) (bs + cs) M pc l z h Q := by
  unfold tCS3 at k
  split at k
  · rename_i a3 a2 a1 r
    exact R_callSN (As := [a1, a2, a3]) hd hnl hcode hini hlink hst hy rfl rfl hK k
  · exact k.elim
def tCS4 (G : Gt) (d cb cs : Nat) (M' : Mth) (K : KT) : KT := fun l z h => match z with
  | a4 :: a3 :: a2 :: a1 :: r => Cal G d cb cs M' [a1, a2, a3, a4] r l h K
  | _ => False
theorem R_cs4 {idx cb cs : Nat} {M' : Mth} (hd : decode M.2.1 pc = .ok (.invokestatic idx, 3)) (hnl : M'.2.2.1 ≤ 45) (hcode : Cond.code M'.1 M'.2.1 M'.2.2.1 M'.2.2.2 ∈ wsA) (hini : Cond.initialized M'.1.cls ∈ wsA) (hlink : Cond.methodLink M.1.cls idx M'.1 ∈ wsA) (hst : Cond.static M'.1 ∈ wsA) (hy : M'.1.cls ≠ "java/lang/invoke/MethodHandle" ∧ M'.1.cls ≠ "java/lang/invoke/VarHandle" ∧ (parseMethodDescriptor M'.1.desc).map (fun d => d.parameters.length) = some 4) (hK : ∀ l z h, K l z h → T G d bc bs M (pc + 3) l z h Q) (k : tCS4 G d cb cs M' K l z h) : T G d (bc + cb) (bs + cs) M pc l z h Q := by
  unfold tCS4 at k
  split at k
  · rename_i a4 a3 a2 a1 r
    exact R_callS (As := [a1, a2, a3, a4]) hd hnl hcode hini hlink hst hy rfl rfl hK k
  · exact k.elim
theorem R_csN4 {idx cb cs : Nat} {host : String} {M' : Mth} (hd : decode M.2.1 pc = .ok (.invokestatic idx, 3)) (hnl : M'.2.2.1 ≤ 45) (hcode : Cond.code M'.1 M'.2.1 M'.2.2.1 M'.2.2.2 ∈ wsA) (hini : Cond.initialized M'.1.cls ∈ wsA) (hlink : Cond.methodLinkNest M.1.cls idx M'.1 host ∈ lw_tbl) (hst : Cond.static M'.1 ∈ wsA) (hy : M'.1.cls ≠ "java/lang/invoke/MethodHandle" ∧ M'.1.cls ≠ "java/lang/invoke/VarHandle" ∧ (parseMethodDescriptor M'.1.desc).map (fun d => d.parameters.length) = some 4) (hK : ∀ l z h, K l z h → T G d bc bs M (pc + 3) l z h Q) (k : tCS4 G d cb cs M' K l z h) : T G d (bc + cb) (bs + cs) M pc l z h Q := by
  unfold tCS4 at k
  split at k
  · rename_i a4 a3 a2 a1 r
    exact R_callSN (As := [a1, a2, a3, a4]) hd hnl hcode hini hlink hst hy rfl rfl hK k
  · exact k.elim
def tCS5 (G : Gt) (d cb cs : Nat) (M' : Mth) (K : KT) : KT := fun l z h => match z with
  | a5 :: a4 :: a3 :: a2 :: a1 :: r => Cal G d cb cs M' [a1, a2, a3, a4, a5] r l h K
  | _ => False
theorem R_cs5 {idx cb cs : Nat} {M' : Mth} (hd : decode M.2.1 pc = .ok (.invokestatic idx, 3)) (hnl : M'.2.2.1 ≤ 45) (hcode : Cond.code M'.1 M'.2.1 M'.2.2.1 M'.2.2.2 ∈ wsA) (hini : Cond.initialized M'.1.cls ∈ wsA) (hlink : Cond.methodLink M.1.cls idx M'.1 ∈ wsA) (hst : Cond.static M'.1 ∈ wsA) (hy : M'.1.cls ≠ "java/lang/invoke/MethodHandle" ∧ M'.1.cls ≠ "java/lang/invoke/VarHandle" ∧ (parseMethodDescriptor M'.1.desc).map (fun d => d.parameters.length) = some 5) (hK : ∀ l z h, K l z h → T G d bc bs M (pc + 3) l z h Q) (k : tCS5 G d cb cs M' K l z h) : T G d (bc + cb) (bs + cs) M pc l z h Q := by
  unfold tCS5 at k
  split at k
  · rename_i a5 a4 a3 a2 a1 r
    exact R_callS (As := [a1, a2, a3, a4, a5]) hd hnl hcode hini hlink hst hy rfl rfl hK k
  · exact k.elim
theorem R_csN5 {idx cb cs : Nat} {host : String} {M' : Mth} (hd : decode M.2.1 pc = .ok (.invokestatic idx, 3)) (hnl : M'.2.2.1 ≤ 45) (hcode : Cond.code M'.1 M'.2.1 M'.2.2.1 M'.2.2.2 ∈ wsA) (hini : Cond.initialized M'.1.cls ∈ wsA) (hlink : Cond.methodLinkNest M.1.cls idx M'.1 host ∈ lw_tbl) (hst : Cond.static M'.1 ∈ wsA) (hy : M'.1.cls ≠ "java/lang/invoke/MethodHandle" ∧ M'.1.cls ≠ "java/lang/invoke/VarHandle" ∧ (parseMethodDescriptor M'.1.desc).map (fun d => d.parameters.length) = some 5) (hK : ∀ l z h, K l z h → T G d bc bs M (pc + 3) l z h Q) (k : tCS5 G d cb cs M' K l z h) : T G d (bc + cb) (bs + cs) M pc l z h Q := by
  unfold tCS5 at k
  split at k
  · rename_i a5 a4 a3 a2 a1 r
    exact R_callSN (As := [a1, a2, a3, a4, a5]) hd hnl hcode hini hlink hst hy rfl rfl hK k
  · exact k.elim
def tCS6 (G : Gt) (d cb cs : Nat) (M' : Mth) (K : KT) : KT := fun l z h => match z with
  | a6 :: a5 :: a4 :: a3 :: a2 :: a1 :: r => Cal G d cb cs M' [a1, a2, a3, a4, a5, a6] r l h K
  | _ => False
theorem R_cs6 {idx cb cs : Nat} {M' : Mth} (hd : decode M.2.1 pc = .ok (.invokestatic idx, 3)) (hnl : M'.2.2.1 ≤ 45) (hcode : Cond.code M'.1 M'.2.1 M'.2.2.1 M'.2.2.2 ∈ wsA) (hini : Cond.initialized M'.1.cls ∈ wsA) (hlink : Cond.methodLink M.1.cls idx M'.1 ∈ wsA) (hst : Cond.static M'.1 ∈ wsA) (hy : M'.1.cls ≠ "java/lang/invoke/MethodHandle" ∧ M'.1.cls ≠ "java/lang/invoke/VarHandle" ∧ (parseMethodDescriptor M'.1.desc).map (fun d => d.parameters.length) = some 6) (hK : ∀ l z h, K l z h → T G d bc bs M (pc + 3) l z h Q) (k : tCS6 G d cb cs M' K l z h) : T G d (bc + cb) (bs + cs) M pc l z h Q := by
  unfold tCS6 at k
  split at k
  · rename_i a6 a5 a4 a3 a2 a1 r
    exact R_callS (As := [a1, a2, a3, a4, a5, a6]) hd hnl hcode hini hlink hst hy rfl rfl hK k
  · exact k.elim
theorem R_csN6 {idx cb cs : Nat} {host : String} {M' : Mth} (hd : decode M.2.1 pc = .ok (.invokestatic idx, 3)) (hnl : M'.2.2.1 ≤ 45) (hcode : Cond.code M'.1 M'.2.1 M'.2.2.1 M'.2.2.2 ∈ wsA) (hini : Cond.initialized M'.1.cls ∈ wsA) (hlink : Cond.methodLinkNest M.1.cls idx M'.1 host ∈ lw_tbl) (hst : Cond.static M'.1 ∈ wsA) (hy : M'.1.cls ≠ "java/lang/invoke/MethodHandle" ∧ M'.1.cls ≠ "java/lang/invoke/VarHandle" ∧ (parseMethodDescriptor M'.1.desc).map (fun d => d.parameters.length) = some 6) (hK : ∀ l z h, K l z h → T G d bc bs M (pc + 3) l z h Q) (k : tCS6 G d cb cs M' K l z h) : T G d (bc + cb) (bs + cs) M pc l z h Q := by
  unfold tCS6 at k
  split at k
  · rename_i a6 a5 a4 a3 a2 a1 r
    exact R_callSN (As := [a1, a2, a3, a4, a5, a6]) hd hnl hcode hini hlink hst hy rfl rfl hK k
  · exact k.elim
def tCS7 (G : Gt) (d cb cs : Nat) (M' : Mth) (K : KT) : KT := fun l z h => match z with
  | a7 :: a6 :: a5 :: a4 :: a3 :: a2 :: a1 :: r => Cal G d cb cs M' [a1, a2, a3, a4, a5, a6, a7] r l h K
  | _ => False
theorem R_cs7 {idx cb cs : Nat} {M' : Mth} (hd : decode M.2.1 pc = .ok (.invokestatic idx, 3)) (hnl : M'.2.2.1 ≤ 45) (hcode : Cond.code M'.1 M'.2.1 M'.2.2.1 M'.2.2.2 ∈ wsA) (hini : Cond.initialized M'.1.cls ∈ wsA) (hlink : Cond.methodLink M.1.cls idx M'.1 ∈ wsA) (hst : Cond.static M'.1 ∈ wsA) (hy : M'.1.cls ≠ "java/lang/invoke/MethodHandle" ∧ M'.1.cls ≠ "java/lang/invoke/VarHandle" ∧ (parseMethodDescriptor M'.1.desc).map (fun d => d.parameters.length) = some 7) (hK : ∀ l z h, K l z h → T G d bc bs M (pc + 3) l z h Q) (k : tCS7 G d cb cs M' K l z h) : T G d (bc + cb) (bs + cs) M pc l z h Q := by
  unfold tCS7 at k
  split at k
  · rename_i a7 a6 a5 a4 a3 a2 a1 r
    exact R_callS (As := [a1, a2, a3, a4, a5, a6, a7]) hd hnl hcode hini hlink hst hy rfl rfl hK k
  · exact k.elim
theorem R_csN7 {idx cb cs : Nat} {host : String} {M' : Mth} (hd : decode M.2.1 pc = .ok (.invokestatic idx, 3)) (hnl : M'.2.2.1 ≤ 45) (hcode : Cond.code M'.1 M'.2.1 M'.2.2.1 M'.2.2.2 ∈ wsA) (hini : Cond.initialized M'.1.cls ∈ wsA) (hlink : Cond.methodLinkNest M.1.cls idx M'.1 host ∈ lw_tbl) (hst : Cond.static M'.1 ∈ wsA) (hy : M'.1.cls ≠ "java/lang/invoke/MethodHandle" ∧ M'.1.cls ≠ "java/lang/invoke/VarHandle" ∧ (parseMethodDescriptor M'.1.desc).map (fun d => d.parameters.length) = some 7) (hK : ∀ l z h, K l z h → T G d bc bs M (pc + 3) l z h Q) (k : tCS7 G d cb cs M' K l z h) : T G d (bc + cb) (bs + cs) M pc l z h Q := by
  unfold tCS7 at k
  split at k
  · rename_i a7 a6 a5 a4 a3 a2 a1 r
    exact R_callSN (As := [a1, a2, a3, a4, a5, a6, a7]) hd hnl hcode hini hlink hst hy rfl rfl hK k
  · exact k.elim
def tCI0 (G : Gt) (d cb cs : Nat) (M' : Mth) (K : KT) : KT := fun l z h => match z with
  | .ref b :: r => Cal G d cb cs M' [.ref b] r l h K
  | _ => False
theorem R_ci0 {idx cb cs : Nat} {M' : Mth} (hd : decode M.2.1 pc = .ok (.invokespecial idx, 3)) (hnl : M'.2.2.1 ≤ 45) (hr : M'.2.2.2 = none) (hcode : Cond.code M'.1 M'.2.1 M'.2.2.1 M'.2.2.2 ∈ wsA) (hini : Cond.initialized M'.1.cls ∈ wsA) (hlink : Cond.methodLink M.1.cls idx M'.1 ∈ wsA) (hinst : Cond.instanceMethod M'.1 ∈ wsA) (hnm : M'.1.name = "<init>") (hy : M'.1.cls ≠ "java/lang/invoke/MethodHandle" ∧ M'.1.cls ≠ "java/lang/invoke/VarHandle" ∧ (parseMethodDescriptor M'.1.desc).map (fun d => d.parameters.length) = some 0) (hK : ∀ l z h, K l z h → T G d bc bs M (pc + 3) l z h Q) (k : tCI0 G d cb cs M' K l z h) : T G d (bc + cb) (bs + cs) M pc l z h Q := by
  unfold tCI0 at k
  split at k
  · rename_i b r
    exact R_callI (As := []) hd hnl hr hcode hini hlink hinst hnm hy rfl rfl hK k
  · exact k.elim
theorem R_ciN0 {idx cb cs : Nat} {host : String} {M' : Mth} (hd : decode M.2.1 pc = .ok (.invokespecial idx, 3)) (hnl : M'.2.2.1 ≤ 45) (hr : M'.2.2.2 = none) (hcode : Cond.code M'.1 M'.2.1 M'.2.2.1 M'.2.2.2 ∈ wsA) (hini : Cond.initialized M'.1.cls ∈ wsA) (hlink : Cond.methodLinkNest M.1.cls idx M'.1 host ∈ lw_tbl) (hinst : Cond.instanceMethod M'.1 ∈ wsA) (hnm : M'.1.name = "<init>") (hy : M'.1.cls ≠ "java/lang/invoke/MethodHandle" ∧ M'.1.cls ≠ "java/lang/invoke/VarHandle" ∧ (parseMethodDescriptor M'.1.desc).map (fun d => d.parameters.length) = some 0) (hK : ∀ l z h, K l z h → T G d bc bs M (pc + 3) l z h Q) (k : tCI0 G d cb cs M' K l z h) : T G d (bc + cb) (bs + cs) M pc l z h Q := by
  unfold tCI0 at k
  split at k
  · rename_i b r
    exact R_callIN (As := []) hd hnl hr hcode hini hlink hinst hnm hy rfl rfl hK k
  · exact k.elim
def tCI1 (G : Gt) (d cb cs : Nat) (M' : Mth) (K : KT) : KT := fun l z h => match z with
  | a1 :: .ref b :: r => Cal G d cb cs M' [.ref b, a1] r l h K
  | _ => False
theorem R_ci1 {idx cb cs : Nat} {M' : Mth} (hd : decode M.2.1 pc = .ok (.invokespecial idx, 3)) (hnl : M'.2.2.1 ≤ 45) (hr : M'.2.2.2 = none) (hcode : Cond.code M'.1 M'.2.1 M'.2.2.1 M'.2.2.2 ∈ wsA) (hini : Cond.initialized M'.1.cls ∈ wsA) (hlink : Cond.methodLink M.1.cls idx M'.1 ∈ wsA) (hinst : Cond.instanceMethod M'.1 ∈ wsA) (hnm : M'.1.name = "<init>") (hy : M'.1.cls ≠ "java/lang/invoke/MethodHandle" ∧ M'.1.cls ≠ "java/lang/invoke/VarHandle" ∧ (parseMethodDescriptor M'.1.desc).map (fun d => d.parameters.length) = some 1) (hK : ∀ l z h, K l z h → T G d bc bs M (pc + 3) l z h Q) (k : tCI1 G d cb cs M' K l z h) : T G d (bc + cb) (bs + cs) M pc l z h Q := by
  unfold tCI1 at k
  split at k
  · rename_i a1 b r
    exact R_callI (As := [a1]) hd hnl hr hcode hini hlink hinst hnm hy rfl rfl hK k
  · exact k.elim
theorem R_ciN1 {idx cb cs : Nat} {host : String} {M' : Mth} (hd : decode M.2.1 pc = .ok (.invokespecial idx, 3)) (hnl : M'.2.2.1 ≤ 45) (hr : M'.2.2.2 = none) (hcode : Cond.code M'.1 M'.2.1 M'.2.2.1 M'.2.2.2 ∈ wsA) (hini : Cond.initialized M'.1.cls ∈ wsA) (hlink : Cond.methodLinkNest M.1.cls idx M'.1 host ∈ lw_tbl) (hinst : Cond.instanceMethod M'.1 ∈ wsA) (hnm : M'.1.name = "<init>") (hy : M'.1.cls ≠ "java/lang/invoke/MethodHandle" ∧ M'.1.cls ≠ "java/lang/invoke/VarHandle" ∧ (parseMethodDescriptor M'.1.desc).map (fun d => d.parameters.length) = some 1) (hK : ∀ l z h, K l z h → T G d bc bs M (pc + 3) l z h Q) (k : tCI1 G d cb cs M' K l z h) : T G d (bc + cb) (bs + cs) M pc l z h Q := by
  unfold tCI1 at k
  split at k
  · rename_i a1 b r
    exact R_callIN (As := [a1]) hd hnl hr hcode hini hlink hinst hnm hy rfl rfl hK k
  · exact k.elim
/-- Object.<init> -/
def tObj (K : KT) : KT := fun l z h => match z with
  | .ref _ :: r => (r.map (fun v => v.category)).sum ≤ 8 ∧ K l r h
  | _ => False
theorem R_obj {idx : Nat} (hd : decode M.2.1 pc = .ok (.invokespecial idx, 3)) (hd1 : 1 ≤ d) (hl : Cond.methodLink M.1.cls idx Lib.objectInit ∈ wsA) (hi : Cond.instanceMethod Lib.objectInit ∈ wsA) (hco : Cond.code Lib.objectInit ⟨#[0xb1]⟩ 1 none ∈ wsA) (hK : ∀ l z h, K l z h → T G d bc bs M (pc + 3) l z h Q) (k : tObj K l z h) : T G d bc bs M pc l z h Q := by
  unfold tObj at k
  split at k
  · intro p la e R s m args below meth co H locs cells slots lsA hC h1 h2 h3 h4 hR hS hL
    have hts := hC.2.2.2.2.2.1
    have hm := lv_room (m := m) (pc := pc) (ls := lsA) (rest := []) k.1
    refine W.objInit hC.1 hC.2.1 hC.2.2.2.2.1 (hts _ hl) (hts _ hi) (hts _ hco) rfl (hL.1.trans hC.2.2.2.1.symm) rfl hd (by omega) (by first | omega | (simp only [JFrame.monitorRoom] at hm ⊢; omega)) ?_
    exact hK _ _ _ k.2 p la e R s m args below meth co H locs cells slots lsA hC h1 h2 h3 h4 hR hS hL
  · exact k.elim
/-- a switch over neighbours: the targets from v on, else td -/
def tTab (F : Nat → Prop) (x : Int32) : Int32 → List Nat → Nat → Prop
  | _, [], td => F td
  | v, t :: ts, td => (x = v → F t) ∧ (¬ x = v → tTab F x (v + 1) ts td)
def tSw (v : Int32) (ts : List Nat) (td : Nat) (F : Nat → KT) : KT := fun l z h => match z with
  | .int x :: r => tTab (fun t => F t l r h) x v ts td
  | _ => False
theorem i_add1 {v : Int32} (h : v.toInt < 2 ^ 31 - 1) : (v + 1).toInt = v.toInt + 1 := by
  have h1 := v.minValue_le_toInt
  rw [Int32.toInt_add]
  have h2 : (1 : Int32).toInt = 1 := by decide
  rw [h2]
  have h3 : Int32.minValue.toInt = -2 ^ 31 := by decide
  rw [h3] at h1
  exact Int.bmod_eq_of_le (by omega) (by omega)
theorem tTab_in {F : Nat → Prop} {x : Int32} : ∀ {ts : List Nat} {v : Int32} {td : Nat} {j t : Nat}, v.toInt + ts.length < 2 ^ 31 → tTab F x v ts td → ts[j]? = some t → x.toInt = v.toInt + j → F t
  | [], v, td, j, t, _, _, h, _ => by simp at h
  | u :: ts, v, td, 0, t, hb, k, h, hx => by
    simp at h
    subst h
    exact k.1 (Int32.toInt_inj.mp (by rw [hx]; simp))
  | u :: ts, v, td, j + 1, t, hb, k, h, hx => by
    rw [List.getElem?_cons_succ] at h
    have hj : j < ts.length := (List.getElem?_eq_some_iff.mp h).1
    rw [List.length_cons] at hb
    have hv : (v + 1).toInt = v.toInt + 1 := i_add1 (by omega)
    refine tTab_in (by rw [hv]; omega) (k.2 ?_) h (by rw [hx, hv]; omega)
    intro e
    rw [e] at hx
    omega
theorem tTab_out {F : Nat → Prop} {x : Int32} : ∀ {ts : List Nat} {v : Int32} {td : Nat}, v.toInt + ts.length < 2 ^ 31 → tTab F x v ts td → (x.toInt < v.toInt ∨ v.toInt + ts.length ≤ x.toInt) → F td
  | [], v, td, _, k, _ => k
  | u :: ts, v, td, hb, k, hx => by
    rw [List.length_cons] at hb hx
    have hv : (v + 1).toInt = v.toInt + 1 := i_add1 (by omega)
    refine tTab_out (by rw [hv]; omega) (k.2 ?_) (by rw [hv]; omega)
    intro e
    rw [e] at hx
    omega
theorem R_table {F : Nat → KT} {v : Int32} {ts : List Nat} {td len : Nat} {dflt lo hi : Int} {offs : Array Int} (hd : decode M.2.1 pc = .ok (.tableswitch dflt lo hi offs, len)) (hlo : v.toInt = lo) (hhi : lo + ts.length = hi + 1) (hb : hi < 2 ^ 31 - 1) (ht : offs.toList.map (fun o => (pc : Int) + o) = ts.map Int.ofNat) (hdf : (pc : Int) + dflt = (td : Int))
    (hF : ∀ t l z h, F t l z h → T G d bc bs M t l z h Q) (k : tSw v ts td F l z h) : T G d bc bs M pc l z h Q := by
  unfold tSw at k
  split at k
  · rename_i x r
    intro p la e R s m args below meth co H locs cells slots lsA hC h1 h2 h3 h4 hR hS hL
    by_cases hx : x.toInt < lo ∨ hi < x.toInt
    · refine lv_tableOut hC.1 hC.2.1 hd hx hdf (hF _ _ _ _ ?_ p la e R s m args below meth co H locs cells slots lsA hC h1 h2 h3 h4 hR hS hL)
      exact tTab_out (v := v) (by rw [hlo]; omega) k (by rw [hlo]; omega)
    · have hj : ∃ t, ts[(x.toInt - lo).toNat]? = some t := by
        have : (x.toInt - lo).toNat < ts.length := by omega
        exact ⟨_, List.getElem?_eq_getElem this⟩
      obtain ⟨t, hj⟩ := hj
      have ho : ∃ off, offs[(x.toInt - lo).toNat]? = some off ∧ (pc : Int) + off = (t : Int) := by
        have h5 : (ts.map Int.ofNat)[(x.toInt - lo).toNat]? = some (t : Int) := by rw [List.getElem?_map, hj]; rfl
        rw [← ht, List.getElem?_map] at h5
        cases h6 : offs.toList[(x.toInt - lo).toNat]? with
        | none => rw [h6] at h5; cases h5
        | some off => rw [h6] at h5; exact ⟨off, by rw [← Array.getElem?_toList]; exact h6, Option.some.inj h5⟩
      obtain ⟨off, ho, h5⟩ := ho
      refine lv_tableIn hC.1 hC.2.1 hd (by omega) (by omega) ho h5 (hF _ _ _ _ ?_ p la e R s m args below meth co H locs cells slots lsA hC h1 h2 h3 h4 hR hS hL)
      exact tTab_in (v := v) (by rw [hlo]; omega) k hj (by rw [hlo]; omega)
  · exact k.elim
end RulesD
