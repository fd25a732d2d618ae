/-! ===== the class's when and teacher, in the model's words ===== -/
theorem wen_eq {u : Wd} {d p : Nat} : wenV u d p = sk (fun k => decide (lack (daysW u k) p (wE u p) = 0)) (lim 101 d) := by
  unfold wenV
  refine sk_eq (fun j _ => ?_)
  have h2 : wI (daysW u j) 2 = wI u 2 := lp_ind (P := fun x => wI x 2 = wI u 2) rfl (fun _ x hx => (dayW_row x 2 (by decide) (by decide)).trans hx) j
  unfold payC wE
  rw [h2, Bool.eq_iff_iff, beq_iff_eq, decide_eq_true_iff]
theorem Vw.r6 {r : Nat} {w : Wd} {f : Nat → Int32} : Vw r w (wSetI w 6 f) := ⟨rfl, rfl, fun _ _ => rfl, rfl, rfl, rfl, rfl, rfl⟩
theorem Vw.r2 {r : Nat} {w : Wd} {f : Nat → Int32} : Vw r w (wSetI w 2 f) := ⟨rfl, rfl, fun _ _ => rfl, rfl, rfl, rfl, rfl, rfl⟩
theorem Vw.un {r p : Nat} {w : Wd} : Vw r w (unW w p) := by
  unfold unW
  split
  · exact Vw.r6
  · exact Vw.rf
theorem wE_un {w : Wd} {p r : Nat} : wE (unW w p) r = wE w r := by unfold unW; split <;> rfl
theorem dtp_wen {w : Wd} (hw : WOK w) {p d : Nat} (hp : p < wPe w) (hday : wDay w = nI d) (hd : d ≤ 400) : dtp p (wI w 6 p) (wE w p) w 101 d = wenV w d p := by
  rw [wen_eq]
  rcases hw.2.2.2.2.2.2.2.1 p hp with k | ⟨q, hq, hqp, k1, k2⟩
  · rw [k]; exact dtp_free Vw.rf hw hday hd hp k
  · rw [k1]; exact dtp_pair Vw.rf Vw.rf hw hday hd hp hq (fun z => hqp z.symm) k1 k2
theorem dtp_wene {w : Wd} (hw : WOK w) {p d e : Nat} (hp : p < wPe w) (he : e < 2) (hday : wDay w = nI d) (hd : d ≤ 400) : dtp p (wI w 6 p) e w 101 d = wenV (wSetI w 2 (upd (wI w 2) p (nI e))) d p := by
  have hu := hw.want (p := p) he
  have e2 : wE (wSetI w 2 (upd (wI w 2) p (nI e))) p = e := by unfold wE; rw [wI_s, upd_s, nI_clamp (by omega)]
  rw [wen_eq, e2]
  rcases hw.2.2.2.2.2.2.2.1 p hp with k | ⟨q, hq, hqp, k1, k2⟩
  · rw [k]; exact dtp_free Vw.r2 hu hday hd hp k
  · rw [k1]; exact dtp_pair Vw.r2 Vw.r2 hu hday hd hp hq (fun z => hqp z.symm) k1 k2
theorem tchQ_n {w : Wd} (hw : WOK w) {p d : Nat} (hp : p < wPe w) (hday : wDay w = nI d) (hd : d ≤ 400) : tchV w d p none = dtp p (-1) (wE w p) w 101 d := by
  have hu := hw.tch hp
  unfold tchV
  rw [wen_eq, show wE (tchW w p none) p = wE w p from wE_un]
  exact (dtp_free (u := tchW w p none) Vw.un hu (by rw [show wDay (tchW w p none) = wDay w from un_pe.2.1]; exact hday) hd (by rw [show wPe (tchW w p none) = wPe w from un_pe.1]; exact hp) (un_self hw hp)).symm
theorem wE_meet {u : Wd} {p q r : Nat} : wE (meetM u p q) r = wE u r := rfl
theorem pe_meet {u : Wd} {p q : Nat} : wPe (meetM u p q) = wPe u := rfl
theorem day_meet {u : Wd} {p q : Nat} : wDay (meetM u p q) = wDay u := rfl
theorem m_meet {u : Wd} {p q : Nat} (hpq : p ≠ q) : wI (meetM u p q) 6 p = nI q ∧ wI (meetM u p q) 6 q = nI p := by
  unfold meetM
  rw [wI_s]
  exact ⟨by rw [upd_n hpq, upd_s], by rw [upd_s]⟩
theorem Vw.meet {r p q : Nat} {u : Wd} : Vw r u (meetM u p q) := Vw.r6
theorem tchQ_s {w : Wd} (hw : WOK w) {p q d : Nat} (hp : p < wPe w) (hq : q < wPe w) (hpq : p ≠ q) (hday : wDay w = nI d) (hd : d ≤ 400) : tchV w d p (some q) = dtp p (nI q) (wE w p) w 101 d := by
  have hu := hw.tchs hp hq hpq
  have v : ∀ r, Vw r w (unW (unW w p) q) := fun r => (Vw.un (p := p)).trans (Vw.un (p := q))
  have e1 : wE (unW (unW w p) q) p = wE w p := by rw [wE_un, wE_un]
  have e2 : wPe (unW (unW w p) q) = wPe w := by rw [un_pe.1, un_pe.1]
  have e3 : wDay (unW (unW w p) q) = wDay w := by rw [un_pe.2.1, un_pe.2.1]
  unfold tchV
  rw [tch_s] at hu ⊢
  generalize unW (unW w p) q = u at *
  rw [wen_eq, wE_meet, e1]
  refine (dtp_pair (u := meetM u p q) ((v p).trans Vw.meet) ((v q).trans Vw.meet) hu ?_ hd ?_ ?_ hpq (m_meet hpq).1 (m_meet hpq).2).symm
  · rw [day_meet, e3]; exact hday
  · rw [pe_meet, e2]; exact hp
  · rw [pe_meet, e2]; exact hq
/-- the class's loop of teachers -/
noncomputable def ftF (w : Wd) (d p : Nat) (q : Nat) (st : Option Nat × Int32) : Option Nat × Int32 := if q = p then st else tS (dtp p (nI q) (wE w p) w 101 d) (nI q) st
noncomputable def ftR (w : Wd) (d p n : Nat) : Option Nat × Int32 := lp (ftF w d p) (dtp p (-1) (wE w p) w 101 d, -1) n
def tOr (t : Int32) (st : Option Nat × Int32) : Option Nat × Int32 := (st.1, if st.1 = none then t else st.2)
theorem tS_or {v : Option Nat} {q t : Int32} {st : Option Nat × Int32} : tS v q (tOr t st) = tOr t (tS v q st) := by
  obtain ⟨a, x⟩ := st
  unfold tS tOr
  cases v with
  | none => rfl
  | some n =>
    cases a with
    | none => rfl
    | some b => dsimp only; split <;> rfl
theorem ft_tc {w : Wd} (hw : WOK w) {p d : Nat} {t : Int32} (hp : p < wPe w) (hday : wDay w = nI d) (hd : d ≤ 400) : ∀ n, n ≤ wPe w → lp (tcF w d p) (none, t) (n + 1) = tOr t (ftR w d p n)
  | 0, _ => by
    rw [lp_n, lp_0]
    unfold tcF ftR
    rw [lp_0, if_neg (by omega), if_pos rfl, tchQ_n hw hp hday hd]
    cases dtp p (-1) (wE w p) w 101 d <;> rfl
  | n + 1, hn => by
    have h8 := hw.2.1
    rw [lp_n, ft_tc hw hp hday hd n (by omega)]
    unfold ftR
    rw [lp_n]
    generalize lp (ftF w d p) _ n = st
    unfold tcF ftF
    by_cases e : n = p
    · rw [if_pos (by omega), if_pos e]
    · rw [if_neg (by omega), if_neg e, if_neg (by omega), show n + 1 - 1 = n by omega, tchQ_s hw hp (by omega) (fun z => e z.symm) hday hd, nI_pred, tS_or]

