/-! ===== the word on arrays of int arrays, on machines that are alike ===== -/
def rrI (U : State) : Prop := ∀ A : Array Value, (Cond.arrayOver (.array .int)).before A U = true
/-- the word has one value on both machines: it asks for names, for a number by kind, and for a kind alone -/
theorem rr_same {u U : State} (hvm : u.vm.Alike U.vm) (A : Array Value) : (Cond.arrayOver (.array .int)).before A U = (Cond.arrayOver (.array .int)).before A u := by
  simp only [Cond.before, Cond.holds, Cond.value, hvm.findClass]
  cases u.vm.findClass (FieldType.array .int).toString with
  | none => rfl
  | some comp =>
    simp only [Option.bind_some]
    rw [hvm.findIdx_congr _ (fun _ _ _ _ => rfl)]
    generalize u.vm.classes.findIdx? _ = o
    cases o with
    | none => rfl
    | some c =>
      simp only [Option.bind_some]
      rw [hvm.class_map _ (fun _ _ _ _ => rfl)]
theorem rrI.moved {u U : State} (hvm : u.vm.Alike U.vm) (h : rrI u) : rrI U := fun A => (rr_same hvm A).trans (h A)
