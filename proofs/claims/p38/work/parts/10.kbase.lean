abbrev inb (i : Int32) (n : Nat) : Prop := ¬ (i < 0 ∨ n ≤ i.toNatClampNeg)
def FU : Nat := 300
def lt {α β : Type _} (x : α) (f : α → β) : β := f x
theorem ltS {α β : Type _} {x : α} {f : α → β} {z : β} (e : lt x f = z) : ∃ y, y = x ∧ f y = z := ⟨x, rfl, e⟩
theorem nb0 : narrow .boolean (.int 0) = .int 0 := by decide
theorem nb1 : narrow .boolean (.int 1) = .int 1 := by decide
