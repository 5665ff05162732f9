/-! commands: undo -/
variable {T : TS} {G : GB}
theorem obs {α β : Type} (a : α) (f : α → Option β) : (some a).bind f = f a := Eq.trans rfl rfl
