/-! what comes out -/
theorem es1 {α : Type} {a r : α} (h : some a = some r) : a = r := Option.some.inj h
theorem es2 {α β : Type} {a r : α} {b s : β} (h : some (a, b) = some (r, s)) : a = r ∧ b = s := ⟨congrArg Prod.fst (Option.some.inj h), congrArg Prod.snd (Option.some.inj h)⟩
theorem es3 {α β γ : Type} {a r : α} {b s : β} {c t : γ} (h : some (a, b, c) = some (r, s, t)) : a = r ∧ b = s ∧ c = t := ⟨(es2 h).1, Prod.mk.inj (es2 h).2⟩
theorem es4 {α β γ δ : Type} {a r : α} {b s : β} {c t : γ} {d u : δ} (h : some (a, b, c, d) = some (r, s, t, u)) : a = r ∧ b = s ∧ c = t ∧ d = u := ⟨(es2 h).1, es3 (congrArg some (es2 h).2)⟩
