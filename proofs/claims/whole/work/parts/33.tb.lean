/-- a call that may throw: what was thrown, or what is answered -/
def tb {α β γ : Type} (o : Option (α ⊕ β)) (kx : α → Option γ) (k : β → Option γ) : Option γ := o.bind (fun u => match u with | .inl x => kx x | .inr v => k v)
theorem tb_el {α β γ : Type} {o : Option (α ⊕ β)} {kx : α → Option γ} {k : β → Option γ} {r : γ} (h : tb o kx k = some r) : (∃ x, o = some (.inl x) ∧ kx x = some r) ∨ ∃ v, o = some (.inr v) ∧ k v = some r := by
  obtain ⟨u, h1, h2⟩ := Option.bind_eq_some_iff.mp h
  cases u with
  | inl x => exact Or.inl ⟨x, h1, h2⟩
  | inr v => exact Or.inr ⟨v, h1, h2⟩
