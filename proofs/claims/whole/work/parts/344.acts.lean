/-! an act, from what holds to what holds -/
section RA
theorem Rl.op {σ : St} {f11 f12 : St → Option (Int32 × St)} (h : Rl σ) (H : ∀ A, Inv A → CR A σ → MR A σ → Opn A σ f11 f12) : ∃ x σ1 σ2, f11 σ = some (x, σ1) ∧ f12 σ1 = some (x, σ2) ∧ Rl σ2 ∧ σ2.1 ≤ σ.1 + 1 := by
  obtain ⟨A, h1, h2, h3⟩ := h
  obtain ⟨x, A', σ1, σ2, e1, e2, i1, i2, i3, i4⟩ := H A h1 h2 h3
  exact ⟨x, σ1, σ2, e1, e2, ⟨A', i1, i2, i3⟩, i4⟩
theorem Rl.opL {σ : St} {f11 f12 : St → Option (Int64 × St)} (h : Rl σ) (H : ∀ A, Inv A → CR A σ → MR A σ → OpnL A σ f11 f12) : ∃ x σ1 σ2, f11 σ = some (x, σ1) ∧ f12 σ1 = some (x, σ2) ∧ Rl σ2 ∧ σ2.1 ≤ σ.1 + 1 := by
  obtain ⟨A, h1, h2, h3⟩ := h
  obtain ⟨x, A', σ1, σ2, e1, e2, i1, i2, i3, i4⟩ := H A h1 h2 h3
  exact ⟨x, σ1, σ2, e1, e2, ⟨A', i1, i2, i3⟩, i4⟩
theorem Rl.crowd {σ : St} (h : Rl σ) : ∃ x, f_X11_crowd σ = some x ∧ f_X12_crowd σ = some x := by
  obtain ⟨A, h1, h2, h3⟩ := h
  exact op_crowd h1 h2 h3
end RA
