/-! the start -/
section ST
/-- what holds between the two, some play being meant -/
def Rl (σ : St) : Prop := ∃ A, Inv A ∧ CR A σ ∧ MR A σ
/-- the memory that the makers leave -/
def Fresh (σ : St) : Prop := (ar σ 84 0 = 100) ∧ (∀ k, k = 1 ∨ k = 2 ∨ k = 3 ∨ k = 4 ∨ k = 5 ∨ k = 310 ∨ k = 362 ∨ k = 414 → ar σ 84 k = 0) ∧ (ar σ 6 2 = 0 ∧ ar σ 6 4 = 0 ∧ ar σ 6 27 = 0) ∧ (∀ s, s < 4 → ar σ 106 s = 0 ∧ ar σ 107 s = 0) ∧ (ar σ 1 0 = 100 ∧ ar σ 1 1 = 0 ∧ ar σ 1 2 = 0 ∧ ar σ 1 3 = 0) ∧ (∀ k, k = 52 ∨ k = 54 ∨ k = 56 ∨ k = 58 ∨ k = 60 ∨ k = 74 ∨ k = 76 ∨ k = 78 ∨ k = 80 ∨ k = 82 → ar σ k 1 = 0) ∧ (ar σ 0 9 = 0) ∧ (∀ k, k < 6 → ar σ 9 k = ar σ 86 k) ∧ (∀ s, s < 4 → ar σ 8 s = 0 ∧ ∀ i, i < 24 → ar σ (77 + 2 * s) i = ar σ 108 (24 * s + i)) ∧ ((∀ j, j < 10 → rc σ 10 j < 110 + σ.1 ∧ rc σ 20 j < 110 + σ.1) ∧ isLeast (rc σ 4 9) = true ∧ isRow (rc σ 5 1) = true)
theorem Fresh.rl {σ : St} (h : Fresh σ) : Rl σ := by
  obtain ⟨hm0, hm1, hm6, hms, hc1, hcr, hc0, hce, hcs, hcl⟩ := h
  have z : ∀ k, k = 1 ∨ k = 2 ∨ k = 3 ∨ k = 4 ∨ k = 5 ∨ k = 310 ∨ k = 362 ∨ k = 414 → ar σ 84 k = nI 0 := fun k hk => hm1 k hk
  have cz : ∀ k, k = 1 ∨ k = 2 ∨ k = 3 ∨ k = 4 ∨ k = 5 ∨ k = 310 ∨ k = 362 ∨ k = 414 → cn (ar σ 84) k = 0 := fun k hk => cn_nI (z k hk) (by omega)
  have z1 := cz 1 (by omega)
  have z2 := cz 2 (by omega)
  have z3 := cz 3 (by omega)
  have z4 := cz 4 (by omega)
  have z5 := cz 5 (by omega)
  have zu : ∀ u, u < 3 → cn (ar σ 84) (310 + 52 * u) = 0 ∧ ar σ 84 (310 + 52 * u) = nI 0 := fun u hu => by
    have : u = 0 ∨ u = 1 ∨ u = 2 := by omega
    rcases this with rfl | rfl | rfl
    · exact ⟨cz 310 (by omega), z 310 (by omega)⟩
    · exact ⟨cz 362 (by omega), z 362 (by omega)⟩
    · exact ⟨cz 414 (by omega), z 414 (by omega)⟩
  have hIR : IR (ar σ 84) := by
    refine ⟨ICn.of (L := 100) (np := 0) (ne := 0) (ny := 0) (nt := 0) (nw := 0) hm0 (by omega) (z 1 (by omega)) (by omega) (z 2 (by omega)) (by omega) (z 3 (by omega)) (by omega) (z 4 (by omega)) (by omega) (z 5 (by omega)) (by omega), fun p hp => ?_, ?_, ?_, fun y hy => ?_, fun i hi => ?_, fun u hu => ?_⟩
    · rw [z1] at hp; omega
    · intro e he; rw [z2] at he; omega
    · intro e f he; rw [z2] at *; omega
    · rw [z3] at hy; omega
    · rw [z4] at hi; omega
    · rw [(zu u hu).1]; exact ⟨(zu u hu).2, by omega, Or.inl rfl⟩
  refine ⟨(ar σ 84, ar σ 85, ar σ 6 2, ar σ 86, (ar σ 6 27, ar σ 105), ar σ 106, ar σ 107, ar σ 108), ⟨hIR, fun q => absurd hm6.1 q, ⟨0, by omega, hm6.2.2⟩, fun s hs => ?_⟩, ⟨⟨?_, ?_, ?_, fun u hu => ?_, ?_, ?_, ?_, ?_⟩, fun q => absurd hm6.1 q, ?_, hce, ?_, fun s hs => ?_, hcl⟩, ⟨rfl, rfl, rfl, rfl, rfl, rfl, rfl, rfl, rfl, Or.inl hm6.2.1⟩⟩
  · obtain ⟨h1, h2⟩ := hms s hs
    have h2' : ar σ 107 s = nI 0 := h2
    refine ⟨Or.inl h1, ?_, ?_⟩
    · show ar σ 107 s = nI (cn (ar σ 107) s)
      rw [cn_nI h2' (by omega)]; exact h2'
    · show cn (ar σ 107) s ≤ 24
      rw [cn_nI h2' (by omega)]; omega
  · exact ⟨hc1.1.trans hm0.symm, hc1.2.1.trans (hm1 1 (by omega)).symm, hc1.2.2.1.trans (hm1 2 (by omega)).symm, hc1.2.2.2.trans (hm1 3 (by omega)).symm⟩
  · exact ⟨(hcr 52 (by omega)).trans (hm1 4 (by omega)).symm, fun i hi => by have hi' : i < cn (ar σ 84) 4 := hi; omega⟩
  · exact ⟨(hcr 54 (by omega)).trans (hm1 5 (by omega)).symm, fun i hi => by have hi' : i < cn (ar σ 84) 5 := hi; omega⟩
  · refine ⟨(hcr (52 + 4 + 2 * u) (by omega)).trans (zu u hu).2.symm, fun i hi => ?_⟩
    have hi' : i < cn (ar σ 84) (310 + 52 * u) := hi
    have := (zu u hu).1
    omega
  · intro p hp; have hp' : p < cn (ar σ 84) 1 := hp; omega
  · intro p hp; have hp' : p < cn (ar σ 84) 1 := hp; omega
  · intro p hp; have hp' : p < cn (ar σ 84) 2 := hp; omega
  · intro p hp; have hp' : p < cn (ar σ 84) 3 := hp; omega
  · exact hc0.trans hm6.1.symm
  · refine ⟨(hcr 74 (by omega)).trans hm6.2.2.symm, fun i hi => ?_⟩
    have hi' : i < (ar σ 6 27).toNatClampNeg := hi
    rw [hm6.2.2] at hi'
    exact absurd hi' (Nat.not_lt_zero i)
  · obtain ⟨h1, h2⟩ := hcs s hs
    obtain ⟨h3, h4⟩ := hms s hs
    exact ⟨h1.trans h3.symm, (hcr (76 + 2 * s) (by omega)).trans h4.symm, h2⟩
end ST
