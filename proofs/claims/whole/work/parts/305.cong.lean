/-! pieces of rows and plays that nothing touches -/
section CG
variable {r r' : Nat → Int32} {σ σ' : St} {t a c : Nat}
theorem IPt.mo (h : IPt r) (e1 : r' 1 = r 1) (e3 : cn r 3 ≤ cn r' 3) (e : ∀ k, 10 ≤ k → k < 10 + 5 * cn r 1 → r' k = r k) : IPt r' := by
  intro p hp
  rw [cn_cong e1] at hp
  have h0 := e (10 + 5 * p) (by omega) (by omega)
  have h1 := e (11 + 5 * p) (by omega) (by omega)
  have h2 := e (12 + 5 * p) (by omega) (by omega)
  have h3 := e (13 + 5 * p) (by omega) (by omega)
  have h4 := e (14 + 5 * p) (by omega) (by omega)
  rw [cn_cong h0, cn_cong h1, cn_cong h2, cn_cong h3, cn_cong h4, h0, h1, h2, h3, h4]
  obtain ⟨g0, g1, g2, g3, g4⟩ := h p hp
  exact ⟨g0, g1, g2, g3, g4.imp id (fun q => ⟨q.1, by omega⟩)⟩
theorem IPt.cg (h : IPt r) (e1 : r' 1 = r 1) (e3 : r' 3 = r 3) (e : ∀ k, 10 ≤ k → k < 10 + 5 * cn r 1 → r' k = r k) : IPt r' := by
  intro p hp
  rw [cn_cong e1] at hp
  have h0 := e (10 + 5 * p) (by omega) (by omega)
  have h1 := e (11 + 5 * p) (by omega) (by omega)
  have h2 := e (12 + 5 * p) (by omega) (by omega)
  have h3 := e (13 + 5 * p) (by omega) (by omega)
  have h4 := e (14 + 5 * p) (by omega) (by omega)
  unfold cn
  rw [h0, h1, h2, h3, h4, e3]
  exact h p hp
theorem IEn.cg (h : IEn r) (e0 : r' 0 = r 0) (e1 : r' 1 = r 1) (e2 : r' 2 = r 2) (e : ∀ k, 60 ≤ k → k < 60 + 4 * cn r 2 → r' k = r k) : IEn r' := by
  intro p hp
  rw [cn_cong e2] at hp
  have h0 := e (60 + 4 * p) (by omega) (by omega)
  have h1 := e (61 + 4 * p) (by omega) (by omega)
  have h2 := e (62 + 4 * p) (by omega) (by omega)
  have h3 := e (63 + 4 * p) (by omega) (by omega)
  unfold cn
  rw [h0, h1, h2, h3, e0, e1]
  exact h p hp
theorem IDs.cg (h : IDs r) (e2 : r' 2 = r 2) (e : ∀ k, 60 ≤ k → k < 60 + 4 * cn r 2 → r' k = r k) : IDs r' := by
  intro p q hp hq hpq
  rw [cn_cong e2] at hp hq
  rw [cn_cong (e (60 + 4 * p) (by omega) (by omega)), cn_cong (e (61 + 4 * p) (by omega) (by omega)), cn_cong (e (62 + 4 * p) (by omega) (by omega)), cn_cong (e (60 + 4 * q) (by omega) (by omega)), cn_cong (e (61 + 4 * q) (by omega) (by omega)), cn_cong (e (62 + 4 * q) (by omega) (by omega))]
  exact h p q hp hq hpq
theorem IPl.cg (h : IPl r) (e3 : r' 3 = r 3) (e : ∀ k, 220 ≤ k → k < 220 + 3 * cn r 3 → r' k = r k) : IPl r' := by
  intro p hp
  rw [cn_cong e3] at hp
  have h0 := e (220 + 3 * p) (by omega) (by omega)
  have h1 := e (221 + 3 * p) (by omega) (by omega)
  unfold cn
  rw [h0, h1]
  exact h p hp
theorem ITp.cg (h : ITp r) (e4 : r' 4 = r 4) (e : ∀ k, 240 ≤ k → k < 240 + cn r 4 → r' k = r k) : ITp r' := by
  intro i hi
  rw [cn_cong e4] at hi
  have h0 := e (240 + i) (by omega) (by omega)
  unfold cn
  rw [h0]
  exact h i hi
theorem ITx.cg (h : ITx r) (e : ∀ k, 310 ≤ k → r' k = r k) : ITx r' := by
  intro u hu
  have e1 : (fun i => r' (311 + 52 * u + i)) = (fun i => r (311 + 52 * u + i)) := funext fun i => e _ (by omega)
  rw [e1, cn_cong (e (310 + 52 * u) (by omega)), e (310 + 52 * u) (by omega)]
  exact h u hu
theorem CSc.cg (h : CSc c r σ) (hs : ar σ' c = ar σ c) (e : ∀ k, k < 4 → r' k = r k) : CSc c r' σ' := by
  unfold CSc
  rw [hs, e 0 (by decide), e 1 (by decide), e 2 (by decide), e 3 (by decide)]
  exact h
theorem CTp.cg (h : CTp t r σ) (hs : ar σ' t = ar σ t ∧ ar σ' (t + 1) = ar σ (t + 1)) (e4 : r' 4 = r 4) (e : ∀ k, 240 ≤ k → k < 240 + cn r 4 → r' k = r k) : CTp t r' σ' := by
  refine ⟨by rw [hs.1, e4]; exact h.1, fun i hi => ?_⟩
  rw [cn_cong e4] at hi
  rw [hs.2, e (240 + i) (by omega) (by omega)]
  exact h.2 i hi
theorem CWt.cg (h : CWt t r σ) (hs : ar σ' (t + 2) = ar σ (t + 2) ∧ ar σ' (t + 3) = ar σ (t + 3)) (e5 : r' 5 = r 5) (e : ∀ k, 290 ≤ k → k < 290 + cn r 5 → r' k = r k) : CWt t r' σ' := by
  refine ⟨by rw [hs.1, e5]; exact h.1, fun i hi => ?_⟩
  rw [cn_cong e5] at hi
  rw [hs.2, e (290 + i) (by omega) (by omega)]
  exact h.2 i hi
theorem CTx.cg (h : CTx t r σ) (hs : ∀ k, t + 4 ≤ k → k ≤ t + 9 → ar σ' k = ar σ k) (e : ∀ k, 310 ≤ k → r' k = r k) : CTx t r' σ' := by
  intro u hu
  rw [hs (t + 4 + 2 * u) (by omega) (by omega), hs (t + 5 + 2 * u) (by omega) (by omega), e (310 + 52 * u) (by omega), cn_cong (e (310 + 52 * u) (by omega))]
  refine ⟨(h u hu).1, fun i hi => ?_⟩
  rw [e (311 + 52 * u + i) (by omega)]
  exact (h u hu).2 i hi
theorem CTo.cg (h : CTo a r σ) (hs : ar σ' (a + 1) = ar σ (a + 1)) (e1 : r' 1 = r 1) (e : ∀ k, 10 ≤ k → k < 10 + 5 * cn r 1 → r' k = r k) : CTo a r' σ' := by
  intro p hp
  rw [cn_cong e1] at hp
  rw [hs, e (14 + 5 * p) (by omega) (by omega)]
  exact h p hp
theorem RoleIs.cg {k p : Nat} (h : RoleIs σ k p r) (hr : ∀ k, 110 ≤ k → k < 110 + σ.1 → ar σ' k = ar σ k) (hn : σ.1 ≤ σ'.1) (e : ∀ j, 10 + 5 * p ≤ j → j ≤ 13 + 5 * p → r' j = r j) : RoleIs σ' k p r' := by
  have := h.ag hr hn
  unfold RoleIs
  rw [e (10 + 5 * p) (by omega) (by omega), e (11 + 5 * p) (by omega) (by omega), e (12 + 5 * p) (by omega) (by omega), e (13 + 5 * p) (by omega) (by omega)]
  exact this
theorem CRo.cg (h : CRo a r σ) (hs : ar σ' a = ar σ a) (hr : ∀ k, 110 ≤ k → k < 110 + σ.1 → ar σ' k = ar σ k) (hn : σ.1 ≤ σ'.1) (e1 : r' 1 = r 1) (e : ∀ p, p < cn r 1 → ∀ j, 10 + 5 * p ≤ j → j ≤ 13 + 5 * p → r' j = r j) : CRo a r' σ' := by
  intro p hp
  rw [cn_cong e1] at hp
  have e2 : rc σ' a p = rc σ a p := by rw [rc_ar, rc_ar, hs]
  rw [e2]
  exact (h p hp).cg hr hn (e p hp)
theorem CEn.cg (h : CEn a r σ) (hs : ∀ k, a + 2 ≤ k → k ≤ a + 5 → ar σ' k = ar σ k) (e2 : r' 2 = r 2) (e : ∀ k, 60 ≤ k → k < 60 + 4 * cn r 2 → r' k = r k) : CEn a r' σ' := by
  intro p hp
  rw [cn_cong e2] at hp
  rw [hs (a + 2) (by omega) (by omega), hs (a + 3) (by omega) (by omega), hs (a + 4) (by omega) (by omega), hs (a + 5) (by omega) (by omega), e (60 + 4 * p) (by omega) (by omega), e (61 + 4 * p) (by omega) (by omega), e (62 + 4 * p) (by omega) (by omega), e (63 + 4 * p) (by omega) (by omega)]
  exact h p hp
theorem CPl.cg (h : CPl a r σ) (hs : ∀ k, a + 6 ≤ k → k ≤ a + 8 → ar σ' k = ar σ k) (e3 : r' 3 = r 3) (e : ∀ k, 220 ≤ k → k < 220 + 3 * cn r 3 → r' k = r k) : CPl a r' σ' := by
  intro p hp
  rw [cn_cong e3] at hp
  rw [hs (a + 6) (by omega) (by omega), hs (a + 7) (by omega) (by omega), hs (a + 8) (by omega) (by omega), e (220 + 3 * p) (by omega) (by omega), e (221 + 3 * p) (by omega) (by omega), e (222 + 3 * p) (by omega) (by omega)]
  exact h p hp
end CG
def PC (k : Nat) : Prop := k = 1 ∨ (10 ≤ k ∧ k ≤ 18) ∨ (52 ≤ k ∧ k ≤ 61)
/-- only the play has changed -/
theorem CR.row {A : AS} {σ σ' : St} {r' : Nat → Int32} (h : CR A σ) (hp : CP 1 10 52 r' σ') (hu : ∀ k, ¬ PC k → k < 110 + σ.1 → ar σ' k = ar σ k) (hn : σ.1 ≤ σ'.1) (h10 : ∀ j, j < 10 → rc σ' 10 j < 110 + σ'.1) : CR (sR A r') σ' := by
  obtain ⟨_, h2, h3, h4, h5, h6, h7⟩ := h
  have hu2 : ∀ k, k < 110 → ¬ PC k → ar σ' k = ar σ k := fun k hk hq => hu k hq (by omega)
  refine ⟨hp, fun q => (h2 q).ag (hu2 2 (by decide) (by unfold PC; omega)) (fun k p q => hu2 k (by omega) (by unfold PC; omega)) (fun k p q => hu2 k (by omega) (by unfold PC; omega)) (fun k p q => hu k (by unfold PC; omega) q) hn, ?_, ?_, ?_, ?_, ?_⟩
  · rw [hu2 0 (by decide) (by unfold PC; omega)]; exact h3
  · rw [hu2 9 (by decide) (by unfold PC; omega)]; exact h4
  · unfold CTr; rw [hu2 74 (by decide) (by unfold PC; omega), hu2 75 (by decide) (by unfold PC; omega)]; exact h5
  · intro s hs; rw [hu2 8 (by decide) (by unfold PC; omega), hu2 (76 + 2 * s) (by omega) (by unfold PC; omega), hu2 (77 + 2 * s) (by omega) (by unfold PC; omega)]; exact h6 s hs
  · unfold CSl
    refine ⟨fun j hj => ⟨h10 j hj, ?_⟩, ?_⟩
    · rw [rc_ar, hu2 20 (by decide) (by unfold PC; omega)]
      exact Nat.lt_of_lt_of_le (h7.1 j hj).2 (by omega)
    · rw [rc_ar, rc_ar, hu2 4 (by decide) (by unfold PC; omega), hu2 5 (by decide) (by unfold PC; omega)]
      exact h7.2
theorem CR.row' {A : AS} {σ σ' : St} {r' : Nat → Int32} (h : CR A σ) (hp : CP 1 10 52 r' σ') (hu : ∀ k, ¬ PC k → k < 110 + σ.1 → ar σ' k = ar σ k) (hn : σ'.1 = σ.1) (h10 : ar σ' 10 = ar σ 10) : CR (sR A r') σ' :=
  h.row hp hu (by rw [hn]; exact Nat.le_refl _) (fun j hj => by rw [rc_ar, h10, hn]; exact (h.2.2.2.2.2.2.1 j hj).1)
/-- only the model's row has changed -/
theorem MR.row {A : AS} {σ σ' : St} {r' : Nat → Int32} (h : MR A σ) (hr : ar σ' 84 = r') (hu : ∀ k, k = 85 ∨ k = 86 ∨ k = 105 ∨ k = 106 ∨ k = 107 ∨ k = 108 → ar σ' k = ar σ k) (h2 : ar σ' 6 2 = ar σ 6 2) (h27 : ar σ' 6 27 = ar σ 6 27) (hl : ar σ' 6 4 = 0 ∨ (ar σ' 6 4 = 1 ∧ Laid r' (ar σ' 87) (ar σ' 88) (ar σ' 89))) : MR (sR A r') σ' := by
  obtain ⟨_, g2, g3, g4, g5, g6, g7, g8, g9, _⟩ := h
  unfold MR
  rw [hu 85 (by omega), hu 86 (by omega), hu 105 (by omega), hu 106 (by omega), hu 107 (by omega), hu 108 (by omega), h2, h27]
  exact ⟨hr, g2, g3, g4, g5, g6, g7, g8, g9, hl⟩
/-- what two parts are stays as it was laid -/
theorem MR.lay {A : AS} {σ σ' : St} {r' : Nat → Int32} (h : MR A σ) (hs : SmB (aR A) r') (hu : ∀ k, k = 87 ∨ k = 88 ∨ k = 89 → ar σ' k = ar σ k) (h4 : ar σ' 6 4 = ar σ 6 4) : ar σ' 6 4 = 0 ∨ (ar σ' 6 4 = 1 ∧ Laid r' (ar σ' 87) (ar σ' 88) (ar σ' 89)) := by
  rw [hu 87 (by omega), hu 88 (by omega), hu 89 (by omega), h4]
  rcases h.2.2.2.2.2.2.2.2.2 with q | ⟨q, hl⟩
  · exact Or.inl q
  · exact Or.inr ⟨q, hl.cong hs⟩
theorem Inv.row {A : AS} {r' : Nat → Int32} (h : Inv A) (hr : IR r') : Inv (sR A r') := ⟨hr, h.2.1, h.2.2.1, h.2.2.2⟩
