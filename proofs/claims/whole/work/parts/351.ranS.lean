/-! a call that may make a role: the addresses of the fixed cells stay -/
section LP
variable {X : Xx} {G : Gx} {cc : ByteArray} {own : String} {nL d cells slots pc : Nat} {σ : St} {lv : List (Nat × Value)} {rest : List Value}
theorem Gsim.gA {G G2 : Gx} (h : Gsim G G2) : gA G2 = gA G := by
  have : gh G2 = gh G := by show G2.2.2.2.1 = G.2.2.2.1; rw [h.2.2.1]
  show (fun q => gh G2 ≤ q) = fun q => gh G ≤ q
  rw [this]
theorem V_ranS {σ0 : St} {r0 : Int32} {st0 : List Value} {a : Array Value} (k : ∀ G2 : Gx, Gsim G G2 → V X G2 nL (cells + 1) (slots + 5) σ0 (pc + 3) lv (.int r0 :: rest)) {H : Heap} {locs : List Loc} {ls : Array Slot} (hH : Hd G σ (xs X).heap H locs) (hl : lv_has ls nL lv)
    (hr : va_Run X.1 X.2.1 X.2.2.1 (xR X) (xs X) (xm X) (xa X) (xb X) (xM X) (xc X) H locs cells slots 1 5 (F0 (xm X) pc ls st0) rest ((fun (_ : Array Value) (st : State) (oc : Outcome) (t : State) => oc = .returned (some (.int r0)) ∧ ∃ G2, Gsim G G2 ∧ Wq G2 σ0 st t) a) (gA G)) :
    W X.1 X.2.1 X.2.2.1 (xR X) (xs X) (xm X) (xa X) (xb X) (xM X) (xc X) H locs cells slots X.2.2.2.2.2.2.2.2.2.2 (F0 (xm X) pc ls st0) := by
  intro T hT Y
  obtain ⟨v, st₀, t, T', L, h0, Y', hL, e1, e2, ⟨hv, G2, hs, hP1, hD1, hF⟩, st⟩ := hr T hT Y
  rw [hs.gA] at hF
  obtain ⟨hz, hk⟩ := hF
  cases hv
  rw [h0] at hz hk
  have hS := hH.2.2
  obtain ⟨t2, a1, b1⟩ := k G2 hs T'.heap (locs ++ L) ls ⟨by rw [e1]; exact hP1, hD1, by
    rw [hs.gA]
    exact ⟨Nat.le_trans hS.1 (by rw [e1]; exact hz), fun z h1 h2 => by rw [e1, hk z (Nat.lt_of_lt_of_le h1 hS.1) h2]; exact hS.2.1 z h1 h2, fun z hq => by
      rcases List.mem_append.mp hq with h | h
      · exact hS.2.2 z h
      · exact hL z h⟩⟩ hl T' rfl Y'
  exact ⟨t2, st t2 a1, b1⟩
end LP
