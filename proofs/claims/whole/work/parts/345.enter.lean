/-! from the list of cells to the memory -/
section VI
theorem V_in {X : Xx} {G : Gx} {nL cells slots pc p q : Nat} {a b : Nat → Nat} {lv : List (Nat × Value)} {st : List Value} (k : V X (gIn G p q a b) nL cells slots σi pc lv st) : VL X G nL cells slots (wIn G p q a b) pc lv st := fun H locs ls hP hD hS hl =>
  k H locs ls ⟨hP.sub ixL (wi_fm G p q a b), hD.sub ixL ixL_nd (wi_map G p q a b), hS⟩ hl
end VI
