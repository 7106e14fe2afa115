/-! the law: what it loads of its script -/
section LW
variable {X : Xx} {G : Gx} {cc : ByteArray} {own : String} {nL d cells slots pc : Nat} {σ : St} {lv : List (Nat × Value)} {rest : List Value} {b L : Nat} {ys : Nat → Int32}
def Scr (X : Xx) (G : Gx) (b L : Nat) (ys : Nat → Int32) : Prop := va_X b L ys (xs X) (xs X).heap ∧ b < (xs X).heap.size ∧ ¬ gA G b
theorem V_sld (C : Ck X G cc own nL d) (S : Scr X G b L ys) {i : Int32} (hin : vp_in i L) (hd : decode cc pc = .ok (.iaload, 1)) (k : V X G nL cells slots σ (pc + 1) lv (.int (ys i.toNatClampNeg) :: rest)) : V X G nL cells slots σ pc lv (.int i :: .ref b :: rest) := fun H locs ls hH hl =>
  va_sld C.1 C.2.1 S.1 S.2.1 S.2.2 hH.2.2 hin hd (k H locs ls hH hl)
theorem V_sln (C : Ck X G cc own nL d) (S : Scr X G b L ys) (hd : decode cc pc = .ok (.arraylength, 1)) (k : V X G nL cells slots σ (pc + 1) lv (.int (Int32.ofNat L) :: rest)) : V X G nL cells slots σ pc lv (.ref b :: rest) := fun H locs ls hH hl =>
  va_slen C.1 C.2.1 S.1 S.2.1 S.2.2 hH.2.2 hd (k H locs ls hH hl)
/-- the law's locals at the head of its loop -/
def lvL (G : Gx) (b i : Nat) : List (Nat × Value) := [(0, .ref b), (1, .ref (ga G 0)), (2, .ref (ga G 6)), (3, .int (nI i))]
theorem V_scr (C : Ck X G cc own nL d) (S : Scr X G b L ys) {i : Nat} {n : Int} (j : Nat) (hn : Int32.ofInt n = nI j) (hij : i + j < L) (hL : L ≤ 3072) (h0 : decode cc pc = .ok (.aload_n 0, 1)) (h1 : decode cc (pc + 1) = .ok (.iload_n 3, 1)) (h2 : decode cc (pc + 2) = .ok (.iconst n, 1)) (h3 : decode cc (pc + 3) = .ok (.iadd, 1)) (h4 : decode cc (pc + 4) = .ok (.iaload, 1)) (k : V X G nL cells slots σ (pc + 5) (lvL G b i) (.int (ys (i + j)) :: rest)) : V X G nL cells slots σ pc (lvL G b i) rest := by
  refine V_aload_n C (n := 0) (i := 0) h0 0 rfl rfl ?_
  refine V_iload_n C (n := 3) (i := 3) h1 3 rfl rfl ?_
  refine V_iconst C (nI j) h2 hn ?_
  refine V_iadd C h3 ?_
  rw [nI_add]
  refine V_sld C S (fun q => ?_) h4 ?_
  · rcases q with q | q
    · exact nI_nlt (b := 0) (by omega) (by omega) q
    · rw [nI_clamp (by omega)] at q; omega
  · rw [nI_clamp (by omega)]
    exact k
end LW
