theorem lt110 {σ : St} {k : Nat} (h : Nat.blt k 110 = true) : k < 110 + σ.1 := Nat.lt_of_lt_of_le (Nat.le_of_ble_eq_true h) (Nat.le_add_right _ _)
theorem isRow_lt {σ : St} {k : Nat} (h : isRow k = true) : k < 110 + σ.1 := by have := of_decide_eq_true h; omega
theorem isRowA_lt {σ : St} {k : Nat} (h : isRow k = true) : k + 1 < 110 + σ.1 := by have := of_decide_eq_true h; omega
theorem isLeast_lt {σ : St} {k : Nat} (h : isLeast k = true) : k < 110 + σ.1 := by have := of_decide_eq_true h; omega
def isSingle (k : Nat) : Bool := decide (40 ≤ k ∧ k < 46)
theorem isSingle_lt {σ : St} {k : Nat} (h : isSingle k = true) : k < 110 + σ.1 := by have := of_decide_eq_true h; omega
theorem lay_single (G : Gx) {k : Nat} (h : isSingle k = true) (f : Nat → Int32) (w : Nat → Int64) : lay G k f w = .inl (gc G 0, 10, .inl f) := by
  obtain ⟨h1, h2⟩ := of_decide_eq_true h
  have h3 : k = 40 ∨ k = 41 ∨ k = 42 ∨ k = 43 ∨ k = 44 ∨ k = 45 := by omega
  rcases h3 with rfl | rfl | rfl | rfl | rfl | rfl <;> rfl
def isIA (k : Nat) : Bool := decide (7 < k ∧ k < 110 ∧ k ≠ 10 ∧ k ≠ 19 ∧ k ≠ 20 ∧ k ≠ 29 ∧ k ≠ 36 ∧ k ≠ 38 ∧ k ≠ 98 ∧ k ≠ 101 ∧ ¬ (52 ≤ k ∧ k < 84 ∧ k % 2 = 0))
theorem isIA_lt {σ : St} {k : Nat} (h : isIA k = true) : k < 110 + σ.1 := Nat.lt_of_lt_of_le (of_decide_eq_true h).2.1 (Nat.le_add_right _ _)
theorem lay_IA (G : Gx) {k : Nat} (h : isIA k = true) (f : Nat → Int32) (w : Nat → Int64) : lay G k f w = .inl (gc G 0, alen k, .inl f) := by
  obtain ⟨h1, h2, h3, h4, h5, h6, h7, h8, h9, h10, h11⟩ := of_decide_eq_true h
  unfold lay
  split <;> first | contradiction | exact absurd h1 (by decide) | skip
  rw [if_pos h2, if_neg h11]
def isB (v : Int32) : Bool := decide (v = 0 ∨ v = 1)
theorem isB_n {v : Int32} (h : isB v = true) : narrow .boolean (.int v) = .int v := by
  rcases of_decide_eq_true h with rfl | rfl <;> rfl
theorem isB_f {v : Int32} (h : isB v = true) : fits .boolean (.int v) = true := by
  rcases of_decide_eq_true h with rfl | rfl <;> rfl
theorem ncl_nI {v : Nat} (hv : v < 2 ^ 31) : (nI v).toNatClampNeg = v := nI_clamp hv
theorem lay_ref4 {G : Gx} {σ : St} {v : Nat} (hv : v < 2 ^ 31) : lay G 4 (upd (σ.2.1 4) 9 (nI v)) σ.2.2 = .inr (8, [.ref (ga G 1), .ref (ga G 3), .ref (ga G 33), .ref (ga G 34), .ref (ga G 35), .int (σ.2.1 4 5), .ref (ga G 36), .ref (ga G 37), .ref (ga G 38), .ref (ga G v), .ref (ga G 39), .int (σ.2.1 4 11), .int (σ.2.1 4 12), .int (σ.2.1 4 13)]) := by
  show Sum.inr (8, [_, _, _, _, _, _, _, _, _, Value.ref (ga G (nI v).toNatClampNeg), _, _, _, _]) = _
  rw [nI_clamp hv]
  rfl
theorem lay_ref5 {G : Gx} {σ : St} {v : Nat} (hv : v < 2 ^ 31) : lay G 5 (upd (σ.2.1 5) 1 (nI v)) σ.2.2 = .inr (5, [.ref (ga G 72), .ref (ga G v), .ref (gs G (σ.2.1 5 2).toNatClampNeg), .int (σ.2.1 5 3), .int (σ.2.1 5 4)]) := by
  show Sum.inr (5, [_, Value.ref (ga G (nI v).toNatClampNeg), _, _, _]) = _
  rw [nI_clamp hv]
  rfl
theorem lay_ref6 {G : Gx} {σ : St} {v : Nat} (hv : v < 2 ^ 31) : lay G 5 (upd (σ.2.1 5) 2 (nI v)) σ.2.2 = .inr (5, [.ref (ga G 72), .ref (ga G (σ.2.1 5 1).toNatClampNeg), .ref (gs G v), .int (σ.2.1 5 3), .int (σ.2.1 5 4)]) := by
  show Sum.inr (5, [_, _, Value.ref (gs G (nI v).toNatClampNeg), _, _]) = _
  rw [nI_clamp hv]
  rfl
theorem lt31 {v : Nat} (h : Nat.blt v (2 ^ 31) = true) : v < 2 ^ 31 := Nat.le_of_ble_eq_true h
def nm {α β : Type} (x : α) (k : α → Option β) : Option β := k x
theorem nm_s {α β : Type} {x : α} {k : α → Option β} {z : β} (h : nm x k = some z) : ∃ y, y = x ∧ k y = some z := ⟨x, rfl, h⟩
theorem pin2 {α β : Type} {a c : α} {b d : β} (h : some (a, b) = some (c, d)) : a = c ∧ b = d := Prod.mk.inj (Option.some.inj h)
theorem z0 {X : Xx} : 0 ≤ (xR X).cells ∧ 0 ≤ (xR X).slots := ⟨Nat.zero_le _, Nat.zero_le _⟩
theorem inb_lt {i : Int32} {n : Nat} (h : inb i n = true) : i.toNatClampNeg < n := Nat.not_le.mp fun q => inb_in h (Or.inr q)
theorem ok_7 {i : Int32} (h : inb i 4 = true) : isRow (76 + 2 * i.toNatClampNeg) = true := by have := inb_lt h; exact decide_eq_true (by omega)
theorem ok_19 {i : Int32} (h : inb i 3 = true) : isRow (56 + 2 * i.toNatClampNeg) = true := by have := inb_lt h; exact decide_eq_true (by omega)
theorem ok_29 {i : Int32} (h : inb i 3 = true) : isRow (66 + 2 * i.toNatClampNeg) = true := by have := inb_lt h; exact decide_eq_true (by omega)
theorem ok_36 {i : Int32} (h : inb i 6 = true) : isSingle (40 + i.toNatClampNeg) = true := by have := inb_lt h; exact decide_eq_true (by omega)
theorem ok_38 {i : Int32} (h : inb i 6 = true) : isLeast (46 + i.toNatClampNeg) = true := by have := inb_lt h; exact decide_eq_true (by omega)
section VW
variable {X : Xx} {G : Gx} {cc : ByteArray} {own : String} {nL d cells slots pc : Nat} {σ : St} {lv : List (Nat × Value)} {rest : List Value}
theorem V_st {σ1 σx : St} {pc' : Nat} {lv' : List (Nat × Value)} {st' st : List Value} (e : σ1 = σx) (k : V X G nL cells slots σ1 pc' lv' st') (r : V X G nL cells slots σx pc' lv' st' → V X G nL cells slots σ pc lv st) : V X G nL cells slots σ pc lv st := by
  subst e
  exact r k
theorem V_nmi {x y : Int32} (e : y = x) (k : V X G nL cells slots σ pc lv (.int y :: rest)) : V X G nL cells slots σ pc lv (.int x :: rest) := by
  subst e
  exact k
theorem V_nml {x y : Int64} (e : y = x) (k : V X G nL cells slots σ pc lv (.long y :: rest)) : V X G nL cells slots σ pc lv (.long x :: rest) := by
  subst e
  exact k
theorem V_ldcw (C : Ck X G cc own nL d) {index : Nat} (v : Int32) (hd : decode cc pc = .ok (.ldc_w index, 3)) (hc : Cond.constant own index v ∈ gtb) (k : V X G nL cells slots σ (pc + 3) lv (.int v :: rest)) : V X G nL cells slots σ pc lv rest := fun H locs ls hH hl => lv_ldcw C.1 C.2.1 C.2.2.2.1 (C.2.2.2.2.1 _ hc) hd (k H locs ls hH hl)
theorem V_tin (C : Ck X G cc own nL d) {dflt lo hi off : Int} {offs : Array Int} {len : Nat} {x : Int32} (n tgt : Nat) (hd : decode cc pc = .ok (.tableswitch dflt lo hi offs, len)) (hx : x.toInt = lo + n ∧ lo + n ≤ hi) (ho : offs[n]? = some off) (ht : (pc : Int) + off = (tgt : Int)) (k : V X G nL cells slots σ tgt lv rest) : V X G nL cells slots σ pc lv (.int x :: rest) := fun H locs ls hH hl =>
  lv_tableIn C.1 C.2.1 hd (by omega) (by omega) (by rw [show (x.toInt - lo).toNat = n by omega]; exact ho) ht (k H locs ls hH hl)
theorem V_tout (C : Ck X G cc own nL d) {dflt lo hi : Int} {offs : Array Int} {len : Nat} {x : Int32} (tgt : Nat) (hd : decode cc pc = .ok (.tableswitch dflt lo hi offs, len)) (hx : x.toInt < lo ∨ hi < x.toInt) (ht : (pc : Int) + dflt = (tgt : Int)) (k : V X G nL cells slots σ tgt lv rest) : V X G nL cells slots σ pc lv (.int x :: rest) := fun H locs ls hH hl =>
  lv_tableOut C.1 C.2.1 hd hx ht (k H locs ls hH hl)
theorem V_lkp (C : Ck X G cc own nL d) {dflt off : Int} {ps : Array (Int × Int)} {len : Nat} {x : Int32} (tgt : Nat) (hd : decode cc pc = .ok (.lookupswitch dflt ps, len)) (hp : (ps.toList.zip (ps.toList.drop 1)).all (fun (a, next) => a.1 < next.1) = true) (ho : Op.lookupswitch.offset ps.toList dflt x.toInt = off) (ht : (pc : Int) + off = (tgt : Int)) (k : V X G nL cells slots σ tgt lv rest) : V X G nL cells slots σ pc lv (.int x :: rest) := fun H locs ls hH hl =>
  lv_lookup C.1 C.2.1 hd hp ho ht (k H locs ls hH hl)
theorem V_aa7 (C : Ck X G cc own nL d) {i : Int32} (hin : inb i 4 = true) (hd : decode cc pc = .ok (.aaload, 1)) (k : V X G nL cells slots σ (pc + 1) lv (.ref (ga G (76 + 2 * i.toNatClampNeg)) :: rest)) : V X G nL cells slots σ pc lv (.int i :: .ref (ga G 7) :: rest) := V_aald C (K := 7) (t := 4) (ty := .object "FivePlayers$Row") (lt110 rfl) rfl rfl rfl hin (if_pos (inb_lt hin)) hd k
theorem V_aa7_0 (C : Ck X G cc own nL d) (hd : decode cc pc = .ok (.aaload, 1)) (k : V X G nL cells slots σ (pc + 1) lv (.ref (ga G 76) :: rest)) : V X G nL cells slots σ pc lv (.int 0 :: .ref (ga G 7) :: rest) := V_aald C (K := 7) (t := 4) (ty := .object "FivePlayers$Row") (lt110 rfl) rfl rfl rfl (by decide +kernel) rfl hd k
theorem V_aa7_1 (C : Ck X G cc own nL d) (hd : decode cc pc = .ok (.aaload, 1)) (k : V X G nL cells slots σ (pc + 1) lv (.ref (ga G 78) :: rest)) : V X G nL cells slots σ pc lv (.int 1 :: .ref (ga G 7) :: rest) := V_aald C (K := 7) (t := 4) (ty := .object "FivePlayers$Row") (lt110 rfl) rfl rfl rfl (by decide +kernel) rfl hd k
theorem V_aa7_2 (C : Ck X G cc own nL d) (hd : decode cc pc = .ok (.aaload, 1)) (k : V X G nL cells slots σ (pc + 1) lv (.ref (ga G 80) :: rest)) : V X G nL cells slots σ pc lv (.int 2 :: .ref (ga G 7) :: rest) := V_aald C (K := 7) (t := 4) (ty := .object "FivePlayers$Row") (lt110 rfl) rfl rfl rfl (by decide +kernel) rfl hd k
theorem V_aa7_3 (C : Ck X G cc own nL d) (hd : decode cc pc = .ok (.aaload, 1)) (k : V X G nL cells slots σ (pc + 1) lv (.ref (ga G 82) :: rest)) : V X G nL cells slots σ pc lv (.int 3 :: .ref (ga G 7) :: rest) := V_aald C (K := 7) (t := 4) (ty := .object "FivePlayers$Row") (lt110 rfl) rfl rfl rfl (by decide +kernel) rfl hd k
theorem V_aa19 (C : Ck X G cc own nL d) {i : Int32} (hin : inb i 3 = true) (hd : decode cc pc = .ok (.aaload, 1)) (k : V X G nL cells slots σ (pc + 1) lv (.ref (ga G (56 + 2 * i.toNatClampNeg)) :: rest)) : V X G nL cells slots σ pc lv (.int i :: .ref (ga G 19) :: rest) := V_aald C (K := 19) (t := 4) (ty := .object "FivePlayers$Row") (lt110 rfl) rfl rfl rfl hin (if_pos (inb_lt hin)) hd k
theorem V_aa19_0 (C : Ck X G cc own nL d) (hd : decode cc pc = .ok (.aaload, 1)) (k : V X G nL cells slots σ (pc + 1) lv (.ref (ga G 56) :: rest)) : V X G nL cells slots σ pc lv (.int 0 :: .ref (ga G 19) :: rest) := V_aald C (K := 19) (t := 4) (ty := .object "FivePlayers$Row") (lt110 rfl) rfl rfl rfl (by decide +kernel) rfl hd k
theorem V_aa19_1 (C : Ck X G cc own nL d) (hd : decode cc pc = .ok (.aaload, 1)) (k : V X G nL cells slots σ (pc + 1) lv (.ref (ga G 58) :: rest)) : V X G nL cells slots σ pc lv (.int 1 :: .ref (ga G 19) :: rest) := V_aald C (K := 19) (t := 4) (ty := .object "FivePlayers$Row") (lt110 rfl) rfl rfl rfl (by decide +kernel) rfl hd k
theorem V_aa19_2 (C : Ck X G cc own nL d) (hd : decode cc pc = .ok (.aaload, 1)) (k : V X G nL cells slots σ (pc + 1) lv (.ref (ga G 60) :: rest)) : V X G nL cells slots σ pc lv (.int 2 :: .ref (ga G 19) :: rest) := V_aald C (K := 19) (t := 4) (ty := .object "FivePlayers$Row") (lt110 rfl) rfl rfl rfl (by decide +kernel) rfl hd k
theorem V_aa29 (C : Ck X G cc own nL d) {i : Int32} (hin : inb i 3 = true) (hd : decode cc pc = .ok (.aaload, 1)) (k : V X G nL cells slots σ (pc + 1) lv (.ref (ga G (66 + 2 * i.toNatClampNeg)) :: rest)) : V X G nL cells slots σ pc lv (.int i :: .ref (ga G 29) :: rest) := V_aald C (K := 29) (t := 4) (ty := .object "FivePlayers$Row") (lt110 rfl) rfl rfl rfl hin (if_pos (inb_lt hin)) hd k
theorem V_aa29_0 (C : Ck X G cc own nL d) (hd : decode cc pc = .ok (.aaload, 1)) (k : V X G nL cells slots σ (pc + 1) lv (.ref (ga G 66) :: rest)) : V X G nL cells slots σ pc lv (.int 0 :: .ref (ga G 29) :: rest) := V_aald C (K := 29) (t := 4) (ty := .object "FivePlayers$Row") (lt110 rfl) rfl rfl rfl (by decide +kernel) rfl hd k
theorem V_aa29_1 (C : Ck X G cc own nL d) (hd : decode cc pc = .ok (.aaload, 1)) (k : V X G nL cells slots σ (pc + 1) lv (.ref (ga G 68) :: rest)) : V X G nL cells slots σ pc lv (.int 1 :: .ref (ga G 29) :: rest) := V_aald C (K := 29) (t := 4) (ty := .object "FivePlayers$Row") (lt110 rfl) rfl rfl rfl (by decide +kernel) rfl hd k
theorem V_aa29_2 (C : Ck X G cc own nL d) (hd : decode cc pc = .ok (.aaload, 1)) (k : V X G nL cells slots σ (pc + 1) lv (.ref (ga G 70) :: rest)) : V X G nL cells slots σ pc lv (.int 2 :: .ref (ga G 29) :: rest) := V_aald C (K := 29) (t := 4) (ty := .object "FivePlayers$Row") (lt110 rfl) rfl rfl rfl (by decide +kernel) rfl hd k
theorem V_aa36 (C : Ck X G cc own nL d) {i : Int32} (hin : inb i 6 = true) (hd : decode cc pc = .ok (.aaload, 1)) (k : V X G nL cells slots σ (pc + 1) lv (.ref (ga G (40 + i.toNatClampNeg)) :: rest)) : V X G nL cells slots σ pc lv (.int i :: .ref (ga G 36) :: rest) := V_aald C (K := 36) (t := 5) (ty := .array .int) (lt110 rfl) rfl rfl rfl hin (if_pos (inb_lt hin)) hd k
theorem V_aa36_0 (C : Ck X G cc own nL d) (hd : decode cc pc = .ok (.aaload, 1)) (k : V X G nL cells slots σ (pc + 1) lv (.ref (ga G 40) :: rest)) : V X G nL cells slots σ pc lv (.int 0 :: .ref (ga G 36) :: rest) := V_aald C (K := 36) (t := 5) (ty := .array .int) (lt110 rfl) rfl rfl rfl (by decide +kernel) rfl hd k
theorem V_aa36_1 (C : Ck X G cc own nL d) (hd : decode cc pc = .ok (.aaload, 1)) (k : V X G nL cells slots σ (pc + 1) lv (.ref (ga G 41) :: rest)) : V X G nL cells slots σ pc lv (.int 1 :: .ref (ga G 36) :: rest) := V_aald C (K := 36) (t := 5) (ty := .array .int) (lt110 rfl) rfl rfl rfl (by decide +kernel) rfl hd k
theorem V_aa36_2 (C : Ck X G cc own nL d) (hd : decode cc pc = .ok (.aaload, 1)) (k : V X G nL cells slots σ (pc + 1) lv (.ref (ga G 42) :: rest)) : V X G nL cells slots σ pc lv (.int 2 :: .ref (ga G 36) :: rest) := V_aald C (K := 36) (t := 5) (ty := .array .int) (lt110 rfl) rfl rfl rfl (by decide +kernel) rfl hd k
theorem V_aa36_3 (C : Ck X G cc own nL d) (hd : decode cc pc = .ok (.aaload, 1)) (k : V X G nL cells slots σ (pc + 1) lv (.ref (ga G 43) :: rest)) : V X G nL cells slots σ pc lv (.int 3 :: .ref (ga G 36) :: rest) := V_aald C (K := 36) (t := 5) (ty := .array .int) (lt110 rfl) rfl rfl rfl (by decide +kernel) rfl hd k
theorem V_aa36_4 (C : Ck X G cc own nL d) (hd : decode cc pc = .ok (.aaload, 1)) (k : V X G nL cells slots σ (pc + 1) lv (.ref (ga G 44) :: rest)) : V X G nL cells slots σ pc lv (.int 4 :: .ref (ga G 36) :: rest) := V_aald C (K := 36) (t := 5) (ty := .array .int) (lt110 rfl) rfl rfl rfl (by decide +kernel) rfl hd k
theorem V_aa36_5 (C : Ck X G cc own nL d) (hd : decode cc pc = .ok (.aaload, 1)) (k : V X G nL cells slots σ (pc + 1) lv (.ref (ga G 45) :: rest)) : V X G nL cells slots σ pc lv (.int 5 :: .ref (ga G 36) :: rest) := V_aald C (K := 36) (t := 5) (ty := .array .int) (lt110 rfl) rfl rfl rfl (by decide +kernel) rfl hd k
theorem V_aa38 (C : Ck X G cc own nL d) {i : Int32} (hin : inb i 6 = true) (hd : decode cc pc = .ok (.aaload, 1)) (k : V X G nL cells slots σ (pc + 1) lv (.ref (ga G (46 + i.toNatClampNeg)) :: rest)) : V X G nL cells slots σ pc lv (.int i :: .ref (ga G 38) :: rest) := V_aald C (K := 38) (t := 5) (ty := .array .int) (lt110 rfl) rfl rfl rfl hin (if_pos (inb_lt hin)) hd k
theorem V_aa38_0 (C : Ck X G cc own nL d) (hd : decode cc pc = .ok (.aaload, 1)) (k : V X G nL cells slots σ (pc + 1) lv (.ref (ga G 46) :: rest)) : V X G nL cells slots σ pc lv (.int 0 :: .ref (ga G 38) :: rest) := V_aald C (K := 38) (t := 5) (ty := .array .int) (lt110 rfl) rfl rfl rfl (by decide +kernel) rfl hd k
theorem V_aa38_1 (C : Ck X G cc own nL d) (hd : decode cc pc = .ok (.aaload, 1)) (k : V X G nL cells slots σ (pc + 1) lv (.ref (ga G 47) :: rest)) : V X G nL cells slots σ pc lv (.int 1 :: .ref (ga G 38) :: rest) := V_aald C (K := 38) (t := 5) (ty := .array .int) (lt110 rfl) rfl rfl rfl (by decide +kernel) rfl hd k
theorem V_aa38_2 (C : Ck X G cc own nL d) (hd : decode cc pc = .ok (.aaload, 1)) (k : V X G nL cells slots σ (pc + 1) lv (.ref (ga G 48) :: rest)) : V X G nL cells slots σ pc lv (.int 2 :: .ref (ga G 38) :: rest) := V_aald C (K := 38) (t := 5) (ty := .array .int) (lt110 rfl) rfl rfl rfl (by decide +kernel) rfl hd k
theorem V_aa38_3 (C : Ck X G cc own nL d) (hd : decode cc pc = .ok (.aaload, 1)) (k : V X G nL cells slots σ (pc + 1) lv (.ref (ga G 49) :: rest)) : V X G nL cells slots σ pc lv (.int 3 :: .ref (ga G 38) :: rest) := V_aald C (K := 38) (t := 5) (ty := .array .int) (lt110 rfl) rfl rfl rfl (by decide +kernel) rfl hd k
theorem V_aa38_4 (C : Ck X G cc own nL d) (hd : decode cc pc = .ok (.aaload, 1)) (k : V X G nL cells slots σ (pc + 1) lv (.ref (ga G 50) :: rest)) : V X G nL cells slots σ pc lv (.int 4 :: .ref (ga G 38) :: rest) := V_aald C (K := 38) (t := 5) (ty := .array .int) (lt110 rfl) rfl rfl rfl (by decide +kernel) rfl hd k
theorem V_aa38_5 (C : Ck X G cc own nL d) (hd : decode cc pc = .ok (.aaload, 1)) (k : V X G nL cells slots σ (pc + 1) lv (.ref (ga G 51) :: rest)) : V X G nL cells slots σ pc lv (.int 5 :: .ref (ga G 38) :: rest) := V_aald C (K := 38) (t := 5) (ty := .array .int) (lt110 rfl) rfl rfl rfl (by decide +kernel) rfl hd k
theorem V_aaR10 (C : Ck X G cc own nL d) {i : Int32} (hin : inb i 10 = true) (hr : isRole σ (rd σ 10 i).toNatClampNeg = true) (hd : decode cc pc = .ok (.aaload, 1)) (k : V X G nL cells slots σ (pc + 1) lv (.ref (ga G (rd σ 10 i).toNatClampNeg) :: rest)) : V X G nL cells slots σ pc lv (.int i :: .ref (ga G 10) :: rest) := V_aald C (K := 10) (t := 3) (ty := .object "FivePlayers$Role") (lt110 rfl) rfl rfl rfl hin (if_pos ⟨inb_lt hin, fun q => by
  have h := (of_decide_eq_true hr).1
  have q2 : rd σ 10 i = 0 := q
  rw [q2] at h
  exact absurd h (by decide)⟩) hd k
theorem V_aaR20 (C : Ck X G cc own nL d) {i : Int32} (hin : inb i 10 = true) (hr : isRole σ (rd σ 20 i).toNatClampNeg = true) (hd : decode cc pc = .ok (.aaload, 1)) (k : V X G nL cells slots σ (pc + 1) lv (.ref (ga G (rd σ 20 i).toNatClampNeg) :: rest)) : V X G nL cells slots σ pc lv (.int i :: .ref (ga G 20) :: rest) := V_aald C (K := 20) (t := 3) (ty := .object "FivePlayers$Role") (lt110 rfl) rfl rfl rfl hin (if_pos ⟨inb_lt hin, fun q => by
  have h := (of_decide_eq_true hr).1
  have q2 : rd σ 20 i = 0 := q
  rw [q2] at h
  exact absurd h (by decide)⟩) hd k
end VW
theorem inX0_ok : (u_ws RX0 TX0 5).all (fun w => decide (w ∈ lw_tbl) && goodWord w) = true := by decide +kernel
theorem inX0 : ∀ w ∈ u_ws RX0 TX0 5, w ∈ gtb := fun w h => by
  have h1 := List.all_eq_true.mp inX0_ok w h
  simp only [Bool.and_eq_true, decide_eq_true_eq] at h1
  exact List.mem_filter.mpr h1
theorem inX1_ok : (u_ws RX1 TX1 5).all (fun w => decide (w ∈ lw_tbl) && goodWord w) = true := by decide +kernel
theorem inX1 : ∀ w ∈ u_ws RX1 TX1 5, w ∈ gtb := fun w h => by
  have h1 := List.all_eq_true.mp inX1_ok w h
  simp only [Bool.and_eq_true, decide_eq_true_eq] at h1
  exact List.mem_filter.mpr h1
theorem inX2_ok : (u_ws RX2 TX2 5).all (fun w => decide (w ∈ lw_tbl) && goodWord w) = true := by decide +kernel
theorem inX2 : ∀ w ∈ u_ws RX2 TX2 5, w ∈ gtb := fun w h => by
  have h1 := List.all_eq_true.mp inX2_ok w h
  simp only [Bool.and_eq_true, decide_eq_true_eq] at h1
  exact List.mem_filter.mpr h1
theorem inX3_ok : (u_ws RX3 TX3 5).all (fun w => decide (w ∈ lw_tbl) && goodWord w) = true := by decide +kernel
theorem inX3 : ∀ w ∈ u_ws RX3 TX3 5, w ∈ gtb := fun w h => by
  have h1 := List.all_eq_true.mp inX3_ok w h
  simp only [Bool.and_eq_true, decide_eq_true_eq] at h1
  exact List.mem_filter.mpr h1
theorem inX4_ok : (u_ws RX4 TX4 16).all (fun w => decide (w ∈ lw_tbl) && goodWord w) = true := by decide +kernel
theorem inX4 : ∀ w ∈ u_ws RX4 TX4 16, w ∈ gtb := fun w h => by
  have h1 := List.all_eq_true.mp inX4_ok w h
  simp only [Bool.and_eq_true, decide_eq_true_eq] at h1
  exact List.mem_filter.mpr h1
theorem inX5_ok : (u_ws RX5 TX5 5).all (fun w => decide (w ∈ lw_tbl) && goodWord w) = true := by decide +kernel
theorem inX5 : ∀ w ∈ u_ws RX5 TX5 5, w ∈ gtb := fun w h => by
  have h1 := List.all_eq_true.mp inX5_ok w h
  simp only [Bool.and_eq_true, decide_eq_true_eq] at h1
  exact List.mem_filter.mpr h1
theorem inX6_ok : (u_ws RX6 TX6 5).all (fun w => decide (w ∈ lw_tbl) && goodWord w) = true := by decide +kernel
theorem inX6 : ∀ w ∈ u_ws RX6 TX6 5, w ∈ gtb := fun w h => by
  have h1 := List.all_eq_true.mp inX6_ok w h
  simp only [Bool.and_eq_true, decide_eq_true_eq] at h1
  exact List.mem_filter.mpr h1
theorem inX7_ok : (u_ws RX7 TX7 2).all (fun w => decide (w ∈ lw_tbl) && goodWord w) = true := by decide +kernel
theorem inX7 : ∀ w ∈ u_ws RX7 TX7 2, w ∈ gtb := fun w h => by
  have h1 := List.all_eq_true.mp inX7_ok w h
  simp only [Bool.and_eq_true, decide_eq_true_eq] at h1
  exact List.mem_filter.mpr h1
theorem inX8_ok : (u_ws RX8 TX8 14).all (fun w => decide (w ∈ lw_tbl) && goodWord w) = true := by decide +kernel
theorem inX8 : ∀ w ∈ u_ws RX8 TX8 14, w ∈ gtb := fun w h => by
  have h1 := List.all_eq_true.mp inX8_ok w h
  simp only [Bool.and_eq_true, decide_eq_true_eq] at h1
  exact List.mem_filter.mpr h1
theorem inX9_ok : (u_ws RX9 TX9 5).all (fun w => decide (w ∈ lw_tbl) && goodWord w) = true := by decide +kernel
theorem inX9 : ∀ w ∈ u_ws RX9 TX9 5, w ∈ gtb := fun w h => by
  have h1 := List.all_eq_true.mp inX9_ok w h
  simp only [Bool.and_eq_true, decide_eq_true_eq] at h1
  exact List.mem_filter.mpr h1
theorem inX10_ok : (u_ws RX10 TX10 7).all (fun w => decide (w ∈ lw_tbl) && goodWord w) = true := by decide +kernel
theorem inX10 : ∀ w ∈ u_ws RX10 TX10 7, w ∈ gtb := fun w h => by
  have h1 := List.all_eq_true.mp inX10_ok w h
  simp only [Bool.and_eq_true, decide_eq_true_eq] at h1
  exact List.mem_filter.mpr h1
theorem inX11_ok : (u_ws RX11 TX11 10).all (fun w => decide (w ∈ lw_tbl) && goodWord w) = true := by decide +kernel
theorem inX11 : ∀ w ∈ u_ws RX11 TX11 10, w ∈ gtb := fun w h => by
  have h1 := List.all_eq_true.mp inX11_ok w h
  simp only [Bool.and_eq_true, decide_eq_true_eq] at h1
  exact List.mem_filter.mpr h1
theorem inX12_ok : (u_ws RX12 TX12 35).all (fun w => decide (w ∈ lw_tbl) && goodWord w) = true := by decide +kernel
theorem inX12 : ∀ w ∈ u_ws RX12 TX12 35, w ∈ gtb := fun w h => by
  have h1 := List.all_eq_true.mp inX12_ok w h
  simp only [Bool.and_eq_true, decide_eq_true_eq] at h1
  exact List.mem_filter.mpr h1
theorem wm_max : wtab [(387, .static Lib.Math.max.name), (93, .initialized "java/lang/Math"), (388, .code Lib.Math.max.name Lib.Math.max.code 2 (some .int))] = true := by decide +kernel
theorem w_max : Cond.static Lib.Math.max.name ∈ gtb ∧ Cond.initialized "java/lang/Math" ∈ gtb ∧ Cond.code Lib.Math.max.name Lib.Math.max.code 2 (some .int) ∈ gtb := ⟨wt_at wm_max 0 rfl, wt_at wm_max 1 rfl, wt_at wm_max 2 rfl⟩
theorem wm_min : wtab [(633, .static Lib.Math.min.name), (93, .initialized "java/lang/Math"), (634, .code Lib.Math.min.name Lib.Math.min.code 2 (some .int))] = true := by decide +kernel
theorem w_min : Cond.static Lib.Math.min.name ∈ gtb ∧ Cond.initialized "java/lang/Math" ∈ gtb ∧ Cond.code Lib.Math.min.name Lib.Math.min.code 2 (some .int) ∈ gtb := ⟨wt_at wm_min 0 rfl, wt_at wm_min 1 rfl, wt_at wm_min 2 rfl⟩
theorem wm_abs : wtab [(787, .static Lib.Math.abs.name), (93, .initialized "java/lang/Math"), (788, .code Lib.Math.abs.name Lib.Math.abs.code 1 (some .int))] = true := by decide +kernel
theorem w_abs : Cond.static Lib.Math.abs.name ∈ gtb ∧ Cond.initialized "java/lang/Math" ∈ gtb ∧ Cond.code Lib.Math.abs.name Lib.Math.abs.code 1 (some .int) ∈ gtb := ⟨wt_at wm_abs 0 rfl, wt_at wm_abs 1 rfl, wt_at wm_abs 2 rfl⟩
theorem wm_copy : wtab [(773, .native arraycopyName), (772, .static arraycopyName), (105, .initialized "java/lang/System")] = true := by decide +kernel
theorem w_copy : Cond.native arraycopyName ∈ gtb ∧ Cond.static arraycopyName ∈ gtb ∧ Cond.initialized "java/lang/System" ∈ gtb := ⟨wt_at wm_copy 0 rfl, wt_at wm_copy 1 rfl, wt_at wm_copy 2 rfl⟩
