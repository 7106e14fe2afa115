def dtab (c : ByteArray) (L : List (Nat × Instr × Nat)) : Bool := L.all (fun q => decide (decode c q.1 = .ok (q.2.1, q.2.2)))
theorem dt_at {c : ByteArray} {L : List (Nat × Instr × Nat)} (h : dtab c L = true) (i : Nat) {pc n : Nat} {ins : Instr} (hi : L[i]? = some (pc, ins, n)) : decode c pc = .ok (ins, n) := by
  have h1 := List.all_eq_true.mp h _ (List.mem_of_getElem? hi)
  simpa using h1
def gtb : List Cond := lw_tbl.filter goodWord
def wtab (L : List (Nat × Cond)) : Bool := L.all (fun q => decide (lw_tbl[q.1]? = some q.2) && goodWord q.2)
theorem wt_at {L : List (Nat × Cond)} (h : wtab L = true) (i : Nat) {k : Nat} {w : Cond} (hi : L[i]? = some (k, w)) : w ∈ gtb := by
  have h1 := List.all_eq_true.mp h _ (List.mem_of_getElem? hi)
  simp only [Bool.and_eq_true, decide_eq_true_eq] at h1
  exact List.mem_filter.mpr ⟨List.mem_of_getElem? h1.1, h1.2⟩
theorem gtb_good : GoodIn gtb gtb := fun w h => ⟨h, good_of_word (List.mem_filter.mp h).2⟩
theorem gtb_code {w : Cond} (h : w ∈ gtb) : GoodIn gtb (w :: gtb) := fun z hz => (List.mem_cons.mp hz).elim (fun e => e ▸ gtb_good w h) (gtb_good z)
/-! the memory: how many roles there are; cell, place: a number; the longs -/
abbrev St : Type := Nat × (Nat → Nat → Int32) × (Nat → Int64)
def fd (σ : St) (k j : Nat) : Int32 := σ.2.1 k j
def rd (σ : St) (k : Nat) (i : Int32) : Int32 := σ.2.1 k i.toNatClampNeg
def rdL (σ : St) (i : Int32) : Int64 := σ.2.2 i.toNatClampNeg
def rc (σ : St) (k j : Nat) : Nat := (σ.2.1 k j).toNatClampNeg
def fw (σ : St) (k j : Nat) (v : Int32) : St := (σ.1, va_up σ.2.1 k (upd (σ.2.1 k) j v), σ.2.2)
def wr (σ : St) (k : Nat) (i v : Int32) : St := fw σ k i.toNatClampNeg v
def wrL (σ : St) (i : Int32) (v : Int64) : St := (σ.1, σ.2.1, vp_updL σ.2.2 i.toNatClampNeg v)
def cpy (σ : St) (k0 : Nat) (sp : Int32) (k1 : Nat) (dp n : Int32) : St := (σ.1, va_up σ.2.1 k1 (va_cpy (σ.2.1 k0) (σ.2.1 k1) sp.toNatClampNeg dp.toNatClampNeg n.toNatClampNeg), σ.2.2)
def inb (i : Int32) (n : Nat) : Bool := decide (0 ≤ i.toInt ∧ i.toInt < n)
theorem inb_in {i : Int32} {n : Nat} (h : inb i n = true) : vp_in i n := vp_in_iff.mpr (of_decide_eq_true h)
def chk {α : Type} (b : Bool) (k : Option α) : Option α := if b = true then k else none
theorem chk_s {α : Type} {b : Bool} {k : Option α} {z : α} (h : chk b k = some z) : b = true ∧ k = some z := by
  unfold chk at h
  split at h
  · exact ⟨by assumption, h⟩
  · cases h
theorem chk_t {α : Type} {b : Bool} {k : Option α} (h : b = true) : chk b k = k := by unfold chk; rw [if_pos h]
def bd {α β : Type} (x : Option α) (k : α → Option β) : Option β := match x with
  | some a => k a
  | none => none
def bd2 {α β γ : Type} (x : Option (α × β)) (k : α → β → Option γ) : Option γ := match x with
  | some q => k q.1 q.2
  | none => none
theorem bd_s {α β : Type} {x : Option α} {k : α → Option β} {z : β} (h : bd x k = some z) : ∃ a, x = some a ∧ k a = some z := by
  cases x with
  | none => cases h
  | some a => exact ⟨a, rfl, h⟩
theorem bd2_s {α β γ : Type} {x : Option (α × β)} {k : α → β → Option γ} {z : γ} (h : bd2 x k = some z) : ∃ a b, x = some (a, b) ∧ k a b = some z := by
  cases x with
  | none => cases h
  | some a => exact ⟨a.1, a.2, rfl, h⟩
theorem bd_e {α β : Type} {x : Option α} {k : α → Option β} {a : α} (h : x = some a) : bd x k = k a := by rw [h]; rfl
theorem bd2_e {α β γ : Type} {x : Option (α × β)} {k : α → β → Option γ} {a : α} {b : β} (h : x = some (a, b)) : bd2 x k = k a b := by rw [h]; rfl
theorem ite_t {α : Type} {c : Prop} [Decidable c] {a b z : α} (q : c) (h : (if c then a else b) = z) : a = z := by rw [if_pos q] at h; exact h
theorem ite_f {α : Type} {c : Prop} [Decidable c] {a b z : α} (q : ¬ c) (h : (if c then a else b) = z) : b = z := by rw [if_neg q] at h; exact h
/-! loops -/
def itn {S T : Type} (f : S → Option (S ⊕ T)) : Nat → S → Option T
  | 0, _ => none
  | n + 1, s => match f s with
    | none => none
    | some (.inl s') => itn f n s'
    | some (.inr t) => some t
theorem itn_mono {S T : Type} {f : S → Option (S ⊕ T)} {t : T} : ∀ (n : Nat) (s : S), itn f n s = some t → ∀ k : Nat, n ≤ k → itn f k s = some t
  | 0, _, h, _, _ => by cases h
  | n + 1, s, h, 0, hk => by omega
  | n + 1, s, h, k + 1, hk => by
    unfold itn at h ⊢
    cases hf : f s with
    | none => rw [hf] at h; cases h
    | some w =>
      rw [hf] at h
      cases w with
      | inl s' => exact itn_mono n s' h k (by omega)
      | inr t' => exact h
noncomputable def it {S T : Type} (f : S → Option (S ⊕ T)) (s : S) : Option T := Classical.epsilon (fun o : Option T => (∃ t n, o = some t ∧ itn f n s = some t) ∨ (o = none ∧ ∀ n, itn f n s = none))
theorem it_spec {S T : Type} (f : S → Option (S ⊕ T)) (s : S) : (∃ t n, it f s = some t ∧ itn f n s = some t) ∨ (it f s = none ∧ ∀ n, itn f n s = none) := by
  unfold it
  apply Classical.epsilon_spec (p := fun o : Option T => (∃ t n, o = some t ∧ itn f n s = some t) ∨ (o = none ∧ ∀ n, itn f n s = none))
  by_cases h : ∃ t n, itn f n s = some t
  · obtain ⟨t, n, h⟩ := h
    exact ⟨some t, Or.inl ⟨t, n, rfl, h⟩⟩
  · refine ⟨none, Or.inr ⟨rfl, fun n => ?_⟩⟩
    cases hx : itn f n s with
    | none => rfl
    | some t => exact absurd ⟨t, n, hx⟩ h
theorem it_of {S T : Type} {f : S → Option (S ⊕ T)} {s : S} {t : T} {n : Nat} (h : itn f n s = some t) : it f s = some t := by
  rcases it_spec f s with ⟨t', n', h1, h2⟩ | ⟨-, h2⟩
  · rw [h1]
    have a := itn_mono n s h (n + n') (by omega)
    have b := itn_mono n' s h2 (n + n') (by omega)
    rw [a] at b
    exact b.symm
  · rw [h2 n] at h; cases h
theorem it_it {S T : Type} {f : S → Option (S ⊕ T)} {s : S} {t : T} (h : it f s = some t) : ∃ n, itn f n s = some t := by
  rcases it_spec f s with ⟨t', n', h1, h2⟩ | ⟨h1, -⟩
  · rw [h1] at h; cases h; exact ⟨n', h2⟩
  · rw [h1] at h; cases h
/-- a round of the it -/
theorem it_l {S T : Type} {f : S → Option (S ⊕ T)} {s s' : S} (h : f s = some (.inl s')) : it f s = it f s' := by
  rcases it_spec f s' with ⟨t, n, h1, h2⟩ | ⟨h1, h2⟩
  · rw [h1]
    exact it_of (n := n + 1) (by unfold itn; rw [h]; exact h2)
  · rw [h1]
    rcases it_spec f s with ⟨t, n, h3, h4⟩ | ⟨h3, -⟩
    · cases n with
      | zero => cases h4
      | succ n =>
        unfold itn at h4
        rw [h] at h4
        have h5 : itn f n s' = some t := h4
        rw [h2 n] at h5
        cases h5
    · exact h3
theorem it_r {S T : Type} {f : S → Option (S ⊕ T)} {s : S} {t : T} (h : f s = some (.inr t)) : it f s = some t := it_of (n := 1) (by unfold itn; rw [h])
theorem it_k {S T : Type} {f : S → Option (S ⊕ T)} {s : S} {k : Option T} (h : f s = k.map .inr) : it f s = k := by
  cases k with
  | some t => exact it_r h
  | none =>
    rcases it_spec f s with ⟨t, n, h3, h4⟩ | ⟨h3, -⟩
    · cases n with
      | zero => cases h4
      | succ n =>
        unfold itn at h4
        rw [h] at h4
        cases h4
    · exact h3
theorem it_v {S T : Type} {f : S → Option (S ⊕ T)} {P : S → Prop} {z : T} (hb : ∀ (s : S) (w : S ⊕ T), f s = some w → (∀ s', w = .inl s' → P s') → (∀ t, w = .inr t → t = z) → P s) (s : S) (h : it f s = some z) : P s := by
  obtain ⟨n, h9⟩ := it_it h
  clear h
  have h := h9
  clear h9
  induction n generalizing s with
  | zero => cases h
  | succ n ih =>
    unfold itn at h
    cases hf : f s with
    | none => rw [hf] at h; cases h
    | some w =>
      rw [hf] at h
      cases w with
      | inl s' => exact hb s _ hf (fun s2 e => by cases e; exact ih s' h) (fun t e => by cases e)
      | inr t => exact hb s _ hf (fun s2 e => by cases e) (fun t2 e => by cases e; exact Option.some.inj h)
theorem map_s {α β : Type} {k : Option α} {g : α → β} {w : β} (h : k.map g = some w) : ∃ t, k = some t ∧ w = g t := by
  cases k with
  | none => cases h
  | some t => exact ⟨t, rfl, (Option.some.inj h).symm⟩
/-! the world -/
abbrev Gx : Type := va_G × (Nat → ClassId) × (Nat → Nat) × Nat × (Nat → Nat) × (Nat → Nat)
def gc (G : Gx) (k : Nat) : ClassId := G.2.1 k
def ga (G : Gx) (k : Nat) : Nat := G.2.2.1 k
def gh (G : Gx) : Nat := G.2.2.2.1
def gs (G : Gx) (k : Nat) : Nat := G.2.2.2.2.1 k
def gv (G : Gx) (k : Nat) : Nat := G.2.2.2.2.2 k
def gA (G : Gx) : Nat → Prop := fun q => gh G ≤ q
def alen (k : Nat) : Nat := ([0, 0, 0, 0, 0, 0, 0, 0, 4, 6, 0, 10, 40, 40, 40, 40, 6, 6, 6, 0, 0, 10, 40, 40, 40, 40, 6, 6, 6, 0, 26, 50, 10, 10, 10, 6, 0, 1024, 0, 10, 10, 10, 10, 10, 10, 10, 1024, 1024, 1024, 1024, 1024, 1024, 0, 50, 0, 20, 0, 50, 0, 50, 0, 50, 0, 50, 0, 20, 0, 50, 0, 50, 0, 50, 0, 50, 0, 40, 0, 24, 0, 24, 0, 24, 0, 24, 466, 466, 6, 10, 100, 100, 6, 52, 52, 52, 4, 11, 11, 10, 1024, 1024, 7168, 2048, 10, 10, 10, 40, 4, 4, 96, 24] : List Nat).getD k 0
def lay (G : Gx) (k : Nat) (f : Nat → Int32) (w : Nat → Int64) : va_E := match k with
  | 0 => .inr (11, [.ref (ga G 1), .ref (ga G 3), .ref (ga G 4), .ref (ga G 5), .ref (ga G 2), .ref (ga G 74), .ref (ga G 7), .ref (ga G 8), .ref (ga G 9), .int (f 9)])
  | 1 => .inr (4, [.int (f 0), .int (f 1), .int (f 2), .int (f 3), .ref (ga G 10), .ref (ga G 11), .ref (ga G 12), .ref (ga G 13), .ref (ga G 14), .ref (ga G 15), .ref (ga G 16), .ref (ga G 17), .ref (ga G 18), .ref (ga G 52), .ref (ga G 54), .ref (ga G 19)])
  | 2 => .inr (4, [.int (f 0), .int (f 1), .int (f 2), .int (f 3), .ref (ga G 20), .ref (ga G 21), .ref (ga G 22), .ref (ga G 23), .ref (ga G 24), .ref (ga G 25), .ref (ga G 26), .ref (ga G 27), .ref (ga G 28), .ref (ga G 62), .ref (ga G 64), .ref (ga G 29)])
  | 3 => .inr (10, [.ref (ga G 1), .ref (ga G 30), .ref (ga G 31), .ref (ga G 32), .int (f 4), .int (f 5), .int (f 6)])
  | 4 => .inr (8, [.ref (ga G 1), .ref (ga G 3), .ref (ga G 33), .ref (ga G 34), .ref (ga G 35), .int (f 5), .ref (ga G 36), .ref (ga G 37), .ref (ga G 38), .ref (ga G (f 9).toNatClampNeg), .ref (ga G 39), .int (f 11), .int (f 12), .int (f 13)])
  | 5 => .inr (5, [.ref (ga G 72), .ref (ga G (f 1).toNatClampNeg), .ref (gs G (f 2).toNatClampNeg), .int (f 3), .int (f 4)])
  | 6 => .inr (12, [.ref (ga G 84), .ref (ga G 85), .int (f 2), .ref (ga G 86), .int (f 4), .ref (ga G 87), .ref (ga G 88), .ref (ga G 89), .ref (ga G 90), .ref (ga G 91), .int (f 10), .ref (ga G 92), .int (f 12), .int (f 13), .ref (ga G 93), .ref (ga G 94), .ref (ga G 95), .ref (ga G 96), .ref (ga G 97), .ref (ga G 98), .ref (ga G 99), .ref (ga G 100), .ref (ga G 101), .ref (ga G 102), .ref (ga G 103), .ref (ga G 104), .ref (ga G 105), .int (f 27), .int (f 28), .int (f 29), .int (f 30), .ref (ga G 106), .ref (ga G 107), .ref (ga G 108), .ref (ga G 109)])
  | 7 => .inl (gc G 4, 4, .inr (.inr (.inr (.inr (fun j => if j < 4 then some (ga G (76 + 2 * j)) else none)))))
  | 10 => .inl (gc G 3, 10, .inr (.inr (.inr (.inr (fun j => if j < 10 ∧ f j ≠ 0 then some (ga G (f j).toNatClampNeg) else none)))))
  | 19 => .inl (gc G 4, 3, .inr (.inr (.inr (.inr (fun j => if j < 3 then some (ga G (56 + 2 * j)) else none)))))
  | 20 => .inl (gc G 3, 10, .inr (.inr (.inr (.inr (fun j => if j < 10 ∧ f j ≠ 0 then some (ga G (f j).toNatClampNeg) else none)))))
  | 29 => .inl (gc G 4, 3, .inr (.inr (.inr (.inr (fun j => if j < 3 then some (ga G (66 + 2 * j)) else none)))))
  | 36 => .inl (gc G 5, 6, .inr (.inr (.inr (.inr (fun j => if j < 6 then some (ga G (40 + j)) else none)))))
  | 38 => .inl (gc G 5, 6, .inr (.inr (.inr (.inr (fun j => if j < 6 then some (ga G (46 + j)) else none)))))
  | 98 => .inl (gc G 2, 1024, .inl f)
  | 101 => .inl (gc G 1, 2048, .inr (.inl w))
  | k => if k < 110 then (if 52 ≤ k ∧ k < 84 ∧ k % 2 = 0 then .inr (7, [.ref (ga G (k + 1)), .int (f 1)]) else .inl (gc G 0, alen k, .inl f)) else .inr ((f 5).toNatClampNeg, [.int (f 0), .int (f 1), .int (f 2), .int (f 3), .int (f 4)])
def isRow (k : Nat) : Bool := decide (52 ≤ k ∧ k < 84 ∧ k % 2 = 0)
def isLeast (k : Nat) : Bool := decide (46 ≤ k ∧ k < 52)
def isRole (σ : St) (k : Nat) : Bool := decide (110 ≤ k ∧ k < 110 + σ.1 ∧ (rc σ k 5 = 0 ∨ rc σ k 5 = 1 ∨ rc σ k 5 = 2 ∨ rc σ k 5 = 3 ∨ rc σ k 5 = 6 ∨ rc σ k 5 = 9))
theorem lay_w (G : Gx) {k : Nat} (h : k ≠ 101) (f : Nat → Int32) (w w' : Nat → Int64) : lay G k f w = lay G k f w' := by
  unfold lay
  split <;> first | rfl | contradiction
theorem lay_row (G : Gx) {k : Nat} (h : isRow k = true) (f : Nat → Int32) (w : Nat → Int64) : lay G k f w = .inr (7, [.ref (ga G (k + 1)), .int (f 1)]) := by
  obtain ⟨h1, h2, h3⟩ := of_decide_eq_true h
  unfold lay
  split <;> first | omega | skip
  rw [if_pos (by omega), if_pos ⟨h1, h2, h3⟩]
theorem lay_rowA (G : Gx) {k : Nat} (h : isRow k = true) (f : Nat → Int32) (w : Nat → Int64) : lay G (k + 1) f w = .inl (gc G 0, alen (k + 1), .inl f) := by
  obtain ⟨h1, h2, h3⟩ := of_decide_eq_true h
  unfold lay
  split <;> first | omega | skip
  rw [if_pos (by omega), if_neg (by omega)]
theorem lay_least (G : Gx) {k : Nat} (h : isLeast k = true) (f : Nat → Int32) (w : Nat → Int64) : lay G k f w = .inl (gc G 0, 1024, .inl f) := by
  obtain ⟨h1, h2⟩ := of_decide_eq_true h
  have h3 : k = 46 ∨ k = 47 ∨ k = 48 ∨ k = 49 ∨ k = 50 ∨ k = 51 := by omega
  rcases h3 with rfl | rfl | rfl | rfl | rfl | rfl <;> rfl
theorem lay_role (G : Gx) {k : Nat} (h : 110 ≤ k) (f : Nat → Int32) (w : Nat → Int64) : lay G k f w = .inr ((f 5).toNatClampNeg, [.int (f 0), .int (f 1), .int (f 2), .int (f 3), .int (f 4)]) := by
  unfold lay
  split <;> first | omega | skip
  rw [if_neg (by omega)]
def wsl (G : Gx) (σ : St) : va_W := (List.range (110 + σ.1)).map (fun k => (ga G k, lay G k (σ.2.1 k) σ.2.2))
theorem wsl_at {G : Gx} {σ : St} {k : Nat} (h : k < 110 + σ.1) : (wsl G σ)[k]? = some (ga G k, lay G k (σ.2.1 k) σ.2.2) := by
  unfold wsl
  rw [List.getElem?_map, List.getElem?_range h]
  rfl
theorem wsl_set {G : Gx} {σ : St} {k : Nat} (h : k < 110 + σ.1) (g : Nat → Int32) : (wsl G σ).set k (ga G k, lay G k g σ.2.2) = wsl G (σ.1, va_up σ.2.1 k g, σ.2.2) := by
  apply List.ext_getElem?
  intro i
  rw [List.getElem?_set]
  by_cases hi : i < 110 + σ.1
  · rw [wsl_at (σ := (σ.1, va_up σ.2.1 k g, σ.2.2)) (show i < 110 + σ.1 from hi), wsl_at hi]
    by_cases hk : k = i
    · subst hk
      rw [if_pos rfl, if_pos (by unfold wsl; simpa using h)]
      show _ = some (ga G k, lay G k (va_up σ.2.1 k g k) σ.2.2)
      rw [va_up_self]
    · rw [if_neg hk]
      show _ = some (ga G i, lay G i (va_up σ.2.1 k g i) σ.2.2)
      rw [va_up_ne _ _ (Ne.symm hk)]
  · have e1 : (wsl G σ)[i]? = none := List.getElem?_eq_none (by unfold wsl; simp; omega)
    have e2 : (wsl G (σ.1, va_up σ.2.1 k g, σ.2.2))[i]? = none := List.getElem?_eq_none (by unfold wsl; simp; omega)
    rw [e1, e2, if_neg (by omega)]
theorem wsl_setL {G : Gx} {σ : St} (w : Nat → Int64) : (wsl G σ).set 101 (ga G 101, .inl (gc G 1, 2048, .inr (.inl w))) = wsl G (σ.1, σ.2.1, w) := by
  apply List.ext_getElem?
  intro i
  rw [List.getElem?_set]
  by_cases hi : i < 110 + σ.1
  · rw [wsl_at (σ := (σ.1, σ.2.1, w)) (show i < 110 + σ.1 from hi), wsl_at hi]
    by_cases hk : 101 = i
    · subst hk
      rw [if_pos rfl, if_pos (by unfold wsl; simp; omega)]
      rfl
    · rw [if_neg hk, lay_w G (Ne.symm hk) _ σ.2.2 w]
  · have e1 : (wsl G σ)[i]? = none := List.getElem?_eq_none (by unfold wsl; simp; omega)
    have e2 : (wsl G (σ.1, σ.2.1, w))[i]? = none := List.getElem?_eq_none (by unfold wsl; simp; omega)
    rw [e1, e2, if_neg (by omega)]
def tyl (G : Gx) : List (ClassId × FieldType) := [(gc G 0, .int), (gc G 1, .long), (gc G 2, .boolean), (gc G 3, .object "FivePlayers$Role"), (gc G 4, .object "FivePlayers$Row"), (gc G 5, .array .int)]
/-- what is known of the tables, the strings -/
def ncl : List (String × String) := [(RX0, RX2), (RX0, RX3), (RX0, RX1), (RX1, RX9), (RX1, RX3), (RX1, RX0), (RX2, RX9), (RX2, RX3), (RX2, RX1), (RX2, RX0), (RX3, RX2), (RX3, RX1), (RX3, RX0), (RX6, RX9), (RX6, RX2), (RX6, RX3), (RX6, RX1), (RX6, RX0), (RX9, RX2), (RX9, RX3), (RX9, RX1), (RX9, RX0)]
def ycl : List (String × String) := [(RX0, RX9), (RX3, RX9), (RX1, RX2), (RX9, RX6), (RX2, RX6), (RX3, RX6), (RX1, RX6), (RX0, RX6)]
def stl : List (Nat × String × Nat) := [(23, "", 0), (48, "ganyk", 1), (50, "wvkqs", 2), (52, "ganykl", 3)]
def stLen : List Nat := [0, 5, 5, 6]
def stByt : List (List Int32) := [[], [103, 97, 110, 121, 107], [119, 118, 107, 113, 115], [103, 97, 110, 121, 107, 108]]
def Kx (G : Gx) (U : State) : Prop := va_K G.1 vwCl (tyl G) U ∧ va_Nw (.methodLinkNest RX4 81 yX11_isWithin RX11) U ∧ (∀ q ∈ ncl, va_Nc q.1 q.2 U) ∧ (∀ q ∈ stl, vk_R RX5 q.1 q.2.1 (gs G q.2.2) U) ∧ vk_S 4 stLen stByt (gs G) (gv G) (gA G) U U.heap ∧ va_Z "java/lang/String" "COMPACT_STRINGS" "Z" (.int 1) (gA G) U U.heap ∧ (∀ q ∈ ycl, va_Nw (.castable q.1 q.2) U)
theorem Kx.same {G : Gx} {u U : State} (hv : u.vm = U.vm) (hh : U.heap = u.heap) (h : Kx G u) : Kx G U := by
  have ha : u.vm.Alike U.vm := by rw [hv]; exact Vm.Alike.refl _
  exact ⟨va_K.moved ha h.1, va_Nw.same rfl hv h.2.1, fun q hq => va_Nc.moved ha (h.2.2.1 q hq), fun q hq => vk_R.same hv.symm (h.2.2.2.1 q hq), by rw [hh]; exact vk_S.moved ha h.2.2.2.2.1, by rw [hh]; exact va_Z.moved ha h.2.2.2.2.2.1, fun q hq => va_Nw.same rfl hv (h.2.2.2.2.2.2 q hq)⟩
theorem Kx.warm {G : Gx} {u U : State} (hW : u.WarmedH U.vm) (hq : ∀ a : Nat, a < u.heap.size → ¬ gA G a → U.heap[a]? = u.heap[a]?) (h : Kx G u) : Kx G U :=
  ⟨va_K.moved hW.alike h.1, va_Nw.warmM hW h.2.1, fun q hq => va_Nc.moved hW.alike (h.2.2.1 q hq), fun q hq => vk_R.warm hW (h.2.2.2.1 q hq), vk_S.moved hW.alike (vk_S.kept h.2.2.2.2.1 hq), va_Z.moved hW.alike (va_Z.kept h.2.2.2.2.2.1 hq), fun q hq => va_Nw.warmC hW (h.2.2.2.2.2.2 q hq)⟩
/-- what a method finds -/
def Wp (G : Gx) (σ : St) (U : State) : Prop := gh G ≤ U.heap.size ∧ va_P G.1 vwCl (wsl G σ) U.heap ∧ va_D (gA G) (wsl G σ) ∧ Kx G U
/-- what it leaves -/
def Wq (G : Gx) (σ : St) (st t : State) : Prop := va_P G.1 vwCl (wsl G σ) t.heap ∧ va_D (gA G) (wsl G σ) ∧ va_F (gA G) st t
def rmD (d mc ms : Nat) : Room := { frames := d, cells := mc, slots := ms, locals := 40 * d }
def MI (l : Launch) (G : Gx) (y : MethodName) (cc : ByteArray) (maxL : Nat) (ret : Option FieldType) (d : Nat) (vals : List Value) (σ : St) (o : Option Value) (σ0 : St) : Prop :=
  Met l y (.code y cc maxL ret :: gtb) (rmD d 0 0) (va_Pc vals (Wp G σ)) (fun _ st oc t => oc = .returned o ∧ Wq G σ0 st t) 0 0 (gA G)
abbrev Xx : Type := Program × Launch × Env × Room × State × MethodId × Array Value × List Frame × Method × Code × (State → Prop)
abbrev xs (X : Xx) : State := X.2.2.2.2.1
abbrev xm (X : Xx) : MethodId := X.2.2.2.2.2.1
abbrev xa (X : Xx) : Array Value := X.2.2.2.2.2.2.1
abbrev xR (X : Xx) : Room := X.2.2.2.1
abbrev xM (X : Xx) : Method := X.2.2.2.2.2.2.2.2.1
abbrev xc (X : Xx) : Code := X.2.2.2.2.2.2.2.2.2.1
abbrev xb (X : Xx) : List Frame := X.2.2.2.2.2.2.2.1
def Hd (G : Gx) (σ : St) (H0 H : Heap) (locs : List Loc) : Prop := va_P G.1 vwCl (wsl G σ) H ∧ va_D (gA G) (wsl G σ) ∧ va_S (gA G) H0 H locs
def V (X : Xx) (G : Gx) (nL cells slots : Nat) (σ : St) (pc : Nat) (lv : List (Nat × Value)) (st : List Value) : Prop :=
  ∀ (H : Heap) (locs : List Loc) (ls : Array Slot), Hd G σ (xs X).heap H locs → lv_has ls nL lv → W X.1 X.2.1 X.2.2.1 (xR X) (xs X) (xm X) (xa X) (xb X) (xM X) (xc X) H locs cells slots X.2.2.2.2.2.2.2.2.2.2 (F0 (xm X) pc ls st)
/-- what holds throughout a method's body -/
def Ck (X : Xx) (G : Gx) (cc : ByteArray) (own : String) (nL d : Nat) : Prop :=
  X.1.tables.exec = Jvm.exec ∧ (xc X).code = cc ∧ (xc X).maxLocals = nL ∧ (xs X).vm.findClass own = some (xm X).cls ∧ (∀ w ∈ gtb, w.before (xa X) (xs X) = true) ∧ Kx G (xs X) ∧ gh G ≤ (xs X).heap.size ∧ (xM X).locks = false ∧ d ≤ (xR X).frames ∧ 40 * d ≤ (xR X).locals
def Rt (X : Xx) (G : Gx) (ret : Option FieldType) (o : Option Value) (σ0 : St) : Prop :=
  (xM X).sig.returnType = ret ∧ X.2.2.2.2.2.2.2.2.2.2 = MQ (xb X) (fun _ st oc t => oc = .returned o ∧ Wq G σ0 st t) (xa X) (xs X) 0 0 (gA G)
theorem MI_of {l : Launch} {G : Gx} {y : MethodName} {cc : ByteArray} {maxL : Nat} {ret : Option FieldType} {d : Nat} {vals : List Value} {σ : St} {o : Option Value} {σ0 : St} (own : String) (hw : y.cls = own) (hy : plainName y.cls = true) (lv : List (Nat × Value)) (hlv : lv_args 0 vals = lv) (hn : (lg_sl vals).length ≤ maxL)
    (h : ∀ X : Xx, X.2.1 = l → Ck X G cc own maxL d → Rt X G ret o σ0 → V X G maxL 0 0 σ 0 lv []) : MI l G y cc maxL ret d vals σ o σ0 := by
  refine Met.ofW (cc := cc) (maxL := maxL) (ret := ret) hy rfl ?_
  intro p e s m args below meth c s₁ B hml hv
  obtain ⟨rfl, hsz, hP, hD, hK⟩ := hv
  have hts := atoms_spec (ws := .code y cc maxL ret :: gtb) B.pre
  have hown : s.vm.findClass own = some m.cls := by rw [← hw]; exact findClass_of_methodNamed B.named
  have hl := lv_entry vals (n := maxL) hn
  rw [lg_entry_eq]
  subst hlv
  exact h (p, l, e, rmD d 0 0, s, m, vals.toArray, below, meth, c, MQ below (fun _ st oc t => oc = .returned o ∧ Wq G σ0 st t) vals.toArray s 0 0 (gA G)) rfl
    ⟨B.exec, B.bytes, hml, hown, fun w hw => hts w (List.mem_cons_of_mem _ hw), hK, hsz, B.notSynchronized, Nat.le_refl _, Nat.le_refl _⟩ ⟨B.returns, rfl⟩ s.heap [] _ ⟨hP, hD, va_S.rf⟩ hl
section VV
variable {X : Xx} {G : Gx} {cc : ByteArray} {own : String} {nL d cells slots pc : Nat} {σ : St} {lv : List (Nat × Value)} {rest : List Value}
theorem V_sub (ks : List Nat) {lv' : List (Nat × Value)} (h : lv_pick lv ks = lv') {st : List Value} (k : V X G nL cells slots σ pc lv' st) : V X G nL cells slots σ pc lv st := fun H locs ls hH hl => k H locs ls hH (lv_sub hl ks h)

theorem V_iconst (C : Ck X G cc own nL d) {n : Int} (v : Int32) (hd : decode cc pc = .ok (.iconst n, 1)) (hv : Int32.ofInt n = v) (k : V X G nL cells slots σ (pc + 1) lv (.int v :: rest)) : V X G nL cells slots σ pc lv (rest) := fun H locs ls hH hl => lv_iconst C.1 C.2.1 hd hv (k H locs ls hH hl)
theorem V_bipush (C : Ck X G cc own nL d) {n : Int} (v : Int32) (hd : decode cc pc = .ok (.bipush n, 2)) (hv : (Int8.ofInt n).toInt32 = v) (k : V X G nL cells slots σ (pc + 2) lv (.int v :: rest)) : V X G nL cells slots σ pc lv (rest) := fun H locs ls hH hl => lv_bipush C.1 C.2.1 hd hv (k H locs ls hH hl)
theorem V_sipush (C : Ck X G cc own nL d) {n : Int} (v : Int32) (hd : decode cc pc = .ok (.sipush n, 3)) (hv : (Int16.ofInt n).toInt32 = v) (k : V X G nL cells slots σ (pc + 3) lv (.int v :: rest)) : V X G nL cells slots σ pc lv (rest) := fun H locs ls hH hl => lv_sipush C.1 C.2.1 hd hv (k H locs ls hH hl)
theorem V_lconst (C : Ck X G cc own nL d) {n : Fin 2} (v : Int64) (hd : decode cc pc = .ok (.lconst n, 1)) (hv : Int64.ofNat (n : Nat) = v) (k : V X G nL cells slots σ (pc + 1) lv (.long v :: rest)) : V X G nL cells slots σ pc lv (rest) := fun H locs ls hH hl => lv_lconst C.1 C.2.1 hd hv (k H locs ls hH hl)
theorem V_ldc (C : Ck X G cc own nL d) {index : Nat} (v : Int32) (hd : decode cc pc = .ok (.ldc index, 2)) (hc : Cond.constant own index v ∈ gtb) (k : V X G nL cells slots σ (pc + 2) lv (.int v :: rest)) : V X G nL cells slots σ pc lv (rest) := fun H locs ls hH hl => lv_ldc C.1 C.2.1 C.2.2.2.1 (C.2.2.2.2.1 _ hc) hd (k H locs ls hH hl)
theorem V_ldc2 (C : Ck X G cc own nL d) {index : Nat} (v : Int64) (hd : decode cc pc = .ok (.ldc2_w index, 3)) (hc : Cond.constantLong own index v ∈ gtb) (k : V X G nL cells slots σ (pc + 3) lv (.long v :: rest)) : V X G nL cells slots σ pc lv (rest) := fun H locs ls hH hl => lv_ldc2 C.1 C.2.1 C.2.2.2.1 (C.2.2.2.2.1 _ hc) hd (k H locs ls hH hl)
theorem V_iload_n (C : Ck X G cc own nL d) {n : Fin 4} {i : Nat} {x : Int32} (hd : decode cc pc = .ok (.iload_n n, 1)) (j : Nat) (hi : (n : Nat) = i) (hj : lv[j]? = some (i, .int x)) (k : V X G nL cells slots σ (pc + 1) lv (.int x :: rest)) : V X G nL cells slots σ pc lv (rest) := fun H locs ls hH hl => lv_iload_n C.1 C.2.1 hd hi (lv_at hl j hj) (k H locs ls hH hl)
theorem V_iload (C : Ck X G cc own nL d) {i : Nat} {x : Int32} (hd : decode cc pc = .ok (.iload i, 2)) (j : Nat) (hj : lv[j]? = some (i, .int x)) (k : V X G nL cells slots σ (pc + 2) lv (.int x :: rest)) : V X G nL cells slots σ pc lv (rest) := fun H locs ls hH hl => lv_iload C.1 C.2.1 hd (lv_at hl j hj) (k H locs ls hH hl)
theorem V_istore_n (C : Ck X G cc own nL d) {n : Fin 4} {i : Nat} {x : Int32} (ks : List Nat) {lv' : List (Nat × Value)} (hd : decode cc pc = .ok (.istore_n n, 1)) (hi : (n : Nat) = i) (hn : i < nL) (hl2 : lv_pick ((i, Value.int x) :: lv.filter (fun q => (!(q.1 == i) && !(q.1 + 1 == i && q.2.category == 2)))) ks = lv') (k : V X G nL cells slots σ (pc + 1) lv' rest) : V X G nL cells slots σ pc lv (.int x :: rest) := fun H locs ls hH hl => lv_istore_n C.1 C.2.1 hd hi hl hn rfl (fun ls' h' => k H locs ls' hH (lv_sub h' ks hl2))
theorem V_istore (C : Ck X G cc own nL d) {i : Nat} {x : Int32} (ks : List Nat) {lv' : List (Nat × Value)} (hd : decode cc pc = .ok (.istore i, 2)) (hn : i < nL) (hl2 : lv_pick ((i, Value.int x) :: lv.filter (fun q => (!(q.1 == i) && !(q.1 + 1 == i && q.2.category == 2)))) ks = lv') (k : V X G nL cells slots σ (pc + 2) lv' rest) : V X G nL cells slots σ pc lv (.int x :: rest) := fun H locs ls hH hl => lv_istore C.1 C.2.1 hd hl hn rfl (fun ls' h' => k H locs ls' hH (lv_sub h' ks hl2))
theorem V_lload_n (C : Ck X G cc own nL d) {n : Fin 4} {i : Nat} {x : Int64} (hd : decode cc pc = .ok (.lload_n n, 1)) (j : Nat) (hi : (n : Nat) = i) (hj : lv[j]? = some (i, .long x)) (k : V X G nL cells slots σ (pc + 1) lv (.long x :: rest)) : V X G nL cells slots σ pc lv (rest) := fun H locs ls hH hl => lv_lload_n C.1 C.2.1 hd hi (lv_at hl j hj) (k H locs ls hH hl)
theorem V_lload (C : Ck X G cc own nL d) {i : Nat} {x : Int64} (hd : decode cc pc = .ok (.lload i, 2)) (j : Nat) (hj : lv[j]? = some (i, .long x)) (k : V X G nL cells slots σ (pc + 2) lv (.long x :: rest)) : V X G nL cells slots σ pc lv (rest) := fun H locs ls hH hl => lv_lload C.1 C.2.1 hd (lv_at hl j hj) (k H locs ls hH hl)
theorem V_lstore_n (C : Ck X G cc own nL d) {n : Fin 4} {i : Nat} {x : Int64} (ks : List Nat) {lv' : List (Nat × Value)} (hd : decode cc pc = .ok (.lstore_n n, 1)) (hi : (n : Nat) = i) (hn : i + 1 < nL) (hl2 : lv_pick ((i, Value.long x) :: lv.filter (fun q => (!(q.1 == i) && (!(q.1 == i + 1) && !(q.1 + 1 == i && q.2.category == 2))))) ks = lv') (k : V X G nL cells slots σ (pc + 1) lv' rest) : V X G nL cells slots σ pc lv (.long x :: rest) := fun H locs ls hH hl => lv_lstore_n C.1 C.2.1 hd hi hl hn rfl (fun ls' h' => k H locs ls' hH (lv_sub h' ks hl2))
theorem V_lstore (C : Ck X G cc own nL d) {i : Nat} {x : Int64} (ks : List Nat) {lv' : List (Nat × Value)} (hd : decode cc pc = .ok (.lstore i, 2)) (hn : i + 1 < nL) (hl2 : lv_pick ((i, Value.long x) :: lv.filter (fun q => (!(q.1 == i) && (!(q.1 == i + 1) && !(q.1 + 1 == i && q.2.category == 2))))) ks = lv') (k : V X G nL cells slots σ (pc + 2) lv' rest) : V X G nL cells slots σ pc lv (.long x :: rest) := fun H locs ls hH hl => lv_lstore C.1 C.2.1 hd hl hn rfl (fun ls' h' => k H locs ls' hH (lv_sub h' ks hl2))
theorem V_aload_n (C : Ck X G cc own nL d) {n : Fin 4} {i : Nat} {x : Nat} (hd : decode cc pc = .ok (.aload_n n, 1)) (j : Nat) (hi : (n : Nat) = i) (hj : lv[j]? = some (i, .ref x)) (k : V X G nL cells slots σ (pc + 1) lv (.ref x :: rest)) : V X G nL cells slots σ pc lv (rest) := fun H locs ls hH hl => lv_aload_n C.1 C.2.1 hd hi (lv_at hl j hj) (k H locs ls hH hl)
theorem V_aload (C : Ck X G cc own nL d) {i : Nat} {x : Nat} (hd : decode cc pc = .ok (.aload i, 2)) (j : Nat) (hj : lv[j]? = some (i, .ref x)) (k : V X G nL cells slots σ (pc + 2) lv (.ref x :: rest)) : V X G nL cells slots σ pc lv (rest) := fun H locs ls hH hl => lv_aload C.1 C.2.1 hd (lv_at hl j hj) (k H locs ls hH hl)
theorem V_astore_n (C : Ck X G cc own nL d) {n : Fin 4} {i : Nat} {x : Nat} (ks : List Nat) {lv' : List (Nat × Value)} (hd : decode cc pc = .ok (.astore_n n, 1)) (hi : (n : Nat) = i) (hn : i < nL) (hl2 : lv_pick ((i, Value.ref x) :: lv.filter (fun q => (!(q.1 == i) && !(q.1 + 1 == i && q.2.category == 2)))) ks = lv') (k : V X G nL cells slots σ (pc + 1) lv' rest) : V X G nL cells slots σ pc lv (.ref x :: rest) := fun H locs ls hH hl => lv_astore_n C.1 C.2.1 hd hi hl hn rfl (fun ls' h' => k H locs ls' hH (lv_sub h' ks hl2))
theorem V_astore (C : Ck X G cc own nL d) {i : Nat} {x : Nat} (ks : List Nat) {lv' : List (Nat × Value)} (hd : decode cc pc = .ok (.astore i, 2)) (hn : i < nL) (hl2 : lv_pick ((i, Value.ref x) :: lv.filter (fun q => (!(q.1 == i) && !(q.1 + 1 == i && q.2.category == 2)))) ks = lv') (k : V X G nL cells slots σ (pc + 2) lv' rest) : V X G nL cells slots σ pc lv (.ref x :: rest) := fun H locs ls hH hl => lv_astore C.1 C.2.1 hd hl hn rfl (fun ls' h' => k H locs ls' hH (lv_sub h' ks hl2))
theorem V_iinc (C : Ck X G cc own nL d) {i : Nat} {n : Int} {x : Int32} (v : Int32) (j : Nat) (ks : List Nat) {lv' : List (Nat × Value)} (hd : decode cc pc = .ok (.iinc i n, 3)) (hj : lv[j]? = some (i, .int x)) (hv : x + Int32.ofInt n = v) (hn : i < nL) (hl2 : lv_pick ((i, Value.int v) :: lv.filter (fun q => !(q.1 == i) && !(q.1 + 1 == i && q.2.category == 2))) ks = lv') (k : V X G nL cells slots σ (pc + 3) lv' rest) : V X G nL cells slots σ pc lv rest := fun H locs ls hH hl => lv_iinc C.1 C.2.1 hd hl hj hv hn rfl (fun ls' h' => k H locs ls' hH (lv_sub h' ks hl2))
theorem V_iadd (C : Ck X G cc own nL d) {x y : Int32} (hd : decode cc pc = .ok (.iadd, 1)) (k : V X G nL cells slots σ (pc + 1) lv (.int (x + y) :: rest)) : V X G nL cells slots σ pc lv (.int y :: .int x :: rest) := fun H locs ls hH hl => lv_iadd C.1 C.2.1 hd (k H locs ls hH hl)
theorem V_isub (C : Ck X G cc own nL d) {x y : Int32} (hd : decode cc pc = .ok (.isub, 1)) (k : V X G nL cells slots σ (pc + 1) lv (.int (x - y) :: rest)) : V X G nL cells slots σ pc lv (.int y :: .int x :: rest) := fun H locs ls hH hl => lv_isub C.1 C.2.1 hd (k H locs ls hH hl)
theorem V_imul (C : Ck X G cc own nL d) {x y : Int32} (hd : decode cc pc = .ok (.imul, 1)) (k : V X G nL cells slots σ (pc + 1) lv (.int (x * y) :: rest)) : V X G nL cells slots σ pc lv (.int y :: .int x :: rest) := fun H locs ls hH hl => lv_imul C.1 C.2.1 hd (k H locs ls hH hl)
theorem V_iand (C : Ck X G cc own nL d) {x y : Int32} (hd : decode cc pc = .ok (.iand, 1)) (k : V X G nL cells slots σ (pc + 1) lv (.int (x &&& y) :: rest)) : V X G nL cells slots σ pc lv (.int y :: .int x :: rest) := fun H locs ls hH hl => lv_iand C.1 C.2.1 hd (k H locs ls hH hl)
theorem V_ior (C : Ck X G cc own nL d) {x y : Int32} (hd : decode cc pc = .ok (.ior, 1)) (k : V X G nL cells slots σ (pc + 1) lv (.int (x ||| y) :: rest)) : V X G nL cells slots σ pc lv (.int y :: .int x :: rest) := fun H locs ls hH hl => lv_ior C.1 C.2.1 hd (k H locs ls hH hl)
theorem V_ixor (C : Ck X G cc own nL d) {x y : Int32} (hd : decode cc pc = .ok (.ixor, 1)) (k : V X G nL cells slots σ (pc + 1) lv (.int (x ^^^ y) :: rest)) : V X G nL cells slots σ pc lv (.int y :: .int x :: rest) := fun H locs ls hH hl => lv_ixor C.1 C.2.1 hd (k H locs ls hH hl)
theorem V_ishl (C : Ck X G cc own nL d) {x y : Int32} (hd : decode cc pc = .ok (.ishl, 1)) (k : V X G nL cells slots σ (pc + 1) lv (.int (x <<< (y &&& 31)) :: rest)) : V X G nL cells slots σ pc lv (.int y :: .int x :: rest) := fun H locs ls hH hl => lv_ishl C.1 C.2.1 hd (k H locs ls hH hl)
theorem V_ishr (C : Ck X G cc own nL d) {x y : Int32} (hd : decode cc pc = .ok (.ishr, 1)) (k : V X G nL cells slots σ (pc + 1) lv (.int (x >>> (y &&& 31)) :: rest)) : V X G nL cells slots σ pc lv (.int y :: .int x :: rest) := fun H locs ls hH hl => lv_ishr C.1 C.2.1 hd (k H locs ls hH hl)
theorem V_iushr (C : Ck X G cc own nL d) {x y : Int32} (hd : decode cc pc = .ok (.iushr, 1)) (k : V X G nL cells slots σ (pc + 1) lv (.int ((x.toUInt32 >>> (y.toUInt32 &&& Int32.toUInt32 31)).toInt32) :: rest)) : V X G nL cells slots σ pc lv (.int y :: .int x :: rest) := fun H locs ls hH hl => lv_iushr C.1 C.2.1 hd rfl (k H locs ls hH hl)
theorem V_idiv (C : Ck X G cc own nL d) {x y : Int32} (hd : decode cc pc = .ok (.idiv, 1)) (hne : ¬ y = 0) (k : V X G nL cells slots σ (pc + 1) lv (.int (x / y) :: rest)) : V X G nL cells slots σ pc lv (.int y :: .int x :: rest) := fun H locs ls hH hl => lv_idiv C.1 C.2.1 hd hne (k H locs ls hH hl)
theorem V_irem (C : Ck X G cc own nL d) {x y : Int32} (hd : decode cc pc = .ok (.irem, 1)) (hne : ¬ y = 0) (k : V X G nL cells slots σ (pc + 1) lv (.int (x - x / y * y) :: rest)) : V X G nL cells slots σ pc lv (.int y :: .int x :: rest) := fun H locs ls hH hl => lv_irem C.1 C.2.1 hd hne (k H locs ls hH hl)
theorem V_ineg (C : Ck X G cc own nL d) {x : Int32} (hd : decode cc pc = .ok (.ineg, 1)) (k : V X G nL cells slots σ (pc + 1) lv (.int (-x) :: rest)) : V X G nL cells slots σ pc lv (.int x :: rest) := fun H locs ls hH hl => lv_ineg C.1 C.2.1 hd (k H locs ls hH hl)
theorem V_ladd (C : Ck X G cc own nL d) {x y : Int64} (hd : decode cc pc = .ok (.ladd, 1)) (k : V X G nL cells slots σ (pc + 1) lv (.long (x + y) :: rest)) : V X G nL cells slots σ pc lv (.long y :: .long x :: rest) := fun H locs ls hH hl => lv_ladd C.1 C.2.1 hd (k H locs ls hH hl)
theorem V_lsub (C : Ck X G cc own nL d) {x y : Int64} (hd : decode cc pc = .ok (.lsub, 1)) (k : V X G nL cells slots σ (pc + 1) lv (.long (x - y) :: rest)) : V X G nL cells slots σ pc lv (.long y :: .long x :: rest) := fun H locs ls hH hl => lv_lsub C.1 C.2.1 hd (k H locs ls hH hl)
theorem V_land (C : Ck X G cc own nL d) {x y : Int64} (hd : decode cc pc = .ok (.land, 1)) (k : V X G nL cells slots σ (pc + 1) lv (.long (x &&& y) :: rest)) : V X G nL cells slots σ pc lv (.long y :: .long x :: rest) := fun H locs ls hH hl => lv_land C.1 C.2.1 hd (k H locs ls hH hl)
theorem V_lor (C : Ck X G cc own nL d) {x y : Int64} (hd : decode cc pc = .ok (.lor, 1)) (k : V X G nL cells slots σ (pc + 1) lv (.long (x ||| y) :: rest)) : V X G nL cells slots σ pc lv (.long y :: .long x :: rest) := fun H locs ls hH hl => lv_lor C.1 C.2.1 hd (k H locs ls hH hl)
theorem V_lushr (C : Ck X G cc own nL d) {x : Int64} {y : Int32} (hd : decode cc pc = .ok (.lushr, 1)) (k : V X G nL cells slots σ (pc + 1) lv (.long ((x.toUInt64 >>> (y.toInt64.toUInt64 &&& Int64.toUInt64 63)).toInt64) :: rest)) : V X G nL cells slots σ pc lv (.int y :: .long x :: rest) := fun H locs ls hH hl => lv_lushr C.1 C.2.1 hd rfl (k H locs ls hH hl)
theorem V_lshl (C : Ck X G cc own nL d) {x : Int64} {y : Int32} (hd : decode cc pc = .ok (.lshl, 1)) (k : V X G nL cells slots σ (pc + 1) lv (.long (x <<< (y.toInt64 &&& 63)) :: rest)) : V X G nL cells slots σ pc lv (.int y :: .long x :: rest) := fun H locs ls hH hl => lv_lshl C.1 C.2.1 hd rfl (k H locs ls hH hl)
theorem V_lcmp (C : Ck X G cc own nL d) {x y : Int64} (hd : decode cc pc = .ok (.lcmp, 1)) (k : V X G nL cells slots σ (pc + 1) lv (.int (lg_cmp x y) :: rest)) : V X G nL cells slots σ pc lv (.long y :: .long x :: rest) := fun H locs ls hH hl => W.lcmp C.1 C.2.1 hd (k H locs ls hH hl)
theorem V_i2l (C : Ck X G cc own nL d) {x : Int32} (hd : decode cc pc = .ok (.i2l, 1)) (k : V X G nL cells slots σ (pc + 1) lv (.long x.toInt64 :: rest)) : V X G nL cells slots σ pc lv (.int x :: rest) := fun H locs ls hH hl => lv_i2l C.1 C.2.1 hd rfl (k H locs ls hH hl)
theorem V_l2i (C : Ck X G cc own nL d) {x : Int64} (hd : decode cc pc = .ok (.l2i, 1)) (k : V X G nL cells slots σ (pc + 1) lv (.int x.toInt32 :: rest)) : V X G nL cells slots σ pc lv (.long x :: rest) := fun H locs ls hH hl => lv_l2i C.1 C.2.1 hd rfl (k H locs ls hH hl)
theorem V_i2b (C : Ck X G cc own nL d) {x : Int32} (hd : decode cc pc = .ok (.i2b, 1)) (k : V X G nL cells slots σ (pc + 1) lv (.int x.toInt8.toInt32 :: rest)) : V X G nL cells slots σ pc lv (.int x :: rest) := fun H locs ls hH hl => lv_i2b C.1 C.2.1 hd rfl (k H locs ls hH hl)
theorem V_i2s (C : Ck X G cc own nL d) {x : Int32} (hd : decode cc pc = .ok (.i2s, 1)) (k : V X G nL cells slots σ (pc + 1) lv (.int x.toInt16.toInt32 :: rest)) : V X G nL cells slots σ pc lv (.int x :: rest) := fun H locs ls hH hl => lv_i2s C.1 C.2.1 hd rfl (k H locs ls hH hl)
theorem V_i2c (C : Ck X G cc own nL d) {x : Int32} (hd : decode cc pc = .ok (.i2c, 1)) (k : V X G nL cells slots σ (pc + 1) lv (.int (x.toUInt32 % 65536).toInt32 :: rest)) : V X G nL cells slots σ pc lv (.int x :: rest) := fun H locs ls hH hl => lv_i2c C.1 C.2.1 hd rfl (k H locs ls hH hl)
theorem V_dup (C : Ck X G cc own nL d) {v : Value} (hd : decode cc pc = .ok (.dup, 1)) (hc : v.category = 1) (k : V X G nL cells slots σ (pc + 1) lv (v :: v :: rest)) : V X G nL cells slots σ pc lv (v :: rest) := fun H locs ls hH hl => lv_dup C.1 C.2.1 hd hc (k H locs ls hH hl)
theorem V_dup2 (C : Ck X G cc own nL d) {v u : Value} (hd : decode cc pc = .ok (.dup2, 1)) (hc : v.category = 1) (hu : u.category = 1) (k : V X G nL cells slots σ (pc + 1) lv (v :: u :: v :: u :: rest)) : V X G nL cells slots σ pc lv (v :: u :: rest) := fun H locs ls hH hl => lv_dup2_11 C.1 C.2.1 hd hc hu (k H locs ls hH hl)
theorem V_pop (C : Ck X G cc own nL d) {v : Value} (hd : decode cc pc = .ok (.pop, 1)) (hc : v.category = 1) (k : V X G nL cells slots σ (pc + 1) lv (rest)) : V X G nL cells slots σ pc lv (v :: rest) := fun H locs ls hH hl => lv_pop C.1 C.2.1 hd hc (k H locs ls hH hl)
theorem V_if_eq (C : Ck X G cc own nL d) {x : Int32} {off : Int} (tgt : Nat) (hd : decode cc pc = .ok (.ifCond .eq off, 3)) (ht : (pc : Int) + off = (tgt : Int)) (kt : x = 0 → V X G nL cells slots σ tgt lv rest) (kf : ¬ (x = 0) → V X G nL cells slots σ (pc + 3) lv rest) : V X G nL cells slots σ pc lv (.int x :: rest) := fun H locs ls hH hl => lv_if_eq C.1 C.2.1 hd ht (fun q => kt (q) H locs ls hH hl) (fun q => kf (q) H locs ls hH hl)
theorem V_if_ne (C : Ck X G cc own nL d) {x : Int32} {off : Int} (tgt : Nat) (hd : decode cc pc = .ok (.ifCond .ne off, 3)) (ht : (pc : Int) + off = (tgt : Int)) (kt : ¬ (x = 0) → V X G nL cells slots σ tgt lv rest) (kf : x = 0 → V X G nL cells slots σ (pc + 3) lv rest) : V X G nL cells slots σ pc lv (.int x :: rest) := fun H locs ls hH hl => lv_if_ne C.1 C.2.1 hd ht (fun q => kt (q) H locs ls hH hl) (fun q => kf (q) H locs ls hH hl)
theorem V_if_lt (C : Ck X G cc own nL d) {x : Int32} {off : Int} (tgt : Nat) (hd : decode cc pc = .ok (.ifCond .lt off, 3)) (ht : (pc : Int) + off = (tgt : Int)) (kt : x < 0 → V X G nL cells slots σ tgt lv rest) (kf : ¬ (x < 0) → V X G nL cells slots σ (pc + 3) lv rest) : V X G nL cells slots σ pc lv (.int x :: rest) := fun H locs ls hH hl => lv_if_lt C.1 C.2.1 hd ht (fun q => kt (q) H locs ls hH hl) (fun q => kf (q) H locs ls hH hl)
theorem V_if_ge (C : Ck X G cc own nL d) {x : Int32} {off : Int} (tgt : Nat) (hd : decode cc pc = .ok (.ifCond .ge off, 3)) (ht : (pc : Int) + off = (tgt : Int)) (kt : ¬ (x < 0) → V X G nL cells slots σ tgt lv rest) (kf : x < 0 → V X G nL cells slots σ (pc + 3) lv rest) : V X G nL cells slots σ pc lv (.int x :: rest) := fun H locs ls hH hl => lv_if_ge C.1 C.2.1 hd ht (fun q => kt (Int32.not_lt.mpr q) H locs ls hH hl) (fun q => kf (Int32.not_le.mp q) H locs ls hH hl)
theorem V_if_gt (C : Ck X G cc own nL d) {x : Int32} {off : Int} (tgt : Nat) (hd : decode cc pc = .ok (.ifCond .gt off, 3)) (ht : (pc : Int) + off = (tgt : Int)) (kt : 0 < x → V X G nL cells slots σ tgt lv rest) (kf : ¬ (0 < x) → V X G nL cells slots σ (pc + 3) lv rest) : V X G nL cells slots σ pc lv (.int x :: rest) := fun H locs ls hH hl => lv_if_gt C.1 C.2.1 hd ht (fun q => kt (q) H locs ls hH hl) (fun q => kf (q) H locs ls hH hl)
theorem V_if_le (C : Ck X G cc own nL d) {x : Int32} {off : Int} (tgt : Nat) (hd : decode cc pc = .ok (.ifCond .le off, 3)) (ht : (pc : Int) + off = (tgt : Int)) (kt : ¬ (0 < x) → V X G nL cells slots σ tgt lv rest) (kf : 0 < x → V X G nL cells slots σ (pc + 3) lv rest) : V X G nL cells slots σ pc lv (.int x :: rest) := fun H locs ls hH hl => lv_if_le C.1 C.2.1 hd ht (fun q => kt (Int32.not_lt.mpr q) H locs ls hH hl) (fun q => kf (Int32.not_le.mp q) H locs ls hH hl)
theorem V_icmp_eq (C : Ck X G cc own nL d) {x y : Int32} {off : Int} (tgt : Nat) (hd : decode cc pc = .ok (.if_icmp .eq off, 3)) (ht : (pc : Int) + off = (tgt : Int)) (kt : x = y → V X G nL cells slots σ tgt lv rest) (kf : ¬ (x = y) → V X G nL cells slots σ (pc + 3) lv rest) : V X G nL cells slots σ pc lv (.int y :: .int x :: rest) := fun H locs ls hH hl => lv_icmp_eq C.1 C.2.1 hd ht (fun q => kt (q) H locs ls hH hl) (fun q => kf (q) H locs ls hH hl)
theorem V_icmp_ne (C : Ck X G cc own nL d) {x y : Int32} {off : Int} (tgt : Nat) (hd : decode cc pc = .ok (.if_icmp .ne off, 3)) (ht : (pc : Int) + off = (tgt : Int)) (kt : ¬ (x = y) → V X G nL cells slots σ tgt lv rest) (kf : x = y → V X G nL cells slots σ (pc + 3) lv rest) : V X G nL cells slots σ pc lv (.int y :: .int x :: rest) := fun H locs ls hH hl => lv_icmp_ne C.1 C.2.1 hd ht (fun q => kt (q) H locs ls hH hl) (fun q => kf (q) H locs ls hH hl)
theorem V_icmp_lt (C : Ck X G cc own nL d) {x y : Int32} {off : Int} (tgt : Nat) (hd : decode cc pc = .ok (.if_icmp .lt off, 3)) (ht : (pc : Int) + off = (tgt : Int)) (kt : x < y → V X G nL cells slots σ tgt lv rest) (kf : ¬ (x < y) → V X G nL cells slots σ (pc + 3) lv rest) : V X G nL cells slots σ pc lv (.int y :: .int x :: rest) := fun H locs ls hH hl => lv_icmp_lt C.1 C.2.1 hd ht (fun q => kt (q) H locs ls hH hl) (fun q => kf (q) H locs ls hH hl)
theorem V_icmp_ge (C : Ck X G cc own nL d) {x y : Int32} {off : Int} (tgt : Nat) (hd : decode cc pc = .ok (.if_icmp .ge off, 3)) (ht : (pc : Int) + off = (tgt : Int)) (kt : ¬ (x < y) → V X G nL cells slots σ tgt lv rest) (kf : x < y → V X G nL cells slots σ (pc + 3) lv rest) : V X G nL cells slots σ pc lv (.int y :: .int x :: rest) := fun H locs ls hH hl => lv_icmp_ge C.1 C.2.1 hd ht (fun q => kt (Int32.not_lt.mpr q) H locs ls hH hl) (fun q => kf (Int32.not_le.mp q) H locs ls hH hl)
theorem V_icmp_gt (C : Ck X G cc own nL d) {x y : Int32} {off : Int} (tgt : Nat) (hd : decode cc pc = .ok (.if_icmp .gt off, 3)) (ht : (pc : Int) + off = (tgt : Int)) (kt : y < x → V X G nL cells slots σ tgt lv rest) (kf : ¬ (y < x) → V X G nL cells slots σ (pc + 3) lv rest) : V X G nL cells slots σ pc lv (.int y :: .int x :: rest) := fun H locs ls hH hl => lv_icmp_gt C.1 C.2.1 hd ht (fun q => kt (q) H locs ls hH hl) (fun q => kf (q) H locs ls hH hl)
theorem V_icmp_le (C : Ck X G cc own nL d) {x y : Int32} {off : Int} (tgt : Nat) (hd : decode cc pc = .ok (.if_icmp .le off, 3)) (ht : (pc : Int) + off = (tgt : Int)) (kt : ¬ (y < x) → V X G nL cells slots σ tgt lv rest) (kf : y < x → V X G nL cells slots σ (pc + 3) lv rest) : V X G nL cells slots σ pc lv (.int y :: .int x :: rest) := fun H locs ls hH hl => lv_icmp_le C.1 C.2.1 hd ht (fun q => kt (Int32.not_lt.mpr q) H locs ls hH hl) (fun q => kf (Int32.not_le.mp q) H locs ls hH hl)
theorem V_goto (C : Ck X G cc own nL d) {off : Int} (tgt : Nat) {st : List Value} (hd : decode cc pc = .ok (.goto off, 3)) (ht : (pc : Int) + off = (tgt : Int)) (k : V X G nL cells slots σ tgt lv st) : V X G nL cells slots σ pc lv st := fun H locs ls hH hl => lv_goto C.1 C.2.1 hd ht (k H locs ls hH hl)
/-! fields -/
theorem V_get (C : Ck X G cc own nL d) {K ci j idx N : Nat} {Cn rf : String} {T : u_T} {fs : List Value} {v : Value} (hK : K < 110 + σ.1) (hlay : lay G K (σ.2.1 K) σ.2.2 = .inr (ci, fs)) (hc : vwCl[ci]? = some (Cn, T, N)) (hin : ∀ w ∈ u_ws Cn T N, w ∈ gtb) (hj : j < N) (hlink : Cond.fieldLink own idx rf (T j).2.1 (T j).2.2.1 ∈ gtb) (hsame : ∀ x, (xs X).fieldFound? (T j).1 (T j).2.1 (T j).2.2.1 = some x → (xs X).fieldFound? rf (T j).2.1 (T j).2.2.1 = some x) (hv : fs[j]? = some v) (hd : decode cc pc = .ok (.getfield idx, 3)) (k : V X G nL cells slots σ (pc + 3) lv (v :: rest)) : V X G nL cells slots σ pc lv (.ref (ga G K) :: rest) := fun H locs ls hH hl =>
  va_get (D := G.1) C.1 C.2.1 C.2.2.2.2.1 hin C.2.2.2.1 C.2.2.2.2.2.1.1 hH.1 K ((wsl_at hK).trans (by rw [hlay])) hc j hj (C.2.2.2.2.1 _ hlink) hsame hv hd (k H locs ls hH hl)
theorem V_put (C : Ck X G cc own nL d) {K ci j idx N : Nat} {Cn rf : String} {T : u_T} {fs : List Value} {v : Value} {ty : FieldType} (g : Nat → Int32) (ty0 : Nat → FieldType) (hty : ∀ k, k < N → parseFieldDescriptor (T k).2.2.1 = some (ty0 k)) (hnm : ∀ a, a < N → ∀ b, b < N → a ≠ b → (T a).2.1 ≠ (T b).2.1) (hK : K < 110 + σ.1) (hlay : lay G K (σ.2.1 K) σ.2.2 = .inr (ci, fs)) (hc : vwCl[ci]? = some (Cn, T, N)) (hin : ∀ w ∈ u_ws Cn T N, w ∈ gtb) (hj : j < N) (hlink : Cond.fieldLink own idx rf (T j).2.1 (T j).2.2.1 ∈ gtb) (hsame : ∀ x, (xs X).fieldFound? (T j).1 (T j).2.1 (T j).2.2.1 = some x → (xs X).fieldFound? rf (T j).2.1 (T j).2.2.1 = some x) (hfin : (T j).2.2.2 = false) (hpd : parseFieldDescriptor (T j).2.2.1 = some ty) (hnar : narrow ty v = v) (hfit : fits ty v = true) (hjl : j < fs.length) (hlay2 : lay G K g σ.2.2 = .inr (ci, fs.set j v)) (hd : decode cc pc = .ok (.putfield idx, 3)) (k : V X G nL cells slots (σ.1, va_up σ.2.1 K g, σ.2.2) (pc + 3) lv rest) : V X G nL cells slots σ pc lv (v :: .ref (ga G K) :: rest) := fun H locs ls hH hl =>
  va_put (D := G.1) C.1 C.2.1 C.2.2.2.2.1 hin ty0 hty hnm C.2.2.2.1 C.2.2.2.2.2.1.1 hH.1 hH.2.1 hH.2.2 K ((wsl_at hK).trans (by rw [hlay])) hc j hj (C.2.2.2.2.1 _ hlink) hsame hfin hpd hnar hfit hjl hd (fun H1 locs1 hP hD hS => k H1 locs1 ls ⟨by rw [← wsl_set hK, hlay2]; exact hP, by rw [← wsl_set hK, hlay2]; exact hD, hS⟩ hl)
/-! arrays -/
theorem V_iald (C : Ck X G cc own nL d) {K n : Nat} {i : Int32} (hK : K < 110 + σ.1) (hlay : lay G K (σ.2.1 K) σ.2.2 = .inl (gc G 0, n, .inl (σ.2.1 K))) (hin : inb i n = true) (hd : decode cc pc = .ok (.iaload, 1)) (k : V X G nL cells slots σ (pc + 1) lv (.int (rd σ K i) :: rest)) : V X G nL cells slots σ pc lv (.int i :: .ref (ga G K) :: rest) := fun H locs ls hH hl =>
  va_iald C.1 C.2.1 C.2.2.2.2.2.1.1 hH.1 K 0 ((wsl_at hK).trans (by rw [hlay])) rfl (inb_in hin) hd (k H locs ls hH hl)
theorem V_zald (C : Ck X G cc own nL d) {i : Int32} (hin : inb i 1024 = true) (hd : decode cc pc = .ok (.baload, 1)) (k : V X G nL cells slots σ (pc + 1) lv (.int (rd σ 98 i) :: rest)) : V X G nL cells slots σ pc lv (.int i :: .ref (ga G 98) :: rest) := fun H locs ls hH hl =>
  va_zald C.1 C.2.1 C.2.2.2.2.2.1.1 hH.1 98 2 (wsl_at (Nat.lt_of_lt_of_le (Nat.le_of_ble_eq_true rfl) (Nat.le_add_right 110 σ.1))) rfl (inb_in hin) hd (k H locs ls hH hl)
theorem V_lald (C : Ck X G cc own nL d) {i : Int32} (hin : inb i 2048 = true) (hd : decode cc pc = .ok (.laload, 1)) (k : V X G nL cells slots σ (pc + 1) lv (.long (rdL σ i) :: rest)) : V X G nL cells slots σ pc lv (.int i :: .ref (ga G 101) :: rest) := fun H locs ls hH hl =>
  va_lald C.1 C.2.1 C.2.2.2.2.2.1.1 hH.1 101 1 (wsl_at (Nat.lt_of_lt_of_le (Nat.le_of_ble_eq_true rfl) (Nat.le_add_right 110 σ.1))) rfl (inb_in hin) hd (k H locs ls hH hl)
theorem V_aald (C : Ck X G cc own nL d) {K n q t : Nat} {cA : ClassId} {ty : FieldType} {f : Nat → Option Nat} {i : Int32} (hK : K < 110 + σ.1) (hlay : lay G K (σ.2.1 K) σ.2.2 = .inl (cA, n, .inr (.inr (.inr (.inr f))))) (ht : (tyl G)[t]? = some (cA, ty)) (hr : ty.isReference = true) (hin : inb i n = true) (hf : f i.toNatClampNeg = some q) (hd : decode cc pc = .ok (.aaload, 1)) (k : V X G nL cells slots σ (pc + 1) lv (.ref q :: rest)) : V X G nL cells slots σ pc lv (.int i :: .ref (ga G K) :: rest) := fun H locs ls hH hl => by
  have h1 := inb_in hin
  have hlt : i.toNatClampNeg < n := Nat.not_le.mp fun q => h1 (Or.inr q)
  have hcell : H[ga G K]? = some (vp_cell cA (n, .inr (.inr (.inr (.inr f))))) := hH.1 K (ga G K, .inl (cA, n, .inr (.inr (.inr (.inr f))))) ((wsl_at hK).trans (by rw [hlay]))
  refine W.aald (v := .ref q) (ty := ty) C.1 C.2.1 hcell ((C.2.2.2.2.2.1.1.2 t _ ht).1 n (fun j => va_rf (f j))) hr (fun q => by cases q) (by show ¬ (i < 0 ∨ (arrV _ _ _).slots.size ≤ _); rw [arrV_size]; exact h1) ?_ rfl rfl hd (k H locs ls hH hl)
  show (arrV _ _ _).slots[_]? = _
  rw [arrV_read _ _ hlt, hf]
  rfl
theorem V_alen (C : Ck X G cc own nL d) {K n : Nat} {f : Nat → Int32} (hK : K < 110 + σ.1) (hlay : lay G K (σ.2.1 K) σ.2.2 = .inl (gc G 0, n, .inl f)) (hd : decode cc pc = .ok (.arraylength, 1)) (k : V X G nL cells slots σ (pc + 1) lv (.int (Int32.ofNat n) :: rest)) : V X G nL cells slots σ pc lv (.ref (ga G K) :: rest) := fun H locs ls hH hl =>
  va_alen (x := (n, .inl f)) C.1 C.2.1 C.2.2.2.2.2.1.1 hH.1 K 0 ((wsl_at hK).trans (by rw [hlay])) rfl rfl hd (k H locs ls hH hl)
theorem V_iast (C : Ck X G cc own nL d) {K n : Nat} {i x : Int32} (hK : K < 110 + σ.1) (hlay : ∀ f, lay G K f σ.2.2 = .inl (gc G 0, n, .inl f)) (hin : inb i n = true) (hd : decode cc pc = .ok (.iastore, 1)) (k : V X G nL cells slots (wr σ K i x) (pc + 1) lv rest) : V X G nL cells slots σ pc lv (.int x :: .int i :: .ref (ga G K) :: rest) := fun H locs ls hH hl =>
  va_iast C.1 C.2.1 C.2.2.2.2.2.1.1 hH.1 hH.2.1 hH.2.2 K 0 ((wsl_at hK).trans (by rw [hlay])) rfl (inb_in hin) hd (fun H1 locs1 hP hD hS => k H1 locs1 ls ⟨by show va_P _ _ (wsl G (σ.1, va_up σ.2.1 K (upd (σ.2.1 K) i.toNatClampNeg x), σ.2.2)) _; rw [← wsl_set hK, hlay]; exact hP, by show va_D _ (wsl G (σ.1, va_up σ.2.1 K (upd (σ.2.1 K) i.toNatClampNeg x), σ.2.2)); rw [← wsl_set hK, hlay]; exact hD, hS⟩ hl)
theorem V_zast (C : Ck X G cc own nL d) {i x : Int32} (hin : inb i 1024 = true) (hd : decode cc pc = .ok (.bastore, 1)) (k : V X G nL cells slots (wr σ 98 i (vp_nar .boolean x)) (pc + 1) lv rest) : V X G nL cells slots σ pc lv (.int x :: .int i :: .ref (ga G 98) :: rest) := fun H locs ls hH hl =>
  have hK : 98 < 110 + σ.1 := Nat.lt_of_lt_of_le (Nat.le_of_ble_eq_true rfl) (Nat.le_add_right 110 σ.1)
  va_zast C.1 C.2.1 C.2.2.2.2.2.1.1 hH.1 hH.2.1 hH.2.2 98 2 (wsl_at hK) rfl (inb_in hin) hd (fun H1 locs1 hP hD hS => k H1 locs1 ls ⟨by show va_P _ _ (wsl G (σ.1, va_up σ.2.1 98 (upd (σ.2.1 98) i.toNatClampNeg (vp_nar .boolean x)), σ.2.2)) _; rw [← wsl_set hK]; exact hP, by show va_D _ (wsl G (σ.1, va_up σ.2.1 98 (upd (σ.2.1 98) i.toNatClampNeg (vp_nar .boolean x)), σ.2.2)); rw [← wsl_set hK]; exact hD, hS⟩ hl)
theorem V_last (C : Ck X G cc own nL d) {i : Int32} {x : Int64} (hin : inb i 2048 = true) (hd : decode cc pc = .ok (.lastore, 1)) (k : V X G nL cells slots (wrL σ i x) (pc + 1) lv rest) : V X G nL cells slots σ pc lv (.long x :: .int i :: .ref (ga G 101) :: rest) := fun H locs ls hH hl =>
  have hK : 101 < 110 + σ.1 := Nat.lt_of_lt_of_le (Nat.le_of_ble_eq_true rfl) (Nat.le_add_right 110 σ.1)
  va_last C.1 C.2.1 C.2.2.2.2.2.1.1 hH.1 hH.2.1 hH.2.2 101 1 (wsl_at hK) rfl (inb_in hin) hd (fun H1 locs1 hP hD hS => k H1 locs1 ls ⟨by show va_P _ _ (wsl G (σ.1, σ.2.1, vp_updL σ.2.2 i.toNatClampNeg x)) _; rw [← wsl_setL]; exact hP, by show va_D _ (wsl G (σ.1, σ.2.1, vp_updL σ.2.2 i.toNatClampNeg x)); rw [← wsl_setL]; exact hD, hS⟩ hl)
/-! answers -/
theorem V_ends {o : Option Value} {H : Heap} {locs : List Loc} (hH : Hd G σ (xs X).heap H locs) : ∀ t : State, t.heap = H → (xs X).WarmedH t.vm → (fun (_ : Array Value) (st : State) (oc : Outcome) (t : State) => oc = .returned o ∧ Wq G σ st t) (xa X) (xs X) (.returned o) t := fun t ht _ => ⟨rfl, by rw [ht]; exact hH.1, hH.2.1, hH.2.2.F ht⟩
theorem V_iret (C : Ck X G cc own nL d) {r : Int32} (hR : Rt X G (some .int) (some (.int r)) σ) (hd : decode cc pc = .ok (.ireturn, 1)) : V X G nL 0 0 σ pc lv [.int r] := fun H locs ls hH hl => by
  rw [hR.2]
  exact W.iret (v := r) C.1 C.2.1 hR.1 (V_ends hH) hH.2.2.2.2 hd C.2.2.2.2.2.2.2.1
theorem V_zret (C : Ck X G cc own nL d) {r : Int32} {ty : FieldType} (hn : narrow ty (.int r) = .int r) (hR : Rt X G (some ty) (some (.int r)) σ) (hd : decode cc pc = .ok (.ireturn, 1)) : V X G nL 0 0 σ pc lv [.int r] := fun H locs ls hH hl => by
  rw [hR.2]
  exact W.zret (v := r) C.1 C.2.1 hR.1 hn (V_ends hH) hH.2.2.2.2 hd C.2.2.2.2.2.2.2.1
theorem V_lret (C : Ck X G cc own nL d) {r : Int64} (hR : Rt X G (some .long) (some (.long r)) σ) (hd : decode cc pc = .ok (.lreturn, 1)) : V X G nL 0 0 σ pc lv [.long r] := fun H locs ls hH hl => by
  rw [hR.2]
  exact W.lret (v := r) C.1 C.2.1 hR.1 (V_ends hH) hH.2.2.2.2 hd C.2.2.2.2.2.2.2.1
theorem V_vret (C : Ck X G cc own nL d) (hR : Rt X G none none σ) (hd : decode cc pc = .ok (.return_, 1)) : V X G nL 0 0 σ pc lv [] := fun H locs ls hH hl => by
  rw [hR.2]
  exact W.vret C.1 C.2.1 hR.1 (V_ends hH) hH.2.2.2.2 hd C.2.2.2.2.2.2.2.1
/-! calls -/
theorem Wp_blind {vals : List Value} : FrameBlind (va_Pc vals (Wp G σ)) := fun a U g mk q => ⟨q.1, q.2.1, q.2.2.1, q.2.2.2.1, Kx.same (u := U) (U := U.calling g mk a) rfl rfl q.2.2.2.2⟩
theorem Wp_pre {vals : List Value} {H : Heap} {locs : List Loc} (C : Ck X G cc own nL d) (hH : Hd G σ (xs X).heap H locs) : ∀ U : State, U.heap = H → (xs X).WarmedH U.vm → va_Pc vals (Wp G σ) vals.toArray U := fun U hU hW => ⟨rfl, by rw [hU]; exact Nat.le_trans C.2.2.2.2.2.2.1 hH.2.2.1, by rw [hU]; exact hH.1, hH.2.1, Kx.warm hW (by rw [hU]; exact hH.2.2.2.1) C.2.2.2.2.2.1⟩
theorem V_ran {o : Option Value} {σ0 : St} {st0 : List Value} {a : Array Value} (k : V X G nL cells slots σ0 (pc + 3) lv (o.toList ++ rest)) {H : Heap} {locs : List Loc} {ls : Array Slot} (hH : Hd G σ (xs X).heap H locs) (hl : lv_has ls nL lv)
    (hr : va_Run X.1 X.2.1 X.2.2.1 (xR X) (xs X) (xm X) (xa X) (xb X) (xM X) (xc X) H locs cells slots 0 0 (F0 (xm X) pc ls st0) rest ((fun (_ : Array Value) (st : State) (oc : Outcome) (t : State) => oc = .returned o ∧ Wq G σ0 st t) a) (gA G)) :
    W X.1 X.2.1 X.2.2.1 (xR X) (xs X) (xm X) (xa X) (xb X) (xM X) (xc X) H locs cells slots X.2.2.2.2.2.2.2.2.2.2 (F0 (xm X) pc ls st0) := by
  intro T hT Y
  obtain ⟨v, st₀, t, T', L, h0, Y', hL, e1, e2, ⟨hv, hP1, hD1, hz, hk⟩, st⟩ := hr T hT Y
  cases hv
  rw [h0] at hz hk
  have hS := hH.2.2
  obtain ⟨t2, a1, b1⟩ := k T'.heap (locs ++ L) ls ⟨by rw [e1]; exact hP1, hD1, ⟨Nat.le_trans hS.1 (by rw [e1]; exact hz), fun q h1 h2 => by rw [e1, hk q (Nat.lt_of_lt_of_le h1 hS.1) h2]; exact hS.2.1 q h1 h2, fun q hq => by
      rcases List.mem_append.mp hq with h | h
      · exact hS.2.2 q h
      · exact hL q h⟩⟩ hl T' rfl Y'
  exact ⟨t2, st t2 a1, b1⟩
/-- what is known of a method by the tables, ahead of any call -/
def Cal (y : MethodName) (bytes : ByteArray) (maxL : Nat) (ret : Option FieldType) (n : Nat) : Prop := Cond.code y bytes maxL ret ∈ gtb ∧ Cond.initialized y.cls ∈ gtb ∧ (y.cls ≠ "java/lang/invoke/MethodHandle" ∧ y.cls ≠ "java/lang/invoke/VarHandle" ∧ (parseMethodDescriptor y.desc).map (fun d => d.parameters.length) = some n) ∧ maxL ≤ 21
theorem callB_v (C : Ck X G cc own nL d) {y : MethodName} {bytes : ByteArray} {maxL n idx d1 : Nat} {ret : Option FieldType} (hc : Cal y bytes maxL ret n) (hl : Cond.methodLink own idx y ∈ gtb) (hdd : d1 + 1 ≤ d) : CallB (xR X) (xs X) (xa X) own idx y bytes maxL ret (.code y bytes maxL ret :: gtb) (rmD d1 0 0) 0 0 n :=
  callB_of n C.2.2.2.2.1 (gtb_code hc.1) rfl rfl rfl (C.2.2.2.2.1 _ hc.2.1) (C.2.2.2.2.1 _ hl) hc.2.2.1 ⟨Nat.le_trans hdd C.2.2.2.2.2.2.2.2.1, by
    have h1 := hc.2.2.2
    have h2 := C.2.2.2.2.2.2.2.2.2
    show 8 + (maxL + 11) + 40 * d1 ≤ _
    omega⟩
theorem V_callV (C : Ck X G cc own nL d) {y : MethodName} {Cn : String} {bytes : ByteArray} {maxL n idx d1 K ci N : Nat} {T : u_T} {fs : List Value} {ret : Option FieldType} {As : List Value} {o : Option Value} {σ0 : St} {st0 : List Value} (hM : MI X.2.1 G y bytes maxL ret d1 (.ref (ga G K) :: As) σ o σ0) (hc : Cal y bytes maxL ret n) (hi : Cond.instanceMethod y ∈ gtb) (hs : Cond.selects Cn y y ∈ gtb) (hlk : Cond.methodLink own idx y ∈ gtb) (hn : As.length = n) (hdd : d1 + 1 ≤ d) (hK : K < 110 + σ.1) (hlay : lay G K (σ.2.1 K) σ.2.2 = .inr (ci, fs)) (hcl : vwCl[ci]? = some (Cn, T, N)) (hst : st0 = As.reverse ++ .ref (ga G K) :: rest) (hroom : (rest.map fun v => v.category).sum ≤ 8) (hcs : cells ≤ (xR X).cells ∧ slots ≤ (xR X).slots) (hd : decode cc pc = .ok (.invokevirtual idx, 3)) (k : V X G nL cells slots σ0 (pc + 3) lv (o.toList ++ rest)) : V X G nL cells slots σ pc lv st0 := fun H locs ls hH hl => by
  refine V_ran (a := #[]) k hH hl (va_runV (As := As) (C := Cn) (b := ga G K) (bytes := bytes) (maxL := maxL) (ret := ret) (n := n) ⟨C.1, C.2.1, C.2.2.1, C.2.2.2.1, C.2.2.2.2.1⟩ hM ⟨callB_v C hc hlk hdd, C.2.2.2.2.1 _ hi, C.2.2.2.2.1 _ hs⟩ ⟨Wp_blind, va_recv C.2.2.2.2.2.1.1 hH.1 (ci := ci) (q0 := K) hcl ((wsl_at hK).trans (by rw [hlay])), Wp_pre C hH⟩ rfl hn hl.1 hst (lv_room hroom) hd hcs)
theorem V_callS (C : Ck X G cc own nL d) {y : MethodName} {bytes : ByteArray} {maxL n idx d1 : Nat} {ret : Option FieldType} {As : List Value} {o : Option Value} {σ0 : St} {st0 : List Value} (hM : MI X.2.1 G y bytes maxL ret d1 As σ o σ0) (hc : Cal y bytes maxL ret n) (hi : Cond.static y ∈ gtb) (hlk : Cond.methodLink own idx y ∈ gtb) (hn : As.length = n) (hdd : d1 + 1 ≤ d) (hst : st0 = As.reverse ++ rest) (hroom : (rest.map fun v => v.category).sum ≤ 8) (hcs : cells ≤ (xR X).cells ∧ slots ≤ (xR X).slots) (hd : decode cc pc = .ok (.invokestatic idx, 3)) (k : V X G nL cells slots σ0 (pc + 3) lv (o.toList ++ rest)) : V X G nL cells slots σ pc lv st0 := fun H locs ls hH hl => by
  refine V_ran (a := #[]) k hH hl (va_runS (As := As) (bytes := bytes) (maxL := maxL) (ret := ret) (n := n) ⟨C.1, C.2.1, C.2.2.1, C.2.2.2.1, C.2.2.2.2.1⟩ hM ⟨callB_v C hc hlk hdd, C.2.2.2.2.1 _ hi⟩ ⟨Wp_blind, Wp_pre C hH⟩ rfl hn hl.1 hst (lv_room hroom) hd hcs)
/-- Play's own call of the outer class's private isWithin -/
theorem V_callN (C : Ck X G cc RX4 nL d) {bytes : ByteArray} {maxL n d1 : Nat} {ret : Option FieldType} {As : List Value} {o : Option Value} {σ0 : St} {st0 : List Value} (hM : MI X.2.1 G yX11_isWithin bytes maxL ret d1 As σ o σ0) (hc : Cal yX11_isWithin bytes maxL ret n) (hi : Cond.static yX11_isWithin ∈ gtb) (hn : As.length = n) (hdd : d1 + 1 ≤ d) (hst : st0 = As.reverse ++ rest) (hroom : (rest.map fun v => v.category).sum ≤ 8) (hcs : cells ≤ (xR X).cells ∧ slots ≤ (xR X).slots) (hd : decode cc pc = .ok (.invokestatic 81, 3)) (k : V X G nL cells slots σ0 (pc + 3) lv (o.toList ++ rest)) : V X G nL cells slots σ pc lv st0 := fun H locs ls hH hl => by
  refine V_ran (a := #[]) k hH hl (va_runSN (As := As) (bytes := bytes) (maxL := maxL) (ret := ret) (n := n) (host := RX11) ⟨C.1, C.2.1, C.2.2.1, C.2.2.2.1, C.2.2.2.2.1⟩ hM ⟨va_cnB n C.2.2.2.2.1 (gtb_code hc.1) rfl rfl rfl C.2.2.2.2.2.1.2.1 (C.2.2.2.2.1 _ hc.2.1) hc.2.2.1 ⟨Nat.le_trans hdd C.2.2.2.2.2.2.2.2.1, by
    have h1 := hc.2.2.2
    have h2 := C.2.2.2.2.2.2.2.2.2
    show 8 + (maxL + 11) + 40 * d1 ≤ _
    omega⟩, C.2.2.2.2.1 _ hi, trivial⟩ ⟨Wp_blind, Wp_pre C hH⟩ rfl hn hl.1 hst (lv_room hroom) hd hcs)
theorem V_max (C : Ck X G cc own nL d) {idx : Nat} {x y : Int32} (hlk : Cond.methodLink own idx Lib.Math.max.name ∈ gtb) (hw : Cond.static Lib.Math.max.name ∈ gtb ∧ Cond.initialized "java/lang/Math" ∈ gtb ∧ Cond.code Lib.Math.max.name Lib.Math.max.code 2 (some .int) ∈ gtb) (hdd : 1 ≤ d) (hroom : (rest.map fun v => v.category).sum ≤ 8) (hcs : cells ≤ (xR X).cells ∧ slots ≤ (xR X).slots) (hd : decode cc pc = .ok (.invokestatic idx, 3)) (k : V X G nL cells slots σ (pc + 3) lv (.int (if x < y then y else x) :: rest)) : V X G nL cells slots σ pc lv (.int y :: .int x :: rest) := fun H locs ls hH hl =>
  va_mmax C.1 C.2.1 (C.2.2.1.trans hl.1.symm) C.2.2.2.1 (C.2.2.2.2.1 _ hlk) (C.2.2.2.2.1 _ hw.1) (C.2.2.2.2.1 _ hw.2.1) (C.2.2.2.2.1 _ hw.2.2) (Nat.le_trans hdd C.2.2.2.2.2.2.2.2.1) (by have := C.2.2.2.2.2.2.2.2.2; omega) hcs.1 hcs.2 hd (k H locs ls hH hl)
theorem V_min (C : Ck X G cc own nL d) {idx : Nat} {x y : Int32} (hlk : Cond.methodLink own idx Lib.Math.min.name ∈ gtb) (hw : Cond.static Lib.Math.min.name ∈ gtb ∧ Cond.initialized "java/lang/Math" ∈ gtb ∧ Cond.code Lib.Math.min.name Lib.Math.min.code 2 (some .int) ∈ gtb) (hdd : 1 ≤ d) (hroom : (rest.map fun v => v.category).sum ≤ 8) (hcs : cells ≤ (xR X).cells ∧ slots ≤ (xR X).slots) (hd : decode cc pc = .ok (.invokestatic idx, 3)) (k : V X G nL cells slots σ (pc + 3) lv (.int (if y < x then y else x) :: rest)) : V X G nL cells slots σ pc lv (.int y :: .int x :: rest) := fun H locs ls hH hl =>
  va_mmin C.1 C.2.1 (C.2.2.1.trans hl.1.symm) C.2.2.2.1 (C.2.2.2.2.1 _ hlk) (C.2.2.2.2.1 _ hw.1) (C.2.2.2.2.1 _ hw.2.1) (C.2.2.2.2.1 _ hw.2.2) (Nat.le_trans hdd C.2.2.2.2.2.2.2.2.1) (by have := C.2.2.2.2.2.2.2.2.2; omega) hcs.1 hcs.2 hd (k H locs ls hH hl)
theorem V_abs (C : Ck X G cc own nL d) {idx : Nat} {x : Int32} (hlk : Cond.methodLink own idx Lib.Math.abs.name ∈ gtb) (hw : Cond.static Lib.Math.abs.name ∈ gtb ∧ Cond.initialized "java/lang/Math" ∈ gtb ∧ Cond.code Lib.Math.abs.name Lib.Math.abs.code 1 (some .int) ∈ gtb) (hdd : 1 ≤ d) (hroom : (rest.map fun v => v.category).sum ≤ 8) (hcs : cells ≤ (xR X).cells ∧ slots ≤ (xR X).slots) (hd : decode cc pc = .ok (.invokestatic idx, 3)) (k : V X G nL cells slots σ (pc + 3) lv (.int (if 0 ≤ x then x else 0 - x) :: rest)) : V X G nL cells slots σ pc lv (.int x :: rest) := fun H locs ls hH hl =>
  va_mabs C.1 C.2.1 (C.2.2.1.trans hl.1.symm) C.2.2.2.1 (C.2.2.2.2.1 _ hlk) (C.2.2.2.2.1 _ hw.1) (C.2.2.2.2.1 _ hw.2.1) (C.2.2.2.2.1 _ hw.2.2) (Nat.le_trans hdd C.2.2.2.2.2.2.2.2.1) (by have := C.2.2.2.2.2.2.2.2.2; omega) hcs.1 hcs.2 hd (k H locs ls hH hl)
def cpok (sp dp n : Int32) (n0 n1 : Nat) : Bool := decide (0 ≤ sp.toInt ∧ 0 ≤ dp.toInt ∧ 0 ≤ n.toInt ∧ sp.toInt + n.toInt ≤ n0 ∧ dp.toInt + n.toInt ≤ n1)
theorem nn_of {z : Int32} (h : 0 ≤ z.toInt) : ¬ z < 0 ∧ z.toInt = (z.toNatClampNeg : Int) := ⟨fun q => by have := Int32.lt_iff_toInt_lt.mp q; simp at this; omega, by show z.toInt = ((z.toInt.toNat : Nat) : Int); omega⟩
theorem V_copy (C : Ck X G cc own nL d) {idx K0 K1 n0 n1 : Nat} {sp dp n : Int32} (hlk : Cond.methodLink own idx arraycopyName ∈ gtb) (hw : Cond.native arraycopyName ∈ gtb ∧ Cond.static arraycopyName ∈ gtb ∧ Cond.initialized "java/lang/System" ∈ gtb) (hK0 : K0 < 110 + σ.1) (hK1 : K1 < 110 + σ.1) (hlay0 : lay G K0 (σ.2.1 K0) σ.2.2 = .inl (gc G 0, n0, .inl (σ.2.1 K0))) (hlay1 : ∀ f, lay G K1 f σ.2.2 = .inl (gc G 0, n1, .inl f)) (hok : cpok sp dp n n0 n1 = true) (hdd : 1 ≤ d) (hroom : (rest.map fun v => v.category).sum ≤ 8) (hd : decode cc pc = .ok (.invokestatic idx, 3)) (k : V X G nL cells slots (cpy σ K0 sp K1 dp n) (pc + 3) lv rest) : V X G nL cells slots σ pc lv (.int n :: .int dp :: .ref (ga G K1) :: .int sp :: .ref (ga G K0) :: rest) := fun H locs ls hH hl => by
  obtain ⟨h1, h2, h3, h4, h5⟩ := of_decide_eq_true hok
  obtain ⟨a1, b1⟩ := nn_of h1
  obtain ⟨a2, b2⟩ := nn_of h2
  obtain ⟨a3, b3⟩ := nn_of h3
  refine va_copyi (ty := .int) C.1 C.2.1 (C.2.2.1.trans hl.1.symm) C.2.2.2.1 (C.2.2.2.2.1 _ hlk) (C.2.2.2.2.1 _ hw.1) (C.2.2.2.2.1 _ hw.2.1) (C.2.2.2.2.1 _ hw.2.2) C.2.2.2.2.2.1.1 hH.1 hH.2.1 hH.2.2 K0 K1 0 0 ((wsl_at hK0).trans (by rw [hlay0])) ((wsl_at hK1).trans (by rw [hlay1])) rfl rfl rfl a1 a2 a3 (by omega) (by omega) (fun i _ => rfl) (Nat.le_trans hdd C.2.2.2.2.2.2.2.2.1) (Nat.le_trans (Nat.add_le_add hroom (Nat.le_refl _)) (Nat.le_trans (show 8 + (nativeFrameWords "java/lang/System" "arraycopy" 5 + 11) ≤ 40 * 1 by decide +kernel) (by have := C.2.2.2.2.2.2.2.2.2; omega))) hd (fun H1 locs1 hP hD hS => k H1 locs1 ls ⟨?_, ?_, hS⟩ hl)
  · show va_P _ _ (wsl G (σ.1, va_up σ.2.1 K1 (va_cpy (σ.2.1 K0) (σ.2.1 K1) sp.toNatClampNeg dp.toNatClampNeg n.toNatClampNeg), σ.2.2)) _
    rw [← wsl_set hK1, hlay1]; exact hP
  · show va_D _ (wsl G (σ.1, va_up σ.2.1 K1 (va_cpy (σ.2.1 K0) (σ.2.1 K1) sp.toNatClampNeg dp.toNatClampNeg n.toNatClampNeg), σ.2.2))
    rw [← wsl_set hK1, hlay1]; exact hD
end VV
