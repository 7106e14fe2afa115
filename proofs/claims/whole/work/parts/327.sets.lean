/-! sets of parts as bits -/
def Sub (t s : Nat) : Prop := ∀ i, t.testBit i = true → s.testBit i = true
theorem Sub.rf (s : Nat) : Sub s s := fun _ h => h
theorem Sub.z (s : Nat) : Sub 0 s := fun i h => by rw [Nat.zero_testBit] at h; exact absurd h (by decide)
theorem Sub.and_l {t s : Nat} (h : Sub t s) : t &&& s = t := Nat.eq_of_testBit_eq fun i => by
  rw [Nat.testBit_and]
  cases e : t.testBit i with
  | false => rfl
  | true => rw [h i e]; rfl
theorem Sub.and_r {t s : Nat} (h : Sub t s) : s &&& t = t := by rw [Nat.and_comm]; exact h.and_l
theorem Sub.le {t s : Nat} (h : Sub t s) : t ≤ s := by rw [← h.and_l]; exact Nat.and_le_right
theorem sub_an (t s : Nat) : Sub (t &&& s) s := fun i h => by
  rw [Nat.testBit_and] at h
  exact (Bool.and_eq_true_iff.mp h).2
theorem Sub.tr {a b c : Nat} (h : Sub a b) (h2 : Sub b c) : Sub a c := fun i hi => h2 i (h i hi)
theorem sub_of_and {t s : Nat} (h : t &&& s = t) : Sub t s := by rw [← h]; exact sub_an t s
theorem Sub.half {t s : Nat} (h : Sub t s) : Sub (t / 2) (s / 2) := fun i hi => by
  rw [Nat.testBit_div_two] at hi ⊢
  exact h _ hi
theorem Sub.odd {t s : Nat} (h : Sub t s) (ht : t % 2 = 1) : s % 2 = 1 := by
  have := h 0
  rw [Nat.testBit_zero, Nat.testBit_zero, decide_eq_true_iff, decide_eq_true_iff] at this
  exact this ht
theorem sub_next : ∀ (t s u : Nat), Sub t s → 1 ≤ t → Sub u s → u < t → u ≤ (t - 1) &&& s := by
  intro t
  induction t using Nat.strongRecOn with
  | ind t ih =>
    intro s u hts h1 hus hut
    have e1 : ((t - 1) &&& s) / 2 = (t - 1) / 2 &&& s / 2 := Nat.and_div_two
    by_cases q : t % 2 = 1
    · have e2 : (t - 1) / 2 = t / 2 := by omega
      rw [e2, hts.half.and_l] at e1
      omega
    · have e2 : (t - 1) / 2 = t / 2 - 1 := by omega
      rw [e2] at e1
      have hi := ih (t / 2) (by omega) (s / 2) (u / 2) hts.half (by omega) hus.half (by omega)
      rw [← e1] at hi
      by_cases qu : u % 2 = 1
      · have hs := hus.odd qu
        have h3 : ((t - 1) &&& s) % 2 = 1 := Nat.and_mod_two_eq_one.mpr ⟨by omega, hs⟩
        omega
      · omega
theorem sub_pr {t s : Nat} (h1 : 1 ≤ t) : (t - 1) &&& s < t := Nat.lt_of_le_of_lt Nat.and_le_left (by omega)
theorem nI_andn {s t : Nat} : nI s &&& (nI t ^^^ (-1)) = nI (s ^^^ (s &&& t)) := b_ext fun i hi => by
  rw [b_and, b_xor, bt_nI hi, bt_nI hi, bt_nI hi, b_m1 i hi, Nat.testBit_xor, Nat.testBit_and]
  cases s.testBit i <;> cases t.testBit i <;> rfl
theorem tb_xs {s t i : Nat} (h : Sub t s) : (s ^^^ t).testBit i = true ↔ (s.testBit i = true ∧ t.testBit i = false) := by
  rw [Nat.testBit_xor]
  cases e1 : s.testBit i with
  | false =>
    cases e2 : t.testBit i with
    | false => decide
    | true => rw [h i e2] at e1; exact absurd e1 (by decide)
  | true => cases t.testBit i <;> decide
theorem sub_xs {s t : Nat} (h : Sub t s) : Sub (s ^^^ t) s := fun i hi => ((tb_xs h).mp hi).1
theorem xs_xs {s t : Nat} (h : Sub t s) : s ^^^ (s ^^^ t) = t := Nat.eq_of_testBit_eq fun i => by
  rw [Nat.testBit_xor, Nat.testBit_xor]
  cases s.testBit i <;> cases t.testBit i <;> rfl
theorem xs_0 {s t : Nat} (h : s ^^^ t = 0) : s = t := Nat.eq_of_testBit_eq fun i => by
  have : (s ^^^ t).testBit i = false := by rw [h, Nat.zero_testBit]
  rw [Nat.testBit_xor] at this
  cases e1 : s.testBit i <;> cases e2 : t.testBit i <;> rw [e1, e2] at this <;> first | rfl | exact absurd this (by decide)
theorem or_xs {s t : Nat} (h : Sub t s) : t ||| (s ^^^ t) = s := Nat.eq_of_testBit_eq fun i => by
  rw [Nat.testBit_or, Nat.testBit_xor]
  cases e1 : s.testBit i <;> cases e2 : t.testBit i <;> first | rfl | (rw [h i e2] at e1; exact absurd e1 (by decide))
theorem lt_all {s n : Nat} (h : s < 2 ^ n) : Sub s (2 ^ n - 1) := fun i hi => by
  rw [Nat.testBit_two_pow_sub_one]
  refine decide_eq_true ?_
  rcases Nat.lt_or_ge i n with q | q
  · exact q
  · have := Nat.testBit_lt_two_pow (x := s) (i := i) (Nat.lt_of_lt_of_le h (Nat.pow_le_pow_right (by decide) q))
    rw [this] at hi; exact absurd hi (by decide)
/-! the least of some numbers -/
def MinO (S : Int → Prop) (o : Option Int) : Prop := (∃ z, o = some z ∧ S z ∧ ∀ x, S x → z ≤ x) ∨ (o = none ∧ ∀ x, ¬ S x)
def omin (a : Option Int) (z : Int) : Option Int := match a with
  | none => some z
  | some x => if z < x then some z else some x
theorem MinO.add {S : Int → Prop} {o : Option Int} {z : Int} (h : MinO S o) : MinO (fun x => S x ∨ x = z) (omin o z) := by
  rcases h with ⟨x, rfl, h1, h2⟩ | ⟨rfl, h1⟩
  · show MinO _ (if z < x then some z else some x)
    by_cases q : z < x
    · rw [if_pos q]
      exact Or.inl ⟨z, rfl, Or.inr rfl, fun y hy => hy.elim (fun p => by have := h2 y p; omega) (fun p => by omega)⟩
    · rw [if_neg q]
      exact Or.inl ⟨x, rfl, Or.inl h1, fun y hy => hy.elim (h2 y) (fun p => by omega)⟩
  · exact Or.inl ⟨z, rfl, Or.inr rfl, fun y hy => hy.elim (fun p => absurd p (h1 y)) (fun p => by omega)⟩
theorem MinO.cg {S S' : Int → Prop} {o : Option Int} (e : ∀ x, S x ↔ S' x) (h : MinO S o) : MinO S' o := by
  rcases h with ⟨x, rfl, h1, h2⟩ | ⟨rfl, h1⟩
  · exact Or.inl ⟨x, rfl, (e x).mp h1, fun y hy => h2 y ((e y).mpr hy)⟩
  · exact Or.inr ⟨rfl, fun y hy => h1 y ((e y).mpr hy)⟩
theorem MinO.un {S : Int → Prop} {o o' : Option Int} (h : MinO S o) (h' : MinO S o') : o = o' := by
  rcases h with ⟨x, rfl, h1, h2⟩ | ⟨rfl, h1⟩
  · rcases h' with ⟨y, rfl, g1, g2⟩ | ⟨rfl, g1⟩
    · have := h2 y g1
      have := g2 x h1
      rw [show x = y by omega]
    · exact absurd h1 (g1 x)
  · rcases h' with ⟨y, rfl, g1, g2⟩ | ⟨rfl, g1⟩
    · exact absurd g1 (h1 y)
    · rfl
/-- a number or far -/
def Enc (F : Int32) (o : Option Int) (v : Int32) : Prop := match o with
  | some z => v.toInt = z
  | none => v = F
theorem Enc.add {F v u : Int32} {o : Option Int} {z : Int} (h : Enc F o v) (hu : u.toInt = z) (hz : z < F.toInt) : Enc F (omin o z) (if u < v then u else v) := by
  cases o with
  | none =>
    have hv : v = F := h
    show (if u < v then u else v).toInt = z
    rw [hv, if_pos (Int32.lt_iff_toInt_lt.mpr (by omega)), hu]
  | some x =>
    have hv : v.toInt = x := h
    show Enc F (if z < x then some z else some x) _
    by_cases q : z < x
    · rw [if_pos q, if_pos (Int32.lt_iff_toInt_lt.mpr (by omega))]; exact hu
    · rw [if_neg q, if_neg (fun hh => by have := Int32.lt_iff_toInt_lt.mp hh; omega)]; exact hv
theorem Enc.lt {F v : Int32} {o : Option Int} (h : Enc F o v) (hr : ∀ z, o = some z → z < F.toInt) : v < F ↔ ∃ z, o = some z := by
  cases o with
  | none =>
    have hv : v = F := h
    rw [hv]
    exact ⟨fun q => absurd q Int32.lt_irrefl, fun ⟨z, hz⟩ => by cases hz⟩
  | some x =>
    have hv : v.toInt = x := h
    have := hr x rfl
    exact ⟨fun _ => ⟨x, rfl⟩, fun _ => Int32.lt_iff_toInt_lt.mpr (by omega)⟩
/-! who may play what, and what it costs -/
section CO
variable (r : Nat → Int32) (w y : Nat)
def cst (p : Nat) : Int32 := if w = 0 then -(wsh r y p) else if w = 1 then (if ((r (222 + 3 * y) >>> (nI p &&& 31)) &&& 1) = 1 then 0 else wt r (nI p)) else if w = 2 then wt r (nI p) else if r (14 + 5 * p) = nI y then 0 else 1
def may (s : Nat) : Bool := !anyN (fun p => s.testBit p && (decide (abl r y p = 0) || anyN (fun q => s.testBit q && brB r p q) p)) (cn r 1)
def smS (s : Nat) : Nat → Int32 := fun k => lp (fun p v => if s.testBit p = true then v + cst r w y p else v) k 0
def sm (s : Nat) : Int32 := smS r w y s (cn r 1)
end CO
section CP2
variable {r : Nat → Int32} {w y : Nat}
theorem tb_top {s t i : Nat} : (s ||| 2 ^ t).testBit i = true ↔ (s.testBit i = true ∨ i = t) := tb_or s t i
theorem may_top {s t : Nat} (hs : s < 2 ^ t) (ht : t < cn r 1) : may r y (s ||| 2 ^ t) = (may r y s && !decide (abl r y t = 0) && !anyN (fun q => s.testBit q && brB r t q) t) := by
  have hst : ∀ i, t ≤ i → s.testBit i = false := fun i hi => Nat.testBit_lt_two_pow (Nat.lt_of_lt_of_le hs (Nat.pow_le_pow_right (by decide) hi))
  have hlo : ∀ i, i ≠ t → (s ||| 2 ^ t).testBit i = s.testBit i := fun i hi => by
    rw [Nat.testBit_or, Nat.testBit_two_pow, decide_eq_false (fun e => hi e.symm), Bool.or_false]
  have hto : (s ||| 2 ^ t).testBit t = true := tb_top.mpr (Or.inr rfl)
  unfold may
  rw [Bool.eq_iff_iff, Bool.not_eq_true', anyN_f, Bool.and_eq_true, Bool.and_eq_true, Bool.not_eq_true', anyN_f, Bool.not_eq_true', Bool.not_eq_true', anyN_f]
  constructor
  · intro h
    refine ⟨⟨fun p hp => ?_, ?_⟩, fun q hq => ?_⟩
    · by_cases qp : p = t
      · rw [qp, hst t (Nat.le_refl _)]; rfl
      · have := h p hp
        rw [hlo p qp] at this
        cases e : s.testBit p with
        | false => rfl
        | true =>
          rw [e, Bool.true_and, Bool.or_eq_false_iff] at this
          rw [Bool.true_and, Bool.or_eq_false_iff]
          refine ⟨this.1, ?_⟩
          have h2 := anyN_f.mp this.2
          refine anyN_f.mpr (fun q hq => ?_)
          have h3 := h2 q hq
          have hpt : p < t := by
            rcases Nat.lt_or_ge p t with z | z
            · exact z
            · rw [hst p z] at e; exact absurd e (by decide)
          rw [hlo q (by omega)] at h3
          exact h3
    · have := h t ht
      rw [hto, Bool.true_and, Bool.or_eq_false_iff] at this
      exact this.1
    · have := h t ht
      rw [hto, Bool.true_and, Bool.or_eq_false_iff] at this
      have h3 := anyN_f.mp this.2 q hq
      rw [hlo q (by omega)] at h3
      exact h3
  · rintro ⟨⟨h1, h2⟩, h3⟩ p hp
    by_cases qp : p = t
    · subst qp
      rw [hto, Bool.true_and, h2, Bool.false_or]
      refine anyN_f.mpr (fun q hq => ?_)
      rw [hlo q (by omega)]
      exact h3 q hq
    · rw [hlo p qp]
      cases e : s.testBit p with
      | false => rfl
      | true =>
        have hpt : p < t := by
          rcases Nat.lt_or_ge p t with z | z
          · exact z
          · rw [hst p z] at e; exact absurd e (by decide)
        have := h1 p hp
        rw [e, Bool.true_and, Bool.or_eq_false_iff] at this
        rw [Bool.true_and, Bool.or_eq_false_iff]
        refine ⟨this.1, anyN_f.mpr (fun q hq => ?_)⟩
        rw [hlo q (by omega)]
        exact anyN_f.mp this.2 q hq
theorem smS_hi {s t : Nat} (hs : s < 2 ^ t) : ∀ {k : Nat}, t ≤ k → smS r w y s k = smS r w y s t
  | 0, h => by rw [show t = 0 by omega]
  | k + 1, h => by
    by_cases q : t = k + 1
    · rw [q]
    · show (if s.testBit k = true then smS r w y s k + cst r w y k else smS r w y s k) = _
      rw [Nat.testBit_lt_two_pow (Nat.lt_of_lt_of_le hs (Nat.pow_le_pow_right (by decide) (show t ≤ k by omega))), if_neg (by decide)]
      exact smS_hi hs (by omega)
theorem smS_cg {s s' : Nat} : ∀ {k : Nat}, (∀ i, i < k → s.testBit i = s'.testBit i) → smS r w y s k = smS r w y s' k
  | 0, _ => rfl
  | k + 1, h => by
    show (if s.testBit k = true then smS r w y s k + cst r w y k else smS r w y s k) = (if s'.testBit k = true then smS r w y s' k + cst r w y k else smS r w y s' k)
    rw [smS_cg (fun i hi => h i (by omega)), h k (by omega)]
theorem sm_top {s t : Nat} (hs : s < 2 ^ t) (ht : t < cn r 1) : sm r w y (s ||| 2 ^ t) = sm r w y s + cst r w y t := by
  have h1 : s ||| 2 ^ t < 2 ^ (t + 1) := Nat.or_lt_two_pow (Nat.lt_of_lt_of_le hs (Nat.pow_le_pow_right (by decide) (by omega))) (Nat.pow_lt_pow_right (by decide) (by omega))
  unfold sm
  rw [smS_hi h1 (show t + 1 ≤ cn r 1 by omega), smS_hi hs (show t ≤ cn r 1 by omega)]
  show (if (s ||| 2 ^ t).testBit t = true then smS r w y (s ||| 2 ^ t) t + cst r w y t else smS r w y (s ||| 2 ^ t) t) = _
  rw [if_pos (tb_top.mpr (Or.inr rfl)), smS_cg (s := s ||| 2 ^ t) (s' := s) (fun i hi => by
    rw [Nat.testBit_or, Nat.testBit_two_pow, decide_eq_false (by omega), Bool.or_false])]
theorem may_0 : may r y 0 = true := by
  unfold may
  rw [Bool.not_eq_true', anyN_f]
  intro p _
  rw [Nat.zero_testBit]; rfl
theorem sm_0 : sm r w y 0 = 0 := by
  unfold sm smS
  exact lp_id (fun k _ => by rw [Nat.zero_testBit, if_neg (by decide)])
/-! ranges -/
theorem wt_r (hI : IR r) (x : Int32) : 0 ≤ (wt r x).toInt ∧ (wt r x).toInt ≤ 8000 := by
  have b2 := hI.1.2.2.1.2
  have b0 := hI.1.1.2.2
  have H : ∀ k, k ≤ cn r 2 → 0 ≤ (lp (fun e s => if r (60 + 4 * e) = x then s + ((r (62 + 4 * e) - r (61 + 4 * e)) + 1) else s) k (0 : Int32)).toInt ∧ (lp (fun e s => if r (60 + 4 * e) = x then s + ((r (62 + 4 * e) - r (61 + 4 * e)) + 1) else s) k (0 : Int32)).toInt ≤ 200 * k := by
    intro k
    induction k with
    | zero => exact fun _ => ⟨by show (0 : Int) ≤ (0 : Int32).toInt; decide, by show (0 : Int32).toInt ≤ (200 : Int) * ((0 : Nat) : Int); decide⟩
    | succ k ih =>
      intro hk
      obtain ⟨h1, h2⟩ := ih (by omega)
      obtain ⟨j1, j2, j3, j4⟩ := hI.2.2.1 k (by omega)
      show 0 ≤ (if r (60 + 4 * k) = x then lp _ k 0 + ((r (62 + 4 * k) - r (61 + 4 * k)) + 1) else lp _ k 0).toInt ∧ (if r (60 + 4 * k) = x then lp _ k 0 + ((r (62 + 4 * k) - r (61 + 4 * k)) + 1) else lp _ k 0).toInt ≤ 200 * ((k + 1 : Nat) : Int)
      split
      · rw [j2.1, j3.1, pk_sub j2.2, nI_1, Int32.toInt_add, nI_toInt (by omega), Int.bmod_eq_of_le (by omega) (by omega)]
        omega
      · omega
  have := H (cn r 2) (Nat.le_refl _)
  exact ⟨this.1, Int.le_trans this.2 (by omega)⟩
theorem wsh_r (hI : IR r) (hy : y < cn r 3) (p : Nat) : 0 ≤ (wsh r y p).toInt ∧ (wsh r y p).toInt ≤ 999 := by
  unfold wsh
  split
  · obtain ⟨e, h⟩ := (hI.2.2.2.2.1 y hy).1
    rw [e, nI_toInt (by omega)]; omega
  · unfold hld
    split
    · decide
    · rename_i h1
      rw [Int32.lt_iff_toInt_lt, show (0 : Int32).toInt = 0 by decide] at h1
      split
      · decide
      · rename_i h2
        rw [Int32.lt_iff_toInt_lt, show (999 : Int32).toInt = 999 by decide] at h2
        omega
theorem cst_r (hI : IR r) (hy : y < cn r 3) (p : Nat) : -999 ≤ (cst r w y p).toInt ∧ (cst r w y p).toInt ≤ 8000 ∧ (w = 2 → 0 ≤ (cst r w y p).toInt) := by
  unfold cst
  have h1 := wt_r hI (nI p)
  have h2 := wsh_r hI hy p
  split
  · rw [Int32.toInt_neg, Int.bmod_eq_of_le (by omega) (by omega)]
    exact ⟨by omega, by omega, fun h => by omega⟩
  · split
    · split
      · exact ⟨by decide, by decide, fun _ => by decide⟩
      · exact ⟨by omega, by omega, fun _ => by omega⟩
    · split
      · exact ⟨by omega, by omega, fun _ => by omega⟩
      · split <;> exact ⟨by decide, by decide, fun _ => by decide⟩
theorem sm_r (hI : IR r) (hy : y < cn r 3) (s : Nat) : -9990 ≤ (sm r w y s).toInt ∧ (sm r w y s).toInt ≤ 80000 ∧ (w = 2 → 0 ≤ (sm r w y s).toInt) := by
  have b1 := hI.1.2.1.2
  have H : ∀ k : Nat, k ≤ 10 → -999 * (k : Int) ≤ (smS r w y s k).toInt ∧ (smS r w y s k).toInt ≤ 8000 * k ∧ (w = 2 → 0 ≤ (smS r w y s k).toInt) := by
    intro k
    induction k with
    | zero => exact fun _ => ⟨by show -999 * ((0 : Nat) : Int) ≤ (0 : Int32).toInt; decide, by show (0 : Int32).toInt ≤ (8000 : Int) * ((0 : Nat) : Int); decide, fun _ => by show (0 : Int) ≤ (0 : Int32).toInt; decide⟩
    | succ k ih =>
      intro hk
      obtain ⟨h1, h2, h3⟩ := ih (by omega)
      obtain ⟨c1, c2, c3⟩ := cst_r (w := w) hI hy k
      show -999 * ((k + 1 : Nat) : Int) ≤ (if s.testBit k = true then smS r w y s k + cst r w y k else smS r w y s k).toInt ∧ (if s.testBit k = true then smS r w y s k + cst r w y k else smS r w y s k).toInt ≤ 8000 * ((k + 1 : Nat) : Int) ∧ (w = 2 → 0 ≤ (if s.testBit k = true then smS r w y s k + cst r w y k else smS r w y s k).toInt)
      split
      · rw [Int32.toInt_add, Int.bmod_eq_of_le (by omega) (by omega)]
        exact ⟨by omega, by omega, fun h => by have := h3 h; have := c3 h; omega⟩
      · exact ⟨by omega, by omega, fun h => h3 h⟩
  have := H (cn r 1) b1
  exact ⟨by have := this.1; unfold sm; omega, by have := this.2.1; unfold sm; omega, this.2.2⟩
end CP2
/-! best sums -/
def jz (w : Nat) (a b : Int) : Int := if w = 2 then (if a < b then b else a) else a + b
def cand (r : Nat → Int32) (w y : Nat) (f : Nat → Option Int) (s : Nat) (t : Nat) (z : Int) : Prop := Sub t s ∧ may r y t = true ∧ ∃ z', f (s ^^^ t) = some z' ∧ z = jz w (sm r w y t).toInt z'
noncomputable def mv (r : Nat → Int32) (w : Nat) : List Nat → Nat → Option Int
  | [], s => if s = 0 then some 0 else none
  | y :: ys, s => Classical.epsilon (fun o => MinO (fun z => ∃ t, cand r w y (mv r w ys) s t z) o)
theorem min_ex {P : Nat → Int → Prop} : ∀ n, ∃ o, MinO (fun z => ∃ t, t < n ∧ P t z ∧ ∀ z', P t z' → z' = z) o
  | 0 => ⟨none, Or.inr ⟨rfl, fun x ⟨t, ht, _⟩ => absurd ht (Nat.not_lt_zero t)⟩⟩
  | n + 1 => by
    obtain ⟨o, ho⟩ := min_ex (P := P) n
    by_cases q : ∃ z, P n z ∧ ∀ z', P n z' → z' = z
    · obtain ⟨z, h1, h2⟩ := q
      refine ⟨omin o z, (ho.add (z := z)).cg (fun x => ⟨?_, ?_⟩)⟩
      · rintro (⟨t, ht, h⟩ | rfl)
        · exact ⟨t, by omega, h⟩
        · exact ⟨n, by omega, h1, h2⟩
      · rintro ⟨t, ht, h3, h4⟩
        by_cases qt : t = n
        · subst qt; exact Or.inr (h2 x h3)
        · exact Or.inl ⟨t, by omega, h3, h4⟩
    · refine ⟨o, ho.cg (fun x => ⟨?_, ?_⟩)⟩
      · rintro ⟨t, ht, h⟩; exact ⟨t, by omega, h⟩
      · rintro ⟨t, ht, h3, h4⟩
        by_cases qt : t = n
        · subst qt; exact absurd ⟨x, h3, h4⟩ q
        · exact ⟨t, by omega, h3, h4⟩
theorem cand_un {r : Nat → Int32} {w y : Nat} {f : Nat → Option Int} {s t : Nat} {z z' : Int} (h : cand r w y f s t z) (h' : cand r w y f s t z') : z' = z := by
  obtain ⟨_, _, x, e, rfl⟩ := h
  obtain ⟨_, _, x', e', rfl⟩ := h'
  rw [e] at e'
  cases e'
  rfl
theorem mv_min (r : Nat → Int32) (w y : Nat) (ys : List Nat) (s : Nat) : MinO (fun z => ∃ t, cand r w y (mv r w ys) s t z) (mv r w (y :: ys) s) := by
  obtain ⟨o, ho⟩ := min_ex (P := cand r w y (mv r w ys) s) (s + 1)
  have : ∃ o, MinO (fun z => ∃ t, cand r w y (mv r w ys) s t z) o := ⟨o, ho.cg (fun x => ⟨fun ⟨t, _, h, _⟩ => ⟨t, h⟩, fun ⟨t, h⟩ => ⟨t, by have := h.1.le; omega, h, fun z' h' => cand_un h h'⟩⟩)⟩
  exact Classical.epsilon_spec this
theorem mv_nil (r : Nat → Int32) (w s : Nat) : mv r w [] s = if s = 0 then some 0 else none := rfl
theorem mv_rng {r : Nat → Int32} {w : Nat} (hI : IR r) : ∀ {ys : List Nat} {s : Nat} {z : Int}, (∀ y, y ∈ ys → y < cn r 3) → mv r w ys s = some z → -9990 * (ys.length : Int) ≤ z ∧ z ≤ 80000 * ys.length ∧ (w = 2 → 0 ≤ z)
  | [], s, z, _, h => by
    rw [mv_nil] at h
    split at h
    · cases h; exact ⟨by decide, by decide, fun _ => by decide⟩
    · cases h
  | y :: ys, s, z, hy, h => by
    rcases mv_min r w y ys s with ⟨z0, e, ⟨t, h1, h2, z', h3, h4⟩, _⟩ | ⟨e, _⟩
    · rw [h] at e
      cases e
      obtain ⟨g1, g2, g3⟩ := mv_rng hI (fun q hq => hy q (List.mem_cons_of_mem _ hq)) h3
      obtain ⟨c1, c2, c3⟩ := sm_r (w := w) hI (hy y (List.mem_cons_self ..)) t
      rw [h4]
      have el : ((y :: ys).length : Int) = ys.length + 1 := by simp
      rw [el]
      have hl : (0 : Int) ≤ ys.length := by omega
      unfold jz
      by_cases q : w = 2
      · rw [if_pos q]
        have := c3 q
        have := g3 q
        split
        · exact ⟨by omega, by omega, fun _ => by omega⟩
        · exact ⟨by omega, by omega, fun _ => by omega⟩
      · rw [if_neg q]
        exact ⟨by omega, by omega, fun h => absurd h q⟩
    · rw [h] at e; cases e
