/-! helpers of both sides -/
theorem bd2_id {α β : Type} (x : Option (α × β)) : (bd2 x fun a b => some (a, b)) = x := by
  cases x with
  | none => rfl
  | some q => rfl
section CH
variable {r : Nat → Int32} {σ : St}
theorem e_hasLine (x : Int32) (hI : ICn r) (hc : CSc 1 r σ) : f_X4_hasLine x σ = some (wi x (cn r 0)) := by
  unfold f_X4_hasLine
  rw [fd_ar, hc.1, hI.1.1, e_isWithin, bd_so, isB_wi]; rfl
theorem e_hasPart (x : Int32) (hI : ICn r) (hc : CSc 1 r σ) : f_X4_hasPart x σ = some (wi x (cn r 1)) := by
  unfold f_X4_hasPart
  rw [fd_ar, hc.2.1, hI.2.1.1, e_isWithin, bd_so, isB_wi]; rfl
theorem e_hasEntry (x : Int32) (hI : ICn r) (hc : CSc 1 r σ) : f_X4_hasEntry x σ = some (wi x (cn r 2)) := by
  unfold f_X4_hasEntry
  rw [fd_ar, hc.2.2.1, hI.2.2.1.1, e_isWithin, bd_so, isB_wi]; rfl
theorem e_hasPlayer (x : Int32) (hI : ICn r) (hc : CSc 1 r σ) : f_X4_hasPlayer x σ = some (wi x (cn r 3)) := by
  unfold f_X4_hasPlayer
  rw [fd_ar, hc.2.2.2, hI.2.2.2.1.1, e_isWithin, bd_so, isB_wi]; rfl
theorem m_isPart (x : Int32) (hI : ICn r) (hm : ar σ 84 = r) : f_X12_isPart x σ = some (wi x (cn r 1)) := by
  unfold f_X12_isPart
  rw [chk_t (by decide), show rd σ 84 1 = r 1 from by rw [← hm]; rfl, hI.2.1.1, e_in x (by have := hI.2.1.2; omega), bd_so, isB_wi]; rfl
theorem m_isEntry (x : Int32) (hI : ICn r) (hm : ar σ 84 = r) : f_X12_isEntry x σ = some (wi x (cn r 2)) := by
  unfold f_X12_isEntry
  rw [chk_t (by decide), show rd σ 84 2 = r 2 from by rw [← hm]; rfl, hI.2.2.1.1, e_in x (by have := hI.2.2.1.2; omega), bd_so, isB_wi]; rfl
theorem m_isPlayer (x : Int32) (hI : ICn r) (hm : ar σ 84 = r) : f_X12_isPlayer x σ = some (wi x (cn r 3)) := by
  unfold f_X12_isPlayer
  rw [chk_t (by decide), show rd σ 84 3 = r 3 from by rw [← hm]; rfl, hI.2.2.2.1.1, e_in x (by have := hI.2.2.2.1.2; omega), bd_so, isB_wi]; rfl
theorem m_in2 (x : Int32) : f_X12_in x 0 1 = some (wi x 2) := (show nI 2 - 1 = (1 : Int32) by decide) ▸ e_in x (n := 2) (by decide)
theorem m_in3 (x : Int32) : f_X12_in x 0 2 = some (wi x 3) := (show nI 3 - 1 = (2 : Int32) by decide) ▸ e_in x (n := 3) (by decide)
theorem m_in4 (x : Int32) : f_X12_in x 0 3 = some (wi x 4) := (show nI 4 - 1 = (3 : Int32) by decide) ▸ e_in x (n := 4) (by decide)
theorem m_in6 (x : Int32) : f_X12_in x 0 5 = some (wi x 6) := (show nI 6 - 1 = (5 : Int32) by decide) ▸ e_in x (n := 6) (by decide)
theorem m_in10 (x : Int32) : f_X12_in x 0 9 = some (wi x 10) := (show nI 10 - 1 = (9 : Int32) by decide) ▸ e_in x (n := 10) (by decide)
theorem m_in100 (x : Int32) : f_X12_in x 0 99 = some (wi x 100) := (show nI 100 - 1 = (99 : Int32) by decide) ▸ e_in x (n := 100) (by decide)
theorem m_in10000 (x : Int32) : f_X12_in x 0 9999 = some (wi x 10000) := (show nI 10000 - 1 = (9999 : Int32) by decide) ▸ e_in x (n := 10000) (by decide)
theorem m_isSheet (x : Int32) : f_X12_isSheet x = some (wi x 4) := by
  unfold f_X12_isSheet
  rw [m_in4, bd_so, isB_wi]; rfl
theorem w_2 (x : Int32) : f_X11_isWithin x 2 = some (wi x 2) := e_isWithin x 2
theorem w_3 (x : Int32) : f_X11_isWithin x 3 = some (wi x 3) := e_isWithin x 3
theorem w_4 (x : Int32) : f_X11_isWithin x 4 = some (wi x 4) := e_isWithin x 4
theorem w_6 (x : Int32) : f_X11_isWithin x 6 = some (wi x 6) := e_isWithin x 6
theorem w_10 (x : Int32) : f_X11_isWithin x 10 = some (wi x 10) := e_isWithin x 10
theorem w_100 (x : Int32) : f_X11_isWithin x 100 = some (wi x 100) := e_isWithin x 100
theorem w_10000 (x : Int32) : f_X11_isWithin x 10000 = some (wi x 10000) := e_isWithin x 10000
theorem ix5 (p j : Nat) : (10 + (5 * nI p)) + nI j = nI (10 + 5 * p + j) := by
  rw [show (10 : Int32) = nI 10 from rfl, show (5 : Int32) = nI 5 from rfl, pk_mul, nI_add, nI_add]
theorem ix4 (e j : Nat) : (60 + (4 * nI e)) + nI j = nI (60 + 4 * e + j) := by
  rw [show (60 : Int32) = nI 60 from rfl, show (4 : Int32) = nI 4 from rfl, pk_mul, nI_add, nI_add]
theorem ix3 (y j : Nat) : (220 + (3 * nI y)) + nI j = nI (220 + 3 * y + j) := by
  rw [show (220 : Int32) = nI 220 from rfl, show (3 : Int32) = nI 3 from rfl, pk_mul, nI_add, nI_add]
theorem m_its {p j k : Nat} {x : Int32} (hx : x = nI j) (hk : 10 + 5 * p + j = k) (h : k < 466) (hm : ar σ 84 = r) : f_X12_its (nI p) x σ = some (r k) := by
  subst hx; subst hk
  unfold f_X12_its
  rw [ix5, inb_nI h (by decide), rd_ar (by omega), hm]; rfl
theorem m_eo {e j k : Nat} {x : Int32} (hx : x = nI j) (hk : 60 + 4 * e + j = k) (h : k < 466) (hm : ar σ 84 = r) : f_X12_entryOf (nI e) x σ = some (r k) := by
  subst hx; subst hk
  unfold f_X12_entryOf
  rw [ix4, inb_nI h (by decide), rd_ar (by omega), hm]; rfl
theorem m_po {y j k : Nat} {x : Int32} (hx : x = nI j) (hk : 220 + 3 * y + j = k) (h : k < 466) (hm : ar σ 84 = r) : f_X12_playerOf (nI y) x σ = some (r k) := by
  subst hx; subst hk
  unfold f_X12_playerOf
  rw [ix3, inb_nI h (by decide), rd_ar (by omega), hm]; rfl
theorem m_eo0 {e : Nat} (h : e < 40) (hm : ar σ 84 = r) : f_X12_entryOf (nI e) 0 σ = some (r (60 + 4 * e)) := m_eo (j := 0) rfl (by omega) (by omega) hm
theorem m_eo1 {e : Nat} (h : e < 40) (hm : ar σ 84 = r) : f_X12_entryOf (nI e) 1 σ = some (r (61 + 4 * e)) := m_eo (j := 1) rfl (by omega) (by omega) hm
theorem m_eo2 {e : Nat} (h : e < 40) (hm : ar σ 84 = r) : f_X12_entryOf (nI e) 2 σ = some (r (62 + 4 * e)) := m_eo (j := 2) rfl (by omega) (by omega) hm
theorem m_eo3 {e : Nat} (h : e < 40) (hm : ar σ 84 = r) : f_X12_entryOf (nI e) 3 σ = some (r (63 + 4 * e)) := m_eo (j := 3) rfl (by omega) (by omega) hm
theorem m_it0 {p : Nat} (h : p < 10) (hm : ar σ 84 = r) : f_X12_its (nI p) 0 σ = some (r (10 + 5 * p)) := m_its (j := 0) rfl (by omega) (by omega) hm
theorem m_it1 {p : Nat} (h : p < 10) (hm : ar σ 84 = r) : f_X12_its (nI p) 1 σ = some (r (11 + 5 * p)) := m_its (j := 1) rfl (by omega) (by omega) hm
theorem m_it2 {p : Nat} (h : p < 10) (hm : ar σ 84 = r) : f_X12_its (nI p) 2 σ = some (r (12 + 5 * p)) := m_its (j := 2) rfl (by omega) (by omega) hm
theorem m_it3 {p : Nat} (h : p < 10) (hm : ar σ 84 = r) : f_X12_its (nI p) 3 σ = some (r (13 + 5 * p)) := m_its (j := 3) rfl (by omega) (by omega) hm
theorem m_it4 {p : Nat} (h : p < 10) (hm : ar σ 84 = r) : f_X12_its (nI p) 4 σ = some (r (14 + 5 * p)) := m_its (j := 4) rfl (by omega) (by omega) hm
theorem m_po0 {y : Nat} (h : y < 6) (hm : ar σ 84 = r) : f_X12_playerOf (nI y) 0 σ = some (r (220 + 3 * y)) := m_po (j := 0) rfl (by omega) (by omega) hm
theorem m_po1 {y : Nat} (h : y < 6) (hm : ar σ 84 = r) : f_X12_playerOf (nI y) 1 σ = some (r (221 + 3 * y)) := m_po (j := 1) rfl (by omega) (by omega) hm
theorem m_po2 {y : Nat} (h : y < 6) (hm : ar σ 84 = r) : f_X12_playerOf (nI y) 2 σ = some (r (222 + 3 * y)) := m_po (j := 2) rfl (by omega) (by omega) hm
/-! weights, how many entries -/
theorem e_weight (x : Int32) (hI : ICn r) (hc : CSc 1 r σ) (he : CEn 10 r σ) : f_X4_weight x σ = some (wt r x) := by
  unfold f_X4_weight f_X4_weight_4 wt
  have h40 := hI.2.2.1.2
  refine (it_lp (fun k (s : Int32) => (s, nI k)) (fun e s => if r (60 + 4 * e) = x then s + ((r (62 + 4 * e) - r (61 + 4 * e)) + 1) else s) (cn r 2) 0 (fun k s hk => ?_)).trans (it_r ?_)
  · show b_X4_weight_4 x s (nI k) σ = _
    unfold b_X4_weight_4 f_X4_weight_40
    rw [fd_ar, hc.2.2.1, hI.2.2.1.1, if_pos (nI_lt hk (by omega)), inb_nI (show k < 40 by omega) (by decide), chk_so, rd_ar (by omega), rd_ar (by omega), rd_ar (by omega), (he k hk).1, (he k hk).2.1, (he k hk).2.2.1, nI_1]
    split <;> rfl
  · show b_X4_weight_4 x _ (nI (cn r 2)) σ = _
    unfold b_X4_weight_4
    rw [fd_ar, hc.2.2.1, hI.2.2.1.1, if_neg (nI_nlt (Nat.le_refl _) (by omega))]
theorem m_weight (x : Int32) (hI : ICn r) (hm : ar σ 84 = r) : f_X12_weight x σ = some (wt r x) := by
  unfold f_X12_weight f_X12_weight_4 wt
  have h40 := hI.2.2.1.2
  have e2 : rd σ 84 2 = nI (cn r 2) := by rw [← hI.2.2.1.1, ← hm]; rfl
  refine (it_lp (fun k (s : Int32) => (s, nI k)) (fun e s => if r (60 + 4 * e) = x then s + ((r (62 + 4 * e) - r (61 + 4 * e)) + 1) else s) (cn r 2) 0 (fun k s hk => ?_)).trans (it_r ?_)
  · show b_X12_weight_4 x s (nI k) σ = _
    unfold b_X12_weight_4 f_X12_weight_44
    rw [chk_t (by decide), e2, if_pos (nI_lt hk (by omega)), m_eo0 (show k < 40 by omega) hm, bd_so, m_eo2 (show k < 40 by omega) hm, bd_so, m_eo1 (show k < 40 by omega) hm, bd_so, nI_1]
    split
    · rfl
    · rw [Int32.add_zero]
  · show b_X12_weight_4 x _ (nI (cn r 2)) σ = _
    unfold b_X12_weight_4
    rw [chk_t (by decide), e2, if_neg (nI_nlt (Nat.le_refl _) (by omega))]
def ent (r : Nat → Int32) (p : Int32) : Int32 := lp (fun e s => if r (60 + 4 * e) = p then s + 1 else s) (cn r 2) 0
theorem e_entriesOf (x : Int32) (hI : ICn r) (hc : CSc 1 r σ) (he : CEn 10 r σ) : f_X4_entriesOf x σ = some (ent r x) := by
  unfold f_X4_entriesOf f_X4_entriesOf_4 ent
  have h40 := hI.2.2.1.2
  refine (it_lp (fun k (s : Int32) => (s, nI k)) (fun e s => if r (60 + 4 * e) = x then s + 1 else s) (cn r 2) 0 (fun k s hk => ?_)).trans (it_r ?_)
  · show b_X4_entriesOf_4 x s (nI k) σ = _
    unfold b_X4_entriesOf_4 f_X4_entriesOf_25
    rw [fd_ar, hc.2.2.1, hI.2.2.1.1, if_pos (nI_lt hk (by omega)), inb_nI (show k < 40 by omega) (by decide), chk_so, rd_ar (by omega), (he k hk).1, nI_1]
    split <;> rfl
  · show b_X4_entriesOf_4 x _ (nI (cn r 2)) σ = _
    unfold b_X4_entriesOf_4
    rw [fd_ar, hc.2.2.1, hI.2.2.1.1, if_neg (nI_nlt (Nat.le_refl _) (by omega))]
theorem m_entriesOf (x : Int32) (hI : ICn r) (hm : ar σ 84 = r) : f_X12_entriesOf x σ = some (ent r x) := by
  unfold f_X12_entriesOf f_X12_entriesOf_4 ent
  have h40 := hI.2.2.1.2
  have e2 : rd σ 84 2 = nI (cn r 2) := by rw [← hI.2.2.1.1, ← hm]; rfl
  refine (it_lp (fun k (s : Int32) => (s, nI k)) (fun e s => if r (60 + 4 * e) = x then s + 1 else s) (cn r 2) 0 (fun k s hk => ?_)).trans (it_r ?_)
  · show b_X12_entriesOf_4 x s (nI k) σ = _
    unfold b_X12_entriesOf_4 f_X12_entriesOf_30
    rw [chk_t (by decide), e2, if_pos (nI_lt hk (by omega)), m_eo0 (show k < 40 by omega) hm, bd_so, nI_1]
    split
    · rfl
    · rw [Int32.add_zero]
  · show b_X12_entriesOf_4 x _ (nI (cn r 2)) σ = _
    unfold b_X12_entriesOf_4
    rw [chk_t (by decide), e2, if_neg (nI_nlt (Nat.le_refl _) (by omega))]
/-! is a part on -/
def onP (r : Nat → Int32) (p from' to' but : Int32) (e : Nat) : Bool := decide (nI e ≠ but ∧ r (60 + 4 * e) = p ∧ ¬ to' < r (61 + 4 * e) ∧ ¬ r (62 + 4 * e) < from')
def onQ (r : Nat → Int32) (p from' to' but : Int32) : Int32 := if anyN (onP r p from' to' but) (cn r 2) = true then 1 else 0
theorem e_isTaken (x1 x2 x3 x4 : Int32) (hI : ICn r) (hc : CSc 1 r σ) (he : CEn 10 r σ) : f_X4_isTaken x1 x2 x3 x4 σ = some (onQ r x1 x2 x3 x4) := by
  unfold f_X4_isTaken f_X4_isTaken_3 onQ
  have h40 := hI.2.2.1.2
  refine it_any (fun k => nI k) (onP r x1 x2 x3 x4) (cn r 2) 1 0 (fun k hk hp => ?_) (fun k hk hp => ?_) ?_
  · obtain ⟨h1, h2, h3, h4⟩ := of_decide_eq_true hp
    show b_X4_isTaken_3 x1 x2 x3 x4 (nI k) σ = _
    unfold b_X4_isTaken_3
    rw [fd_ar, hc.2.2.1, hI.2.2.1.1, if_pos (nI_lt hk (by omega)), if_neg h1, inb_nI (show k < 40 by omega) (by decide), chk_so, rd_ar (by omega), rd_ar (by omega), rd_ar (by omega), (he k hk).1, (he k hk).2.1, (he k hk).2.2.1, if_pos h2, if_neg h3, if_neg h4]
  · have h := of_decide_eq_false hp
    show b_X4_isTaken_3 x1 x2 x3 x4 (nI k) σ = _
    unfold b_X4_isTaken_3 f_X4_isTaken_54
    rw [fd_ar, hc.2.2.1, hI.2.2.1.1, if_pos (nI_lt hk (by omega)), inb_nI (show k < 40 by omega) (by decide), chk_so, rd_ar (by omega), rd_ar (by omega), rd_ar (by omega), (he k hk).1, (he k hk).2.1, (he k hk).2.2.1, nI_1]
    by_cases q1 : nI k = x4
    · rw [if_pos q1]
    · rw [if_neg q1]
      by_cases q2 : r (60 + 4 * k) = x1
      · rw [if_pos q2]
        by_cases q3 : x3 < r (61 + 4 * k)
        · rw [if_pos q3]
        · rw [if_neg q3]
          by_cases q4 : r (62 + 4 * k) < x2
          · rw [if_pos q4]
          · exact absurd ⟨q1, q2, q3, q4⟩ h
      · rw [if_neg q2]
  · show b_X4_isTaken_3 x1 x2 x3 x4 (nI (cn r 2)) σ = _
    unfold b_X4_isTaken_3
    rw [fd_ar, hc.2.2.1, hI.2.2.1.1, if_neg (nI_nlt (Nat.le_refl _) (by omega))]
theorem m_isOn (x1 x2 x3 x4 : Int32) (hI : ICn r) (hm : ar σ 84 = r) : f_X12_isOn x1 x2 x3 x4 σ = some (onQ r x1 x2 x3 x4) := by
  unfold f_X12_isOn f_X12_isOn_3 onQ
  have h40 := hI.2.2.1.2
  have e2 : rd σ 84 2 = nI (cn r 2) := by rw [← hI.2.2.1.1, ← hm]; rfl
  refine it_any (fun k => nI k) (onP r x1 x2 x3 x4) (cn r 2) 1 0 (fun k hk hp => ?_) (fun k hk hp => ?_) ?_
  · obtain ⟨h1, h2, h3, h4⟩ := of_decide_eq_true hp
    show b_X12_isOn_3 x1 x2 x3 x4 (nI k) σ = _
    unfold b_X12_isOn_3
    rw [chk_t (by decide), e2, if_pos (nI_lt hk (by omega)), if_neg h1, m_eo0 (show k < 40 by omega) hm, bd_so, if_pos h2, m_eo1 (show k < 40 by omega) hm, bd_so, if_neg h3, m_eo2 (show k < 40 by omega) hm, bd_so, if_neg h4]
  · have h := of_decide_eq_false hp
    show b_X12_isOn_3 x1 x2 x3 x4 (nI k) σ = _
    unfold b_X12_isOn_3 f_X12_isOn_56
    rw [chk_t (by decide), e2, if_pos (nI_lt hk (by omega)), m_eo0 (show k < 40 by omega) hm, bd_so, m_eo1 (show k < 40 by omega) hm, bd_so, m_eo2 (show k < 40 by omega) hm, bd_so, nI_1]
    by_cases q1 : nI k = x4
    · rw [if_pos q1]
    · rw [if_neg q1]
      by_cases q2 : r (60 + 4 * k) = x1
      · rw [if_pos q2]
        by_cases q3 : x3 < r (61 + 4 * k)
        · rw [if_pos q3]
        · rw [if_neg q3]
          by_cases q4 : r (62 + 4 * k) < x2
          · rw [if_pos q4]
          · exact absurd ⟨q1, q2, q3, q4⟩ h
      · rw [if_neg q2]
  · show b_X12_isOn_3 x1 x2 x3 x4 (nI (cn r 2)) σ = _
    unfold b_X12_isOn_3
    rw [chk_t (by decide), e2, if_neg (nI_nlt (Nat.le_refl _) (by omega))]
end CH
