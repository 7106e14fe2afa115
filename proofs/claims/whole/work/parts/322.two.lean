/-! loops by what holds; bits of numbers -/
theorem it_ex {Z T V : Type} {f : Z → Option (Z ⊕ T)} (emb : Nat → V → Z) (P : Nat → V → Prop) (a n : Nat) (han : a ≤ n) {v : V} (h0 : P a v) (h : ∀ k v, a ≤ k → k < n → P k v → ∃ v', f (emb k v) = some (.inl (emb (k + 1) v')) ∧ P (k + 1) v') : ∃ v', it f (emb a v) = it f (emb n v') ∧ P n v' := by
  have H : ∀ j, a + j ≤ n → ∃ v', it f (emb a v) = it f (emb (a + j) v') ∧ P (a + j) v' := by
    intro j
    induction j with
    | zero => exact fun _ => ⟨v, rfl, h0⟩
    | succ j ih =>
      intro hj
      obtain ⟨v1, e1, p1⟩ := ih (by omega)
      obtain ⟨v2, e2, p2⟩ := h (a + j) v1 (by omega) (by omega) p1
      exact ⟨v2, e1.trans (it_l e2), p2⟩
  have := H (n - a) (by omega)
  rw [show a + (n - a) = n by omega] at this
  exact this
theorem lp_id {S : Type} {g : Nat → S → S} {s : S} : ∀ {n : Nat}, (∀ k, k < n → g k s = s) → lp g n s = s
  | 0, _ => rfl
  | n + 1, h => by
    show g n (lp g n s) = s
    rw [lp_id (fun k hk => h k (Nat.lt_succ_of_lt hk)), h n (Nat.lt_succ_self n)]
theorem bt_nI {n i : Nat} (hi : i < 32) : bt (nI n) i = n.testBit i := by
  show (BitVec.ofNat 32 n).getLsbD i = _
  rw [BitVec.getLsbD_ofNat, decide_eq_true hi, Bool.true_and]
theorem nI_or (m k : Nat) : nI m ||| nI k = nI (m ||| k) := b_ext fun i hi => by rw [b_or, bt_nI hi, bt_nI hi, bt_nI hi, Nat.testBit_or]
theorem nI_and (m k : Nat) : nI m &&& nI k = nI (m &&& k) := b_ext fun i hi => by rw [b_and, bt_nI hi, bt_nI hi, bt_nI hi, Nat.testBit_and]
theorem nI_xor (m k : Nat) : nI m ^^^ nI k = nI (m ^^^ k) := b_ext fun i hi => by rw [b_xor, bt_nI hi, bt_nI hi, bt_nI hi, Nat.testBit_xor]
theorem nI_bit {p : Nat} (hp : p < 31) : (1 : Int32) <<< (nI p &&& 31) = nI (2 ^ p) := b_ext fun i hi => by
  rw [b_one (by omega) hi, bt_nI hi, Nat.testBit_two_pow]
  by_cases q : i = p
  · rw [decide_eq_true q, decide_eq_true q.symm]
  · rw [decide_eq_false q, decide_eq_false (fun e => q e.symm)]
theorem or_lt {m b : Nat} (hm : m < 1024) (hb : b < 10) : m ||| 2 ^ b < 1024 := Nat.or_lt_two_pow (n := 10) hm (Nat.pow_lt_pow_right (by decide) hb)
theorem tb_or (m b i : Nat) : (m ||| 2 ^ b).testBit i = true ↔ (m.testBit i = true ∨ i = b) := by
  rw [Nat.testBit_or, Nat.testBit_two_pow, Bool.or_eq_true, decide_eq_true_iff]
  exact ⟨fun h => h.imp id Eq.symm, fun h => h.imp id Eq.symm⟩
/-! the least line -/
def Lst (S : Int32 → Prop) (v : Int32) : Prop := (v = -1 ∧ ∀ x, ¬ S x) ∨ (S v ∧ ∀ x, S x → v ≤ x)
def nng (s : Int32) : Prop := s = -1 ∨ 0 ≤ s
theorem mst_nng {s v : Int32} (h : nng s) (hv : 0 ≤ v) : nng (mst s v) := by
  unfold mst
  split
  · exact Or.inr hv
  · split
    · exact Or.inr hv
    · exact h
theorem not_neg {s : Int32} (h : 0 ≤ s) : ¬ s < 0 := Int32.not_lt.mpr h
theorem neg_nng {s : Int32} (h : nng s) : (s < 0) ↔ s = -1 := by
  rcases h with rfl | h
  · exact ⟨fun _ => rfl, fun _ => by decide⟩
  · exact ⟨fun q => absurd q (not_neg h), fun e => by rw [e]; decide⟩
theorem e_earlier {s v : Int32} (h : nng s) (hv : 0 ≤ v) : f_X10_earlier s v = some (mst s v) := by
  unfold f_X10_earlier f_X10_earlier_10 mst
  have hv1 : ¬ v = -1 := fun e => by rw [e] at hv; exact absurd hv (by decide)
  rcases h with rfl | h
  · rw [if_pos rfl, if_pos (Int32.lt_of_lt_of_le (by decide : (-1 : Int32) < 0) hv), if_pos (by decide : (-1 : Int32) < 0)]
  · have h1 : ¬ s = -1 := fun e => by rw [e] at h; exact absurd h (by decide)
    rw [if_neg h1, if_neg hv1, if_neg (not_neg h)]
theorem Lst.add {S : Int32 → Prop} {s v : Int32} (hs : ∀ x, S x → 0 ≤ x) (h : Lst S s) : Lst (fun x => S x ∨ x = v) (mst s v) := by
  rcases h with ⟨rfl, h⟩ | ⟨h1, h2⟩
  · have e : mst (-1) v = v := if_pos (by decide)
    rw [e]
    exact Or.inr ⟨Or.inr rfl, fun x hx => hx.elim (fun q => absurd q (h x)) (fun q => by rw [q]; exact Int32.le_refl _)⟩
  · have h0 := hs s h1
    unfold mst
    rw [if_neg (not_neg h0)]
    by_cases q : v < s
    · rw [if_pos q]
      exact Or.inr ⟨Or.inr rfl, fun x hx => hx.elim (fun p => Int32.le_trans (Int32.le_of_lt q) (h2 x p)) (fun p => by rw [p]; exact Int32.le_refl _)⟩
    · rw [if_neg q]
      exact Or.inr ⟨Or.inl h1, fun x hx => hx.elim (h2 x) (fun p => by rw [p]; exact Int32.not_lt.mp q)⟩
theorem Lst.cg {S S' : Int32 → Prop} {s : Int32} (e : ∀ x, S x ↔ S' x) (h : Lst S s) : Lst S' s := by
  rcases h with ⟨h1, h2⟩ | ⟨h1, h2⟩
  · exact Or.inl ⟨h1, fun x hx => h2 x ((e x).mpr hx)⟩
  · exact Or.inr ⟨(e s).mp h1, fun x hx => h2 x ((e x).mpr hx)⟩
theorem Lst.un {S : Int32 → Prop} {s t : Int32} (h : Lst S s) (h' : Lst S t) : s = t := by
  rcases h with ⟨h1, h2⟩ | ⟨h1, h2⟩
  · rcases h' with ⟨g1, g2⟩ | ⟨g1, g2⟩
    · rw [h1, g1]
    · exact absurd g1 (h2 t)
  · rcases h' with ⟨g1, g2⟩ | ⟨g1, g2⟩
    · exact absurd h1 (g2 s)
    · exact Int32.le_antisymm (h2 t g1) (g2 s h1)
theorem Lst.nn {S : Int32 → Prop} {s : Int32} (hs : ∀ x, S x → 0 ≤ x) (h : Lst S s) : nng s := by
  rcases h with ⟨h1, _⟩ | ⟨h1, _⟩
  · exact Or.inl h1
  · exact Or.inr (hs s h1)
def dlp (P : Nat → Nat → Bool) (L : Nat → Nat → Int32) (n : Nat) (m : Nat) : Int32 := lp (fun e s => lp (fun f s => if P e f = true then mst s (L e f) else s) n s) m (-1)
theorem dlp_lst {P : Nat → Nat → Bool} {L : Nat → Nat → Int32} {n m : Nat} (h : ∀ e f, e < m → f < n → P e f = true → 0 ≤ L e f) : Lst (fun x => ∃ e f, e < m ∧ f < n ∧ P e f = true ∧ x = L e f) (dlp P L n m) := by
  unfold dlp
  refine lp_inv (P := fun k s => Lst (fun x => ∃ e f, e < k ∧ f < n ∧ P e f = true ∧ x = L e f) s) (Or.inl ⟨rfl, fun x ⟨e, _, he, _⟩ => absurd he (Nat.not_lt_zero e)⟩) (fun k hk s hs => ?_)
  have hin : Lst (fun x => (∃ e f, e < k ∧ f < n ∧ P e f = true ∧ x = L e f) ∨ ∃ f, f < n ∧ P k f = true ∧ x = L k f) (lp (fun f s => if P k f = true then mst s (L k f) else s) n s) := by
    refine lp_inv (P := fun j s => Lst (fun x => (∃ e f, e < k ∧ f < n ∧ P e f = true ∧ x = L e f) ∨ ∃ f, f < j ∧ P k f = true ∧ x = L k f) s) (hs.cg (fun x => ⟨Or.inl, fun q => q.elim id (fun ⟨f, hf, _⟩ => absurd hf (Nat.not_lt_zero f))⟩)) (fun j hj s hs2 => ?_)
    by_cases q : P k j = true
    · rw [if_pos q]
      refine (Lst.add (v := L k j) (fun x hx => ?_) hs2).cg (fun x => ?_)
      · rcases hx with ⟨e, f, he, hf, hp, rfl⟩ | ⟨f, hf, hp, rfl⟩
        · exact h e f (by omega) hf hp
        · exact h k f hk (by omega) hp
      · constructor
        · rintro ((hx | ⟨f, hf, hp, hx⟩) | hx)
          · exact Or.inl hx
          · exact Or.inr ⟨f, by omega, hp, hx⟩
          · exact Or.inr ⟨j, by omega, q, hx⟩
        · rintro (hx | ⟨f, hf, hp, hx⟩)
          · exact Or.inl (Or.inl hx)
          · by_cases qf : f = j
            · subst qf; exact Or.inr hx
            · exact Or.inl (Or.inr ⟨f, by omega, hp, hx⟩)
    · rw [if_neg q]
      refine hs2.cg (fun x => ⟨?_, ?_⟩)
      · rintro (hx | ⟨f, hf, hp, hx⟩)
        · exact Or.inl hx
        · exact Or.inr ⟨f, by omega, hp, hx⟩
      · rintro (hx | ⟨f, hf, hp, hx⟩)
        · exact Or.inl hx
        · by_cases qf : f = j
          · subst qf; exact absurd hp q
          · exact Or.inr ⟨f, by omega, hp, hx⟩
  refine hin.cg (fun x => ⟨?_, ?_⟩)
  · rintro (⟨e, f, he, hf, hp, hx⟩ | ⟨f, hf, hp, hx⟩)
    · exact ⟨e, f, by omega, hf, hp, hx⟩
    · exact ⟨k, f, by omega, hf, hp, hx⟩
  · rintro ⟨e, f, he, hf, hp, hx⟩
    by_cases qe : e = k
    · subst qe; exact Or.inr ⟨f, hf, hp, hx⟩
    · exact Or.inl ⟨e, f, by omega, hf, hp, hx⟩
section BR
variable {r : Nat → Int32}
theorem mxi_sym (a b : Int32) : mxi a b = mxi b a := by
  unfold mxi
  by_cases q1 : b < a
  · rw [if_pos q1, if_neg (fun h => absurd (Int32.lt_of_lt_of_le q1 (Int32.le_of_lt h)) Int32.lt_irrefl)]
  · rw [if_neg q1]
    by_cases q2 : a < b
    · rw [if_pos q2]
    · rw [if_neg q2]
      exact Int32.le_antisymm (Int32.not_lt.mp q2) (Int32.not_lt.mp q1)
theorem mxi_e (a b : Int32) : (if a < b then b else a) = mxi a b := by
  rw [mxi_sym]; rfl
theorem fr_0 (hI : IR r) {e : Nat} (he : e < cn r 2) : 0 ≤ r (61 + 4 * e) := by
  have j := hI.2.2.1 e he
  have b0 := hI.1.1.2.2
  have l1 := j.2.1.2
  have l2 := j.2.2.1.2
  rw [j.2.1.1]; exact nI_pos' (by omega)
theorem mxi_0 {a b : Int32} (ha : 0 ≤ a) (hb : 0 ≤ b) : 0 ≤ mxi a b := by unfold mxi; split <;> assumption
theorem meet_lst (hI : IR r) (a b : Nat) : Lst (fun x => ∃ e f, e < cn r 2 ∧ f < cn r 2 ∧ mtP r a b e f = true ∧ x = mxi (r (61 + 4 * e)) (r (61 + 4 * f))) (meet r a b) := dlp_lst (fun e f he hf _ => mxi_0 (fr_0 hI he) (fr_0 hI hf))
theorem near_lst (hI : IR r) (a b : Nat) : Lst (fun x => ∃ e f, e < cn r 2 ∧ f < cn r 2 ∧ nrP r a b e f = true ∧ x = r (61 + 4 * f)) (near r a b) := dlp_lst (P := nrP r a b) (L := fun e f => r (61 + 4 * f)) (fun e f he hf _ => fr_0 hI hf)
theorem meet_nng (hI : IR r) (a b : Nat) : nng (meet r a b) := (meet_lst hI a b).nn (fun x ⟨e, f, he, hf, _, hx⟩ => by rw [hx]; exact mxi_0 (fr_0 hI he) (fr_0 hI hf))
theorem near_nng (hI : IR r) (a b : Nat) : nng (near r a b) := (near_lst hI a b).nn (fun x ⟨e, f, he, hf, _, hx⟩ => by rw [hx]; exact fr_0 hI hf)
theorem meet_sym (hI : IR r) (a b : Nat) : meet r a b = meet r b a := by
  have hsw : ∀ a b e f, mtP r a b e f = true → mtP r b a f e = true := by
    intro a b e f h
    obtain ⟨h1, h2, h3, h4⟩ := of_decide_eq_true h
    refine decide_eq_true ⟨h2, h1, ?_, ?_⟩
    · rw [mxi_sym]; exact h4
    · rw [mxi_sym]; exact h3
  refine (meet_lst hI a b).un ((meet_lst hI b a).cg (fun x => ⟨?_, ?_⟩))
  · rintro ⟨e, f, he, hf, h, hx⟩
    exact ⟨f, e, hf, he, hsw _ _ _ _ h, by rw [hx, mxi_sym]⟩
  · rintro ⟨e, f, he, hf, h, hx⟩
    exact ⟨f, e, hf, he, hsw _ _ _ _ h, by rw [hx, mxi_sym]⟩
theorem cmb_sym {x y : Int32} (hx : nng x) (hy : nng y) : cmb x y = cmb y x := by
  unfold cmb
  by_cases q1 : x < 0
  · rw [if_pos q1]
    by_cases q2 : y < 0
    · rw [if_pos q2, (neg_nng hx).mp q1, (neg_nng hy).mp q2]
    · rw [if_neg q2, if_pos q1]
  · rw [if_neg q1]
    by_cases q2 : y < 0
    · rw [if_pos q2, if_pos q2]
    · rw [if_neg q2, if_neg q2, if_neg q1]
      by_cases q3 : y < x
      · rw [if_pos q3, if_neg (fun h => absurd (Int32.lt_of_lt_of_le q3 (Int32.le_of_lt h)) Int32.lt_irrefl)]
      · rw [if_neg q3]
        by_cases q4 : x < y
        · rw [if_pos q4]
        · rw [if_neg q4]
          exact Int32.le_antisymm (Int32.not_lt.mp q3) (Int32.not_lt.mp q4)
theorem cmb_nng {x y : Int32} (hx : nng x) (hy : nng y) : nng (cmb x y) := by
  unfold cmb
  split
  · exact hy
  · split
    · exact hx
    · split
      · exact hy
      · exact hx
theorem e_earl2 {x y : Int32} (hx : nng x) (hy : nng y) : f_X10_earlier x y = some (cmb x y) := by
  rcases hy with rfl | hy
  · unfold f_X10_earlier f_X10_earlier_10 cmb
    rcases hx with rfl | hx
    · rfl
    · have h1 : ¬ x = -1 := fun e => by rw [e] at hx; exact absurd hx (by decide)
      rw [if_neg h1, if_pos rfl, if_neg (Int32.not_lt.mpr (Int32.le_trans (by decide : (-1 : Int32) ≤ 0) hx)), if_neg (not_neg hx), if_pos (by decide : (-1 : Int32) < 0)]
  · rw [e_earlier hx hy]
    unfold mst cmb
    by_cases q1 : x < 0
    · rw [if_pos q1, if_pos q1]
    · rw [if_neg q1, if_neg q1, if_neg (not_neg hy)]
theorem apt_sym (a b : Nat) : apt r a b = apt r b a := by unfold apt; exact Bool.or_comm _ _
theorem lnr_sym (hI : IR r) (a b : Nat) : lnr r a b = lnr r b a := by
  unfold lnr
  rw [apt_sym, meet_sym hI a b, cmb_sym (near_nng hI a b) (near_nng hI b a)]
theorem hwr_sym (hI : IR r) (a b : Nat) : hwr r a b = hwr r b a := by
  unfold hwr
  rw [apt_sym, meet_sym hI a b, lnr_sym hI a b]
theorem hws_e (hI : IR r) (a b : Nat) : hws r a b = hwr r a b := by
  unfold hws
  split
  · rfl
  · exact hwr_sym hI b a
theorem lns_e (hI : IR r) (a b : Nat) : lns r a b = lnr r a b := by
  unfold lns
  split
  · rfl
  · exact lnr_sym hI b a
theorem hwr_c (a b : Nat) : hwr r a b = 0 ∨ hwr r a b = 2 ∨ hwr r a b = 3 := by
  unfold hwr
  split
  · exact Or.inl rfl
  · split
    · split
      · exact Or.inl rfl
      · exact Or.inr (Or.inr rfl)
    · exact Or.inr (Or.inl rfl)
/-! the class -/
variable {σ : St}
theorem e_meet (a b : Nat) (hI : IR r) (hc : CSc 1 r σ) (he : CEn 10 r σ) : f_X10_meetingLine (nI a) (nI b) σ = some (meet r a b) := by
  have b2 := hI.1.2.2.1.2
  have e2 : fd σ 1 2 = nI (cn r 2) := hc.2.2.1.trans hI.1.2.2.1.1
  have hb : ∀ e f s, e < cn r 2 → f < cn r 2 → nng s → b_X10_meetingLine_20 (nI a) (nI b) s (nI e) (nI f) σ = if r (60 + 4 * e) = nI a then some (.inl ((if mtP r a b e f = true then mst s (mxi (r (61 + 4 * e)) (r (61 + 4 * f))) else s), nI (f + 1))) else some (.inr (.inl (s, nI (e + 1)))) := by
    intro e f s hee hf hs
    unfold b_X10_meetingLine_20 f_X10_meetingLine_120 f_X10_meetingLine_126
    rw [e2, if_pos (nI_lt hf (by omega)), inb_nI (show e < 40 by omega) (by decide), chk_so, inb_nI (show f < 40 by omega) (by decide), chk_so, rd_ar (by omega), rd_ar (by omega), rd_ar (by omega), rd_ar (by omega), rd_ar (by omega), rd_ar (by omega), (he e hee).1, (he e hee).2.1, (he e hee).2.2.1, (he f hf).1, (he f hf).2.1, (he f hf).2.2.1, nm_so, mxi_e, e_earlier hs (mxi_0 (fr_0 hI hee) (fr_0 hI hf)), bd_so, nI_1, nI_1]
    by_cases q1 : r (60 + 4 * e) = nI a
    · rw [if_pos q1, if_pos q1]
      by_cases q2 : r (60 + 4 * f) = nI b
      · rw [if_pos q2]
        have hmin : ((if r (62 + 4 * f) < r (62 + 4 * e) then r (62 + 4 * f) else r (62 + 4 * e)) < mxi (r (61 + 4 * e)) (r (61 + 4 * f))) ↔ ¬ (mtP r a b e f = true) := by
          unfold mtP
          rw [decide_eq_true_iff]
          constructor
          · intro h ⟨_, _, h3, h4⟩
            split at h
            · exact h4 h
            · exact h3 h
          · intro h
            by_cases q5 : r (62 + 4 * f) < r (62 + 4 * e)
            · rw [if_pos q5]
              by_cases q6 : r (62 + 4 * f) < mxi (r (61 + 4 * e)) (r (61 + 4 * f))
              · exact q6
              · exact absurd ⟨q1, q2, fun h7 => q6 (Int32.lt_trans q5 h7), q6⟩ h
            · rw [if_neg q5]
              by_cases q6 : r (62 + 4 * e) < mxi (r (61 + 4 * e)) (r (61 + 4 * f))
              · exact q6
              · exact absurd ⟨q1, q2, q6, fun h7 => q6 (Int32.lt_of_le_of_lt (Int32.not_lt.mp q5) h7)⟩ h
        by_cases q3 : mtP r a b e f = true
        · rw [if_neg (fun h => hmin.mp h q3), if_pos q3]
        · rw [if_pos (hmin.mpr q3), if_neg q3]
      · rw [if_neg q2, if_neg]
        intro h; exact q2 (of_decide_eq_true h).2.1
    · rw [if_neg q1, if_neg q1]
      rfl
  have hin : ∀ e s, e < cn r 2 → nng s → f_X10_meetingLine_20 (nI a) (nI b) s (nI e) 0 σ = some (.inl (lp (fun f s => if mtP r a b e f = true then mst s (mxi (r (61 + 4 * e)) (r (61 + 4 * f))) else s) (cn r 2) s, nI (e + 1))) ∧ nng (lp (fun f s => if mtP r a b e f = true then mst s (mxi (r (61 + 4 * e)) (r (61 + 4 * f))) else s) (cn r 2) s) := by
    intro e s hee hs
    unfold f_X10_meetingLine_20
    by_cases q1 : r (60 + 4 * e) = nI a
    · obtain ⟨h1, h2⟩ := it_lpI (f := fun z : Int32 × Int32 => b_X10_meetingLine_20 (nI a) (nI b) z.1 (nI e) z.2 σ) (fun k (s : Int32) => (s, nI k)) (fun f s => if mtP r a b e f = true then mst s (mxi (r (61 + 4 * e)) (r (61 + 4 * f))) else s) (fun _ s => nng s) (cn r 2) hs (fun k s hk hs => ⟨by
        show b_X10_meetingLine_20 (nI a) (nI b) s (nI e) (nI k) σ = _
        rw [hb e k s hee hk hs, if_pos q1], by
        show nng (if mtP r a b e k = true then _ else s)
        split
        · exact mst_nng hs (mxi_0 (fr_0 hI hee) (fr_0 hI hk))
        · exact hs⟩)
      refine ⟨h1.trans (it_r ?_), h2⟩
      show b_X10_meetingLine_20 (nI a) (nI b) _ (nI e) (nI (cn r 2)) σ = _
      unfold b_X10_meetingLine_20 f_X10_meetingLine_126
      rw [e2, if_neg (nI_nlt (Nat.le_refl _) (by omega)), nI_1]
      rfl
    · have e3 : lp (fun f s => if mtP r a b e f = true then mst s (mxi (r (61 + 4 * e)) (r (61 + 4 * f))) else s) (cn r 2) s = s := lp_id (fun k _ => if_neg (fun h => q1 (of_decide_eq_true h).1))
      rw [e3]
      refine ⟨it_r ?_, hs⟩
      show b_X10_meetingLine_20 (nI a) (nI b) s (nI e) (nI 0) σ = _
      rw [hb e 0 s hee (by omega) hs, if_neg q1]
  unfold f_X10_meetingLine f_X10_meetingLine_5
  obtain ⟨h1, h2⟩ := it_lpI (f := fun z : Int32 × Int32 => b_X10_meetingLine_5 (nI a) (nI b) z.1 z.2 σ) (fun k (s : Int32) => (s, nI k)) (fun e s => lp (fun f s => if mtP r a b e f = true then mst s (mxi (r (61 + 4 * e)) (r (61 + 4 * f))) else s) (cn r 2) s) (fun _ s => nng s) (cn r 2) (s := -1) (Or.inl rfl) (fun k s hk hs => ⟨by
    show b_X10_meetingLine_5 (nI a) (nI b) s (nI k) σ = _
    unfold b_X10_meetingLine_5
    rw [e2, if_pos (nI_lt hk (by omega)), (hin k s hk hs).1], (hin k s hk hs).2⟩)
  refine h1.trans (it_r ?_)
  show b_X10_meetingLine_5 (nI a) (nI b) _ (nI (cn r 2)) σ = _
  unfold b_X10_meetingLine_5
  rw [e2, if_neg (nI_nlt (Nat.le_refl _) (by omega))]
  rfl
theorem btw {x y : Nat} (hx : x < 1000) (hy : y < 1000) : (nI x - nI y - 1).toInt = (x : Int) - y - 1 := by
  rw [Int32.toInt_sub, pk_sub_toInt (by omega) (by omega), show (1 : Int32).toInt = 1 by decide]
  exact Int.bmod_eq_of_le (by omega) (by omega)
theorem btw_0 (hI : IR r) {e f : Nat} (he : e < cn r 2) (hf : f < cn r 2) : (r (61 + 4 * f) - r (62 + 4 * e) - 1 < 0) ↔ ¬ r (62 + 4 * e) < r (61 + 4 * f) := by
  have b0 := hI.1.1.2.2
  have je := hI.2.2.1 e he
  have jf := hI.2.2.1 f hf
  have l2 := je.2.2.1.2
  have l3 := jf.2.1.2
  have l4 := jf.2.2.1.2
  rw [je.2.2.1.1, jf.2.1.1, nI_ltI (by omega) (by omega), Int32.lt_iff_toInt_lt, btw (by omega) (by omega), show (0 : Int32).toInt = 0 by decide]
  omega
def nearW (r : Nat → Int32) (a b e f : Nat) : Int32 → Int32 := fun s => if nrP r a b e f = true then mst s (r (61 + 4 * f)) else s
theorem e_near37 (a b : Nat) {w0 w1 : Int32} (h0 : w0 = wnt r a b 0) (h1 : w1 = wnt r a b 1) (hI : IR r) (hc : CSc 1 r σ) (he : CEn 10 r σ) : f_X10_nearLine_37 (nI a) (nI b) w0 w1 (-1) 0 σ = some (near r a b, σ) := by
  subst h0 h1
  have b2 := hI.1.2.2.1.2
  have e2 : fd σ 1 2 = nI (cn r 2) := hc.2.2.1.trans hI.1.2.2.1.1
  have hb : ∀ e f s, e < cn r 2 → f < cn r 2 → nng s → b_X10_nearLine_52 (nI a) (nI b) (wnt r a b 0) (wnt r a b 1) s (nI e) (nI f) σ = if r (60 + 4 * e) = nI a then some (.inl ((if nrP r a b e f = true then mst s (r (61 + 4 * f)) else s), nI (f + 1))) else some (.inr (.inl (s, nI (e + 1)))) := by
    intro e f s hee hf hs
    unfold b_X10_nearLine_52 f_X10_nearLine_171 f_X10_isSameSide
    rw [e2, if_pos (nI_lt hf (by omega)), inb_nI (show e < 40 by omega) (by decide), chk_so, inb_nI (show f < 40 by omega) (by decide), chk_so, chk_so, chk_so, rd_ar (by omega), rd_ar (by omega), rd_ar (by omega), rd_ar (by omega), rd_ar (by omega), (he e hee).1, (he e hee).2.2.1, (he e hee).2.2.2, (he f hf).2.1, (he f hf).2.2.2, nI_1]
    by_cases q1 : r (60 + 4 * e) = nI a
    · rw [if_pos q1, if_pos q1]
      have h120 : ∀ w, f_X10_nearLine_120 (nI a) (nI b) (wnt r a b 0) (wnt r a b 1) s (nI e) (nI f) (r (61 + 4 * f) - r (62 + 4 * e) - 1) w σ = some (.inl ((if r (60 + 4 * f) = nI b ∧ r (62 + 4 * e) < r (61 + 4 * f) ∧ r (61 + 4 * f) - r (62 + 4 * e) - 1 < w then mst s (r (61 + 4 * f)) else s), nI (f + 1))) := by
        intro w
        unfold f_X10_nearLine_120 f_X10_nearLine_165
        rw [inb_nI (show f < 40 by omega) (by decide), chk_so, rd_ar (by omega), rd_ar (by omega), (he f hf).1, (he f hf).2.1, e_earlier hs (fr_0 hI hf), bd_so, nI_1]
        by_cases q2 : r (60 + 4 * f) = nI b
        · rw [if_pos q2]
          by_cases q3 : r (62 + 4 * e) < r (61 + 4 * f)
          · rw [if_neg (fun h => (btw_0 hI hee hf).mp h q3)]
            by_cases q4 : r (61 + 4 * f) - r (62 + 4 * e) - 1 < w
            · rw [if_pos q4, if_pos ⟨q2, q3, q4⟩]
            · rw [if_neg q4, if_neg (fun h => q4 h.2.2)]
          · rw [if_pos ((btw_0 hI hee hf).mpr q3), if_neg (fun h => q3 h.2.1)]
        · rw [if_neg q2, if_neg (fun h => q2 h.1)]
      rw [h120, h120]
      have hnr : ∀ w, w = wnt r a b (sdI r e f) → ((r (60 + 4 * f) = nI b ∧ r (62 + 4 * e) < r (61 + 4 * f) ∧ r (61 + 4 * f) - r (62 + 4 * e) - 1 < w) ↔ nrP r a b e f = true) := by
        intro w hw
        unfold nrP
        rw [decide_eq_true_iff, hw]
        exact ⟨fun h => ⟨q1, h⟩, fun h => h.2⟩
      by_cases q5 : (r (63 + 4 * e) &&& 1) = (r (63 + 4 * f) >>> ((1 : Int32) &&& 31))
      · have es : sdI r e f = 1 := if_pos q5
        rw [if_pos q5, bd_so, if_neg (by decide)]
        by_cases q6 : nrP r a b e f = true
        · rw [if_pos q6, if_pos ((hnr _ (by rw [es])).mpr q6)]
        · rw [if_neg q6, if_neg (fun h => q6 ((hnr _ (by rw [es])).mp h))]
      · have es : sdI r e f = 0 := if_neg q5
        rw [if_neg q5, bd_so, if_pos rfl]
        by_cases q6 : nrP r a b e f = true
        · rw [if_pos q6, if_pos ((hnr _ (by rw [es])).mpr q6)]
        · rw [if_neg q6, if_neg (fun h => q6 ((hnr _ (by rw [es])).mp h))]
    · rw [if_neg q1, if_neg q1]
      rfl
  have hin : ∀ e s, e < cn r 2 → nng s → f_X10_nearLine_52 (nI a) (nI b) (wnt r a b 0) (wnt r a b 1) s (nI e) 0 σ = some (.inl (lp (fun f s => if nrP r a b e f = true then mst s (r (61 + 4 * f)) else s) (cn r 2) s, nI (e + 1))) ∧ nng (lp (fun f s => if nrP r a b e f = true then mst s (r (61 + 4 * f)) else s) (cn r 2) s) := by
    intro e s hee hs
    unfold f_X10_nearLine_52
    by_cases q1 : r (60 + 4 * e) = nI a
    · obtain ⟨h1, h2⟩ := it_lpI (f := fun z : Int32 × Int32 => b_X10_nearLine_52 (nI a) (nI b) (wnt r a b 0) (wnt r a b 1) z.1 (nI e) z.2 σ) (fun k (s : Int32) => (s, nI k)) (fun f s => if nrP r a b e f = true then mst s (r (61 + 4 * f)) else s) (fun _ s => nng s) (cn r 2) hs (fun k s hk hs => ⟨by
        show b_X10_nearLine_52 (nI a) (nI b) (wnt r a b 0) (wnt r a b 1) s (nI e) (nI k) σ = _
        rw [hb e k s hee hk hs, if_pos q1], by
        show nng (if nrP r a b e k = true then _ else s)
        split
        · exact mst_nng hs (fr_0 hI hk)
        · exact hs⟩)
      refine ⟨h1.trans (it_r ?_), h2⟩
      show b_X10_nearLine_52 (nI a) (nI b) (wnt r a b 0) (wnt r a b 1) _ (nI e) (nI (cn r 2)) σ = _
      unfold b_X10_nearLine_52 f_X10_nearLine_171
      rw [e2, if_neg (nI_nlt (Nat.le_refl _) (by omega)), nI_1]
      rfl
    · have e3 : lp (fun f s => if nrP r a b e f = true then mst s (r (61 + 4 * f)) else s) (cn r 2) s = s := lp_id (fun k _ => if_neg (fun h => q1 (of_decide_eq_true h).1))
      rw [e3]
      refine ⟨it_r ?_, hs⟩
      show b_X10_nearLine_52 (nI a) (nI b) (wnt r a b 0) (wnt r a b 1) s (nI e) (nI 0) σ = _
      rw [hb e 0 s hee (by omega) hs, if_neg q1]
  unfold f_X10_nearLine_37
  obtain ⟨h1, h2⟩ := it_lpI (f := fun z : Int32 × Int32 => b_X10_nearLine_37 (nI a) (nI b) (wnt r a b 0) (wnt r a b 1) z.1 z.2 σ) (fun k (s : Int32) => (s, nI k)) (fun e s => lp (fun f s => if nrP r a b e f = true then mst s (r (61 + 4 * f)) else s) (cn r 2) s) (fun _ s => nng s) (cn r 2) (s := -1) (Or.inl rfl) (fun k s hk hs => ⟨by
    show b_X10_nearLine_37 (nI a) (nI b) (wnt r a b 0) (wnt r a b 1) s (nI k) σ = _
    unfold b_X10_nearLine_37
    rw [e2, if_pos (nI_lt hk (by omega)), (hin k s hk hs).1], (hin k s hk hs).2⟩)
  refine h1.trans (it_r ?_)
  show b_X10_nearLine_37 (nI a) (nI b) (wnt r a b 0) (wnt r a b 1) _ (nI (cn r 2)) σ = _
  unfold b_X10_nearLine_37
  rw [e2, if_neg (nI_nlt (Nat.le_refl _) (by omega))]
  rfl
end BR
section HB
variable {A : AS} {σ : St} {a b : Nat}
theorem e_isOff (hI : Inv A) (hC : CR A σ) (ha : a < cn (aR A) 1) : f_X10_isOff (nI a) σ = some (if aR A (10 + 5 * a) = 3 then 1 else 0) := by
  obtain ⟨ek, hr, h110, hin⟩ := e_roleOf hI hC ha
  unfold f_X10_isOff
  rw [hin, chk_so, ek, hr.1, chk_so, fd_ar, hr.2.2.1]
  split <;> rfl
theorem und_c (hI : Inv A) (ha : a < cn (aR A) 1) : udr (cn (aR A) (10 + 5 * a)) 1 = if und (aR A (10 + 5 * a)) = true then 1 else 0 := by
  obtain ⟨e, h⟩ := (hI.1.2.1 a ha).1
  have H : ∀ n, n < 6 → udr n 1 = if und (nI n) = true then 1 else 0 := by decide
  rw [H _ h, ← e]
theorem e_isOf1 (hI : Inv A) (hC : CR A σ) (ha : a < cn (aR A) 1) : f_X6_isOf (rc σ 10 a) 1 σ = some (if und (aR A (10 + 5 * a)) = true then 1 else 0) := by
  obtain ⟨ek, hr, h110, hin⟩ := e_roleOf hI hC ha
  obtain ⟨e, h⟩ := (hI.1.2.1 a ha).1
  rw [← und_c hI ha]
  exact e_isOf (b := 1) hr.1 (by rw [← e]; exact hr.2.2.2.2.2.2) h (by decide)
theorem e_apt (hI : Inv A) (hC : CR A σ) (ha : a < cn (aR A) 1) (hb : b < cn (aR A) 1) : f_X10_areApart (nI a) (nI b) σ = some (if apt (aR A) a b = true then 1 else 0) := by
  obtain ⟨eka, hra, _, hina⟩ := e_roleOf hI hC ha
  obtain ⟨ekb, hrb, _, hinb⟩ := e_roleOf hI hC hb
  unfold f_X10_areApart f_X10_areApart_24 f_X10_areApart_48
  rw [e_isOff hI hC ha, e_isOff hI hC hb, bd_so, bd_so, hina, hinb, chk_so, chk_so, eka, ekb, hra.1, hrb.1, chk_so, chk_so, e_isOf1 hI hC ha, e_isOf1 hI hC hb, bd_so, bd_so]
  unfold apt
  by_cases q1 : aR A (10 + 5 * a) = 3 <;> by_cases q2 : aR A (10 + 5 * b) = 3 <;> cases und (aR A (10 + 5 * a)) <;> cases und (aR A (10 + 5 * b)) <;> simp [q1, q2]
theorem e_share (hI : Inv A) (hC : CR A σ) (ha : a < cn (aR A) 1) (hb : b < cn (aR A) 1) : f_X10_shareOf (nI a) (nI b) σ = some (if aR A (10 + 5 * a) = 4 ∨ aR A (10 + 5 * b) = 4 then 2 else 1) := by
  obtain ⟨eka, hra, _, hina⟩ := e_roleOf hI hC ha
  obtain ⟨ekb, hrb, _, hinb⟩ := e_roleOf hI hC hb
  unfold f_X10_shareOf f_X10_shareOf_32
  rw [hina, hinb, chk_so, chk_so, eka, ekb, hra.1, hrb.1, chk_so, chk_so, show fd σ (rc σ 10 a) 1 = _ from hra.2.2.1, show fd σ (rc σ 10 b) 1 = _ from hrb.2.2.1]
  by_cases q1 : aR A (10 + 5 * a) = 4 <;> by_cases q2 : aR A (10 + 5 * b) = 4 <;> simp [q1, q2]
theorem e_near (hI : Inv A) (hC : CR A σ) (ha : a < cn (aR A) 1) (hb : b < cn (aR A) 1) (na : aR A (10 + 5 * a) ≠ 3) (nb : aR A (10 + 5 * b) ≠ 3) : ∃ σ', f_X10_nearLine (nI a) (nI b) σ = some (near (aR A) a b, σ') ∧ F31 σ σ' := by
  obtain ⟨σ1, e1, f1⟩ := e_changeOf 0 hI hC ha hb
  have hC1 := hC.frs f1.frs
  obtain ⟨σ2, e2, f2⟩ := e_changeOf 1 hI hC1 ha hb
  have hC2 := hC1.frs f2.frs
  refine ⟨σ2, ?_, f1.tr f2⟩
  unfold f_X10_nearLine
  rw [e1, bd2_so, e_share hI hC1 ha hb, bd_so, e2, bd2_so, e_share hI hC2 ha hb, bd_so]
  have hs0 : (decide (¬ (if aR A (10 + 5 * a) = 4 ∨ aR A (10 + 5 * b) = 4 then (2 : Int32) else 1) = 0)) = true := decide_eq_true (by split <;> decide)
  rw [hs0, chk_so, chk_so]
  have hw : ∀ s, chg (aR A) a b s / (if aR A (10 + 5 * a) = 4 ∨ aR A (10 + 5 * b) = 4 then (2 : Int32) else 1) = wnt (aR A) a b s := by
    intro s
    have h3 : ¬ (aR A (10 + 5 * a) = 3 ∨ aR A (10 + 5 * b) = 3) := fun h => h.elim na nb
    unfold wnt
    rw [if_neg h3]
    by_cases h4 : aR A (10 + 5 * a) = 4 ∨ aR A (10 + 5 * b) = 4
    · rw [if_pos h4, if_pos h4]
    · rw [if_neg h4, if_neg h4]
      exact Int32.div_one
  exact e_near37 a b (hw 0) (hw 1) hI.1 hC2.1.1 hC2.1.2.2.2.2.2.2.1
def F3 (σ σ' : St) : Prop := (∀ c, c ≠ 3 → c ≠ 30 → c ≠ 31 → ar σ' c = ar σ c) ∧ σ'.1 = σ.1 ∧ σ'.2.2 = σ.2.2 ∧ ∀ j, j ≠ 6 → ar σ' 3 j = ar σ 3 j
theorem F3.rfl' (σ : St) : F3 σ σ := ⟨fun _ _ _ _ => rfl, rfl, rfl, fun _ _ => rfl⟩
theorem F3.tr {a b c : St} (h : F3 a b) (h2 : F3 b c) : F3 a c := ⟨fun k p q s => (h2.1 k p q s).trans (h.1 k p q s), h2.2.1.trans h.2.1, h2.2.2.1.trans h.2.2.1, fun j hj => (h2.2.2.2 j hj).trans (h.2.2.2 j hj)⟩
theorem F3.of31 {σ σ' : St} (h : F31 σ σ') : F3 σ σ' := ⟨fun c _ h1 h2 => h.1 c h1 h2, h.2.1, h.2.2, fun j _ => by rw [h.1 3 (by omega) (by omega)]⟩
theorem F3.w6 {σ : St} {v : Int32} : F3 σ (fw σ 3 6 v) := ⟨fun c h _ _ => ar_fw_ne h, rfl, rfl, fun j hj => by rw [ar_fw_eq, upd_ne hj]⟩
theorem F3.frs {σ σ' : St} (h : F3 σ σ') : FrS σ σ' := by
  refine ⟨fun k hk => h.1 k (fun e => hk (by unfold SC; omega)) (fun e => hk (by unfold SC; omega)) (fun e => hk (by unfold SC; omega)), h.2.1, h.2.2.1, ?_, ?_⟩
  · rw [rc_ar, rc_ar, h.1 4 (by omega) (by omega) (by omega)]; exact id
  · rw [rc_ar, rc_ar, h.1 5 (by omega) (by omega) (by omega)]; exact id
theorem near_off (hI : IR (aR A)) (h : aR A (10 + 5 * a) = 3 ∨ aR A (10 + 5 * b) = 3) : near (aR A) a b = -1 := by
  refine (near_lst hI a b).un (Or.inl ⟨rfl, ?_⟩)
  rintro x ⟨e, f, he, hf, hp, _⟩
  obtain ⟨_, _, h3, h4⟩ := of_decide_eq_true hp
  have e0 : wnt (aR A) a b (sdI (aR A) e f) = 0 := if_pos h
  rw [e0] at h4
  exact (btw_0 hI he hf).mp h4 h3
theorem e_how (hI : Inv A) (hC : CR A σ) (ha : a < cn (aR A) 1) (hb : b < cn (aR A) 1) : ∃ σ', f_X10_howBarred (nI a) (nI b) σ = some (hwr (aR A) a b, σ') ∧ F3 σ σ' ∧ (hwr (aR A) a b ≠ 0 → ar σ' 3 6 = lnr (aR A) a b) := by
  unfold f_X10_howBarred
  rw [e_apt hI hC ha hb, bd_so]
  cases q : apt (aR A) a b with
  | true =>
    refine ⟨σ, ?_, F3.rfl' σ, fun h => absurd ?_ h⟩
    · rw [if_pos rfl, if_neg (by decide)]
      unfold hwr
      rw [if_pos q]
    · unfold hwr
      rw [if_pos q]
  | false =>
    have q' : ¬ apt (aR A) a b = true := by rw [q]; decide
    rw [if_pos (show (if false = true then (1 : Int32) else 0) = 0 from rfl), e_meet a b hI.1 hC.1.1 hC.1.2.2.2.2.2.2.1, bd_so, nm_so]
    have e36 : fd (fw σ 3 6 (meet (aR A) a b)) 3 6 = meet (aR A) a b := by rw [fd_ar, ar_fw_eq, upd_eq]
    rw [e36]
    have hC1 := hC.frs (F3.w6 (σ := σ) (v := meet (aR A) a b)).frs
    by_cases qm : meet (aR A) a b = -1
    · have qm' : meet (aR A) a b < 0 := by rw [qm]; decide
      rw [if_pos qm, e_isOff hI hC1 ha, e_isOff hI hC1 hb, bd_so, bd_so]
      by_cases na : aR A (10 + 5 * a) = 3
      · have el : lnr (aR A) a b = -1 := by
          unfold lnr
          rw [if_neg q', if_pos qm', near_off hI.1 (Or.inl na), near_off hI.1 (Or.inr na)]
          rfl
        have eh : hwr (aR A) a b = 0 := by
          unfold hwr
          rw [if_neg q', if_pos qm', el, if_pos (by decide)]
        refine ⟨fw σ 3 6 (meet (aR A) a b), ?_, F3.w6, fun h => absurd eh h⟩
        rw [if_pos na, if_neg (by decide), eh]
      · by_cases nb : aR A (10 + 5 * b) = 3
        · have el : lnr (aR A) a b = -1 := by
            unfold lnr
            rw [if_neg q', if_pos qm', near_off hI.1 (Or.inr nb), near_off hI.1 (Or.inl nb)]
            rfl
          have eh : hwr (aR A) a b = 0 := by
            unfold hwr
            rw [if_neg q', if_pos qm', el, if_pos (by decide)]
          refine ⟨fw σ 3 6 (meet (aR A) a b), ?_, F3.w6, fun h => absurd eh h⟩
          rw [if_neg na, if_pos rfl, if_pos nb, if_neg (by decide), eh]
        · rw [if_neg na, if_pos rfl, if_neg nb, if_pos rfl]
          obtain ⟨σ1, e1, f1⟩ := e_near hI hC1 ha hb na nb
          have hC2 := hC1.frs f1.frs
          obtain ⟨σ2, e2, f2⟩ := e_near hI hC2 hb ha nb na
          rw [e1, bd2_so, e2, bd2_so, e_earl2 (near_nng hI.1 a b) (near_nng hI.1 b a), bd_so, nm_so]
          have el : lnr (aR A) a b = cmb (near (aR A) a b) (near (aR A) b a) := by
            unfold lnr
            rw [if_neg q', if_pos qm']
          have eh : hwr (aR A) a b = if lnr (aR A) a b < 0 then 0 else 3 := by
            unfold hwr
            rw [if_neg q', if_pos qm']
          rw [← el]
          have hn : nng (lnr (aR A) a b) := by rw [el]; exact cmb_nng (near_nng hI.1 a b) (near_nng hI.1 b a)
          refine ⟨fw σ2 3 6 (lnr (aR A) a b), ?_, ((F3.w6.tr (F3.of31 f1)).tr (F3.of31 f2)).tr F3.w6, fun _ => by rw [ar_fw_eq, upd_eq]⟩
          have e37 : fd (fw σ2 3 6 (lnr (aR A) a b)) 3 6 = lnr (aR A) a b := by rw [fd_ar, ar_fw_eq, upd_eq]
          rw [e37, eh]
          by_cases ql : lnr (aR A) a b = -1
          · rw [if_pos ql, if_pos ((neg_nng hn).mpr ql)]
          · rw [if_neg ql, if_neg (fun h => ql ((neg_nng hn).mp h))]
    · have qm' : ¬ meet (aR A) a b < 0 := fun h => qm ((neg_nng (meet_nng hI.1 a b)).mp h)
      have eh : hwr (aR A) a b = 2 := by
        unfold hwr
        rw [if_neg q', if_neg qm']
      refine ⟨fw σ 3 6 (meet (aR A) a b), ?_, F3.w6, fun _ => ?_⟩
      · rw [if_neg qm, eh]
      · rw [ar_fw_eq, upd_eq]
        unfold lnr
        rw [if_neg q', if_neg qm']
end HB
