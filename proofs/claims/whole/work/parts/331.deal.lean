/-! dealing out -/
theorem xs_add : ∀ (s t : Nat), Sub t s → t + (s ^^^ t) = s := by
  intro s
  induction s using Nat.strongRecOn with
  | ind s ih =>
    intro t h
    by_cases q : s = 0
    · subst q
      have := h.le
      have : t = 0 := by omega
      subst this; rfl
    · have hi := ih (s / 2) (by omega) (t / 2) h.half
      have e1 : (s ^^^ t) / 2 = s / 2 ^^^ t / 2 := Nat.xor_div_two
      have e2 : ((s ^^^ t) % 2 = 1) ↔ ¬ ((s % 2 = 1) ↔ (t % 2 = 1)) := Nat.xor_mod_two_eq_one
      have e3 := h.odd
      rw [← e1] at hi
      by_cases q1 : t % 2 = 1
      · have := e3 q1
        have : ¬ ((s ^^^ t) % 2 = 1) := fun hh => (e2.mp hh) ⟨fun _ => q1, fun _ => this⟩
        omega
      · by_cases q2 : s % 2 = 1
        · have : (s ^^^ t) % 2 = 1 := e2.mpr (fun hh => q1 (hh.mp q2))
          omega
        · have : ¬ ((s ^^^ t) % 2 = 1) := fun hh => (e2.mp hh) ⟨fun z => absurd z q2, fun z => absurd z q1⟩
          omega
/-- the next greater subset -/
def nxt (l x : Nat) : Nat := l ^^^ (((l ^^^ x) - 1) &&& l)
theorem nxt_sub (l x : Nat) : Sub (nxt l x) l := sub_xs (sub_an _ _)
theorem nxt_gt {l x : Nat} (hx : Sub x l) (h : x < l) : x < nxt l x := by
  have a1 := xs_add l x hx
  have a2 := xs_add l _ (nxt_sub l x)
  have e : l ^^^ nxt l x = ((l ^^^ x) - 1) &&& l := xs_xs (sub_an _ _)
  rw [e] at a2
  have := sub_pr (t := l ^^^ x) (s := l) (by omega)
  omega
theorem nxt_le {l x u : Nat} (hx : Sub x l) (hu : Sub u l) (h : x < u) : nxt l x ≤ u := by
  have a1 := xs_add l x hx
  have a2 := xs_add l _ (nxt_sub l x)
  have a3 := xs_add l u hu
  have e : l ^^^ nxt l x = ((l ^^^ x) - 1) &&& l := xs_xs (sub_an _ _)
  rw [e] at a2
  have := sub_next (l ^^^ x) l (l ^^^ u) (sub_xs hx) (by omega) (sub_xs hu) (by omega)
  omega
theorem b_not (x : Int32) {i : Nat} (hi : i < 32) : bt (~~~x) i = !bt x i := by
  show (~~~x.toBitVec).getLsbD i = _
  rw [BitVec.getLsbD_not, decide_eq_true hi, Bool.true_and]
  rfl
theorem neg_n {x l : Nat} (h : x < l) (hl : l < 2 ^ 31) : nI x - nI l = ~~~(nI (l - x - 1)) := by
  apply Int32.toBitVec_inj.mp
  apply BitVec.eq_of_toNat_eq
  show ((nI x).toBitVec - (nI l).toBitVec).toNat = (~~~(nI (l - x - 1)).toBitVec).toNat
  rw [BitVec.toNat_sub, BitVec.toNat_not, pk_tn (by omega), pk_tn (by omega), pk_tn (by omega)]
  omega
theorem nxt_i {l x : Nat} (hx : Sub x l) (h : x < l) (hl : l < 2 ^ 31) : (nI x - nI l) &&& nI l = nI (nxt l x) := b_ext fun i hi => by
  have a1 := xs_add l x hx
  rw [neg_n h hl, b_and, b_not _ hi, bt_nI hi, bt_nI hi, bt_nI hi]
  unfold nxt
  rw [Nat.testBit_xor, Nat.testBit_and, show l - x - 1 = (l ^^^ x) - 1 by omega]
  cases l.testBit i <;> cases ((l ^^^ x) - 1).testBit i <;> rfl
section DL
variable {A : AS} {w : Nat}
def okT (r : Nat → Int32) (w y : Nat) (ys : List Nat) (left : Nat) (bud : Int) (t : Nat) : Prop := Sub t left ∧ may r y t = true ∧ ∃ z', mv r w ys (left ^^^ t) = some z' ∧ jz w (sm r w y t).toInt z' ≤ bud
def Own (r : Nat → Int32) (w y : Nat) (ys : List Nat) (left : Nat) (bud : Int) (t : Nat) : Prop := okT r w y ys left bud t ∧ ∀ u, u < t → ¬ okT r w y ys left bud u
def nb (w : Nat) (bud c : Int) : Int := if w = 2 then bud else bud - c
def asg (W0 : Nat → Int32) (t y : Nat) : Nat → Int32 := fun p => if t.testBit p = true then nI y else W0 p
def Deal (r : Nat → Int32) (w : Nat) : List Nat → Nat → Int → (Nat → Int32) → (Nat → Int32) → Prop
  | [], _, _, W0, W => W = W0
  | y :: ys, left, bud, W0, W => ∃ t, Own r w y ys left bud t ∧ Deal r w ys (left ^^^ t) (nb w bud (sm r w y t).toInt) (asg W0 t y) W
def Bok (r : Nat → Int32) (w : Nat) (ys : List Nat) (left : Nat) (bud : Int) : Prop := ∃ m, mv r w ys left = some m ∧ m ≤ bud
theorem own_ex {r : Nat → Int32} {y : Nat} {ys : List Nat} {left : Nat} {bud : Int} (h : Bok r w (y :: ys) left bud) : ∃ t, Own r w y ys left bud t := by
  obtain ⟨m, h1, h2⟩ := h
  rcases mv_min r w y ys left with ⟨z, e, ⟨t, c1, c2, z', c3, c4⟩, _⟩ | ⟨e, _⟩
  · rw [h1] at e; cases e
    obtain ⟨t, ht, hm⟩ := pk_least (okT r w y ys left bud) ⟨t, c1, c2, z', c3, by rw [← c4]; exact h2⟩
    exact ⟨t, ht, hm⟩
  · rw [h1] at e; cases e
theorem own_nx {r : Nat → Int32} {y : Nat} {ys : List Nat} {left : Nat} {bud : Int} {t : Nat} (h : okT r w y ys left bud t) : Bok r w ys (left ^^^ t) (nb w bud (sm r w y t).toInt) := by
  obtain ⟨_, _, z', h3, h4⟩ := h
  refine ⟨z', h3, ?_⟩
  unfold jz at h4
  unfold nb
  by_cases q : w = 2
  · rw [if_pos q] at h4 ⊢
    split at h4 <;> omega
  · rw [if_neg q] at h4 ⊢
    omega
theorem own_un {r : Nat → Int32} {y : Nat} {ys : List Nat} {left : Nat} {bud : Int} {t t' : Nat} (h : Own r w y ys left bud t) (h' : Own r w y ys left bud t') : t = t' := by
  rcases Nat.lt_trichotomy t t' with q | q | q
  · exact absurd h.1 (h'.2 t q)
  · exact q
  · exact absurd h'.1 (h.2 t' q)
theorem deal_un {r : Nat → Int32} : ∀ {ys : List Nat} {left : Nat} {bud : Int} {W0 W0' W W' : Nat → Int32}, Deal r w ys left bud W0 W → Deal r w ys left bud W0' W' → Bok r w ys left bud → ∀ p, (left.testBit p = true ∨ W0 p = W0' p) → W p = W' p
  | [], left, bud, W0, W0', W, W', h, h', hb, p, hp => by
    have e : W = W0 := h
    have e' : W' = W0' := h'
    obtain ⟨m, h1, _⟩ := hb
    rw [mv_nil] at h1
    split at h1
    · rename_i h0
      rw [h0, Nat.zero_testBit] at hp
      rw [e, e']
      exact hp.resolve_left (by decide)
    · cases h1
  | y :: ys, left, bud, W0, W0', W, W', h, h', hb, p, hp => by
    obtain ⟨t, ht, hd⟩ := h
    obtain ⟨t', ht', hd'⟩ := h'
    have := own_un ht ht'
    subst this
    refine deal_un hd hd' (own_nx ht.1) p ?_
    unfold asg
    cases e : t.testBit p with
    | true => exact Or.inr rfl
    | false =>
      rcases hp with hp | hp
      · exact Or.inl ((tb_xs ht.1.1).mpr ⟨hp, e⟩)
      · exact Or.inr hp
theorem deal_rg {r : Nat → Int32} {n : Nat} : ∀ {ys : List Nat} {left : Nat} {bud : Int} {W0 W : Nat → Int32}, Deal r w ys left bud W0 W → Bok r w ys left bud → (∀ y, y ∈ ys → y < n) → ∀ p, (left.testBit p = true ∨ ∃ y, y < n ∧ W0 p = nI y) → ∃ y, y < n ∧ W p = nI y
  | [], left, bud, W0, W, h, hb, _, p, hp => by
    have e : W = W0 := h
    obtain ⟨m, h1, _⟩ := hb
    rw [mv_nil] at h1
    split at h1
    · rename_i h0
      rw [h0, Nat.zero_testBit] at hp
      rw [e]
      exact hp.resolve_left (by decide)
    · cases h1
  | y :: ys, left, bud, W0, W, h, hb, hn, p, hp => by
    obtain ⟨t, ht, hd⟩ := h
    refine deal_rg hd (own_nx ht.1) (fun q hq => hn q (List.mem_cons_of_mem _ hq)) p ?_
    unfold asg
    cases e : t.testBit p with
    | true => exact Or.inr ⟨y, hn y (List.mem_cons_self ..), rfl⟩
    | false =>
      rcases hp with hp | hp
      · exact Or.inl ((tb_xs ht.1.1).mpr ⟨hp, e⟩)
      · exact Or.inr hp
/-! the class -/
def gvn (t y : Nat) (W : Nat → Int32) (k : Nat) : Nat → Int32 := fun q => if q < k ∧ t.testBit q = true then nI y else W q
theorem gvn_0 {t y : Nat} {W : Nat → Int32} : gvn t y W 0 = W := funext fun q => if_neg (fun z => absurd z.1 (Nat.not_lt_zero q))
theorem gvn_put {t y k : Nat} {W : Nat → Int32} (h : t.testBit k = true) : upd (gvn t y W k) k (nI y) = gvn t y W (k + 1) := funext fun q => by
  unfold upd gvn
  by_cases hq : q = k
  · rw [if_pos hq, if_pos ⟨by omega, by rw [hq]; exact h⟩]
  · rw [if_neg hq]
    show (if q < k ∧ t.testBit q = true then nI y else W q) = _
    by_cases h2 : q < k ∧ t.testBit q = true
    · rw [if_pos h2, if_pos ⟨by omega, h2.2⟩]
    · rw [if_neg h2, if_neg (fun z => h2 ⟨by omega, z.2⟩)]
theorem gvn_skip {t y k : Nat} {W : Nat → Int32} (h : ¬ t.testBit k = true) : gvn t y W k = gvn t y W (k + 1) := funext fun q => by
  unfold gvn
  by_cases h2 : q < k ∧ t.testBit q = true
  · rw [if_pos h2, if_pos ⟨by omega, h2.2⟩]
  · rw [if_neg h2, if_neg (fun z => h2 ⟨by
      by_cases hq : q = k
      · rw [hq] at z; exact absurd z.2 h
      · omega, z.2⟩)]
theorem gvn_fin {t y n : Nat} {W : Nat → Int32} (ht : t < 2 ^ n) : gvn t y W n = asg W t y := funext fun q => by
  unfold asg gvn
  by_cases h : t.testBit q = true
  · have hq : q < n := by
      rcases Nat.lt_or_ge q n with z | z
      · exact z
      · rw [Nat.testBit_lt_two_pow (Nat.lt_of_lt_of_le ht (Nat.pow_le_pow_right (by decide) z))] at h; exact absurd h (by decide)
    rw [if_pos ⟨hq, h⟩, if_pos h]
  · rw [if_neg (fun z => h z.2), if_neg h]
theorem e_give {σ : St} {t y : Nat} (hI : IR (aR A)) (hc : fd σ 1 1 = nI (cn (aR A) 1)) (ht : t < 2 ^ cn (aR A) 1) : f_X8_give (nI t) (nI y) σ = some (stG σ 39 (asg (ar σ 39) t y)) := by
  have b1 := hI.1.2.1.2
  unfold f_X8_give f_X8_give_2
  rw [← gvn_fin ht]
  refine (it_row 39 (cn (aR A) 1) (gvn t y (ar σ 39)) gvn_0 (fun k hk => ?_)).trans (it_r ?_)
  · show b_X8_give_2 (nI t) (nI y) (nI k) (stG σ 39 (gvn t y (ar σ 39) k)) = _
    unfold b_X8_give_2 f_X8_give_28
    rw [fd_ar, ar_stG_ne (by omega), ← fd_ar, hc, if_pos (nI_lt hk (by omega)), nI_1]
    by_cases h : t.testBit k = true
    · have q' : ¬ ((nI t >>> (nI k &&& 31)) &&& 1) = 0 := fun e => by
        rw [bit_0 (by omega), bt_nI (by omega), h] at e; exact absurd e (by decide)
      rw [if_neg q', inb_nI (show k < 10 by omega) (by decide), chk_so, nm_so, wr_nI _ (by omega), fw_stG, gvn_put h]
    · have q' : ((nI t >>> (nI k &&& 31)) &&& 1) = 0 := by
        rw [bit_0 (by omega), bt_nI (by omega)]
        cases e : t.testBit k <;> first | rfl | exact absurd e h
      rw [if_pos q', gvn_skip h]
  · show b_X8_give_2 (nI t) (nI y) (nI (cn (aR A) 1)) (stG σ 39 (gvn t y (ar σ 39) (cn (aR A) 1))) = _
    unfold b_X8_give_2
    rw [fd_ar, ar_stG_ne (by omega), ← fd_ar, hc, if_neg (nI_nlt (Nat.le_refl _) (by omega))]
theorem e_share2 {σ : St} {y : Nat} {ys : List Nat} {j left t : Nat} {bud : Int} {bu : Int32} (hI : IR (aR A)) (hw : w < 4) (hy : y < cn (aR A) 3) (hys : ∀ q, q ∈ ys → q < cn (aR A) 3) (hl : ys.length ≤ 6) (hj : j + 1 < 6) (hleft : left < 2 ^ cn (aR A) 1) (hbu : bu.toInt = bud) (hbr : bud ≤ 1000000) (h37 : CostC (aR A) w y (ar σ 37)) (hle : LeC (aR A) w ys (ar σ (46 + (j + 1)))) (hown : Own (aR A) w y ys left bud t) : f_X8_leastShare (nI w) (nI j) (nI left) bu σ = some (nI t) := by
  have b1 := hI.1.2.1.2
  have n10 := p10 b1
  have htl := hown.1.1.le
  unfold f_X8_leastShare f_X8_leastShare_13
  rw [nI_1, inb_nI (show j + 1 < 6 by omega) (by decide), chk_so, nI_clamp (by omega)]
  have hbody : ∀ k, k < left → b_X8_leastShare_13 (nI w) (nI left) bu (46 + (j + 1)) (nI k) σ = (@ite _ (okT (aR A) w y ys left bud k) (Classical.propDecidable _) (some (.inr (nI k))) (some (.inl (nI (k + 1))))) := by
    intro k hk
    have hkn : k < 2 ^ cn (aR A) 1 := by omega
    unfold b_X8_leastShare_13 f_X8_leastShare_54
    rw [if_pos (nI_lt hk (by omega)), nI_andn, nI_1]
    by_cases qs : Sub k left
    · have e0 : nI (k ^^^ (k &&& left)) = 0 := by rw [qs.and_l, Nat.xor_self]; rfl
      have hrest : left ^^^ k < 2 ^ cn (aR A) 1 := Nat.xor_lt_two_pow hleft hkn
      rw [if_pos e0, inb_nI (show k < 1024 by omega) (by decide), chk_so, nI_xor, inb_nI (show left ^^^ k < 1024 by omega) (by decide), chk_so, rd_ar (by omega), rd_ar (by omega), h37 k hkn]
      have hr := hle (left ^^^ k) hrest
      have hsm := sm_r (w := w) hI hy k
      have hoth : -60000 ≤ (ar σ (46 + (j + 1)) (left ^^^ k)).toInt ∧ (ar σ (46 + (j + 1)) (left ^^^ k)).toInt ≤ 100000000 := by
        cases eo : mv (aR A) w ys (left ^^^ k) with
        | none =>
          rw [eo] at hr
          have hv : ar σ (46 + (j + 1)) (left ^^^ k) = 100000000 := hr
          rw [hv, far_i]; omega
        | some z =>
          rw [eo] at hr
          have hv : (ar σ (46 + (j + 1)) (left ^^^ k)).toInt = z := hr
          have := mv_r6 hI hys hl eo
          omega
      have henc : -60000 ≤ (enC (aR A) w y k).toInt ∧ (enC (aR A) w y k).toInt ≤ 100000000 := by
        unfold enC
        split
        · omega
        · rw [far_i]; omega
      obtain ⟨v, ev, ev2⟩ := e_tog (w := w) (a := enC (aR A) w y k) (b := ar σ (46 + (j + 1)) (left ^^^ k)) hw (by omega) (by omega)
      rw [ev, bd_so]
      have hok : ¬ bu < v ↔ okT (aR A) w y ys left bud k := by
        rw [Int32.lt_iff_toInt_lt, hbu, ev2]
        constructor
        · intro h
          have h' : jz w (enC (aR A) w y k).toInt (ar σ (46 + (j + 1)) (left ^^^ k)).toInt ≤ bud := by omega
          have hm : may (aR A) y k = true := by
            refine Classical.byContradiction (fun hn => ?_)
            have ee : enC (aR A) w y k = 100000000 := if_neg hn
            rw [ee, far_i] at h'
            unfold jz at h'
            split at h'
            · split at h' <;> omega
            · omega
          have ee : enC (aR A) w y k = sm (aR A) w y k := if_pos hm
          cases eo : mv (aR A) w ys (left ^^^ k) with
          | none =>
            exfalso
            rw [eo] at hr
            have hv : ar σ (46 + (j + 1)) (left ^^^ k) = 100000000 := hr
            rw [hv, far_i] at h'
            unfold jz at h'
            split at h'
            · split at h' <;> omega
            · omega
          | some z =>
            rw [eo] at hr
            have hv : (ar σ (46 + (j + 1)) (left ^^^ k)).toInt = z := hr
            rw [hv, ee] at h'
            exact ⟨qs, hm, z, eo, h'⟩
        · rintro ⟨_, hm, z', h3, h4⟩
          have ee : enC (aR A) w y k = sm (aR A) w y k := if_pos hm
          rw [h3] at hr
          have hv : (ar σ (46 + (j + 1)) (left ^^^ k)).toInt = z' := hr
          rw [hv, ee]
          omega
      by_cases qo : okT (aR A) w y ys left bud k
      · rw [if_neg (hok.mpr qo), if_pos qo]
      · rw [if_pos (Classical.byContradiction fun hn => qo (hok.mp hn)), if_neg qo]
    · have e0 : ¬ nI (k ^^^ (k &&& left)) = 0 := fun h => by
        have hlt : k ^^^ (k &&& left) < 1024 := Nat.xor_lt_two_pow (n := 10) (by omega) (by rw [Nat.and_comm]; exact Nat.and_lt_two_pow (n := 10) _ (by omega))
        have h2 := (nI_eq (a := k ^^^ (k &&& left)) (b := 0) (by omega) (by decide)).mp h
        exact qs (sub_of_and (xs_0 h2).symm)
      have qo : ¬ okT (aR A) w y ys left bud k := fun e => qs e.1
      rw [if_neg e0, if_neg qo]
  obtain ⟨_, e, _⟩ := it_ex (f := fun z : Int32 => b_X8_leastShare_13 (nI w) (nI left) bu (46 + (j + 1)) z σ) (V := Unit) (fun k _ => nI k) (fun _ _ => True) 0 t (Nat.zero_le _) (v := ()) trivial (fun k v _ hk _ => ⟨(), by
    show b_X8_leastShare_13 (nI w) (nI left) bu (46 + (j + 1)) (nI k) σ = _
    rw [hbody k (by omega), if_neg (hown.2 k hk)], trivial⟩)
  refine e.trans (it_r ?_)
  show b_X8_leastShare_13 (nI w) (nI left) bu (46 + (j + 1)) (nI t) σ = _
  by_cases q : t < left
  · rw [hbody t q, if_pos hown.1]
  · unfold b_X8_leastShare_13
    rw [if_neg (nI_nlt (by omega) (by omega)), show t = left by omega]
def FD (σ σ' : St) : Prop := (∀ c, c ≠ 37 → c ≠ 39 → ar σ' c = ar σ c) ∧ σ'.1 = σ.1 ∧ σ'.2.2 = σ.2.2
theorem FD.rfl' (σ : St) : FD σ σ := ⟨fun _ _ _ => rfl, rfl, rfl⟩
theorem FD.tr {a b c : St} (h : FD a b) (h2 : FD b c) : FD a c := ⟨fun k p q => (h2.1 k p q).trans (h.1 k p q), h2.2.1.trans h.2.1, h2.2.2.trans h.2.2⟩
theorem getD_drop {ts : List Nat} {j : Nat} (h : j < ts.length) : ts.drop j = ts.getD j 0 :: ts.drop (j + 1) := by
  rw [List.drop_eq_getElem_cons h, List.getD_eq_getElem?_getD, List.getElem?_eq_getElem h]
  rfl
def CBs (r : Nat → Int32) (w : Nat) (ts : List Nat) (σ : St) : Prop := CSt r σ ∧ Team r w ts σ ∧ ∀ i, 1 ≤ i → i < ts.length → LeC r w (ts.drop i) (ar σ (46 + i))
theorem CBs.f {r : Nat → Int32} {ts : List Nat} {σ σ' : St} (h : CBs r w ts σ) (hf : FD σ σ') : CBs r w ts σ' := by
  obtain ⟨⟨h1, h2⟩, ⟨h3, h4, h5⟩, h6⟩ := h
  refine ⟨⟨by rw [fd_ar, hf.1 1 (by omega) (by omega)]; exact h1, by rw [hf.1 32 (by omega) (by omega)]; exact h2⟩, ⟨by rw [hf.1 4 (by omega) (by omega)]; exact h3, by rw [hf.1 35 (by omega) (by omega)]; exact h4, fun y hy => by rw [hf.1 (40 + y) (by omega) (by omega)]; exact h5 y hy⟩, fun i hi hil => by rw [hf.1 (46 + i) (by omega) (by omega)]; exact h6 i hi hil⟩
theorem e_deal {ts : List Nat} (hI : IR (aR A)) (hw : w < 4) (hts : ∀ y, y ∈ ts → y < cn (aR A) 3) (hl : ts.length ≤ 6) : ∀ (m j left : Nat) (bud : Int) (bu : Int32) (σ : St), j + m + 1 = ts.length → left < 2 ^ cn (aR A) 1 → bu.toInt = bud → bud ≤ 500000 + 10000 * j → CBs (aR A) w ts σ → Bok (aR A) w (ts.drop j) left bud → ∃ τ, it (fun z : Int32 × Int32 × Int32 × St => b_X8_dealOut_15 (nI w) z.1 z.2.1 z.2.2.1 z.2.2.2) (nI left, bu, nI j, σ) = some τ ∧ FD σ τ ∧ Deal (aR A) w (ts.drop j) left bud (ar σ 39) (ar τ 39)
  | 0, j, left, bud, bu, σ, hjm, hleft, hbu, hbr, hcb, hbok => by
    have b1 := hI.1.2.1.2
    have hjl : j < ts.length := by omega
    have hd := getD_drop hjl
    have hd2 : ts.drop (j + 1) = [] := List.drop_eq_nil_of_le (by omega)
    rw [hd2] at hd
    rw [hd] at hbok ⊢
    obtain ⟨t, hown⟩ := own_ex hbok
    have ht : t = left := by
      obtain ⟨_, _, z', h3, _⟩ := hown.1
      rw [mv_nil] at h3
      split at h3
      · rename_i h0; exact (xs_0 h0).symm
      · cases h3
    have e4 : fd σ 4 5 - 1 = nI j := by
      rw [fd_ar, hcb.2.1.1, ← hjm]; exact nI_pred j
    refine ⟨stG σ 39 (asg (ar σ 39) left (ts.getD j 0)), it_k ?_, ⟨fun c _ h => ar_stG_ne h, rfl, rfl⟩, t, hown, ?_⟩
    · show b_X8_dealOut_15 (nI w) (nI left) bu (nI j) σ = _
      unfold b_X8_dealOut_15 f_X8_dealOut_94
      rw [e4, if_neg (nI_nlt (Nat.le_refl _) (by omega)), inb_nI (show j < 6 by omega) (by decide), chk_so, rd_ar (by omega), hcb.2.1.2.1 j hjl, e_give hI hcb.1.1 hleft, bd_so]
    · show ar (stG σ 39 (asg (ar σ 39) left (ts.getD j 0))) 39 = _
      rw [ar_stG_eq, ht]
  | m + 1, j, left, bud, bu, σ, hjm, hleft, hbu, hbr, hcb, hbok => by
    have b1 := hI.1.2.1.2
    have n10 := p10 b1
    have hjl : j < ts.length := by omega
    have hd := getD_drop hjl
    obtain ⟨y, hy⟩ : ∃ y, y = ts.getD j 0 := ⟨_, rfl⟩
    rw [← hy] at hd
    have hmem : y ∈ ts := by
      have : y ∈ ts.drop j := by rw [hd]; exact List.mem_cons_self ..
      exact List.mem_of_mem_drop this
    have hyn := hts y hmem
    have hys : ∀ q, q ∈ ts.drop (j + 1) → q < cn (aR A) 3 := fun q hq => hts q (List.mem_of_mem_drop hq)
    have hyl : (ts.drop (j + 1)).length ≤ 6 := by rw [List.length_drop]; omega
    rw [hd] at hbok ⊢
    obtain ⟨t, hown⟩ := own_ex hbok
    have htl := hown.1.1.le
    have htn : t < 2 ^ cn (aR A) 1 := by omega
    obtain ⟨σ7, p1, p2, p3⟩ := e_price (w := w) hI hyn hcb.1 (hcb.2.1.2.2 y hmem)
    have f7 : FD σ σ7 := ⟨fun c h _ => p2.1 c h, p2.2.1, p2.2.2⟩
    have hcb7 := hcb.f f7
    have e39 : ar σ7 39 = ar σ 39 := p2.1 39 (by omega)
    have hsh := e_share2 (j := j) hI hw hyn hys hyl (by omega) hleft hbu (by omega) p3 (hcb7.2.2 (j + 1) (by omega) (by omega)) hown
    obtain ⟨σ13, h13⟩ : ∃ s, s = stG σ7 39 (asg (ar σ7 39) t y) := ⟨_, rfl⟩
    have f13 : FD σ7 σ13 := by rw [h13]; exact ⟨fun c _ h => ar_stG_ne h, rfl, rfl⟩
    have hsm := sm_r (w := w) hI hyn t
    have ec : ar σ13 37 t = sm (aR A) w y t := by
      rw [h13, ar_stG_ne (by omega), p3 t htn]
      exact if_pos hown.1.2.1
    obtain ⟨m0, hm0, hm1⟩ := hbok
    have hm0r := mv_r6 (ys := y :: ts.drop (j + 1)) hI (fun q hq => by
      rcases List.mem_cons.mp hq with h | h
      · rw [h]; exact hyn
      · exact hys q h) (by simp; rw [List.length_drop] at *; omega) hm0
    obtain ⟨bu', hbu', hbv⟩ : ∃ bu' : Int32, b_X8_dealOut_15 (nI w) (nI left) bu (nI j) σ = some (.inl (nI (left ^^^ t), bu', nI (j + 1), σ13)) ∧ bu'.toInt = nb w bud (sm (aR A) w y t).toInt := by
      have e4 : fd σ 4 5 - 1 = nI (j + m + 1) := by
        rw [fd_ar, hcb.2.1.1, ← hjm]; exact nI_pred (j + m + 1)
      have e35 : rd σ 35 (nI j) = nI y := by rw [rd_ar (by omega), hcb.2.1.2.1 j hjl, hy]
      have e35' : rd σ7 35 (nI j) = nI y := by rw [rd_ar (by omega), hcb7.2.1.2.1 j hjl, hy]
      have hhead : b_X8_dealOut_15 (nI w) (nI left) bu (nI j) σ = if nI w = 2 then some (.inl (nI (left ^^^ t), bu - 0, nI (j + 1), σ13)) else some (.inl (nI (left ^^^ t), bu - sm (aR A) w y t, nI (j + 1), σ13)) := by
        unfold b_X8_dealOut_15 f_X8_dealOut_85
        rw [e4, if_pos (nI_lt (by omega) (by omega)), inb_nI (show j < 6 by omega) (by decide), chk_so, e35, p1, bd_so, hsh, bd_so, e35', e_give hI hcb7.1.1 htn, bd_so, ← h13, nI_xor, inb_nI (show t < 1024 by omega) (by decide), chk_so, rd_ar (by omega), ec, nI_1]
      by_cases q : w = 2
      · refine ⟨bu - 0, by rw [hhead, if_pos (by rw [q]; rfl)], ?_⟩
        unfold nb
        rw [if_pos q, Int32.sub_zero]; exact hbu
      · refine ⟨bu - sm (aR A) w y t, by rw [hhead, if_neg (show ¬ nI w = 2 from fun e => q ((nI_eq (a := w) (b := 2) (by omega) (by decide)).mp e))], ?_⟩
        unfold nb
        rw [if_neg q, Int32.toInt_sub, hbu, Int.bmod_eq_of_le (by omega) (by omega)]
    have hxl : left ^^^ t < 2 ^ cn (aR A) 1 := Nat.xor_lt_two_pow hleft htn
    obtain ⟨τ, r1, r2, r3⟩ := e_deal hI hw hts hl m (j + 1) (left ^^^ t) _ bu' σ13 (by omega) hxl hbv (by unfold nb; split <;> omega) (hcb7.f f13) (own_nx hown.1)
    refine ⟨τ, (it_l hbu').trans r1, (f7.tr f13).tr r2, t, hown, ?_⟩
    have e39' : ar σ13 39 = asg (ar σ 39) t y := by rw [h13, ar_stG_eq, e39]
    rw [← e39']; exact r3
end DL
