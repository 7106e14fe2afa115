/-! the model: best sums of all sets -/
def psx (set i k : Nat) : List Nat := (List.range' i k).filter (fun y => set.testBit y)
theorem psx_s (set i k : Nat) : psx set i (k + 1) = if set.testBit i = true then i :: psx set (i + 1) k else psx set (i + 1) k := by
  unfold psx
  rw [List.range'_succ, List.filter_cons]
theorem psx_0 (set i : Nat) : psx set i 0 = [] := rfl
theorem psx_m {set i k y : Nat} (h : y ∈ psx set i k) : set.testBit y = true := by
  unfold psx at h
  rw [List.mem_filter] at h
  exact h.2
theorem psx_len (set i k : Nat) : (psx set i k).length ≤ k := by
  unfold psx
  refine Nat.le_trans (List.length_filter_le _ _) ?_
  rw [List.length_range']
  exact Nat.le_refl _
theorem m_join {w : Nat} {a b : Int32} (hw : w < 4) (ha : -200000000 ≤ a.toInt ∧ a.toInt ≤ 200000000) (hb : -200000000 ≤ b.toInt ∧ b.toInt ≤ 200000000) : ∃ v, f_X12_joined (nI w) a b = some v ∧ v.toInt = jz w a.toInt b.toInt := by
  unfold f_X12_joined jz
  by_cases q : w = 2
  · subst q
    by_cases q2 : b < a
    · refine ⟨a, by rw [if_pos (by decide), if_pos q2], ?_⟩
      have := Int32.lt_iff_toInt_lt.mp q2
      rw [if_pos rfl, if_neg (by omega)]
    · refine ⟨b, by rw [if_pos (by decide), if_neg q2], ?_⟩
      rw [Int32.lt_iff_toInt_lt] at q2
      rw [if_pos rfl]
      split
      · rfl
      · omega
  · refine ⟨_, if_neg (fun e => q ((nI_eq (a := w) (b := 2) (by omega) (by decide)).mp e)), ?_⟩
    rw [if_neg q, add_i ha hb]
theorem gfar_i : (1000000000 : Int32).toInt = 1000000000 := by decide
section SU
variable {A : AS} {σ : St} {w : Nat}
def SuM (r : Nat → Int32) (w set : Nat) (i : Nat) (row : Nat → Int32) : Prop := ∀ s, s < 2 ^ cn r 1 → Enc 1000000000 (mv r w (psx set i (6 - i)) s) (row (1024 * i + s))
theorem ix1 (i m : Nat) : (1024 * (nI i + 1)) + nI m = nI (1024 * (i + 1) + m) := by rw [nI_1, show (1024 : Int32) = nI 1024 from rfl, pk_mul, nI_add]
theorem ix2 (i m : Nat) : (1024 * nI i) + nI m = nI (1024 * i + m) := by rw [show (1024 : Int32) = nI 1024 from rfl, pk_mul, nI_add]
theorem andn_s {s x : Nat} (h : Sub x s) : nI s &&& (nI x ^^^ (-1)) = nI (s ^^^ x) := by rw [nI_andn, h.and_r]
def F100 (σ σ' : St) : Prop := (∀ c, c ≠ 100 → ar σ' c = ar σ c) ∧ σ'.1 = σ.1 ∧ σ'.2.2 = σ.2.2
theorem jz0 {z : Int} (h : w = 2 → 0 ≤ z) : jz w 0 z = z := by
  unfold jz
  split
  · rename_i q
    have := h q
    split <;> omega
  · omega
/-- the loop over the subsets of one set -/
theorem m_su_in {y : Nat} {ys : List Nat} {i s set : Nat} {u : St} (hI : IR (aR A)) (hw : w < 4) (hi : i < 6) (hy : y < cn (aR A) 3) (hys : ∀ q, q ∈ ys → q < cn (aR A) 3) (hl : ys.length ≤ 6) (hs : s < 2 ^ cn (aR A) 1) (h98 : MayM (aR A) y (ar u 98)) (h99 : CostM (aR A) w y (ar u 99)) (hrow : ∀ t, t < 2 ^ cn (aR A) 1 → Enc 1000000000 (mv (aR A) w ys t) (ar u 100 (1024 * (i + 1) + t))) (is : Int32) : ∀ (x : Nat) (least : Int32) (o : Option Int), Sub x s → MinO (fun z => ∃ t, (t = 0 ∨ x < t) ∧ cand (aR A) w y (mv (aR A) w ys) s t z) o → Enc 1000000000 o least → ∃ v, it (fun z : Int32 × Int32 => b_X12_findSums_148 (nI w) (nI set) (nI i) is (nI s) z.1 z.2 u) (least, nI x) = some (.inl (nI (s + 1), fw u 100 (1024 * i + s) v)) ∧ Enc 1000000000 (mv (aR A) w (y :: ys) s) v := by
  have b1 := hI.1.2.1.2
  have n10 := p10 b1
  intro x
  induction x using Nat.strongRecOn with
  | ind x ih =>
    intro least o hx hmo henc
    have hxs := hx.le
    by_cases q0 : x = 0
    · refine ⟨least, it_r ?_, ?_⟩
      · show b_X12_findSums_148 _ _ (nI i) _ (nI s) least (nI x) u = _
        unfold b_X12_findSums_148 f_X12_findSums_235
        rw [if_neg (by rw [q0]; decide), ix2, inb_nI (show 1024 * i + s < 7168 by omega) (by decide), chk_so, nm_so, wr_nI _ (by omega), nI_1]
        rfl
      · rw [(mv_min (aR A) w y ys s).un (hmo.cg (fun z => ⟨fun ⟨t, _, hc⟩ => ⟨t, hc⟩, fun ⟨t, hc⟩ => ⟨t, by omega, hc⟩⟩))]
        exact henc
    · have hlt := sub_pr (t := x) (s := s) (by omega)
      have hxn : x < 2 ^ cn (aR A) 1 := by omega
      have hrest : s ^^^ x < 2 ^ cn (aR A) 1 := Nat.xor_lt_two_pow hs hxn
      have e1 : nI x - 1 = nI (x - 1) := by
        have := nI_pred (x - 1)
        rw [show x - 1 + 1 = x by omega] at this
        exact this
      have hnext : ∀ (o' : Option Int) (l' : Int32), MinO (fun z => ∃ t, (t = 0 ∨ x ≤ t) ∧ cand (aR A) w y (mv (aR A) w ys) s t z) o' → Enc 1000000000 o' l' → b_X12_findSums_148 (nI w) (nI set) (nI i) is (nI s) least (nI x) u = some (.inl (l', (nI x - 1) &&& nI s)) → ∃ v, it (fun z : Int32 × Int32 => b_X12_findSums_148 (nI w) (nI set) (nI i) is (nI s) z.1 z.2 u) (least, nI x) = some (.inl (nI (s + 1), fw u 100 (1024 * i + s) v)) ∧ Enc 1000000000 (mv (aR A) w (y :: ys) s) v := by
        intro o' l' hm' he' hb
        rw [e1, nI_and] at hb
        have hm2 : MinO (fun z => ∃ t, (t = 0 ∨ (x - 1) &&& s < t) ∧ cand (aR A) w y (mv (aR A) w ys) s t z) o' := by
          refine hm'.cg (fun z => ⟨?_, ?_⟩)
          · rintro ⟨t, ht, hc⟩; exact ⟨t, by omega, hc⟩
          · rintro ⟨t, ht, hc⟩
            refine ⟨t, ?_, hc⟩
            rcases ht with h | h
            · exact Or.inl h
            · rcases Nat.lt_or_ge t x with h3 | h3
              · have := sub_next x s t hx (by omega) hc.1 h3
                omega
              · exact Or.inr h3
        obtain ⟨v, t1, t2⟩ := ih _ hlt l' o' (sub_an _ _) hm2 he'
        exact ⟨v, (it_l hb).trans t1, t2⟩
      have hb : b_X12_findSums_148 (nI w) (nI set) (nI i) is (nI s) least (nI x) u = (if ar u 98 x = 0 then some (.inl (least, (nI x - 1) &&& nI s)) else (if ar u 100 (1024 * (i + 1) + (s ^^^ x)) < 1000000000 then (bd (f_X12_joined (nI w) (ar u 99 x) (ar u 100 (1024 * (i + 1) + (s ^^^ x)))) fun r39 => some (.inl ((if r39 < least then r39 else least), (nI x - 1) &&& nI s))) else some (.inl (least, (nI x - 1) &&& nI s)))) := by
        unfold b_X12_findSums_148 f_X12_findSums_221 f_X12_findSums_223
        rw [if_pos (show (0 : Int32) < nI x from nI_lt (a := 0) (by omega) (by omega)), andn_s hx, ix1, inb_nI (show 1024 * (i + 1) + (s ^^^ x) < 7168 by omega) (by decide), chk_so, inb_nI (show x < 1024 by omega) (by decide), chk_so, rd_ar (by omega), rd_ar (by omega), rd_ar (by omega)]
        congr 1
        congr 1
        congr 1
        funext r39
        split <;> rfl
      have skip : (∀ z, ¬ cand (aR A) w y (mv (aR A) w ys) s x z) → MinO (fun z => ∃ t, (t = 0 ∨ x ≤ t) ∧ cand (aR A) w y (mv (aR A) w ys) s t z) o := by
        intro hno
        refine hmo.cg (fun z => ⟨?_, ?_⟩)
        · rintro ⟨t, ht, hc⟩; exact ⟨t, by omega, hc⟩
        · rintro ⟨t, ht, hc⟩
          refine ⟨t, ?_, hc⟩
          by_cases q : t = x
          · rw [q] at hc; exact absurd hc (hno z)
          · omega
      rw [h98 x hxn, h99 x hxn] at hb
      by_cases qm : may (aR A) y x = true
      · rw [if_neg (by rw [if_pos qm]; decide)] at hb
        have hr := hrow (s ^^^ x) hrest
        cases eo : mv (aR A) w ys (s ^^^ x) with
        | none =>
          rw [eo] at hr
          have hv : ar u 100 (1024 * (i + 1) + (s ^^^ x)) = 1000000000 := hr
          rw [hv, if_neg (by decide)] at hb
          exact hnext o least (skip (fun z hc => by
            obtain ⟨_, _, z', h3, _⟩ := hc
            rw [eo] at h3; cases h3)) henc hb
        | some z0 =>
          rw [eo] at hr
          have hv : (ar u 100 (1024 * (i + 1) + (s ^^^ x))).toInt = z0 := hr
          have hz := mv_r6 hI hys hl eo
          have hsm := sm_r (w := w) hI hy x
          obtain ⟨v, ev, ev2⟩ := m_join (w := w) (a := sm (aR A) w y x) (b := ar u 100 (1024 * (i + 1) + (s ^^^ x))) hw (by omega) (by omega)
          rw [hv] at ev2
          have hjz : jz w (sm (aR A) w y x).toInt z0 < 1000000000 := by
            unfold jz
            split
            · split <;> omega
            · omega
          rw [if_pos (Int32.lt_iff_toInt_lt.mpr (by rw [hv, gfar_i]; omega)), ev, bd_so] at hb
          refine hnext _ _ ((hmo.add (z := jz w (sm (aR A) w y x).toInt z0)).cg (fun z => ⟨?_, ?_⟩)) (henc.add ev2 (by rw [gfar_i]; exact hjz)) hb
          · rintro (⟨t, ht, hc⟩ | rfl)
            · exact ⟨t, by omega, hc⟩
            · exact ⟨x, Or.inr (Nat.le_refl _), hx, qm, z0, eo, rfl⟩
          · rintro ⟨t, ht, hc⟩
            by_cases q : t = x
            · subst q
              obtain ⟨_, _, z', h3, rfl⟩ := hc
              rw [eo] at h3; cases h3
              exact Or.inr rfl
            · exact Or.inl ⟨t, by omega, hc⟩
      · rw [if_pos (by rw [if_neg qm])] at hb
        exact hnext o least (skip (fun z hc => qm hc.2.1)) henc hb
def FSm (σ σ' : St) : Prop := (∀ c, c ≠ 90 → c ≠ 93 → c ≠ 98 → c ≠ 99 → c ≠ 100 → c ≠ 102 → c ≠ 103 → ar σ' c = ar σ c) ∧ σ'.1 = σ.1 ∧ σ'.2.2 = σ.2.2
theorem FSm.rfl' (σ : St) : FSm σ σ := ⟨fun _ _ _ _ _ _ _ _ => rfl, rfl, rfl⟩
theorem FSm.tr {a b c : St} (h : FSm a b) (h2 : FSm b c) : FSm a c := ⟨fun k p q s t u v x => (h2.1 k p q s t u v x).trans (h.1 k p q s t u v x), h2.2.1.trans h.2.1, h2.2.2.trans h.2.2⟩
theorem FSm.frq {σ σ' : St} (h : FSm σ σ') : FrQ σ σ' := by
  have h6 := h.1 6 (by omega) (by omega) (by omega) (by omega) (by omega) (by omega) (by omega)
  exact ⟨⟨fun k hk _ => h.1 k (by omega) (by omega) (by omega) (by omega) (by omega) (by omega) (by omega), h.2.1⟩, fun k hk => h.1 k (by omega) (by omega) (by omega) (by omega) (by omega) (by omega) (by omega), by rw [h6], by rw [h6], by rw [h6]⟩
theorem FSm.ld {σ σ' : St} (h : FSm σ σ') (hl : LD A σ) : LD A σ' := by
  unfold LD
  rw [h.1 87 (by omega) (by omega) (by omega) (by omega) (by omega) (by omega) (by omega), h.1 88 (by omega) (by omega) (by omega) (by omega) (by omega) (by omega) (by omega), h.1 89 (by omega) (by omega) (by omega) (by omega) (by omega) (by omega) (by omega)]
  exact hl
/-- one player: all sets -/
theorem m_su_row {i set : Nat} {u : St} {is : Int32} {ys' : List Nat} (hI : Inv A) (hm : MR A u) (hi : i < 6) (hstep : ∀ s v, s < 2 ^ cn (aR A) 1 → (∀ c, c ≠ 100 → ar v c = ar u c) → (∀ k, 1024 * (i + 1) ≤ k → ar v 100 k = ar u 100 k) → MR A v → ∃ x, b_X12_findSums_109 (nI w) (nI set) (nI i) is (nI s) v = some (.inl (nI (s + 1), fw v 100 (1024 * i + s) x)) ∧ Enc 1000000000 (mv (aR A) w ys' s) x) : ∃ τ, f_X12_findSums_106 (nI w) (nI set) (nI i) is u = some (.inl (nI i + (-1), τ)) ∧ F100 u τ ∧ (∀ k, 1024 * (i + 1) ≤ k → ar τ 100 k = ar u 100 k) ∧ ∀ s, s < 2 ^ cn (aR A) 1 → Enc 1000000000 (mv (aR A) w ys' s) (ar τ 100 (1024 * i + s)) := by
  have b1 := hI.1.1.2.1.2
  have n10 := p10 b1
  have hpos := Nat.two_pow_pos (cn (aR A) 1)
  have hmf : ∀ {v : St}, F100 u v → MR A v := fun {v} hv => hm.frq (FrQ.of (c := 100) (by omega) hv.1 hv.2.1)
  unfold f_X12_findSums_106 f_X12_findSums_109
  obtain ⟨v, g1, g2, g3, g4⟩ := it_ex (f := fun z : Int32 × St => b_X12_findSums_109 (nI w) (nI set) (nI i) is z.1 z.2) (V := St) (fun k v => (nI k, v)) (fun k v => F100 u v ∧ (∀ j, 1024 * (i + 1) ≤ j → ar v 100 j = ar u 100 j) ∧ ∀ s, s < k → Enc 1000000000 (mv (aR A) w ys' s) (ar v 100 (1024 * i + s))) 0 (2 ^ cn (aR A) 1) (Nat.zero_le _) (v := u) ⟨⟨fun _ _ => rfl, rfl, rfl⟩, fun _ _ => rfl, fun s hs => absurd hs (Nat.not_lt_zero s)⟩ (fun k v _ hk hv => by
    obtain ⟨v1, v2, v3⟩ := hv
    obtain ⟨x, x1, x2⟩ := hstep k v hk v1.1 v2 (hmf v1)
    refine ⟨_, x1, ⟨fun c h => by rw [ar_fw_ne h]; exact v1.1 c h, v1.2.1, v1.2.2⟩, fun j hj => by rw [ar_fw_eq, upd_ne (by omega)]; exact v2 j hj, fun s hs => ?_⟩
    rw [ar_fw_eq]
    by_cases q : s = k
    · rw [q, upd_eq]; exact x2
    · rw [upd_ne (by omega)]; exact v3 s (by omega))
  refine ⟨v, g1.trans (it_r ?_), g2, g3, g4⟩
  show b_X12_findSums_109 _ _ (nI i) _ (nI (2 ^ cn (aR A) 1)) v = _
  unfold b_X12_findSums_109 f_X12_findSums_256
  rw [m_all hI (hmf g2), bd_so, if_pos (nI_lt (by omega) (by omega))]
  rfl
theorem m_sums {set : Nat} (hI : Inv A) (hm : MR A σ) (hw : w < 4) (hset : ∀ y, set.testBit y = true → y < cn (aR A) 3) : ∃ τ, f_X12_findSums (nI w) (nI set) σ = some τ ∧ MR A τ ∧ FrM σ τ ∧ LD A τ ∧ WtM (aR A) (ar τ 103) ∧ ∀ i, i ≤ 6 → SuM (aR A) w set i (ar τ 100) := by
  have b1 := hI.1.1.2.1.2
  have b3 := hI.1.1.2.2.2.1.2
  have n10 := p10 b1
  have hpos := Nat.two_pow_pos (cn (aR A) 1)
  obtain ⟨σ3, y1, y2, y3, y4⟩ := m_lay hI hm
  unfold f_X12_findSums
  rw [y1, bd_so]
  unfold f_X12_findSums_6
  have hml : ∀ {v : St}, FSm σ3 v → MR A v ∧ LD A v ∧ rd v 84 1 = nI (cn (aR A) 1) := fun {v} hv => by
    have := y2.frq hv.frq
    exact ⟨this, hv.ld (A := A) y4, by rw [← hI.1.1.2.1.1, ← this.1]; rfl⟩
  -- weights
  obtain ⟨v1, g1, g2, g3⟩ := it_ex (f := fun z : Int32 × St => b_X12_findSums_6 (nI w) (nI set) z.1 z.2) (V := St) (fun k v => (nI k, v)) (fun k v => FSm σ3 v ∧ ∀ p, p < k → ar v 103 p = wt (aR A) (nI p)) 0 (cn (aR A) 1) (Nat.zero_le _) (v := σ3) ⟨FSm.rfl' σ3, fun p hp => absurd hp (Nat.not_lt_zero p)⟩ (fun k v _ hk hv => by
    obtain ⟨u1, u2⟩ := hv
    obtain ⟨m1, m2, m3⟩ := hml u1
    refine ⟨fw v 103 k (wt (aR A) (nI k)), ?_, ⟨fun c _ _ _ _ _ _ z => by rw [ar_fw_ne z]; exact u1.1 c (by assumption) (by assumption) (by assumption) (by assumption) (by assumption) (by assumption) z, u1.2.1, u1.2.2⟩, fun p hp => ?_⟩
    · show b_X12_findSums_6 _ _ (nI k) v = _
      unfold b_X12_findSums_6
      rw [chk_t (by decide), m3, if_pos (nI_lt hk (by omega)), m_weight _ hI.1.1 m1.1, bd_so, inb_nI (show k < 10 by omega) (by decide), chk_so, nm_so, wr_nI _ (by omega), nI_1]
    · rw [ar_fw_eq]
      by_cases q : p = k
      · rw [q, upd_eq]
      · rw [upd_ne q]; exact u2 p (by omega))
  have e1 : it (fun z : Int32 × St => b_X12_findSums_6 (nI w) (nI set) z.1 z.2) (0, σ3) = f_X12_findSums_35 (nI w) (nI set) 0 v1 := g1.trans (it_k (by
    show b_X12_findSums_6 _ _ (nI (cn (aR A) 1)) v1 = _
    unfold b_X12_findSums_6 f_X12_findSums_33
    rw [chk_t (by decide), (hml g2).2.2, if_neg (nI_nlt (Nat.le_refl _) (by omega))]))
  rw [e1]
  -- the last row
  unfold f_X12_findSums_35
  obtain ⟨v2, k1, k2, k3, k4⟩ := it_ex (f := fun z : Int32 × St => b_X12_findSums_35 (nI w) (nI set) z.1 z.2) (V := St) (fun k v => (nI k, v)) (fun k v => FSm σ3 v ∧ ar v 103 = ar v1 103 ∧ ∀ s, s < k → ar v 100 (6144 + s) = if s = 0 then 0 else 1000000000) 0 1024 (Nat.zero_le _) (v := v1) ⟨g2, rfl, fun p hp => absurd hp (Nat.not_lt_zero p)⟩ (fun k v _ hk hv => by
    obtain ⟨u1, u2, u3⟩ := hv
    refine ⟨fw v 100 (6144 + k) (if k = 0 then 0 else 1000000000), ?_, ⟨fun c z1 z2 z3 z4 z5 z6 z7 => by rw [ar_fw_ne z5]; exact u1.1 c z1 z2 z3 z4 z5 z6 z7, u1.2.1, u1.2.2⟩, by rw [ar_fw_ne (by omega)]; exact u2, fun s hs => ?_⟩
    · show b_X12_findSums_35 _ _ (nI k) v = _
      unfold b_X12_findSums_35 f_X12_findSums_61
      rw [if_pos (show nI k < 1024 from nI_lt hk (by decide)), show (6144 : Int32) + nI k = nI (6144 + k) by rw [← nI_add]; rfl, inb_nI (show 6144 + k < 7168 by omega) (by decide), chk_so, chk_so, nm_so, nm_so, wr_nI _ (by omega), wr_nI _ (by omega), nI_1]
      by_cases q : k = 0
      · rw [if_pos (by rw [q]; rfl), if_pos q]
      · rw [if_neg (nI_ne0 (by omega) (by omega)), if_neg q]
    · rw [ar_fw_eq]
      by_cases q : s = k
      · rw [q, upd_eq]
      · rw [upd_ne (by omega)]; exact u3 s (by omega))
  have e2 : it (fun z : Int32 × St => b_X12_findSums_35 (nI w) (nI set) z.1 z.2) (0, v1) = f_X12_findSums_68 (nI w) (nI set) v2 := k1.trans (it_k (by
    show b_X12_findSums_35 _ _ (nI 1024) v2 = _
    unfold b_X12_findSums_35
    rw [if_neg (by decide)]))
  rw [e2]
  unfold f_X12_findSums_68 f_X12_findSums_70
  have hdec : ∀ k, k < 6 → (nI 5 - nI k : Int32) = nI (5 - k) ∧ (nI (5 - k) + (-1) : Int32) = nI 5 - nI (k + 1) := by decide
  obtain ⟨v, h1, h2, h3, h4⟩ := it_ex (f := fun z : Int32 × St => b_X12_findSums_70 (nI w) (nI set) z.1 z.2) (V := St) (fun k v => (nI 5 - nI k, v)) (fun k v => FSm σ3 v ∧ WtM (aR A) (ar v 103) ∧ ∀ i, 6 - k ≤ i → i ≤ 6 → SuM (aR A) w set i (ar v 100)) 0 6 (Nat.zero_le _) (v := v2) ⟨k2, fun p hp => by rw [k3]; exact g3 p hp, fun i hi1 hi2 s hs => by
      have : i = 6 := by omega
      subst this
      rw [show 1024 * 6 + s = 6144 + s by omega, k4 s (by omega), psx_0, mv_nil]
      by_cases q : s = 0
      · rw [if_pos q, if_pos q]; rfl
      · rw [if_neg q, if_neg q]; rfl⟩ (fun k v _ hk hv => by
    obtain ⟨u1, u2, u3⟩ := hv
    obtain ⟨d1, d2⟩ := hdec k hk
    obtain ⟨i, hi⟩ : ∃ i, i = 5 - k := ⟨_, rfl⟩
    rw [← hi] at d1 d2
    have hi6 : i < 6 := by omega
    have hsu : SuM (aR A) w set (i + 1) (ar v 100) := u3 (i + 1) (by omega) (by omega)
    have hlen := psx_len set (i + 1) (6 - (i + 1))
    have hpl : ∀ q, q ∈ psx set (i + 1) (6 - (i + 1)) → q < cn (aR A) 3 := fun q hq => hset q (psx_m hq)
    rw [d1, ← d2]
    have fin : ∀ τ, b_X12_findSums_70 (nI w) (nI set) (nI i) v = some (.inl (nI i + (-1), τ)) → FSm σ3 τ → WtM (aR A) (ar τ 103) → (∀ j, 1024 * (i + 1) ≤ j → ar τ 100 j = ar v 100 j) → SuM (aR A) w set i (ar τ 100) → ∃ v', (fun z : Int32 × St => b_X12_findSums_70 (nI w) (nI set) z.1 z.2) (nI i, v) = some (.inl (nI i + (-1), v')) ∧ FSm σ3 v' ∧ WtM (aR A) (ar v' 103) ∧ ∀ i, 6 - (k + 1) ≤ i → i ≤ 6 → SuM (aR A) w set i (ar v' 100) := by
      intro τ t1 t2 t3 t4 t5
      refine ⟨τ, t1, t2, t3, fun i' h1 h2 => ?_⟩
      by_cases q : i' = i
      · rw [q]; exact t5
      · intro s hs
        rw [t4 (1024 * i' + s) (by omega)]
        exact u3 i' (by omega) h2 s hs
    by_cases q : set.testBit i = true
    · have q1 : ((nI set >>> (nI i &&& 31)) &&& 1) = 1 := (set_b (by omega)).mpr q
      have hy : i < cn (aR A) 3 := hset i q
      have hps : psx set i (6 - i) = i :: psx set (i + 1) (6 - (i + 1)) := by
        rw [show 6 - i = (6 - (i + 1)) + 1 by omega, psx_s, if_pos q]
      obtain ⟨m1, m2, m3⟩ := hml u1
      obtain ⟨a, a1, a2, a3⟩ := m_sets (y := i) hI m1 m2 hy
      have f2 : FSm v a := ⟨fun c z1 z2 z3 _ _ _ _ => a2.1 c z1 z2 z3, a2.2.1, a2.2.2⟩
      have ma := (hml (u1.tr f2)).1
      obtain ⟨b, c1, c2, c3⟩ := m_costs (y := i) (w := w) hI ma hw hy (by rw [a2.1 103 (by omega) (by omega) (by omega)]; exact u2)
      have f3 : FSm a b := ⟨fun c z1 z2 _ z4 _ z6 _ => c2.1 c z1 z2 z4 z6, c2.2.1, c2.2.2⟩
      have fb := u1.tr (f2.tr f3)
      have mb := (hml fb).1
      have hb98 : MayM (aR A) i (ar b 98) := by rw [c2.1 98 (by omega) (by omega) (by omega) (by omega)]; exact a3
      have hb100 : ar b 100 = ar v 100 := by rw [c2.1 100 (by omega) (by omega) (by omega) (by omega), a2.1 100 (by omega) (by omega) (by omega)]
      obtain ⟨τ, r1, r2, r3, r4⟩ := m_su_row (w := w) (set := set) (is := 1) (ys' := psx set i (6 - i)) hI mb hi6 (fun s u hs hu hu2 hmu => by
        have hrow : ∀ t, t < 2 ^ cn (aR A) 1 → Enc 1000000000 (mv (aR A) w (psx set (i + 1) (6 - (i + 1))) t) (ar u 100 (1024 * (i + 1) + t)) := fun t ht => by
          rw [hu2 _ (by omega), hb100]; exact hsu t ht
        rw [hps]
        obtain ⟨x, x1, x2⟩ := m_su_in (set := set) hI.1 hw hi6 hy hpl (by omega) hs (by rw [hu 98 (by omega)]; exact hb98) (by rw [hu 99 (by omega)]; exact c3) hrow 1 s (ar u 100 (1024 * (i + 1) + s)) (mv (aR A) w (psx set (i + 1) (6 - (i + 1))) s) (Sub.rf s) (by
          have hc0 : ∀ z, (∃ t, (t = 0 ∨ s < t) ∧ cand (aR A) w i (mv (aR A) w (psx set (i + 1) (6 - (i + 1)))) s t z) ↔ mv (aR A) w (psx set (i + 1) (6 - (i + 1))) s = some z := by
            intro z
            constructor
            · rintro ⟨t, ht, hc⟩
              have ht0 : t = 0 := by
                rcases ht with h | h
                · exact h
                · have := hc.1.le; omega
              subst ht0
              obtain ⟨_, _, z', e3, rfl⟩ := hc
              rw [Nat.xor_zero] at e3
              rw [sm_0, show (0 : Int32).toInt = 0 by decide, jz0 (mv_r6 hI.1 hpl (by omega) e3).2.2]
              exact e3
            · intro e3
              refine ⟨0, Or.inl rfl, Sub.z s, may_0, z, by rw [Nat.xor_zero]; exact e3, ?_⟩
              rw [sm_0, show (0 : Int32).toInt = 0 by decide, jz0 (mv_r6 hI.1 hpl (by omega) e3).2.2]
          cases eo : mv (aR A) w (psx set (i + 1) (6 - (i + 1))) s with
          | none => exact Or.inr ⟨rfl, fun z hz => by have hz := (hc0 z).mp hz; rw [eo] at hz; cases hz⟩
          | some z => exact Or.inl ⟨z, rfl, (hc0 z).mpr eo, fun z' hz' => by have hz' := (hc0 z').mp hz'; rw [eo] at hz'; cases hz'; omega⟩) (hrow s hs)
        refine ⟨x, ?_, x2⟩
        unfold b_X12_findSums_109 f_X12_findSums_146 f_X12_findSums_148
        rw [m_all hI hmu, bd_so, if_neg (nI_nlt (by omega) (by omega)), ix1, inb_nI (show 1024 * (i + 1) + s < 7168 by omega) (by decide), chk_so, if_neg (by decide), rd_ar (by omega)]
        exact x1)
      refine fin τ ?_ (fb.tr ⟨fun c _ _ _ _ z5 _ _ => r2.1 c z5, r2.2.1, r2.2.2⟩) ?_ ?_ r4
      · unfold b_X12_findSums_70 f_X12_findSums_88
        rw [if_neg (nI_pos (by omega)), if_pos q1, if_neg (by decide), a1, bd_so, c1, bd_so, r1]
      · rw [r2.1 103 (by omega), c2.1 103 (by omega) (by omega) (by omega) (by omega), a2.1 103 (by omega) (by omega) (by omega)]; exact u2
      · intro j hj; rw [r3 j hj, hb100]
    · have q1 : ¬ ((nI set >>> (nI i &&& 31)) &&& 1) = 1 := fun e => q ((set_b (by omega)).mp e)
      have hps : psx set i (6 - i) = psx set (i + 1) (6 - (i + 1)) := by
        rw [show 6 - i = (6 - (i + 1)) + 1 by omega, psx_s, if_neg q]
      obtain ⟨m1, m2, m3⟩ := hml u1
      obtain ⟨τ, r1, r2, r3, r4⟩ := m_su_row (w := w) (set := set) (is := 0) (ys' := psx set i (6 - i)) hI m1 hi6 (fun s u hs hu hu2 hmu => by
        refine ⟨ar u 100 (1024 * (i + 1) + s), ?_, ?_⟩
        · unfold b_X12_findSums_109 f_X12_findSums_146 f_X12_findSums_148
          rw [m_all hI hmu, bd_so, if_neg (nI_nlt (by omega) (by omega)), ix1, inb_nI (show 1024 * (i + 1) + s < 7168 by omega) (by decide), chk_so, if_pos rfl, rd_ar (by omega)]
          refine it_r ?_
          show b_X12_findSums_148 _ _ (nI i) _ (nI s) _ 0 u = _
          unfold b_X12_findSums_148 f_X12_findSums_235
          rw [if_neg (by decide), ix2, inb_nI (show 1024 * i + s < 7168 by omega) (by decide), chk_so, nm_so, wr_nI _ (by omega), nI_1]
          rfl
        · rw [hps, hu2 _ (by omega)]; exact hsu s hs)
      refine fin τ ?_ (u1.tr ⟨fun c _ _ _ _ z5 _ _ => r2.1 c z5, r2.2.1, r2.2.2⟩) ?_ r3 r4
      · unfold b_X12_findSums_70 f_X12_findSums_88
        rw [if_neg (nI_pos (by omega)), if_neg q1, if_pos rfl, r1]
      · rw [r2.1 103 (by omega)]; exact u2)
  refine ⟨v, h1.trans (it_r ?_), (hml h2).1, y3.tr h2.frq.1, (hml h2).2.1, h3, fun i hi => h4 i (by omega) hi⟩
  show b_X12_findSums_70 _ _ (nI 5 - nI 6) v = _
  unfold b_X12_findSums_70
  rw [if_pos (by decide)]
end SU
