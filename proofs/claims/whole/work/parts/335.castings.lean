/-! the model: ways; castings, leave, never -/
section MW
variable {A : AS} {σ : St}
def FW' (σ σ' : St) : Prop := (∀ c, c ≠ 90 → c ≠ 93 → c ≠ 98 → ar σ' c = ar σ c) ∧ σ'.1 = σ.1
theorem FW'.rfl' (σ : St) : FW' σ σ := ⟨fun _ _ _ _ => rfl, rfl⟩
theorem FW'.tr {a b c : St} (h : FW' a b) (h2 : FW' b c) : FW' a c := ⟨fun k p q s => (h2.1 k p q s).trans (h.1 k p q s), h2.2.trans h.2⟩
theorem FW'.frq {σ σ' : St} (h : FW' σ σ') : FrQ σ σ' := by
  have h6 := h.1 6 (by omega) (by omega) (by omega)
  exact ⟨⟨fun k hk _ => h.1 k (by omega) (by omega) (by omega), h.2⟩, fun k hk => h.1 k (by omega) (by omega) (by omega), by rw [h6], by rw [h6], by rw [h6]⟩
theorem FW'.ld {σ σ' : St} (h : FW' σ σ') (hl : LD A σ) : LD A σ' := by
  unfold LD
  rw [h.1 87 (by omega) (by omega) (by omega), h.1 88 (by omega) (by omega) (by omega), h.1 89 (by omega) (by omega) (by omega)]
  exact hl
theorem FW'.wl {σ : St} {i : Int32} {v : Int64} : FW' σ (wrL σ i v) := ⟨fun _ _ _ _ => rfl, rfl⟩
theorem rdL_n {σ : St} {i : Nat} (h : i < 2 ^ 31) : rdL σ (nI i) = σ.2.2 i := by unfold rdL; rw [nI_clamp h]
theorem wrL_2 {σ : St} {i : Nat} {v : Int64} (h : i < 2 ^ 31) : (wrL σ (nI i) v).2.2 = vp_updL σ.2.2 i v := by unfold wrL; rw [nI_clamp h]
def WyM (r : Nat → Int32) (L : List Nat) (lo : Nat → Int64) : Prop := ∀ s, s < 2 ^ cn r 1 → lo s = lN (wy r L s)
theorem m_wy_in {y : Nat} {L : List Nat} {s set i : Nat} {u : St} (hI : IR (aR A)) (hs : s < 2 ^ cn (aR A) 1) (h98 : MayM (aR A) y (ar u 98)) (hw : WyM (aR A) L u.2.2) : f_X12_findWays_79 (nI set) (nI i) (nI s) (rdL u (nI s)) (nI s) u = some (.inl (nI (s + 1), wrL u (nI (1024 + s)) (lN (wy (aR A) (y :: L) s)))) := by
  have b1 := hI.1.2.1.2
  have n10 := p10 b1
  unfold f_X12_findWays_79
  have H : ∀ x, Sub x s → it (fun z : Int64 × Int32 => b_X12_findWays_79 (nI set) (nI i) (nI s) z.1 z.2 u) (lN (sN (fun t => if t = 0 ∨ x < t then wg (aR A) y (wy (aR A) L) s t else 0) (s + 1)), nI x) = some (.inl (nI (s + 1), wrL u (nI (1024 + s)) (lN (wy (aR A) (y :: L) s)))) := by
    intro x
    induction x using Nat.strongRecOn with
    | ind x ih =>
      intro hx
      have hxs := hx.le
      by_cases q0 : x = 0
      · refine it_r ?_
        show b_X12_findWays_79 _ _ (nI s) _ (nI x) u = _
        have e : sN (fun t => if t = 0 ∨ x < t then wg (aR A) y (wy (aR A) L) s t else 0) (s + 1) = wy (aR A) (y :: L) s := sN_cg (fun t _ => if_pos (by omega))
        unfold b_X12_findWays_79 f_X12_findWays_125
        rw [if_neg (by rw [q0]; decide), e, show (1024 : Int32) + nI s = nI (1024 + s) by rw [← nI_add]; rfl, inb_nI (show 1024 + s < 2048 by omega) (by decide), chk_so, nm_so, nI_1]
        rfl
      · have hlt := sub_pr (t := x) (s := s) (by omega)
        have hxn : x < 2 ^ cn (aR A) 1 := by omega
        have hrest : s ^^^ x < 2 ^ cn (aR A) 1 := Nat.xor_lt_two_pow hs hxn
        have e1 : nI x - 1 = nI (x - 1) := by
          have := nI_pred (x - 1)
          rw [show x - 1 + 1 = x by omega] at this
          exact this
        have hsum : sN (fun t => if t = 0 ∨ (x - 1) &&& s < t then wg (aR A) y (wy (aR A) L) s t else 0) (s + 1) = sN (fun t => if t = 0 ∨ x < t then wg (aR A) y (wy (aR A) L) s t else 0) (s + 1) + wg (aR A) y (wy (aR A) L) s x := by
          have e2 : sN (fun t => if t = 0 ∨ (x - 1) &&& s < t then wg (aR A) y (wy (aR A) L) s t else 0) (s + 1) = sN (fun t => if t = 0 ∨ x ≤ t then wg (aR A) y (wy (aR A) L) s t else 0) (s + 1) := by
            refine sN_cg (fun t ht => ?_)
            by_cases qs : sbB t s = true
            · have : (t = 0 ∨ (x - 1) &&& s < t) ↔ (t = 0 ∨ x ≤ t) := by
                constructor
                · rintro (h | h)
                  · exact Or.inl h
                  · rcases Nat.lt_or_ge t x with h3 | h3
                    · have := sub_next x s t hx (by omega) (sbB_t.mp qs) h3
                      omega
                    · exact Or.inr h3
                · rintro (h | h)
                  · exact Or.inl h
                  · exact Or.inr (by omega)
              by_cases q : t = 0 ∨ x ≤ t
              · rw [if_pos q, if_pos (this.mpr q)]
              · rw [if_neg q, if_neg (fun h => q (this.mp h))]
            · have hz : wg (aR A) y (wy (aR A) L) s t = 0 := by
                unfold wg
                rw [if_neg (fun e => qs (Bool.and_eq_true_iff.mp e).1)]
              rw [hz, ite_self, ite_self]
          rw [e2]
          refine sN_one (x := x) ?_ (fun t ht => ?_) (by omega)
          · rw [if_pos (by omega), if_neg (by omega), Nat.zero_add]
          · by_cases q : t = 0 ∨ x < t
            · rw [if_pos q, if_pos (by omega)]
            · rw [if_neg q, if_neg (by omega)]
        have hst : b_X12_findWays_79 (nI set) (nI i) (nI s) (lN (sN (fun t => if t = 0 ∨ x < t then wg (aR A) y (wy (aR A) L) s t else 0) (s + 1))) (nI x) u = some (.inl (lN (sN (fun t => if t = 0 ∨ (x - 1) &&& s < t then wg (aR A) y (wy (aR A) L) s t else 0) (s + 1)), nI ((x - 1) &&& s))) := by
          unfold b_X12_findWays_79 f_X12_findWays_111
          rw [if_pos (show (0 : Int32) < nI x from nI_lt (a := 0) (by omega) (by omega)), inb_nI (show x < 1024 by omega) (by decide), chk_so, rd_ar (by omega), h98 x hxn, andn_s hx, inb_nI (show s ^^^ x < 2048 by omega) (by decide), chk_so, rdL_n (by omega), hw _ hrest, e1, nI_and, hsum]
          by_cases qm : may (aR A) y x = true
          · have e3 : wg (aR A) y (wy (aR A) L) s x = wy (aR A) L (s ^^^ x) := by
              unfold wg
              rw [if_pos (by rw [qm, Bool.and_true]; exact sbB_t.mpr hx)]
            rw [if_neg (by rw [if_pos qm]; decide), e3, lN_add]
          · have e3 : wg (aR A) y (wy (aR A) L) s x = 0 := by
              unfold wg
              rw [if_neg (fun e => qm (Bool.and_eq_true_iff.mp e).2)]
            rw [if_neg qm, if_pos rfl, e3, Int64.add_zero]
            rfl
        exact (it_l hst).trans (ih _ hlt (sub_an _ _))
  have e0 : sN (fun t => if t = 0 ∨ s < t then wg (aR A) y (wy (aR A) L) s t else 0) (s + 1) = wy (aR A) L s := by
    have e1 : sN (fun t => if t = 0 ∨ s < t then wg (aR A) y (wy (aR A) L) s t else 0) (s + 1) = sN (fun _ => 0) (s + 1) + wy (aR A) L s := by
      refine sN_one (f := fun _ => 0) (x := 0) ?_ (fun t ht => ?_) (by omega)
      · rw [if_pos (Or.inl rfl), Nat.zero_add]
        unfold wg
        rw [may_0, Bool.and_true, if_pos (sbB_t.mpr (Sub.z s)), Nat.xor_zero]
      · by_cases q : s < t
        · rw [if_pos (Or.inr q), wg_hi q]
        · rw [if_neg (by omega)]
    have e2 : ∀ n, sN (fun _ => 0) n = 0 := fun n => by
      induction n with
      | zero => rfl
      | succ n ih => show sN (fun _ => 0) n + 0 = 0; rw [ih]
    rw [e1, e2, Nat.zero_add]
  have := H s (Sub.rf s)
  rw [e0, ← hw s hs, ← rdL_n (show s < 2 ^ 31 by omega)] at this
  exact this
theorem m_ways {set : Nat} (hI : Inv A) (hm : MR A σ) (hset : ∀ y, set.testBit y = true → y < cn (aR A) 3) : ∃ τ, f_X12_findWays (nI set) σ = some τ ∧ MR A τ ∧ FrM σ τ ∧ LD A τ ∧ WyM (aR A) (pls set (cn (aR A) 3)).reverse τ.2.2 := by
  have b1 := hI.1.1.2.1.2
  have b3 := hI.1.1.2.2.2.1.2
  have n10 := p10 b1
  have hpos := Nat.two_pow_pos (cn (aR A) 1)
  obtain ⟨σ3, y1, y2, y3, y4⟩ := m_lay hI hm
  unfold f_X12_findWays
  rw [y1, bd_so]
  unfold f_X12_findWays_6
  have hml : ∀ {v : St}, FW' σ3 v → MR A v ∧ LD A v := fun {v} hv => ⟨y2.frq hv.frq, hv.ld (A := A) y4⟩
  obtain ⟨v0, k1, k2, k3⟩ := it_ex (f := fun z : Int32 × St => b_X12_findWays_6 (nI set) z.1 z.2) (V := St) (fun k v => (nI k, v)) (fun k v => FW' σ3 v ∧ ∀ s, s < k → v.2.2 s = if s = 0 then 1 else 0) 0 1024 (Nat.zero_le _) (v := σ3) ⟨FW'.rfl' σ3, fun p hp => absurd hp (Nat.not_lt_zero p)⟩ (fun k v _ hk hv => by
    obtain ⟨u1, u3⟩ := hv
    refine ⟨wrL v (nI k) (if k = 0 then 1 else 0), ?_, u1.tr FW'.wl, fun s hs => ?_⟩
    · show b_X12_findWays_6 _ (nI k) v = _
      unfold b_X12_findWays_6 f_X12_findWays_27
      rw [if_pos (show nI k < 1024 from nI_lt hk (by decide)), inb_nI (show k < 2048 by omega) (by decide), chk_so, chk_so, nm_so, nm_so, nI_1]
      by_cases q : k = 0
      · rw [if_pos (by rw [q]; rfl), if_pos q]
      · rw [if_neg (nI_ne0 (by omega) (by omega)), if_neg q]
    · rw [wrL_2 (by omega)]
      by_cases q : s = k
      · rw [q, pk_uLs]
      · rw [pk_uLn q]; exact u3 s (by omega))
  have e2 : it (fun z : Int32 × St => b_X12_findWays_6 (nI set) z.1 z.2) (0, σ3) = f_X12_findWays_34 (nI set) v0 := k1.trans (it_k (by
    show b_X12_findWays_6 _ (nI 1024) v0 = _
    unfold b_X12_findWays_6
    rw [if_neg (by decide)]))
  rw [e2]
  unfold f_X12_findWays_34 f_X12_findWays_36
  obtain ⟨v, h1, h2, h3⟩ := it_ex (f := fun z : Int32 × St => b_X12_findWays_36 (nI set) z.1 z.2) (V := St) (fun k v => (nI k, v)) (fun i v => FW' σ3 v ∧ WyM (aR A) (pls set i).reverse v.2.2) 0 6 (Nat.zero_le _) (v := v0) ⟨k2, fun s hs => by
      rw [k3 s (by omega)]
      show _ = lN (if s = 0 then 1 else 0)
      split <;> rfl⟩ (fun i v _ hi hv => by
    obtain ⟨u1, u2⟩ := hv
    obtain ⟨m1, m2⟩ := hml u1
    by_cases q : set.testBit i = true
    · have q1 : ¬ ((nI set >>> (nI i &&& 31)) &&& 1) = 0 := fun e => by
        rw [bit_0 (by omega), bt_nI (by omega), q] at e; exact absurd e (by decide)
      have hy := hset i q
      obtain ⟨a, a1, a2, a3⟩ := m_sets (y := i) hI m1 m2 hy
      have fa : FW' v a := ⟨a2.1, a2.2.1⟩
      have hla : a.2.2 = v.2.2 := a2.2.2
      -- the new row
      obtain ⟨b, g1, g2, g3, g4⟩ := it_ex (f := fun z : Int32 × St => b_X12_findWays_60 (nI set) (nI i) z.1 z.2) (V := St) (fun k v => (nI k, v)) (fun k u => (FW' σ3 u ∧ MayM (aR A) i (ar u 98)) ∧ WyM (aR A) (pls set i).reverse u.2.2 ∧ ∀ s, s < k → u.2.2 (1024 + s) = lN (wy (aR A) (i :: (pls set i).reverse) s)) 0 (2 ^ cn (aR A) 1) (Nat.zero_le _) (v := a) ⟨⟨u1.tr fa, a3⟩, by rw [hla]; exact u2, fun s hs => absurd hs (Nat.not_lt_zero s)⟩ (fun k u _ hk hu => by
        obtain ⟨⟨w1, w4⟩, w2, w3⟩ := hu
        have hin := m_wy_in (y := i) (L := (pls set i).reverse) (set := set) (i := i) (s := k) (u := u) hI.1 hk w4 w2
        refine ⟨wrL u (nI (1024 + k)) (lN (wy (aR A) (i :: (pls set i).reverse) k)), ?_, ⟨w1.tr FW'.wl, w4⟩, fun s hs => ?_, fun s hs => ?_⟩
        · show b_X12_findWays_60 _ (nI i) (nI k) u = _
          unfold b_X12_findWays_60
          rw [m_all hI (hml w1).1, bd_so, if_neg (nI_nlt (by omega) (by omega)), inb_nI (show k < 2048 by omega) (by decide), chk_so]
          exact hin
        · rw [wrL_2 (by omega), pk_uLn (by omega)]; exact w2 s hs
        · rw [wrL_2 (by omega)]
          by_cases qs : s = k
          · rw [qs, pk_uLs]
          · rw [pk_uLn (by omega)]; exact w3 s (by omega))
      -- back
      obtain ⟨c, r1, r2, r3, r4⟩ := it_ex (f := fun z : Int32 × St => b_X12_findWays_145 (nI set) (nI i) z.1 z.2) (V := St) (fun k v => (nI k, v)) (fun k u => FW' σ3 u ∧ (∀ s, s < 2 ^ cn (aR A) 1 → u.2.2 (1024 + s) = lN (wy (aR A) (i :: (pls set i).reverse) s)) ∧ ∀ s, s < k → u.2.2 s = lN (wy (aR A) (i :: (pls set i).reverse) s)) 0 (2 ^ cn (aR A) 1) (Nat.zero_le _) (v := b) ⟨g2.1, g4, fun s hs => absurd hs (Nat.not_lt_zero s)⟩ (fun k u _ hk hu => by
        obtain ⟨w1, w2, w3⟩ := hu
        refine ⟨wrL u (nI k) (lN (wy (aR A) (i :: (pls set i).reverse) k)), ?_, w1.tr FW'.wl, fun s hs => ?_, fun s hs => ?_⟩
        · show b_X12_findWays_145 _ (nI i) (nI k) u = _
          unfold b_X12_findWays_145
          rw [m_all hI (hml w1).1, bd_so, if_neg (nI_nlt (by omega) (by omega)), show (1024 : Int32) + nI k = nI (1024 + k) by rw [← nI_add]; rfl, inb_nI (show 1024 + k < 2048 by omega) (by decide), chk_so, inb_nI (show k < 2048 by omega) (by decide), chk_so, nm_so, rdL_n (by omega), w2 k hk, nI_1]
        · rw [wrL_2 (by omega), pk_uLn (by omega)]; exact w2 s hs
        · rw [wrL_2 (by omega)]
          by_cases qs : s = k
          · rw [qs, pk_uLs]
          · rw [pk_uLn qs]; exact w3 s (by omega))
      refine ⟨c, ?_, r2, by rw [pls_s, if_pos q, List.reverse_append]; exact r4⟩
      show b_X12_findWays_36 _ (nI i) v = _
      unfold b_X12_findWays_36 f_X12_findWays_60
      rw [if_pos (show nI i < 6 from nI_lt hi (by decide)), if_neg q1, a1, bd_so]
      refine g1.trans (it_k ?_)
      show b_X12_findWays_60 _ (nI i) (nI (2 ^ cn (aR A) 1)) b = _
      unfold b_X12_findWays_60
      rw [m_all hI (hml g2.1).1, bd_so, if_pos (nI_lt (by omega) (by omega))]
      congr 1
      unfold f_X12_findWays_143 f_X12_findWays_145
      refine r1.trans (it_r ?_)
      show b_X12_findWays_145 _ (nI i) (nI (2 ^ cn (aR A) 1)) c = _
      unfold b_X12_findWays_145 f_X12_findWays_175
      rw [m_all hI (hml r2).1, bd_so, if_pos (nI_lt (by omega) (by omega)), nI_1]
      rfl
    · have q1 : ((nI set >>> (nI i &&& 31)) &&& 1) = 0 := by
        rw [bit_0 (by omega), bt_nI (by omega)]
        cases e : set.testBit i <;> first | rfl | exact absurd e q
      refine ⟨v, ?_, u1, by rw [pls_s, if_neg q]; exact u2⟩
      show b_X12_findWays_36 _ (nI i) v = _
      unfold b_X12_findWays_36 f_X12_findWays_175
      rw [if_pos (show nI i < 6 from nI_lt hi (by decide)), if_pos q1, nI_1])
  have h6 : pls set 6 = pls set (cn (aR A) 3) := by
    have := pls_hi hset (6 - cn (aR A) 3)
    rw [show cn (aR A) 3 + (6 - cn (aR A) 3) = 6 by omega] at this
    exact this
  rw [h6] at h3
  exact ⟨v, h1.trans (it_r rfl), (hml h2).1, y3.tr h2.frq.1, (hml h2).2, h3⟩
/-! castings -/
def OpnL (A : AS) (σ : St) (f11 f12 : St → Option (Int64 × St)) : Prop := ∃ x A' σ1 σ2, f11 σ = some (x, σ1) ∧ f12 σ1 = some (x, σ2) ∧ Inv A' ∧ CR A' σ2 ∧ MR A' σ2 ∧ σ2.1 ≤ σ.1 + 1
theorem op_castings (x : Int32) (hI : Inv A) (hC : CR A σ) (hM : MR A σ) : OpnL A σ (f_X11_castings x) (f_X12_castings x) := by
  have hi := hI.1.1
  have b1 := hi.2.1.2
  have b3 := hi.2.2.2.1.2
  have n10 := p10 b1
  have h64 := p64 b3
  have hpos := Nat.two_pow_pos (cn (aR A) 1)
  rcases wi_cases x (n := 2 ^ cn (aR A) 3) (by omega) with g0 | ⟨g1, set, hset, rfl⟩
  · have he : Opn A σ (f_X11_error 1) (f_X12_finds 1) := Opn.err 1 (by decide) hI hC hM rfl (fun _ _ => rfl)
    obtain ⟨z, A', σ1, σ2, e1, e2, e3⟩ := he
    refine ⟨z.toInt64, A', σ1, σ2, ?_, ?_, e3⟩
    · unfold f_X11_castings
      rw [e_isSet _ hI hC, bd_so, g0, if_pos rfl, e1, bd2_so]
    · have hm1 : MR A σ1 := by
        have hf : FrC σ σ1 := by
          rw [e_error (by decide)] at e1
          cases e1
          exact FrC.fw (by decide)
        exact hM.fr hf
      unfold f_X12_castings
      rw [m_isTroupe _ hI hm1, bd_so, g0, if_pos rfl, e2, bd2_so]
  · obtain ⟨τ, c, c1, c2, c3, c4, c5, _⟩ := e_count hI hC hset
    have hCτ := hC.frs c2
    have hmτ := hM.fr c2.frc
    obtain ⟨τ', d1, d2, d3, d4, d5⟩ := m_ways (set := set) hI hmτ (set_hi hset)
    have hlt : wy (aR A) (pls set (cn (aR A) 3)).reverse (2 ^ cn (aR A) 1 - 1) < 2 ^ 31 := wy_31 (n := cn (aR A) 1) (by omega) b1 (by rw [List.length_reverse]; have := pls_len set (cn (aR A) 3); omega)
    refine ⟨lN (wy (aR A) (pls set (cn (aR A) 3)).reverse (2 ^ cn (aR A) 1 - 1)), A, τ, τ', ?_, ?_, hI, hCτ.fr d3, d2, by rw [d3.2, c2.2.1]; exact Nat.le_succ _⟩
    · unfold f_X11_castings f_X4_allParts
      rw [e_isSet _ hI hC, bd_so, g1, if_neg (by decide), c1, bd_so, c3, c4, chk_so, show fd τ 1 1 = nI (cn (aR A) 1) from hCτ.1.1.2.1.trans hI.1.1.2.1.1, allP b1, bd_so, inb_nI (show 2 ^ cn (aR A) 1 - 1 < 1024 by omega) (by decide), chk_so, rd_ar (by omega), c5 _ (by omega), nI_l hlt]
    · unfold f_X12_castings
      rw [m_isTroupe _ hI hmτ, bd_so, g1, if_neg (by decide), d1, bd_so, m_all hI d2, bd_so, inb_nI (show 2 ^ cn (aR A) 1 - 1 < 2048 by omega) (by decide), chk_so, rdL_n (by omega), d5 _ (by omega)]
/-! never -/
def shr (r : Nat → Int32) (y : Nat) (L : List Nat) (n : Nat) (k : Nat) : Bool := may r y k && decide (wy r L ((2 ^ n - 1) ^^^ k) ≠ 0)
def smA (f : Nat → Bool) (z : Int32) : Nat → Int32 := fun k => lp (fun t v => if f t = true then v ||| nI t else v) k z
def smE (f : Nat → Bool) (z : Int32) : Nat → Int32 := fun k => lp (fun t v => if f t = true then v &&& nI t else v) k z
def nvA (f : Nat → Bool) : Nat → Int32 := fun k => if anyN f k = true then 1 else 0
theorem nvA_s (f : Nat → Bool) (k : Nat) : nvA f (k + 1) = if f k = true then 1 else nvA f k := by
  unfold nvA
  show (if (anyN f k || f k) = true then (1 : Int32) else 0) = _
  cases f k
  · rw [Bool.or_false]; rfl
  · rw [Bool.or_true]; rfl
theorem pos_i {m : Nat} (h : m < 2 ^ 31) : (0 < nI m) ↔ m ≠ 0 := by
  have := nI_ltI (a := 0) (b := m) (by decide) h
  rw [show (0 : Int32) = nI 0 from rfl, this]; omega
theorem lz_i {m : Nat} (h : m < 2 ^ 31) : (lg_cmp (lN m) 0 = 0) ↔ m = 0 := by
  rw [lg_cmp_eq, show (0 : Int64) = lN 0 from rfl, lN_eq h (by decide)]
theorem op_never (x z v : Int32) (hI : Inv A) (hC : CR A σ) (hM : MR A σ) : Opn A σ (f_X11_never x z v) (f_X12_never x z v) := by
  have hi := hI.1.1
  have b1 := hi.2.1.2
  have b3 := hi.2.2.2.1.2
  have n10 := p10 b1
  have h64 := p64 b3
  have hpos := Nat.two_pow_pos (cn (aR A) 1)
  have hc := hC.1.1
  rcases wi_cases x (n := 2 ^ cn (aR A) 3) (by omega) with g0 | ⟨g1, set, hset, rfl⟩
  · refine Opn.err 1 (by decide) hI hC hM ?_ (fun σ hm => ?_)
    · unfold f_X11_never f_X11_never_30; rw [e_isSet _ hI hC, bd_so, g0, if_pos rfl]; exact bd2_id _
    · unfold f_X12_never f_X12_never_25; rw [m_isTroupe _ hI hm, bd_so, g0, if_pos rfl]; exact bd2_id _
  rcases wi_cases z (n := cn (aR A) 3) (by omega) with h0 | ⟨h1, y, hy, rfl⟩
  · refine Opn.err 1 (by decide) hI hC hM ?_ (fun σ hm => ?_)
    · unfold f_X11_never f_X11_never_30; rw [e_isSet _ hI hC, bd_so, g1, if_neg (by decide), e_hasPlayer _ hi hc, bd_so, h0, if_pos rfl]; exact bd2_id _
    · unfold f_X12_never f_X12_never_25; rw [m_isTroupe _ hI hm, bd_so, g1, if_neg (by decide), m_isPlayer _ hi hm.1, bd_so, h0, if_pos rfl]; exact bd2_id _
  rcases wi_cases v (n := 2) (by omega) with k0 | ⟨k1, _⟩
  · refine Opn.err 1 (by decide) hI hC hM ?_ (fun σ hm => ?_)
    · unfold f_X11_never f_X11_never_30; rw [e_isSet _ hI hC, bd_so, g1, if_neg (by decide), e_hasPlayer _ hi hc, bd_so, h1, if_neg (by decide), w_2, bd_so, k0, if_pos rfl]; exact bd2_id _
    · unfold f_X12_never f_X12_never_25; rw [m_isTroupe _ hI hm, bd_so, g1, if_neg (by decide), m_isPlayer _ hi hm.1, bd_so, h1, if_neg (by decide), m_in2, bd_so, k0, if_pos rfl]; exact bd2_id _
  obtain ⟨se, hse⟩ : ∃ se, se = set ^^^ (set &&& 2 ^ y) := ⟨_, rfl⟩
  have hsel : se < 2 ^ cn (aR A) 3 := by
    rw [hse]
    exact Nat.xor_lt_two_pow hset (by rw [Nat.and_comm]; exact Nat.and_lt_two_pow _ hset)
  obtain ⟨L, hL⟩ : ∃ L, L = (pls se (cn (aR A) 3)).reverse := ⟨_, rfl⟩
  have hLl : L.length ≤ 6 := by rw [hL, List.length_reverse]; have := pls_len se (cn (aR A) 3); omega
  have hb31 : ∀ s, s < 2 ^ cn (aR A) 1 → wy (aR A) L s < 2 ^ 31 := fun s hs => wy_31 hs b1 hLl
  obtain ⟨N, hN⟩ : ∃ N, N = 2 ^ cn (aR A) 1 := ⟨_, rfl⟩
  have hxl : ∀ k, k < N → (N - 1) ^^^ k < N := fun k hk => by rw [hN] at hk ⊢; exact Nat.xor_lt_two_pow (by omega) hk
  -- the class up to the shares
  obtain ⟨τ, c, c1, c2, c3, c4, c5, c6⟩ := e_count hI hC hsel
  rw [← hL] at c5
  have hCτ := hC.frs c2
  have lc := of_decide_eq_true c4
  have eall : ∀ {u : St}, CR A u → f_X4_allParts u = some (nI (N - 1)) := fun {u} hu => by
    unfold f_X4_allParts
    rw [show fd u 1 1 = nI (cn (aR A) 1) from hu.1.1.2.1.trans hi.2.1.1, allP b1, hN]
  have hbit : ((nI set &&& ((1 : Int32) <<< (nI y &&& 31))) = 0) ↔ ¬ set.testBit y = true := by
    rw [nI_bit (by omega), and_0 (by omega)]
    constructor
    · intro h hb
      exact h y ⟨hb, by rw [Nat.testBit_two_pow]; exact decide_eq_true rfl⟩
    · rintro h q ⟨h1, h2⟩
      rw [Nat.testBit_two_pow] at h2
      rw [← of_decide_eq_true h2] at h1
      exact h h1
  have hbitm : (((nI set >>> (nI y &&& 31)) &&& 1) = 1) ↔ set.testBit y = true := set_b (by omega)
  have s11 : f_X11_never (nI set) (nI y) v σ = if set.testBit y = true then f_X11_never_71 v 1 (nI y) τ else f_X11_never_71 v 0 (nI y) τ := by
    unfold f_X11_never
    rw [e_isSet _ hI hC, bd_so, g1, if_neg (by decide), e_hasPlayer _ hi hc, bd_so, h1, if_neg (by decide), w_2, bd_so, k1, if_neg (by decide), nI_clr _ (by omega), ← hse, c1, bd_so]
    by_cases q : set.testBit y = true
    · rw [if_neg (fun h => hbit.mp h q), if_pos q]
    · rw [if_pos (hbit.mpr q), if_neg q]
  have s12 : ∀ {σ1 : St}, MR A σ1 → ∃ τ', MR A τ' ∧ FrM σ1 τ' ∧ LD A τ' ∧ WyM (aR A) L τ'.2.2 ∧ f_X12_never (nI set) (nI y) v σ1 = if set.testBit y = true then f_X12_never_68 (nI y) v 0 (nI (N - 1)) 0 1 τ' else f_X12_never_68 (nI y) v 0 (nI (N - 1)) 0 0 τ' := by
    intro σ1 hm
    obtain ⟨τ', d1, d2, d3, d4, d5⟩ := m_ways (set := se) hI hm (set_hi hsel)
    rw [← hL] at d5
    refine ⟨τ', d2, d3, d4, d5, ?_⟩
    unfold f_X12_never
    rw [m_isTroupe _ hI hm, bd_so, g1, if_neg (by decide), m_isPlayer _ hi hm.1, bd_so, h1, if_neg (by decide), m_in2, bd_so, k1, if_neg (by decide), nI_clr _ (by omega), ← hse, d1, bd_so, m_all hI d2, bd_so, hN]
    by_cases q : set.testBit y = true
    · rw [if_pos (hbitm.mpr q), if_pos q]
    · rw [if_neg (fun h => q (hbitm.mp h)), if_neg q]
  -- what both come to
  have fin : ∀ (F S E : Int32) (τ2 : St), f_X8_findShares (nI y) (if set.testBit y = true then 1 else 0) τ = some (F, τ2) → FrS τ τ2 → ar τ2 4 12 = S → (F ≠ 0 → ar τ2 4 13 = E) → (∀ {τ' : St}, MR A τ' → LD A τ' → WyM (aR A) L τ'.2.2 → ∃ τ3, MR A τ3 ∧ FrM τ' τ3 ∧ f_X12_never_68 (nI y) v 0 (nI (N - 1)) 0 (if set.testBit y = true then 1 else 0) τ' = f_X12_never_161 v S (if F = 0 then nI (N - 1) else E) F τ3) → Opn A σ (f_X11_never (nI set) (nI y) v) (f_X12_never (nI set) (nI y) v) := by
    intro F S E τ2 q1 q2 q3 q4 q5
    have t11 : f_X11_never (nI set) (nI y) v σ = if F = 0 then (bd2 (f_X11_error 2 τ2) fun r28 σ30 => some (r28, σ30)) else (if v = 0 then (bd (f_X4_allParts τ2) fun r25 => some ((r25 &&& ((fd τ2 4 12) ^^^ (-1))), τ2)) else (some ((fd τ2 4 13), τ2))) := by
      rw [s11]
      by_cases q : set.testBit y = true
      · rw [if_pos q] at q1 ⊢
        unfold f_X11_never_71
        rw [q1, bd2_so]
      · rw [if_neg q] at q1 ⊢
        unfold f_X11_never_71
        rw [q1, bd2_so]
    have t12 : ∀ {σ1 : St}, MR A σ1 → ∃ τ3, MR A τ3 ∧ FrM σ1 τ3 ∧ f_X12_never (nI set) (nI y) v σ1 = f_X12_never_161 v S (if F = 0 then nI (N - 1) else E) F τ3 := by
      intro σ1 hm
      obtain ⟨τ', m1, m2, m3, m4, m5⟩ := s12 hm
      obtain ⟨τ3, n1, n2, n3⟩ := q5 m1 m3 m4
      refine ⟨τ3, n1, m2.tr n2, ?_⟩
      rw [m5, ← n3]
      by_cases q : set.testBit y = true
      · rw [if_pos q, if_pos q]
      · rw [if_neg q, if_neg q]
    have hf := c2.tr q2
    by_cases qF : F = 0
    · refine Opn.errS 2 (by decide) τ2 hI hC hM (by rw [t11, if_pos qF]; exact bd2_id _) hf (fun σ1 hm => ?_)
      obtain ⟨τ3, n1, n2, n3⟩ := t12 hm
      refine ⟨τ3, ?_, n1, n2⟩
      rw [n3]
      unfold f_X12_never_161
      rw [if_pos qF]; exact bd2_id _
    · by_cases qv : v = 0
      · refine Opn.s (nI (N - 1) &&& (S ^^^ (-1))) τ2 hI hC hM ?_ hf (fun σ1 hm => ?_)
        · rw [t11, if_neg qF, if_pos qv, eall (hC.frs hf), bd_so, fd_ar, q3]
        · obtain ⟨τ3, n1, n2, n3⟩ := t12 hm
          refine ⟨τ3, ?_, n1, n2⟩
          rw [n3]
          unfold f_X12_never_161
          rw [if_neg qF, if_pos qv, m_all hI n1, bd_so, hN]
      · refine Opn.s E τ2 hI hC hM ?_ hf (fun σ1 hm => ?_)
        · rw [t11, if_neg qF, if_neg qv, fd_ar, q4 qF]
        · obtain ⟨τ3, n1, n2, n3⟩ := t12 hm
          refine ⟨τ3, ?_, n1, n2⟩
          rw [n3]
          unfold f_X12_never_161
          rw [if_neg qF, if_neg qv, if_neg qF]
  by_cases q : set.testBit y = true
  · -- the player is among them
    obtain ⟨f, hf⟩ : ∃ f, f = shr (aR A) y L (cn (aR A) 1) := ⟨_, rfl⟩
    obtain ⟨σ6, h6⟩ : ∃ s, s = fw (fw τ 4 12 0) 4 13 (nI (N - 1)) := ⟨_, rfl⟩
    have f6 : FrS τ σ6 := by rw [h6]; exact (FrS.w (by unfold SC; omega) (by omega) (by omega)).tr (FrS.w (by unfold SC; omega) (by omega) (by omega))
    have u6 : ∀ c, c ≠ 4 → ar σ6 c = ar τ c := fun c h => by rw [h6, ar_fw_ne h, ar_fw_ne h]
    obtain ⟨σ9, a1, a2, a3⟩ := e_ask (w := 3) (y := y) hI (hCτ.frs f6) (by decide) hy
    have hc9 : CSt (aR A) σ9 := ⟨by rw [fd_ar, a2.1 1 (by omega) (by omega) (by omega), u6 1 (by omega)]; exact hCτ.1.1.2.1.trans hi.2.1.1, by rw [a2.1 32 (by omega) (by omega) (by omega), u6 32 (by omega)]; exact c6⟩
    obtain ⟨σ12, p1, p2, p3⟩ := e_price (w := 3) hI.1 hy hc9 a3
    have e4 : ar σ12 4 = ar σ6 4 := by rw [p2.1 4 (by omega), a2.1 4 (by omega) (by omega) (by omega)]
    have ecl : ar σ12 c = ar τ c := by rw [p2.1 c (by omega), a2.1 c (by omega) (by omega) (by omega), u6 c (by omega)]
    have f12 : FrS τ σ12 := (f6.tr (a2.frs (by omega))).tr p2.frs
    have e49 : ∀ {u : St}, (∀ j, j ≠ 12 → j ≠ 13 → ar u 4 j = ar σ12 4 j) → rc u 4 9 = c := fun {u} hu => by
      rw [rc_ar, hu 9 (by omega) (by omega), e4, h6, ar_fw_eq, upd_ne (by omega), ar_fw_eq, upd_ne (by omega), ← rc_ar]; exact c3
    have hbody : ∀ k (fo : Int32) (u : St), k < N → (∀ d, d ≠ 4 → ar u d = ar σ12 d) → (∀ j, j ≠ 12 → j ≠ 13 → ar u 4 j = ar σ12 4 j) → b_X8_findShares_59 (nI (N - 1)) fo (nI k) u = if f k = true then some (.inl (1, nI (k + 1), fw (fw u 4 12 (ar u 4 12 ||| nI k)) 4 13 (ar u 4 13 &&& nI k))) else some (.inl (fo, nI (k + 1), u)) := by
      intro k fo u hk hu hu4
      have hkN : k < 2 ^ cn (aR A) 1 := by rw [← hN]; exact hk
      have hr := hxl k hk
      have hrN : (N - 1) ^^^ k < 2 ^ cn (aR A) 1 := by rw [← hN]; exact hr
      have hN10 : N ≤ 1024 := by rw [hN]; exact n10
      unfold b_X8_findShares_59 f_X8_findShares_114
      rw [if_neg (nI_nlt (by omega) (by omega)), inb_nI (show k < 1024 by omega) (by decide), chk_so, rd_ar (by omega), hu 37 (by omega), p3 k hkN, e49 hu4, c4, chk_so, nI_xor, inb_nI (show (N - 1) ^^^ k < 1024 by omega) (by decide), chk_so, rd_ar (by omega), hu c (by omega), ecl, c5 _ hrN, nm_so, nm_so, fd_ar, fd_ar, ar_fw_eq, upd_ne (by omega), nI_1]
      rw [hf]
      unfold shr
      have hps := pos_i (hb31 _ hrN)
      rw [← hN]
      by_cases qm : may (aR A) y k = true
      · rw [if_pos ((enC_lt hI.1 hy k).mpr qm), qm, Bool.true_and]
        by_cases qw : wy (aR A) L ((N - 1) ^^^ k) ≠ 0
        · rw [if_pos (hps.mpr qw), if_pos (decide_eq_true qw)]
        · rw [if_neg (fun h => qw (hps.mp h)), if_neg (by rw [decide_eq_false qw]; decide)]
      · have qm' : may (aR A) y k = false := by cases e : may (aR A) y k <;> first | rfl | exact absurd e qm
        rw [if_neg (fun h => qm ((enC_lt hI.1 hy k).mp h)), qm', Bool.false_and, if_neg (by decide)]
    obtain ⟨⟨fo, u⟩, t1, t2, t3, t4, t5, t6⟩ := it_ex (f := fun z : Int32 × Int32 × St => b_X8_findShares_59 (nI (N - 1)) z.1 z.2.1 z.2.2) (V := Int32 × St) (fun k v => (v.1, nI k, v.2)) (fun k v => (∀ d, d ≠ 4 → ar v.2 d = ar σ12 d) ∧ (∀ j, j ≠ 12 → j ≠ 13 → ar v.2 4 j = ar σ12 4 j) ∧ (v.2.1 = σ12.1 ∧ v.2.2.2 = σ12.2.2) ∧ v.1 = nvA f k ∧ (ar v.2 4 12 = smA f 0 k ∧ ar v.2 4 13 = smE f (nI (N - 1)) k)) 0 N (Nat.zero_le _) (v := (0, σ12)) ⟨fun _ _ => rfl, fun _ _ _ => rfl, ⟨rfl, rfl⟩, rfl, by rw [e4, h6, ar_fw_eq, upd_ne (by omega), ar_fw_eq, upd_eq]; rfl, by rw [e4, h6, ar_fw_eq, upd_eq]; rfl⟩ (fun k w _ hk hw => by
      obtain ⟨fo, u⟩ := w
      obtain ⟨w1, w2, w3, w4, w5, w6⟩ := hw
      have hb := hbody k fo u hk w1 w2
      by_cases qf : f k = true
      · rw [if_pos qf] at hb
        refine ⟨(1, _), hb, fun d hd => by show ar (fw _ 4 13 _) d = _; rw [ar_fw_ne hd, ar_fw_ne hd]; exact w1 d hd, fun j z1 z2 => by show ar (fw _ 4 13 _) 4 j = _; rw [ar_fw_eq, upd_ne z2, ar_fw_eq, upd_ne z1]; exact w2 j z1 z2, w3, ?_, ?_, ?_⟩
        · show (1 : Int32) = nvA f (k + 1)
          rw [nvA_s, if_pos qf]
        · show ar (fw (fw u 4 12 _) 4 13 _) 4 12 = (if f k = true then smA f 0 k ||| nI k else smA f 0 k)
          rw [ar_fw_eq, upd_ne (by omega), ar_fw_eq, upd_eq, if_pos qf]
          rw [show ar u 4 12 = smA f 0 k from w5]
        · show ar (fw (fw u 4 12 _) 4 13 _) 4 13 = (if f k = true then smE f (nI (N - 1)) k &&& nI k else smE f (nI (N - 1)) k)
          rw [ar_fw_eq, upd_eq, if_pos qf]
          rw [show ar u 4 13 = smE f (nI (N - 1)) k from w6]
      · rw [if_neg qf] at hb
        refine ⟨(fo, u), hb, w1, w2, w3, ?_, ?_, ?_⟩
        · show fo = nvA f (k + 1)
          rw [nvA_s, if_neg qf]; exact w4
        · show ar u 4 12 = (if f k = true then smA f 0 k ||| nI k else smA f 0 k)
          rw [if_neg qf]; exact w5
        · show ar u 4 13 = (if f k = true then smE f (nI (N - 1)) k &&& nI k else smE f (nI (N - 1)) k)
          rw [if_neg qf]; exact w6)
    have hN10 : N ≤ 1024 := by rw [hN]; exact n10
    have hN0 : 0 < N := by rw [hN]; exact hpos
    have hfo : fo = nvA f N := t5
    have hFE : nvA f N = 0 → smE f (nI (N - 1)) N = nI (N - 1) := fun h0 => by
      have ha : anyN f N = false := by
        unfold nvA at h0
        cases e : anyN f N with
        | false => rfl
        | true => rw [e, if_pos rfl] at h0; exact absurd h0 (by decide)
      unfold smE
      exact lp_id (fun t ht => by rw [anyN_f.mp ha t ht, if_neg (by decide)])
    refine fin (nvA f N) (smA f 0 N) (smE f (nI (N - 1)) N) u ?_ ?_ t6.1 (fun _ => t6.2) (fun {τ'} m1 m2 m3 => ?_)
    · rw [if_pos q]
      unfold f_X8_findShares f_X8_findShares_59
      rw [eall hCτ, bd_so, nm_so, if_neg (by decide), nm_so, ← h6, show f_X8_ask (nI y) 3 σ6 = some σ9 from a1, bd_so, p1, bd_so]
      refine t1.trans (it_r ?_)
      show b_X8_findShares_59 (nI (N - 1)) fo (nI N) u = _
      unfold b_X8_findShares_59
      rw [if_pos (nI_lt (by omega) (by omega)), hfo, chk_t (by unfold nvA; split <;> decide)]
    · refine f12.tr ⟨fun d hd => t2 d (fun e => hd (by unfold SC; omega)), t4.1, t4.2, ?_, ?_⟩
      · rw [rc_ar, rc_ar, t3 9 (by omega) (by omega)]; exact id
      · rw [rc_ar, rc_ar, t2 5 (by omega)]; exact id
    · rw [if_pos q]
      obtain ⟨b, g1', g2', g3'⟩ := m_sets (y := y) hI m1 m2 hy
      have fb : FW' τ' b := ⟨g2'.1, g2'.2.1⟩
      have mb := m1.frq fb.frq
      have hlb : WyM (aR A) L b.2.2 := by rw [g2'.2.2]; exact m3
      refine ⟨b, mb, fb.frq.1, ?_⟩
      unfold f_X12_never_68 f_X12_never_80 f_X12_never_83
      rw [if_neg (by decide), g1', bd_so]
      obtain ⟨_, e, _⟩ := it_ex (f := fun z : Int32 × Int32 × Int32 × Int32 => b_X12_never_83 v z.1 z.2.1 z.2.2.1 1 z.2.2.2 b) (V := Unit) (fun k _ => (smA f 0 k, smE f (nI (N - 1)) k, nvA f k, nI k)) (fun _ _ => True) 0 N (Nat.zero_le _) (v := ()) trivial (fun k _ _ hk _ => ⟨(), by
        show b_X12_never_83 v (smA f 0 k) (smE f (nI (N - 1)) k) (nvA f k) 1 (nI k) b = some (.inl ((if f k = true then smA f 0 k ||| nI k else smA f 0 k), (if f k = true then smE f (nI (N - 1)) k &&& nI k else smE f (nI (N - 1)) k), nvA f (k + 1), nI (k + 1)))
        have hkN : k < 2 ^ cn (aR A) 1 := by rw [← hN]; exact hk
        have hr := hxl k hk
        have hrN : (N - 1) ^^^ k < 2 ^ cn (aR A) 1 := by rw [← hN]; exact hr
        have hsub : Sub k (N - 1) := by rw [hN]; exact lt_all hkN
        have h116 : f_X12_never_116 v (smA f 0 k) (smE f (nI (N - 1)) k) (nvA f k) 1 (nI k) b = if wy (aR A) L ((N - 1) ^^^ k) = 0 then some (.inl (smA f 0 k, smE f (nI (N - 1)) k, nvA f k, nI (k + 1))) else some (.inl (smA f 0 k ||| nI k, smE f (nI (N - 1)) k &&& nI k, 1, nI (k + 1))) := by
          unfold f_X12_never_116 f_X12_never_155
          rw [m_all hI mb, bd_so, ← hN, andn_s hsub, inb_nI (show (N - 1) ^^^ k < 2048 by omega) (by decide), chk_so, rdL_n (by omega), hlb _ hrN, nI_1]
          have hz := lz_i (hb31 _ hrN)
          by_cases qw : wy (aR A) L ((N - 1) ^^^ k) = 0
          · rw [if_pos (hz.mpr qw), if_pos qw]
          · rw [if_neg (fun h => qw (hz.mp h)), if_neg qw]
        have hfk : f k = (may (aR A) y k && decide (wy (aR A) L ((N - 1) ^^^ k) ≠ 0)) := by rw [hf, hN]; rfl
        unfold b_X12_never_83 f_X12_never_98
        rw [if_neg (by decide), m_all hI mb, bd_so, ← hN, if_neg (nI_nlt (by omega) (by omega)), inb_nI (show k < 1024 by omega) (by decide), chk_so, rd_ar (by omega), g3' k hkN, h116, nvA_s, hfk]
        unfold f_X12_never_155
        rw [nI_1]
        by_cases qk : k = 0
        · have hm0 : may (aR A) y k = true := by rw [qk]; exact may_0
          rw [if_neg (by rw [qk]; decide), hm0, Bool.true_and]
          by_cases qw : wy (aR A) L ((N - 1) ^^^ k) = 0
          · rw [if_pos qw, decide_eq_false (fun h => h qw)]; rfl
          · rw [if_neg qw, decide_eq_true qw]; rfl
        · rw [if_pos (show (0 : Int32) < nI k from nI_lt (a := 0) (by omega) (by omega))]
          by_cases qm : may (aR A) y k = true
          · rw [if_neg (by rw [if_pos qm]; decide), qm, Bool.true_and]
            by_cases qw : wy (aR A) L ((N - 1) ^^^ k) = 0
            · rw [if_pos qw, decide_eq_false (fun h => h qw)]; rfl
            · rw [if_neg qw, decide_eq_true qw]; rfl
          · have qm' : may (aR A) y k = false := by cases e : may (aR A) y k <;> first | rfl | exact absurd e qm
            rw [if_pos (by rw [if_neg qm]), qm', Bool.false_and]
            rfl, trivial⟩)
      refine e.trans (it_k ?_)
      show b_X12_never_83 v (smA f 0 N) (smE f (nI (N - 1)) N) (nvA f N) 1 (nI N) b = _
      unfold b_X12_never_83 f_X12_never_98
      rw [if_neg (by decide), m_all hI mb, bd_so, ← hN, if_pos (nI_lt (by omega) (by omega))]
      by_cases q0 : nvA f N = 0
      · rw [if_pos q0, hFE q0]
      · rw [if_neg q0]
  · -- the player is not
    have hN10 : N ≤ 1024 := by rw [hN]; exact n10
    have hN0 : 0 < N := by rw [hN]; exact hpos
    have hNN : N - 1 < 2 ^ cn (aR A) 1 := by rw [← hN]; omega
    obtain ⟨u, hu⟩ : ∃ s, s = fw (fw τ 4 12 0) 4 13 0 := ⟨_, rfl⟩
    have fu : FrS τ u := by rw [hu]; exact (FrS.w (by unfold SC; omega) (by omega) (by omega)).tr (FrS.w (by unfold SC; omega) (by omega) (by omega))
    have hps := pos_i (hb31 _ hNN)
    refine fin (if wy (aR A) L (N - 1) = 0 then 0 else 1) 0 0 u ?_ fu (by rw [hu, ar_fw_eq, upd_ne (by omega), ar_fw_eq, upd_eq]) (fun _ => by rw [hu, ar_fw_eq, upd_eq]) (fun {τ'} m1 m2 m3 => ⟨τ', m1, FrM.rfl' τ', ?_⟩)
    · rw [if_neg q]
      have e49 : rc u 4 9 = c := by rw [hu, rc_ar, ar_fw_eq, upd_ne (by omega), ar_fw_eq, upd_ne (by omega), ← rc_ar]; exact c3
      have ecu : ar u c = ar τ c := by rw [hu, ar_fw_ne (by omega), ar_fw_ne (by omega)]
      unfold f_X8_findShares
      rw [eall hCτ, bd_so, nm_so, if_pos rfl, nm_so, ← hu, e49, c4, chk_so, inb_nI (show N - 1 < 1024 by omega) (by decide), chk_so, rd_ar (by omega), ecu, c5 _ hNN]
      by_cases qw : wy (aR A) L (N - 1) = 0
      · rw [if_neg (fun h => hps.mp h qw), if_pos qw]
      · rw [if_pos (hps.mpr qw), if_neg qw]
    · rw [if_neg q]
      unfold f_X12_never_68 f_X12_never_80 f_X12_never_83
      rw [if_pos rfl]
      have h1' : b_X12_never_83 v 0 (nI (N - 1)) 0 0 0 τ' = some (.inl (0, (if wy (aR A) L (N - 1) = 0 then nI (N - 1) else 0), (if wy (aR A) L (N - 1) = 0 then 0 else 1), 1)) := by
        unfold b_X12_never_83 f_X12_never_98 f_X12_never_116 f_X12_never_155
        rw [if_pos rfl, if_neg (by decide), if_neg (by decide), m_all hI m1, bd_so, ← hN, show nI (N - 1) &&& ((0 : Int32) ^^^ (-1)) = nI (N - 1) from (andn_s (Sub.z (N - 1))).trans (by rw [Nat.xor_zero]), inb_nI (show N - 1 < 2048 by omega) (by decide), chk_so, rdL_n (by omega), m3 _ hNN]
        have hz := lz_i (hb31 _ hNN)
        by_cases qw : wy (aR A) L (N - 1) = 0
        · rw [if_pos (hz.mpr qw), if_pos qw, if_pos qw]; rfl
        · rw [if_neg (fun h => qw (hz.mp h)), if_neg qw, if_neg qw]
          rw [show nI (N - 1) &&& (0 : Int32) = 0 from (nI_and (N - 1) 0).trans (by rw [Nat.and_zero]; rfl)]
          rfl
      refine (it_l (f := fun z : Int32 × Int32 × Int32 × Int32 => b_X12_never_83 v z.1 z.2.1 z.2.2.1 0 z.2.2.2 τ') (s := (0, nI (N - 1), 0, 0)) h1').trans (it_k ?_)
      show b_X12_never_83 v 0 _ _ 0 1 τ' = _
      unfold b_X12_never_83 f_X12_never_98
      rw [if_pos rfl, if_pos (by decide)]
      by_cases qw : wy (aR A) L (N - 1) = 0
      · rw [if_pos qw, if_pos qw, if_pos rfl]
      · rw [if_neg qw, if_neg qw, if_neg (by decide)]
end MW
