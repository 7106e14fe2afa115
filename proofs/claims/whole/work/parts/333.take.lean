/-! the acts -/
theorem deal_ex {r : Nat → Int32} {w : Nat} : ∀ {ys : List Nat} {left : Nat} {bud : Int} {W0 : Nat → Int32}, Bok r w ys left bud → ∃ W, Deal r w ys left bud W0 W
  | [], _, _, W0, _ => ⟨W0, rfl⟩
  | y :: ys, left, bud, W0, h => by
    obtain ⟨t, ht⟩ := own_ex h
    obtain ⟨W, hW⟩ := deal_ex (W0 := asg W0 t y) (own_nx ht.1)
    exact ⟨W, t, ht, hW⟩
def sgnS (w : Nat) (m : Int) : Int32 := if w = 0 then -(Int32.ofInt m) else Int32.ofInt m
theorem bst {A : AS} {w set : Nat} (hI : Inv A) (hw : w < 4) (hset : set < 2 ^ cn (aR A) 3) : (∃ (S : Int32) (W : Nat → Int32), (∀ σ, CR A σ → ∃ τ, f_X8_findBest (nI w) (nI set) σ = some (1, τ) ∧ FrS σ τ ∧ ar τ 4 11 = S ∧ ∀ p, p < cn (aR A) 1 → ar τ 39 p = W p) ∧ (∀ σ, MR A σ → ∃ τ, f_X12_findBest (nI w) (nI set) σ = some (1, τ) ∧ MR A τ ∧ FrM σ τ ∧ f_X12_sumOf (nI w) (nI set) τ = some S ∧ ∀ p, p < cn (aR A) 1 → ar τ 104 p = W p) ∧ ∀ p, p < cn (aR A) 1 → ∃ y, y < cn (aR A) 3 ∧ W p = nI y) ∨ ((∀ σ, CR A σ → ∃ τ, f_X8_findBest (nI w) (nI set) σ = some (0, τ) ∧ FrS σ τ) ∧ ∀ σ, MR A σ → ∃ τ, f_X12_findBest (nI w) (nI set) σ = some (0, τ) ∧ MR A τ ∧ FrM σ τ) := by
  have b1 := hI.1.1.2.1.2
  cases eo : mv (aR A) w (pls set (cn (aR A) 3)) (2 ^ cn (aR A) 1 - 1) with
  | none =>
    right
    refine ⟨fun σ hC => ?_, fun σ hm => ?_⟩
    · obtain ⟨τ, h1, h2⟩ := e_best (w := w) hI hC hw hset
      rw [eo] at h2
      exact ⟨τ, h2, h1⟩
    · obtain ⟨τ, h1, h2, h3⟩ := m_best (w := w) hI hm hw hset
      rw [eo] at h3
      exact ⟨τ, h3, h1, h2⟩
  | some m =>
    left
    have hbok : Bok (aR A) w (pls set (cn (aR A) 3)) (2 ^ cn (aR A) 1 - 1) m := ⟨m, eo, Int.le_refl m⟩
    obtain ⟨W, hW⟩ := deal_ex (W0 := fun _ => 0) hbok
    have hbit : ∀ p, p < cn (aR A) 1 → (2 ^ cn (aR A) 1 - 1).testBit p = true := fun p hp => by
      rw [Nat.testBit_two_pow_sub_one]; exact decide_eq_true hp
    refine ⟨sgnS w m, W, fun σ hC => ?_, fun σ hm => ?_, fun p hp => ?_⟩
    · obtain ⟨τ, h1, h2⟩ := e_best (w := w) hI hC hw hset
      rw [eo] at h2
      obtain ⟨h3, h4, W0, h5⟩ := h2
      exact ⟨τ, h3, h1, h4, fun p hp => deal_un h5 hW hbok p (Or.inl (hbit p hp))⟩
    · obtain ⟨τ, h1, h2, h3⟩ := m_best (w := w) hI hm hw hset
      rw [eo] at h3
      obtain ⟨h4, h5, W0, h6⟩ := h3
      exact ⟨τ, h4, h1, h2, h5, fun p hp => deal_un h6 hW hbok p (Or.inl (hbit p hp))⟩
    · exact deal_rg hW hbok (fun y hy => (pls_m hy).1) p (Or.inl (hbit p hp))
section OB
variable {A : AS} {σ : St}
theorem pow_i {n : Nat} (hn : n ≤ 6) : (1 : Int32) <<< (nI n &&& 31) = nI (2 ^ n) := nI_bit (by omega)
theorem p64 {n : Nat} (h : n ≤ 6) : 2 ^ n ≤ 64 := Nat.pow_le_pow_right (n := 2) (by decide) h
theorem e_isSet (x : Int32) (hI : Inv A) (hC : CR A σ) : f_X4_isSet x σ = some (wi x (2 ^ cn (aR A) 3)) := by
  have b3 := hI.1.1.2.2.2.1.2
  unfold f_X4_isSet
  rw [show fd σ 1 3 = nI (cn (aR A) 3) from hC.1.1.2.2.2.trans hI.1.1.2.2.2.1.1, pow_i b3, e_isWithin, bd_so, isB_wi]
  rfl
theorem m_isTroupe (x : Int32) (hI : Inv A) (hm : MR A σ) : f_X12_isTroupe x σ = some (wi x (2 ^ cn (aR A) 3)) := by
  have b3 := hI.1.1.2.2.2.1.2
  have h64 := p64 b3
  have e3 : rd σ 84 3 = nI (cn (aR A) 3) := by rw [← hI.1.1.2.2.2.1.1, ← hm.1]; rfl
  unfold f_X12_isTroupe wi
  by_cases q : x < 0
  · rw [if_pos q, if_pos q]
  · rw [if_neg q, if_neg q, chk_t (by decide), e3]
    obtain ⟨m, hm, rfl⟩ := nI_of q
    rw [shr_n hm (by omega)]
    have hd : m / 2 ^ cn (aR A) 3 ≤ m := Nat.div_le_self _ _
    by_cases q2 : m < 2 ^ cn (aR A) 3
    · rw [Nat.div_eq_of_lt q2, if_pos (by decide), if_pos (nI_lt q2 (by omega))]
    · have : 1 ≤ m / 2 ^ cn (aR A) 3 := (Nat.one_le_div_iff (Nat.two_pow_pos _)).mpr (by omega)
      rw [if_neg (nI_ne0 (by omega) (by omega)), if_neg (nI_nlt (by omega) hm)]
theorem op_best (x z v : Int32) (hI : Inv A) (hC : CR A σ) (hM : MR A σ) : Opn A σ (f_X11_best x z v) (f_X12_best x z v) := by
  have hi := hI.1.1
  have b1 := hi.2.1.2
  have b3 := hi.2.2.2.1.2
  have h64 := p64 b3
  have hc := hC.1.1
  have e11 : fd σ 1 1 = nI (cn (aR A) 1) := hc.2.1.trans hi.2.1.1
  have e84 : ∀ {τ : St}, MR A τ → rd τ 84 1 = nI (cn (aR A) 1) := fun hm => by rw [← hi.2.1.1, ← hm.1]; rfl
  rcases wi_cases x (n := 4) (by omega) with h0 | ⟨h1, w, hw, rfl⟩
  · refine Opn.err 1 (by decide) hI hC hM ?_ (fun σ hm => ?_)
    · unfold f_X11_best f_X11_best_35; rw [w_4, bd_so, h0, if_pos rfl]; exact bd2_id _
    · unfold f_X12_best f_X12_best_33; rw [m_in4, bd_so, h0, if_pos rfl]; exact bd2_id _
  rcases wi_cases z (n := 2 ^ cn (aR A) 3) (by omega) with g0 | ⟨g1, set, hset, rfl⟩
  · refine Opn.err 1 (by decide) hI hC hM ?_ (fun σ hm => ?_)
    · unfold f_X11_best f_X11_best_35; rw [w_4, bd_so, h1, if_neg (by decide), e_isSet _ hI hC, bd_so, g0, if_pos rfl]; exact bd2_id _
    · unfold f_X12_best f_X12_best_33; rw [m_in4, bd_so, h1, if_neg (by decide), m_isTroupe _ hI hm, bd_so, g0, if_pos rfl]; exact bd2_id _
  -- what is asked
  have hv3 : (pnb v (cn (aR A) 1) = 0 ∧ (v < -1 ∨ ¬ v < nI (cn (aR A) 1))) ∨ (pnb v (cn (aR A) 1) ≠ 0 ∧ ¬ v < -1 ∧ v < nI (cn (aR A) 1)) := by
    unfold pnb
    have z1 : (-1 : Int32).toInt = -1 := by decide
    have z0 : (0 : Int32).toInt = 0 := by decide
    by_cases q : v = -1
    · right
      rw [if_pos q]
      refine ⟨by decide, by rw [q]; decide, ?_⟩
      rw [q, Int32.lt_iff_toInt_lt, nI_toInt (by omega), z1]; omega
    · rw [if_neg q]
      have qi : v.toInt ≠ -1 := fun e => q (Int32.toInt_inj.mp (e.trans z1.symm))
      rcases wi_cases v (n := cn (aR A) 1) (by omega) with e | ⟨e, j, hj, rfl⟩
      · left
        refine ⟨e, ?_⟩
        unfold wi at e
        by_cases q0 : v < 0
        · left
          rw [Int32.lt_iff_toInt_lt] at q0 ⊢
          omega
        · right
          rw [if_neg q0] at e
          intro hlt
          rw [if_pos hlt] at e
          exact absurd e (by decide)
      · right
        refine ⟨by rw [e]; decide, ?_, nI_lt hj (by omega)⟩
        rw [Int32.lt_iff_toInt_lt, nI_toInt (by omega), z1]; omega
  rcases hv3 with ⟨p0, hv⟩ | ⟨p1, hv1, hv2⟩
  · refine Opn.err 1 (by decide) hI hC hM ?_ (fun σ hm => ?_)
    · unfold f_X11_best f_X11_best_35
      rw [w_4, bd_so, h1, if_neg (by decide), e_isSet _ hI hC, bd_so, g1, if_neg (by decide), e11]
      rcases hv with h | h
      · rw [if_pos h]; exact bd2_id _
      · rw [if_neg h, ite_self]; exact bd2_id _
    · unfold f_X12_best f_X12_best_33; rw [m_in4, bd_so, h1, if_neg (by decide), m_isTroupe _ hI hm, bd_so, g1, if_neg (by decide), chk_t (by decide), e84 hm, m_pnb _ (by omega), bd_so, p0, if_pos rfl]; exact bd2_id _
  have s11 : ∀ r1 τ, f_X8_findBest (nI w) (nI set) σ = some (r1, τ) → f_X11_best (nI w) (nI set) v σ = if r1 = 0 then (bd2 (f_X11_error 2 τ) fun r17 σ19 => some (r17, σ19)) else (if v < 0 then some (fd τ 4 11, τ) else (chk (inb v 10) <| some (rd τ 39 v, τ))) := by
    intro r1 τ he
    unfold f_X11_best
    rw [w_4, bd_so, h1, if_neg (by decide), e_isSet _ hI hC, bd_so, g1, if_neg (by decide), e11, if_neg hv1, if_pos hv2, he, bd2_so]
  have s12 : ∀ {σ1 : St} r1 τ, MR A σ1 → f_X12_findBest (nI w) (nI set) σ1 = some (r1, τ) → f_X12_best (nI w) (nI set) v σ1 = if r1 = 0 then (bd2 (f_X12_finds 2 τ) fun r17 σ19 => some (r17, σ19)) else (if v < 0 then (bd (f_X12_sumOf (nI w) (nI set) τ) fun r20 => some (r20, τ)) else (chk (inb v 10) <| some (rd τ 104 v, τ))) := by
    intro σ1 r1 τ hm he
    unfold f_X12_best
    rw [m_in4, bd_so, h1, if_neg (by decide), m_isTroupe _ hI hm, bd_so, g1, if_neg (by decide), chk_t (by decide), e84 hm, m_pnb _ (by omega), bd_so, if_neg p1, he, bd2_so]
  rcases bst hI hw hset with ⟨S, W, hcl, hmo, hr⟩ | ⟨hcl, hmo⟩
  · obtain ⟨τ, c1, c2, c3, c4⟩ := hcl σ hC
    by_cases qv : v < 0
    · refine Opn.s S τ hI hC hM ?_ c2 (fun σ1 hm => ?_)
      · rw [s11 _ _ c1, if_neg (by decide), if_pos qv, fd_ar, c3]
      · obtain ⟨τ', d1, d2, d3, d4, d5⟩ := hmo σ1 hm
        exact ⟨τ', by rw [s12 _ _ hm d1, if_neg (by decide), if_pos qv, d4, bd_so], d2, d3⟩
    · obtain ⟨p, hp, rfl⟩ : ∃ p, p < cn (aR A) 1 ∧ v = nI p := by
        obtain ⟨p, hp, rfl⟩ := nI_of qv
        exact ⟨p, (nI_ltI hp (by omega)).mp hv2, rfl⟩
      refine Opn.s (W p) τ hI hC hM ?_ c2 (fun σ1 hm => ?_)
      · rw [s11 _ _ c1, if_neg (by decide), if_neg qv, inb_nI (show p < 10 by omega) (by decide), chk_so, rd_ar (by omega), c4 p hp]
      · obtain ⟨τ', d1, d2, d3, d4, d5⟩ := hmo σ1 hm
        exact ⟨τ', by rw [s12 _ _ hm d1, if_neg (by decide), if_neg qv, inb_nI (show p < 10 by omega) (by decide), chk_so, rd_ar (by omega), d5 p hp], d2, d3⟩
  · obtain ⟨τ, c1, c2⟩ := hcl σ hC
    refine Opn.errS 2 (by decide) τ hI hC hM (by rw [s11 _ _ c1, if_pos rfl]; exact bd2_id _) c2 (fun σ1 hm => ?_)
    obtain ⟨τ', d1, d2, d3⟩ := hmo σ1 hm
    exact ⟨τ', by rw [s12 _ _ hm d1, if_pos rfl]; exact bd2_id _, d2, d3⟩
theorem op_take (x z : Int32) (hI : Inv A) (hC : CR A σ) (hM : MR A σ) : Opn A σ (f_X11_take x z) (f_X12_take x z) := by
  have hi := hI.1.1
  have b1 := hi.2.1.2
  have b3 := hi.2.2.2.1.2
  have h64 := p64 b3
  rcases wi_cases x (n := 4) (by omega) with h0 | ⟨h1, w, hw, rfl⟩
  · refine Opn.err 1 (by decide) hI hC hM ?_ (fun σ hm => ?_)
    · unfold f_X11_take f_X11_take_19; rw [w_4, bd_so, h0, if_pos rfl]; exact bd2_id _
    · unfold f_X12_take f_X12_take_17; rw [m_in4, bd_so, h0, if_pos rfl]; exact bd2_id _
  rcases wi_cases z (n := 2 ^ cn (aR A) 3) (by omega) with g0 | ⟨g1, set, hset, rfl⟩
  · refine Opn.err 1 (by decide) hI hC hM ?_ (fun σ hm => ?_)
    · unfold f_X11_take f_X11_take_19; rw [w_4, bd_so, h1, if_neg (by decide), e_isSet _ hI hC, bd_so, g0, if_pos rfl]; exact bd2_id _
    · unfold f_X12_take f_X12_take_17; rw [m_in4, bd_so, h1, if_neg (by decide), m_isTroupe _ hI hm, bd_so, g0, if_pos rfl]; exact bd2_id _
  rcases bst hI hw hset with ⟨S, W, hcl, hmo, hr⟩ | ⟨hcl, hmo⟩
  · obtain ⟨τ, c1, c2, c3, c4⟩ := hcl σ hC
    have hCτ := hC.frs c2
    have eτ : fd τ 1 1 = nI (cn (aR A) 1) := hCτ.1.1.2.1.trans hi.2.1.1
    refine Opn.mk' S (sR A (tld (aR A) (cn (aR A) 1) W)) (stF τ 11 0 (cn (aR A) 1) (ar τ 39)) ?_ (CR.tl hI hCτ (Nat.le_refl _) (fun p hp => ?_) (fun k hk => ar_stF_ne hk) rfl) (c2.frc.tr (FrC.stF (by omega))) (by show τ.1 ≤ _; rw [c2.2.1]; exact Nat.le_succ _) (Inv.tl hI (Nat.le_refl _) (fun p hp => Or.inr (by obtain ⟨y, h1, h2⟩ := hr p hp; exact ⟨y, h2, h1⟩))) hM (fun σ1 hm => ?_)
    · unfold f_X11_take
      rw [w_4, bd_so, h1, if_neg (by decide), e_isSet _ hI hC, bd_so, g1, if_neg (by decide), c1, bd2_so, if_neg (by decide), eτ, cpok0 b1 b1 (by omega), chk_so, nm_so, cpy0 (by omega), fd_ar, ar_stF_ne (by omega), c3]
    · rw [ar_stF_eq, fil_in (Nat.zero_le _) (by omega), Nat.sub_zero, c4 p hp, tld_at hp]
    · obtain ⟨τ', d1, d2, d3, d4, d5⟩ := hmo σ1 hm
      refine ⟨stG τ' 84 (tld (aR A) (cn (aR A) 1) W), ?_, MR.tl hI d2 (Nat.le_refl _) (ar_stG_eq _ _ _) (fun k hk => ar_stG_ne hk), d3.tr (FrM.stG (by omega))⟩
      have e1 : ∀ k, rd (stG τ' 84 (tld (aR A) k W)) 84 1 = nI (cn (aR A) 1) := fun k => by
        rw [rd_cl, ar_stG_eq]
        show tld (aR A) k W 1 = _
        rw [tld_ne (fun p hp => by omega)]; exact hi.2.1.1
      unfold f_X12_take
      rw [m_in4, bd_so, h1, if_neg (by decide), m_isTroupe _ hI hm, bd_so, g1, if_neg (by decide), d1, bd2_so, if_neg (by decide), d4, bd_so]
      unfold f_X12_take_48
      refine (it_row 84 (cn (aR A) 1) (fun k => tld (aR A) k W) (by rw [tld_0, d2.1]) (fun k hk => ?_)).trans (it_r ?_)
      · show b_X12_take_48 S (nI k) (stG τ' 84 (tld (aR A) k W)) = _
        unfold b_X12_take_48
        rw [chk_t (by decide), e1, if_pos (nI_lt hk (by omega)), inb_nI (show k < 10 by omega) (by decide), chk_so, show (10 + (5 * nI k)) + 4 = nI (14 + 5 * k) from (ix5 k 4).trans (by rw [show 10 + 5 * k + 4 = 14 + 5 * k by omega]), inb_nI (by omega) (by decide), chk_so, nm_so, wr_nI _ (by omega), nI_1, rd_ar (by omega), ar_stG_ne (by omega), d5 k hk, fw_stG, tld_s]
      · show b_X12_take_48 S (nI (cn (aR A) 1)) (stG τ' 84 (tld (aR A) (cn (aR A) 1) W)) = _
        unfold b_X12_take_48
        rw [chk_t (by decide), e1, if_neg (nI_nlt (Nat.le_refl _) (by omega))]
  · obtain ⟨τ, c1, c2⟩ := hcl σ hC
    refine Opn.errS 2 (by decide) τ hI hC hM ?_ c2 (fun σ1 hm => ?_)
    · unfold f_X11_take
      rw [w_4, bd_so, h1, if_neg (by decide), e_isSet _ hI hC, bd_so, g1, if_neg (by decide), c1, bd2_so, if_pos rfl]; exact bd2_id _
    · obtain ⟨τ', d1, d2, d3⟩ := hmo σ1 hm
      refine ⟨τ', ?_, d2, d3⟩
      unfold f_X12_take
      rw [m_in4, bd_so, h1, if_neg (by decide), m_isTroupe _ hI hm, bd_so, g1, if_neg (by decide), d1, bd2_so, if_pos rfl]; exact bd2_id _
/-! check -/
theorem op_check (x : Int32) (hI : Inv A) (hC : CR A σ) (hM : MR A σ) : Opn A σ (f_X11_check x) (f_X12_check x) := by
  have hi := hI.1.1
  have b0 := hi.1.2.2
  have b1 := hi.2.1.2
  have b2 := hi.2.2.1.2
  have b3 := hi.2.2.2.1.2
  have b4 := hi.2.2.2.2.1.2
  have b5 := hi.2.2.2.2.2.2
  have b6 : cn (aR A) 362 ≤ 50 := (hI.1.2.2.2.2.2.2 1 (by decide)).2.1
  have h64 := p64 b3
  obtain ⟨c1, c2, c3, c4, c5, c6, c7, c8⟩ := hC.1
  obtain ⟨i1, i2, i3, i4, i5, i6, i7⟩ := hI.1
  obtain ⟨A', hA'⟩ : ∃ A', A' = sR A (upd (aR A) 5 0) := ⟨_, rfl⟩
  have eR : aR A' = upd (aR A) 5 0 := by rw [hA']; rfl
  have e9 : ∀ k, k ≠ 5 → upd (aR A) 5 0 k = aR A k := fun k h => upd_ne h
  have u9 : ∀ k, k ≠ 54 → ar (fw σ 54 1 0) k = ar σ k := fun k h => ar_fw_ne h
  have hI' : Inv A' := by
    rw [hA']
    refine hI.row ⟨ICn.of ((e9 0 (by omega)).trans hi.1.1) hi.1.2 ((e9 1 (by omega)).trans hi.2.1.1) hi.2.1.2 ((e9 2 (by omega)).trans hi.2.2.1.1) hi.2.2.1.2 ((e9 3 (by omega)).trans hi.2.2.2.1.1) hi.2.2.2.1.2 ((e9 4 (by omega)).trans hi.2.2.2.2.1.1) hi.2.2.2.2.1.2 (nw := 0) (upd_eq _ _ _) (by omega), i2.cg (e9 1 (by omega)) (e9 3 (by omega)) (fun k _ _ => e9 k (by omega)), i3.cg (e9 0 (by omega)) (e9 1 (by omega)) (e9 2 (by omega)) (fun k _ _ => e9 k (by omega)), i4.cg (e9 2 (by omega)) (fun k _ _ => e9 k (by omega)), i5.cg (e9 3 (by omega)) (fun k _ _ => e9 k (by omega)), i6.cg (e9 4 (by omega)) (fun k _ _ => e9 k (by omega)), i7.cg (fun k _ => e9 k (by omega))⟩
  have hC' : CR A' (fw σ 54 1 0) := by
    rw [hA']
    refine hC.row' ⟨c1.cg (u9 1 (by omega)) (fun k _ => e9 k (by omega)), c2.cg ⟨u9 52 (by omega), u9 53 (by omega)⟩ (e9 4 (by omega)) (fun k _ _ => e9 k (by omega)), ⟨?_, fun i h => ?_⟩, c4.cg (fun k _ _ => u9 k (by omega)) (fun k _ => e9 k (by omega)), c5.cg (u9 11 (by omega)) (e9 1 (by omega)) (fun k _ _ => e9 k (by omega)), c6.cg (u9 10 (by omega)) (fun k _ _ => u9 k (by omega)) (Nat.le_refl _) (e9 1 (by omega)) (fun p _ k _ _ => e9 k (by omega)), c7.cg (fun k _ _ => u9 k (by omega)) (e9 2 (by omega)) (fun k _ _ => e9 k (by omega)), c8.cg (fun k _ _ => u9 k (by omega)) (e9 3 (by omega)) (fun k _ _ => e9 k (by omega))⟩ (fun k hk _ => u9 k (by unfold PC at hk; omega)) rfl (u9 10 (by omega))
    · rw [upd_eq]; show ar (fw σ 54 1 0) 54 1 = 0; rw [ar_fw_eq, upd_eq]
    · have h0 : cn (upd (aR A) 5 0) 5 = 0 := cn_nI (r := upd (aR A) 5 0) (k := 5) (n := 0) (upd_eq _ _ _) (by omega)
      rw [h0] at h
      exact absurd h (Nat.not_lt_zero i)
  have hM' : ∀ {τ : St}, MR A τ → MR A' (fw τ 84 5 0) := fun {τ} hm => by
    rw [hA']
    refine hm.row (by rw [ar_fw_eq, hm.1]) (fun k hk => ar_fw_ne (by omega)) (by rw [ar_fw_ne (by omega)]) (by rw [ar_fw_ne (by omega)]) (hm.lay ⟨e9 1 (by omega), e9 2 (by omega), fun p hp => ⟨e9 _ (by omega), e9 _ (by omega)⟩, fun k _ _ => e9 k (by omega), fun k _ _ => e9 k (by omega)⟩ (fun k hk => ar_fw_ne (by omega)) (by rw [ar_fw_ne (by omega)]))
  have n1 : cn (aR A') 1 = cn (aR A) 1 := by rw [eR]; exact cn_cong (e9 1 (by omega))
  have n3 : cn (aR A') 3 = cn (aR A) 3 := by rw [eR]; exact cn_cong (e9 3 (by omega))
  have fC : FrC σ (fw σ 54 1 0) := FrC.fw (by omega)
  have fM : ∀ {τ : St}, FrM τ (fw τ 84 5 0) := FrM.fw (by omega)
  have e54 : fd σ 54 1 = nI (cn (aR A) 5) := c3.1.trans hi.2.2.2.2.2.1
  have errA : ∀ (k : Nat) (σ1 : St), k < 6 → FrS (fw σ 54 1 0) σ1 → f_X11_check x σ = f_X11_error (nI k) σ1 → (∀ τ, MR A τ → ∃ σ2, f_X12_check x τ = f_X12_finds (nI k) σ2 ∧ MR A' σ2 ∧ FrM τ σ2) → Opn A σ (f_X11_check x) (f_X12_check x) := by
    intro k σ1 hk hf h11 h12
    have hb : inb (nI k) 6 = true := inb_nI hk (by decide)
    refine Opn.mk' _ (sE A' k) _ (h11.trans (e_error hb)) ?_ ?_ ?_ (hI'.err k) hM (fun τ hm => ?_)
    · rw [nI_clamp (by omega)]; exact (hC'.frs hf).err hk
    · rw [nI_clamp (by omega)]; exact (fC.tr hf.frc).tr (FrC.fw (by omega))
    · rw [fw_1, hf.2.1]; exact Nat.le_succ _
    · obtain ⟨σ2, e, hm2, hfm⟩ := h12 τ hm
      refine ⟨_, e.trans (e_finds hb), ?_, ?_⟩
      · rw [nI_clamp (by omega)]; exact hm2.err k
      · rw [nI_clamp (by omega)]; exact hfm.tr (FrM.fw (by omega))
  have s11 : f_X11_check x σ = bd (f_X11_isWithin x 4) fun r2 => if r2 = 0 then (bd2 (f_X11_error 1 (fw σ 54 1 0)) fun r16 σ18 => some (r16, σ18)) else (bd (f_X4_allPlayers (fw σ 54 1 0)) fun r6 => bd2 (f_X8_findBest x r6 (fw σ 54 1 0)) fun r9 σ11 => if r9 = 0 then (bd2 (f_X11_error 2 σ11) fun r13 σ15 => some (r13, σ15)) else (f_X11_check_62 (fd σ 54 1) 0 σ11)) := rfl
  have s12 : ∀ τ : St, f_X12_check x τ = bd (f_X12_in x 0 3) fun r3 => if r3 = 0 then (bd2 (f_X12_finds 1 (fw τ 84 5 0)) fun r15 σ17 => some (r15, σ17)) else (chk (inb 3 466) <| bd2 (f_X12_findBest x (((1 : Int32) <<< ((rd (fw τ 84 5 0) 84 3) &&& 31)) - 1) (fw τ 84 5 0)) fun r8 σ10 => if r8 = 0 then (bd2 (f_X12_finds 2 σ10) fun r12 σ14 => some (r12, σ14)) else (f_X12_check_55 (rd τ 84 5) 0 σ10)) := fun τ => by
    unfold f_X12_check
    rw [chk_t (by decide), nm_so]
    rfl
  rcases wi_cases x (n := 4) (by omega) with h0 | ⟨h1, w, hw, rfl⟩
  · refine errA 1 (fw σ 54 1 0) (by decide) (FrS.rfl' _) ?_ (fun τ hm => ⟨fw τ 84 5 0, ?_, hM' hm, fM⟩)
    · rw [s11, w_4, bd_so, h0, if_pos rfl]; exact bd2_id _
    · rw [s12, m_in4, bd_so, h0, if_pos rfl]; exact bd2_id _
  have hset : 2 ^ cn (aR A) 3 - 1 < 2 ^ cn (aR A') 3 := by rw [n3]; have := Nat.two_pow_pos (cn (aR A) 3); omega
  have eall : f_X4_allPlayers (fw σ 54 1 0) = some (nI (2 ^ cn (aR A) 3 - 1)) := by
    unfold f_X4_allPlayers
    rw [fd_ar, u9 1 (by omega), c1.2.2.2, hi.2.2.2.1.1, allP (by omega)]
  have eallm : ∀ {τ : St}, MR A τ → ((1 : Int32) <<< ((rd (fw τ 84 5 0) 84 3) &&& 31)) - 1 = nI (2 ^ cn (aR A) 3 - 1) := fun {τ} hm => by
    rw [show rd (fw τ 84 5 0) 84 3 = nI (cn (aR A) 3) by rw [rd_cl, ar_fw_eq]; show upd (ar τ 84) 5 0 3 = _; rw [upd_ne (by omega), hm.1]; exact hi.2.2.2.1.1, allP (by omega)]
  rcases bst hI' hw hset with ⟨S, W, hcl, hmo, hr⟩ | ⟨hcl, hmo⟩
  · obtain ⟨τ, d1, d2, d3, d4⟩ := hcl _ hC'
    rw [n1] at d4
    have hmis : ∀ k, k < cn (aR A) 5 → ar τ 55 k = aR A (290 + k) := fun k hk => by
      rw [d2.1 55 (by unfold SC; omega), u9 55 (by omega)]; exact c3.2 k hk
    have eτ : fd τ 1 1 = nI (cn (aR A) 1) := by rw [fd_ar, d2.1 1 (by unfold SC; omega), u9 1 (by omega), c1.2.1]; exact hi.2.1.1
    have hgood : ∀ k, k < cn (aR A) 5 → b_X11_check_62 (nI (cn (aR A) 5)) (nI k) τ = if k < cn (aR A) 1 ∧ aR A (290 + k) = W k then some (.inl (nI (k + 1))) else some (.inr (1 + nI k, τ)) := by
      intro k hk
      unfold b_X11_check_62
      rw [if_pos (nI_lt hk (by omega)), eτ, nI_1]
      by_cases q : k < cn (aR A) 1
      · rw [if_pos (nI_lt q (by omega)), inb_nI (show k < 20 by omega) (by decide), chk_so, inb_nI (show k < 10 by omega) (by decide), chk_so, rd_ar (by omega), rd_ar (by omega), hmis k hk, d4 k q]
        by_cases q2 : aR A (290 + k) = W k
        · rw [if_pos q2, if_pos ⟨q, q2⟩]
        · rw [if_neg q2, if_neg (fun z => q2 z.2)]
      · rw [if_neg (nI_nlt (by omega) (by omega)), if_neg (fun z => q z.1)]
    have hgm : ∀ {τ' : St}, MR A' τ' → (∀ p, p < cn (aR A) 1 → ar τ' 104 p = W p) → ∀ k, k < cn (aR A) 5 → b_X12_check_55 (nI (cn (aR A) 5)) (nI k) τ' = if k < cn (aR A) 1 ∧ aR A (290 + k) = W k then some (.inl (nI (k + 1))) else some (.inr (1 + nI k, τ')) := by
      intro τ' hm hW k hk
      have e1 : rd τ' 84 1 = nI (cn (aR A) 1) := by
        rw [rd_cl, hm.1, eR]; show upd (aR A) 5 0 1 = _; rw [upd_ne (by omega)]; exact hi.2.1.1
      unfold b_X12_check_55
      rw [if_pos (nI_lt hk (by omega)), chk_t (by decide), e1, nI_1]
      by_cases q : k < cn (aR A) 1
      · rw [if_pos (nI_lt q (by omega)), show (290 : Int32) + nI k = nI (290 + k) by rw [← nI_add]; rfl, inb_nI (show 290 + k < 466 by omega) (by decide), chk_so, inb_nI (show k < 10 by omega) (by decide), chk_so, rd_ar (by omega), rd_ar (by omega), hW k q, hm.1, eR, upd_ne (by omega)]
        by_cases q2 : aR A (290 + k) = W k
        · rw [if_pos q2, if_pos ⟨q, q2⟩]
        · rw [if_neg q2, if_neg (fun z => q2 z.2)]
      · rw [if_neg (nI_nlt (by omega) (by omega)), if_neg (fun z => q z.1)]
    have fin : ∀ (a : Int32), it (fun z : Int32 => b_X11_check_62 (nI (cn (aR A) 5)) z τ) 0 = some (a, τ) → (∀ τ', MR A' τ' → (∀ p, p < cn (aR A) 1 → ar τ' 104 p = W p) → it (fun z : Int32 => b_X12_check_55 (nI (cn (aR A) 5)) z τ') 0 = some (a, τ')) → Opn A σ (f_X11_check (nI w)) (f_X12_check (nI w)) := by
      intro a k11 k12
      refine Opn.mk' a A' τ ?_ (hC'.frs d2) (fC.tr d2.frc) (by rw [d2.2.1, fw_1]; exact Nat.le_succ _) hI' hM (fun σ1 hm => ?_)
      · rw [s11, w_4, bd_so, h1, if_neg (by decide), eall, bd_so, d1, bd2_so, if_neg (by decide), e54]
        exact k11
      · obtain ⟨τ', g1, g2, g3, g4, g5⟩ := hmo _ (hM' hm)
        rw [n1] at g5
        refine ⟨τ', ?_, g2, fM.tr g3⟩
        rw [s12, m_in4, bd_so, h1, if_neg (by decide), chk_t (by decide), eallm hm, g1, bd2_so, if_neg (by decide), show rd σ1 84 5 = nI (cn (aR A) 5) by rw [← hi.2.2.2.2.2.1, ← hm.1]; rfl]
        exact k12 τ' g2 g5
    by_cases hx : ∃ k, k < cn (aR A) 5 ∧ ¬ (k < cn (aR A) 1 ∧ aR A (290 + k) = W k)
    · obtain ⟨k, ⟨hk, hbad⟩, hmin⟩ := pk_least (fun k => k < cn (aR A) 5 ∧ ¬ (k < cn (aR A) 1 ∧ aR A (290 + k) = W k)) hx
      have hok : ∀ j, j < k → (j < cn (aR A) 1 ∧ aR A (290 + j) = W j) := fun j hj => Classical.byContradiction fun hn => hmin j hj ⟨by omega, hn⟩
      refine fin (1 + nI k) ?_ (fun τ' hm hW => ?_)
      · obtain ⟨_, e, _⟩ := it_ex (f := fun z : Int32 => b_X11_check_62 (nI (cn (aR A) 5)) z τ) (V := Unit) (fun k _ => nI k) (fun _ _ => True) 0 k (Nat.zero_le _) (v := ()) trivial (fun j v _ hj _ => ⟨(), by
          show b_X11_check_62 _ (nI j) τ = _
          rw [hgood j (by omega), if_pos (hok j hj)], trivial⟩)
        refine e.trans (it_r ?_)
        show b_X11_check_62 _ (nI k) τ = _
        rw [hgood k hk, if_neg hbad]
      · obtain ⟨_, e, _⟩ := it_ex (f := fun z : Int32 => b_X12_check_55 (nI (cn (aR A) 5)) z τ') (V := Unit) (fun k _ => nI k) (fun _ _ => True) 0 k (Nat.zero_le _) (v := ()) trivial (fun j v _ hj _ => ⟨(), by
          show b_X12_check_55 _ (nI j) τ' = _
          rw [hgm hm hW j (by omega), if_pos (hok j hj)], trivial⟩)
        refine e.trans (it_r ?_)
        show b_X12_check_55 _ (nI k) τ' = _
        rw [hgm hm hW k hk, if_neg hbad]
    · have hok : ∀ j, j < cn (aR A) 5 → (j < cn (aR A) 1 ∧ aR A (290 + j) = W j) := fun j hj => Classical.byContradiction fun hn => hx ⟨j, hj, hn⟩
      refine fin 0 ?_ (fun τ' hm hW => ?_)
      · obtain ⟨_, e, _⟩ := it_ex (f := fun z : Int32 => b_X11_check_62 (nI (cn (aR A) 5)) z τ) (V := Unit) (fun k _ => nI k) (fun _ _ => True) 0 (cn (aR A) 5) (Nat.zero_le _) (v := ()) trivial (fun j v _ hj _ => ⟨(), by
          show b_X11_check_62 _ (nI j) τ = _
          rw [hgood j (by omega), if_pos (hok j hj)], trivial⟩)
        refine e.trans (it_r ?_)
        show b_X11_check_62 _ (nI (cn (aR A) 5)) τ = _
        unfold b_X11_check_62
        rw [if_neg (nI_nlt (Nat.le_refl _) (by omega))]
      · obtain ⟨_, e, _⟩ := it_ex (f := fun z : Int32 => b_X12_check_55 (nI (cn (aR A) 5)) z τ') (V := Unit) (fun k _ => nI k) (fun _ _ => True) 0 (cn (aR A) 5) (Nat.zero_le _) (v := ()) trivial (fun j v _ hj _ => ⟨(), by
          show b_X12_check_55 _ (nI j) τ' = _
          rw [hgm hm hW j (by omega), if_pos (hok j hj)], trivial⟩)
        refine e.trans (it_r ?_)
        show b_X12_check_55 _ (nI (cn (aR A) 5)) τ' = _
        unfold b_X12_check_55
        rw [if_neg (nI_nlt (Nat.le_refl _) (by omega))]
  · obtain ⟨τ, d1, d2⟩ := hcl _ hC'
    refine errA 2 τ (by decide) d2 ?_ (fun σ1 hm => ?_)
    · rw [s11, w_4, bd_so, h1, if_neg (by decide), eall, bd_so, d1, bd2_so, if_pos rfl]; exact bd2_id _
    · obtain ⟨τ', g1, g2, g3⟩ := hmo _ (hM' hm)
      refine ⟨τ', ?_, g2, fM.tr g3⟩
      rw [s12, m_in4, bd_so, h1, if_neg (by decide), chk_t (by decide), eallm hm, g1, bd2_so, if_pos rfl]; exact bd2_id _
end OB
