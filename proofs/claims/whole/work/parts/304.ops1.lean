/-! acts that only answer -/
theorem rng {x : Int32} {a b : Nat} (ha : a < 2 ^ 31) (hb : b < 2 ^ 31) (h1 : ¬ x < nI a) (h2 : ¬ nI b < x) : ∃ j, a ≤ j ∧ j ≤ b ∧ x = nI j := by
  rw [Int32.lt_iff_toInt_lt, nI_toInt ha] at h1
  rw [Int32.lt_iff_toInt_lt, nI_toInt hb] at h2
  have h0 : ¬ x < 0 := by
    rw [Int32.lt_iff_toInt_lt]
    have : (0 : Int32).toInt = 0 := by decide
    omega
  obtain ⟨j, hj, rfl⟩ := nI_of h0
  rw [nI_toInt hj] at h1 h2
  exact ⟨j, by omega, by omega, rfl⟩
section O1
variable {A : AS} {σ : St}
theorem Opn.q {f11 f12 : St → Option (Int32 × St)} (x : Int32) (hI : Inv A) (hC : CR A σ) (hM : MR A σ) (h11 : f11 σ = some (x, σ)) (h12 : ∀ σ, MR A σ → f12 σ = some (x, σ)) : Opn A σ f11 f12 :=
  Opn.mk' x A σ h11 hC (FrC.rfl' σ) (Nat.le_succ _) hI hM (fun σ1 hm => ⟨σ1, h12 σ1 hm, hm, FrM.rfl' σ1⟩)
theorem op_told (x : Int32) (hI : Inv A) (hC : CR A σ) (hM : MR A σ) : Opn A σ (f_X11_told x) (f_X12_told x) := by
  by_cases q1 : x < 1
  · refine Opn.err 1 (by decide) hI hC hM ?_ (fun σ _ => ?_)
    · unfold f_X11_told f_X11_told_10; rw [if_pos q1]; exact bd2_id _
    · unfold f_X12_told f_X12_in; rw [if_pos q1, bd_so, if_pos rfl]; exact bd2_id _
  · by_cases q2 : 5 < x
    · refine Opn.err 1 (by decide) hI hC hM ?_ (fun σ _ => ?_)
      · unfold f_X11_told f_X11_told_10; rw [if_neg q1, if_pos q2]; exact bd2_id _
      · unfold f_X12_told f_X12_in; rw [if_neg q1, if_pos q2, bd_so, if_pos rfl]; exact bd2_id _
    · obtain ⟨j, h1, h5, rfl⟩ := rng (a := 1) (b := 5) (by decide) (by decide) q1 q2
      refine Opn.q (aE A j) hI hC hM ?_ (fun σ hm => ?_)
      · unfold f_X11_told
        rw [if_neg q1, if_neg q2, inb_nI (by omega) (by decide), chk_so, rd_ar (by omega), hC.2.2.2.1 j (by omega)]
      · unfold f_X12_told f_X12_in
        rw [if_neg q1, if_neg q2, bd_so, if_neg (by decide), inb_nI (by omega) (by decide), chk_so, rd_ar (by omega), hm.2.2.2.1]
theorem op_trace (x : Int32) (hI : Inv A) (hC : CR A σ) (hM : MR A σ) : Opn A σ (f_X11_trace x) (f_X12_trace x) := by
  obtain ⟨n, hn, en⟩ := hI.2.2.1
  have ec : fd σ 74 1 = nI n := hC.2.2.2.2.1.1.trans en
  rcases wi_cases x (n := n) (by omega) with h0 | ⟨h1, j, hj, rfl⟩
  · refine Opn.err 2 (by decide) hI hC hM ?_ (fun σ hm => ?_)
    · unfold f_X11_trace; rw [ec, e_isWithin, bd_so, h0, if_pos rfl]; exact bd2_id _
    · unfold f_X12_trace; rw [fd_ar, hm.2.2.2.2.1, en, e_in _ (by omega), bd_so, h0, if_pos rfl]; exact bd2_id _
  · refine Opn.q (aT A j) hI hC hM ?_ (fun σ hm => ?_)
    · unfold f_X11_trace
      rw [ec, e_isWithin, bd_so, h1, if_neg (by decide), inb_nI (by omega) (by decide), chk_so, rd_ar (by omega), hC.2.2.2.2.1.2 j (by rw [en, nI_clamp (by omega)]; exact hj)]
    · unfold f_X12_trace
      rw [fd_ar, hm.2.2.2.2.1, en, e_in _ (by omega), bd_so, h1, if_neg (by decide), inb_nI (by omega) (by decide), chk_so, rd_ar (by omega), hm.2.2.2.2.2.1]
theorem op_entryIs (x y : Int32) (hI : Inv A) (hC : CR A σ) (hM : MR A σ) : Opn A σ (f_X11_entryIs x y) (f_X12_entryIs x y) := by
  have hi := hI.1.1
  have h40 := hi.2.2.1.2
  have hc := hC.1.1
  have he := hC.1.2.2.2.2.2.2.1
  rcases wi_cases x (n := cn (aR A) 2) (by omega) with h0 | ⟨h1, j, hj, rfl⟩
  · refine Opn.err 1 (by decide) hI hC hM ?_ (fun σ hm => ?_)
    · unfold f_X11_entryIs f_X11_entryIs_19; rw [e_hasEntry _ hi hc, bd_so, h0, if_pos rfl]; exact bd2_id _
    · unfold f_X12_entryIs f_X12_entryIs_26; rw [m_isEntry _ hi hm.1, bd_so, h0, if_pos rfl]; exact bd2_id _
  · rcases wi_cases y (n := 4) (by omega) with g0 | ⟨g1, i, hi4, rfl⟩
    · refine Opn.err 1 (by decide) hI hC hM ?_ (fun σ hm => ?_)
      · unfold f_X11_entryIs f_X11_entryIs_19; rw [e_hasEntry _ hi hc, bd_so, h1, if_neg (by decide), w_4, bd_so, g0, if_pos rfl]; exact bd2_id _
      · unfold f_X12_entryIs f_X12_entryIs_26; rw [m_isEntry _ hi hm.1, bd_so, h1, if_neg (by decide), m_in4, bd_so, g0, if_pos rfl]; exact bd2_id _
    · refine Opn.q (aR A (60 + 4 * j + i)) hI hC hM ?_ (fun σ hm => ?_)
      · unfold f_X11_entryIs
        rw [e_hasEntry _ hi hc, bd_so, h1, if_neg (by decide), w_4, bd_so, g1, if_neg (by decide), inb_nI (show j < 40 by omega) (by decide), chk_so, chk_so, chk_so, chk_so, rd_ar (by omega), rd_ar (by omega), rd_ar (by omega), rd_ar (by omega), (he j hj).1, (he j hj).2.1, (he j hj).2.2.1, (he j hj).2.2.2]
        have h4 : i = 0 ∨ i = 1 ∨ i = 2 ∨ i = 3 := by omega
        rcases h4 with rfl | rfl | rfl | rfl
        · rfl
        · rw [if_neg (by decide), if_pos (by decide), show 60 + 4 * j + 1 = 61 + 4 * j by omega]
        · rw [if_neg (by decide), if_neg (by decide), if_pos (by decide), show 60 + 4 * j + 2 = 62 + 4 * j by omega]
        · rw [if_neg (by decide), if_neg (by decide), if_neg (by decide), show 60 + 4 * j + 3 = 63 + 4 * j by omega]
      · unfold f_X12_entryIs
        rw [m_isEntry _ hi hm.1, bd_so, h1, if_neg (by decide), m_in4, bd_so, g1, if_neg (by decide), m_eo (j := i) (k := 60 + 4 * j + i) rfl rfl (by omega) hm.1, bd_so]
theorem op_partIs (x y : Int32) (hI : Inv A) (hC : CR A σ) (hM : MR A σ) : Opn A σ (f_X11_partIs x y) (f_X12_partIs x y) := by
  have hi := hI.1.1
  have h10 := hi.2.1.2
  have hc := hC.1.1
  have hr := hC.1.2.2.2.2.2.1
  have he := hC.1.2.2.2.2.2.2.1
  rcases wi_cases x (n := cn (aR A) 1) (by omega) with h0 | ⟨h1, j, hj, rfl⟩
  · refine Opn.err 1 (by decide) hI hC hM ?_ (fun σ hm => ?_)
    · unfold f_X11_partIs f_X11_partIs_20; rw [e_hasPart _ hi hc, bd_so, h0, if_pos rfl]; exact bd2_id _
    · unfold f_X12_partIs f_X12_partIs_17; rw [m_isPart _ hi hm.1, bd_so, h0, if_pos rfl]; exact bd2_id _
  · rcases wi_cases y (n := 6) (by omega) with g0 | ⟨g1, i, hi6, rfl⟩
    · refine Opn.err 1 (by decide) hI hC hM ?_ (fun σ hm => ?_)
      · unfold f_X11_partIs f_X11_partIs_20; rw [e_hasPart _ hi hc, bd_so, h1, if_neg (by decide), w_6, bd_so, g0, if_pos rfl]; exact bd2_id _
      · unfold f_X12_partIs f_X12_partIs_17; rw [m_isPart _ hi hm.1, bd_so, h1, if_neg (by decide), m_in6, bd_so, g0, if_pos rfl]; exact bd2_id _
    · obtain ⟨r0, r1, r2, r3, r4, r5, r6⟩ := hr j hj
      have ek : (rd σ 10 (nI j)).toNatClampNeg = rc σ 10 j := by rw [rd_ar (by omega)]; rfl
      have h4 : i < 4 ∨ i = 4 ∨ i = 5 := by omega
      rcases h4 with h4 | rfl | rfl
      · refine Opn.q (aR A (10 + 5 * j + i)) hI hC hM ?_ (fun σ hm => ?_)
        · unfold f_X11_partIs
          rw [e_hasPart _ hi hc, bd_so, h1, if_neg (by decide), w_6, bd_so, g1, if_neg (by decide), inb_nI (show j < 10 by omega) (by decide), chk_so, ek, r0, chk_so, fd_ar, fd_ar, fd_ar, fd_ar, r2, r3, r4, r5]
          have h5 : i = 0 ∨ i = 1 ∨ i = 2 ∨ i = 3 := by omega
          rcases h5 with rfl | rfl | rfl | rfl
          · rfl
          · rw [if_neg (by decide), if_pos (by decide), show 10 + 5 * j + 1 = 11 + 5 * j by omega]
          · rw [if_neg (by decide), if_neg (by decide), if_pos (by decide), show 10 + 5 * j + 2 = 12 + 5 * j by omega]
          · rw [if_neg (by decide), if_neg (by decide), if_neg (by decide), if_pos (by decide), show 10 + 5 * j + 3 = 13 + 5 * j by omega]
        · unfold f_X12_partIs
          rw [m_isPart _ hi hm.1, bd_so, h1, if_neg (by decide), m_in6, bd_so, g1, if_neg (by decide), if_pos (show nI i < 4 from nI_lt h4 (by decide)), m_its (j := i) (k := 10 + 5 * j + i) rfl rfl (by omega) hm.1, bd_so]
      · refine Opn.q (wt (aR A) (nI j)) hI hC hM ?_ (fun σ hm => ?_)
        · unfold f_X11_partIs
          rw [e_hasPart _ hi hc, bd_so, h1, if_neg (by decide), w_6, bd_so, g1, if_neg (by decide), inb_nI (show j < 10 by omega) (by decide), chk_so, ek, r0, chk_so, if_neg (by decide), if_neg (by decide), if_neg (by decide), if_neg (by decide), if_pos (by decide), e_weight _ hi hc he, bd_so]
        · unfold f_X12_partIs
          rw [m_isPart _ hi hm.1, bd_so, h1, if_neg (by decide), m_in6, bd_so, g1, if_neg (by decide), if_neg (by decide), if_pos (by decide), m_weight _ hi hm.1, bd_so]
      · refine Opn.q (ent (aR A) (nI j)) hI hC hM ?_ (fun σ hm => ?_)
        · unfold f_X11_partIs
          rw [e_hasPart _ hi hc, bd_so, h1, if_neg (by decide), w_6, bd_so, g1, if_neg (by decide), inb_nI (show j < 10 by omega) (by decide), chk_so, ek, r0, chk_so, if_neg (by decide), if_neg (by decide), if_neg (by decide), if_neg (by decide), if_neg (by decide), e_entriesOf _ hi hc he, bd_so]
        · unfold f_X12_partIs
          rw [m_isPart _ hi hm.1, bd_so, h1, if_neg (by decide), m_in6, bd_so, g1, if_neg (by decide), if_neg (by decide), if_neg (by decide), m_entriesOf _ hi hm.1, bd_so]
/-! how many -/
def uses (r : Nat → Int32) : Int32 := lp (fun u s => if 0 < r (310 + 52 * u) then s + 1 else s) 3 0
def givn (r : Nat → Int32) : Int32 := lp (fun p s => if r (14 + 5 * p) < 0 then s else s + 1) (cn r 1) 0
theorem e_uses {r : Nat → Int32} (h : CTx 52 r σ) : f_X4_usesWithText σ = some (uses r) := by
  unfold f_X4_usesWithText f_X4_usesWithText_4 uses
  refine (it_lp (fun k (s : Int32) => (s, nI k)) (fun u s => if 0 < r (310 + 52 * u) then s + 1 else s) 3 0 (fun k s hk => ?_)).trans (it_r ?_)
  · show b_X4_usesWithText_4 s (nI k) σ = _
    unfold b_X4_usesWithText_4 f_X4_usesWithText_24
    rw [if_pos (show nI k < 3 from nI_lt hk (by decide)), inb_nI hk (by decide), chk_so, nI_clamp (by omega), fd_ar, show 56 + 2 * k = 52 + 4 + 2 * k by omega, (h k hk).1, nI_1]
    split <;> rfl
  · rfl
theorem m_uses {r : Nat → Int32} (hm : ar σ 84 = r) : f_X12_count_66 0 0 σ = some (uses r, σ) := by
  unfold f_X12_count_66 uses
  refine (it_lp (fun k (s : Int32) => (s, nI k)) (fun u s => if 0 < r (310 + 52 * u) then s + 1 else s) 3 0 (fun k s hk => ?_)).trans (it_r ?_)
  · show b_X12_count_66 s (nI k) σ = _
    unfold b_X12_count_66 f_X12_count_93
    rw [if_pos (show nI k < 3 from nI_lt hk (by decide)), show (310 + (52 * nI k) : Int32) = nI (310 + 52 * k) by rw [← nI_add, ← pk_mul]; rfl, inb_nI (by omega) (by decide), chk_so, rd_ar (by omega), hm, nI_1]
    split
    · rfl
    · rw [Int32.add_zero]
  · rfl
theorem e_given {r : Nat → Int32} (hI : IR r) (hc : CSc 1 r σ) (h : CTo 10 r σ) : f_X4_partsGiven σ = some (givn r) := by
  unfold f_X4_partsGiven f_X4_partsGiven_4 givn
  have h10 := hI.1.2.1.2
  refine (it_lp (fun k (s : Int32) => (s, nI k)) (fun p s => if r (14 + 5 * p) < 0 then s else s + 1) (cn r 1) 0 (fun k s hk => ?_)).trans (it_r ?_)
  · show b_X4_partsGiven_4 s (nI k) σ = _
    unfold b_X4_partsGiven_4 f_X4_partsGiven_25
    rw [fd_ar, hc.2.1, hI.1.2.1.1, if_pos (nI_lt hk (by omega)), inb_nI (show k < 10 by omega) (by decide), chk_so, rd_ar (by omega), h k hk, nI_1]
    rcases (hI.2.1 k hk).2.2.2.2 with e | ⟨e, hl⟩
    · rw [if_pos e, e, if_pos (by decide)]
    · rw [e, if_neg (nI_pos (by have := hI.1.2.2.2.1.2; omega)), if_neg]
      intro q
      have : nI (cn r (14 + 5 * k)) < 0 := by rw [q]; decide
      exact nI_pos (by have := hI.1.2.2.2.1.2; omega) this
  · show b_X4_partsGiven_4 _ (nI (cn r 1)) σ = _
    unfold b_X4_partsGiven_4
    rw [fd_ar, hc.2.1, hI.1.2.1.1, if_neg (nI_nlt (Nat.le_refl _) (by omega))]
theorem m_given {r : Nat → Int32} (hI : ICn r) (hm : ar σ 84 = r) : f_X12_count_105 0 0 σ = some (givn r, σ) := by
  unfold f_X12_count_105 givn
  have h10 := hI.2.1.2
  have e1 : rd σ 84 1 = nI (cn r 1) := by rw [← hI.2.1.1, ← hm]; rfl
  refine (it_lp (fun k (s : Int32) => (s, nI k)) (fun p s => if r (14 + 5 * p) < 0 then s else s + 1) (cn r 1) 0 (fun k s hk => ?_)).trans (it_r ?_)
  · show b_X12_count_105 s (nI k) σ = _
    unfold b_X12_count_105 f_X12_count_130
    rw [chk_t (by decide), e1, if_pos (nI_lt hk (by omega)), m_it4 (show k < 10 by omega) hm, bd_so, nI_1]
    split
    · rw [Int32.add_zero]
    · rfl
  · show b_X12_count_105 _ (nI (cn r 1)) σ = _
    unfold b_X12_count_105
    rw [chk_t (by decide), e1, if_neg (nI_nlt (Nat.le_refl _) (by omega))]
theorem op_count (x : Int32) (hI : Inv A) (hC : CR A σ) (hM : MR A σ) : Opn A σ (f_X11_count x) (f_X12_count x) := by
  have hc := hC.1.1
  by_cases q0 : x = 0
  · subst q0
    exact Opn.q (aR A 0) hI hC hM (by unfold f_X11_count; rw [if_pos rfl, fd_ar, hc.1]) (fun σ hm => by unfold f_X12_count f_X12_count_52; rw [if_pos rfl, chk_t (by decide), ← hm.1]; rfl)
  by_cases q1 : x = 1
  · subst q1
    exact Opn.q (aR A 1) hI hC hM (by unfold f_X11_count; rw [if_neg q0, if_pos rfl, fd_ar, hc.2.1]) (fun σ hm => by unfold f_X12_count f_X12_count_52; rw [if_neg q0, if_pos rfl, chk_t (by decide), ← hm.1]; rfl)
  by_cases q2 : x = 2
  · subst q2
    exact Opn.q (aR A 2) hI hC hM (by unfold f_X11_count; rw [if_neg q0, if_neg q1, if_pos rfl, fd_ar, hc.2.2.1]) (fun σ hm => by unfold f_X12_count f_X12_count_52; rw [if_neg q0, if_neg q1, if_pos rfl, chk_t (by decide), ← hm.1]; rfl)
  by_cases q3 : x = 3
  · subst q3
    exact Opn.q (aR A 3) hI hC hM (by unfold f_X11_count; rw [if_neg q0, if_neg q1, if_neg q2, if_pos rfl, fd_ar, hc.2.2.2]) (fun σ hm => by unfold f_X12_count f_X12_count_52; rw [if_neg q0, if_neg q1, if_neg q2, if_pos rfl, chk_t (by decide), ← hm.1]; rfl)
  by_cases q4 : x = 4
  · subst q4
    exact Opn.q (aR A 4) hI hC hM (by unfold f_X11_count; rw [if_neg q0, if_neg q1, if_neg q2, if_neg q3, if_pos rfl, fd_ar, hC.1.2.1.1]) (fun σ hm => by unfold f_X12_count f_X12_count_52; rw [if_neg q0, if_neg q1, if_neg q2, if_neg q3, if_pos rfl, chk_t (by decide), ← hm.1]; rfl)
  by_cases q5 : x = 5
  · subst q5
    exact Opn.q (aR A 5) hI hC hM (by unfold f_X11_count; rw [if_neg q0, if_neg q1, if_neg q2, if_neg q3, if_neg q4, if_pos rfl, fd_ar, hC.1.2.2.1.1]) (fun σ hm => by unfold f_X12_count f_X12_count_52; rw [if_neg q0, if_neg q1, if_neg q2, if_neg q3, if_neg q4, if_pos rfl, chk_t (by decide), ← hm.1]; rfl)
  by_cases q6 : x = 6
  · subst q6
    exact Opn.q (aTn A) hI hC hM (by unfold f_X11_count; rw [if_neg q0, if_neg q1, if_neg q2, if_neg q3, if_neg q4, if_neg q5, if_pos rfl, fd_ar, hC.2.2.2.2.1.1]) (fun σ hm => by unfold f_X12_count; rw [if_neg q0, if_neg q1, if_neg q2, if_neg q3, if_neg q4, if_neg q5, if_pos rfl, fd_ar, hm.2.2.2.2.1])
  by_cases q7 : x = 7
  · subst q7
    exact Opn.q (uses (aR A)) hI hC hM (by unfold f_X11_count; rw [if_neg q0, if_neg q1, if_neg q2, if_neg q3, if_neg q4, if_neg q5, if_neg q6, if_pos rfl, e_uses hC.1.2.2.2.1, bd_so]) (fun σ hm => by unfold f_X12_count; rw [if_neg q0, if_neg q1, if_neg q2, if_neg q3, if_neg q4, if_neg q5, if_neg q6, if_pos rfl, m_uses hm.1])
  by_cases q8 : x = 8
  · subst q8
    exact Opn.q (givn (aR A)) hI hC hM (by unfold f_X11_count; rw [if_neg q0, if_neg q1, if_neg q2, if_neg q3, if_neg q4, if_neg q5, if_neg q6, if_neg q7, if_pos rfl, e_given hI.1 hc hC.1.2.2.2.2.1, bd_so]) (fun σ hm => by unfold f_X12_count; rw [if_neg q0, if_neg q1, if_neg q2, if_neg q3, if_neg q4, if_neg q5, if_neg q6, if_neg q7, if_pos rfl, m_given hI.1.1 hm.1])
  refine Opn.err 1 (by decide) hI hC hM ?_ (fun σ hm => ?_)
  · unfold f_X11_count; rw [if_neg q0, if_neg q1, if_neg q2, if_neg q3, if_neg q4, if_neg q5, if_neg q6, if_neg q7, if_neg q8]; exact bd2_id _
  · unfold f_X12_count; rw [if_neg q0, if_neg q1, if_neg q2, if_neg q3, if_neg q4, if_neg q5, if_neg q6, if_neg q7, if_neg q8]; exact bd2_id _
end O1
