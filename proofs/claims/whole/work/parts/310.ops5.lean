/-! entry, shift -/
theorem m_entryE {r : Nat → Int32} {σ : St} {p : Nat} {x2 x3 x4 : Int32} (hI : ICn r) (hm : ar σ 84 = r) (hp : p < cn r 1) (h : x2 < 0 ∨ x3 < x2 ∨ ¬ x3 < r 0 ∨ wi x4 4 = 0) : f_X12_entry (nI p) x2 x3 x4 σ = f_X12_finds 1 σ := by
  have h10 := hI.2.1.2
  unfold f_X12_entry f_X12_entry_37
  rw [m_isPart _ hI hm, bd_so, wi_nI hp (by omega), if_neg (by decide), chk_t (by decide), show rd σ 84 0 = r 0 from by rw [← hm]; rfl, m_in4, bd_so, bd2_id]
  by_cases q1 : x2 < 0
  · rw [if_pos q1]
  rw [if_neg q1]
  by_cases q2 : x3 < x2
  · rw [if_pos q2]
  rw [if_neg q2]
  by_cases q3 : x3 < r 0
  · rw [if_pos q3, if_pos]
    rcases h with h | h | h | h
    · exact absurd h q1
    · exact absurd h q2
    · exact absurd q3 h
    · exact h
  · rw [if_neg q3]
theorem onQ_c (r : Nat → Int32) (a b c d : Int32) : onQ r a b c d = 0 ∨ onQ r a b c d = 1 := by unfold onQ; split; exact Or.inr rfl; exact Or.inl rfl
theorem onQ_0 {r : Nat → Int32} {a b c d : Int32} (h : onQ r a b c d = 0) : ∀ e, e < cn r 2 → onP r a b c d e = false := by
  unfold onQ at h
  apply anyN_f.mp
  cases q : anyN (onP r a b c d) (cn r 2)
  · rfl
  · rw [if_pos q] at h; exact absurd h (by decide)
section O5
variable {A : AS} {σ : St}
theorem op_entry (x y z w : Int32) (hI : Inv A) (hC : CR A σ) (hM : MR A σ) : Opn A σ (f_X11_entry x y z w) (f_X12_entry x y z w) := by
  have hi := hI.1.1
  have b0 := hi.1.2.2
  have b1 := hi.2.1.2
  have b2 := hi.2.2.1.2
  have b3 := hi.2.2.2.1.2
  have b4 := hi.2.2.2.2.1.2
  have b5 := hi.2.2.2.2.2.2
  have b6 : cn (aR A) 362 ≤ 50 := (hI.1.2.2.2.2.2.2 1 (by decide)).2.1
  have hc := hC.1.1
  obtain ⟨c1, c2, c3, c4, c5, c6, c7, c8⟩ := hC.1
  obtain ⟨i1, i2, i3, i4, i5, i6, i7⟩ := hI.1
  rcases wi_cases x (n := cn (aR A) 1) (by omega) with h0 | ⟨h1, p, hp, rfl⟩
  · refine Opn.err 1 (by decide) hI hC hM ?_ (fun σ hm => ?_)
    · unfold f_X11_entry f_X11_entry_47; rw [e_hasPart _ hi hc, bd_so, h0, if_pos rfl]; exact bd2_id _
    · unfold f_X12_entry f_X12_entry_37; rw [m_isPart _ hi hm.1, bd_so, h0, if_pos rfl]; exact bd2_id _
  rcases wi_cases y (n := cn (aR A) 0) (by omega) with g0 | ⟨g1, f, hf, rfl⟩
  · refine Opn.err 1 (by decide) hI hC hM ?_ (fun σ hm => ?_)
    · unfold f_X11_entry f_X11_entry_47; rw [e_hasPart _ hi hc, bd_so, h1, if_neg (by decide), e_hasLine _ hi hc, bd_so, g0, if_pos rfl]; exact bd2_id _
    · refine m_entryE hi hm.1 hp ?_
      rw [hi.1.1]
      unfold wi at g0
      by_cases q1 : y < 0
      · exact Or.inl q1
      · rw [if_neg q1] at g0
        by_cases q2 : y < nI (cn (aR A) 0)
        · rw [if_pos q2] at g0; exact absurd g0 (by decide)
        · by_cases q3 : z < y
          · exact Or.inr (Or.inl q3)
          · exact Or.inr (Or.inr (Or.inl (fun h => q2 (Int32.lt_of_le_of_lt (Int32.not_lt.mp q3) h))))
  rcases wi_cases z (n := cn (aR A) 0) (by omega) with k0 | ⟨k1, t, ht, rfl⟩
  · refine Opn.err 1 (by decide) hI hC hM ?_ (fun σ hm => ?_)
    · unfold f_X11_entry f_X11_entry_47; rw [e_hasPart _ hi hc, bd_so, h1, if_neg (by decide), e_hasLine _ hi hc, bd_so, g1, if_neg (by decide), e_hasLine _ hi hc, bd_so, k0, if_pos rfl]; exact bd2_id _
    · refine m_entryE hi hm.1 hp ?_
      rw [hi.1.1]
      unfold wi at k0
      by_cases q1 : z < 0
      · exact Or.inr (Or.inl (Int32.lt_of_lt_of_le q1 (Int32.not_lt.mp (nI_pos (by omega)))))
      · rw [if_neg q1] at k0
        by_cases q2 : z < nI (cn (aR A) 0)
        · rw [if_pos q2] at k0; exact absurd k0 (by decide)
        · exact Or.inr (Or.inr (Or.inl q2))
  by_cases qtf : t < f
  · refine Opn.err 1 (by decide) hI hC hM ?_ (fun σ hm => ?_)
    · unfold f_X11_entry f_X11_entry_47; rw [e_hasPart _ hi hc, bd_so, h1, if_neg (by decide), e_hasLine _ hi hc, bd_so, g1, if_neg (by decide), e_hasLine _ hi hc, bd_so, k1, if_neg (by decide), if_pos (nI_lt qtf (by omega))]; exact bd2_id _
    · exact m_entryE hi hm.1 hp (Or.inr (Or.inl (nI_lt qtf (by omega))))
  have ntf : ¬ nI t < nI f := nI_nlt (by omega) (by omega)
  rcases wi_cases w (n := 4) (by omega) with l0 | ⟨l1, s, hs, rfl⟩
  · refine Opn.err 1 (by decide) hI hC hM ?_ (fun σ hm => ?_)
    · unfold f_X11_entry f_X11_entry_47; rw [e_hasPart _ hi hc, bd_so, h1, if_neg (by decide), e_hasLine _ hi hc, bd_so, g1, if_neg (by decide), e_hasLine _ hi hc, bd_so, k1, if_neg (by decide), if_neg ntf, w_4, bd_so, l0, if_pos rfl]; exact bd2_id _
    · exact m_entryE hi hm.1 hp (Or.inr (Or.inr (Or.inr l0)))
  obtain ⟨n, hn⟩ : ∃ n, n = cn (aR A) 2 := ⟨_, rfl⟩
  have er : aR A 2 = nI n := by rw [hn]; exact hi.2.2.1.1
  have ec : ar σ 1 2 = nI n := hc.2.2.1.trans er
  have h11 : f_X11_entry (nI p) (nI f) (nI t) (nI s) σ = if onQ (aR A) (nI p) (nI f) (nI t) (-1) = 0 then (if nI n < 40 then f_X4_addEntry (nI p) (nI f) (nI t) (nI s) σ else f_X11_error 4 σ) else f_X11_error 3 σ := by
    unfold f_X11_entry
    rw [e_hasPart _ hi hc, bd_so, h1, if_neg (by decide), e_hasLine _ hi hc, bd_so, g1, if_neg (by decide), e_hasLine _ hi hc, bd_so, k1, if_neg (by decide), if_neg ntf, w_4, bd_so, l1, if_neg (by decide), e_isTaken _ _ _ _ hi hc c7, bd_so, fd_ar, ec, bd2_id, bd2_id, bd2_id]
  have h12 : ∀ σ1, ar σ1 84 = aR A → ∀ X, (nI n ≠ 40 → n < 40 → X = some (nI n, fw (fw (fw (fw (fw (fw σ1 84 (60 + 4 * n) (nI p)) 84 (61 + 4 * n) (nI f)) 84 (62 + 4 * n) (nI t)) 84 (63 + 4 * n) (nI s)) 84 2 (nI (n + 1))) 6 4 0)) → (nI n = 40 → X = f_X12_finds 4 σ1) → f_X12_entry (nI p) (nI f) (nI t) (nI s) σ1 = if onQ (aR A) (nI p) (nI f) (nI t) (-1) = 0 then X else f_X12_finds 3 σ1 := by
    intro σ1 hm X hx1 hx2
    have e2 : rd σ1 84 2 = nI n := by rw [← er, ← hm]; rfl
    unfold f_X12_entry
    rw [m_isPart _ hi hm, bd_so, h1, if_neg (by decide), if_neg (nI_pos (by omega)), if_neg ntf, chk_t (by decide), show rd σ1 84 0 = nI (cn (aR A) 0) from by rw [← hi.1.1, ← hm]; rfl, if_pos (nI_lt ht (by omega)), m_in4, bd_so, l1, if_neg (by decide), m_isOn _ _ _ _ hi hm, bd_so, chk_t (by decide), e2, bd2_id, bd2_id]
    by_cases q0 : onQ (aR A) (nI p) (nI f) (nI t) (-1) = 0
    · rw [if_pos q0, if_pos q0]
      by_cases q : nI n = 40
      · rw [if_pos q, hx2 q]
      · have hn40 : n < 40 := by
          have : n ≠ 40 := fun h => q (by rw [h]; rfl)
          omega
        rw [if_neg q, hx1 q hn40]
        have x0 : (60 + (4 * nI n) : Int32) = nI (60 + 4 * n) := by rw [← nI_add, ← pk_mul]; rfl
        have e3' : rd (fw (fw (fw (fw σ1 84 (60 + 4 * n) (nI p)) 84 (61 + 4 * n) (nI f)) 84 (62 + 4 * n) (nI t)) 84 (63 + 4 * n) (nI s)) 84 (nI 2) = nI n := by rw [rd_ar (by omega), ar_fw_eq, upd_ne (by omega), ar_fw_eq, upd_ne (by omega), ar_fw_eq, upd_ne (by omega), ar_fw_eq, upd_ne (by omega)]; exact e2
        rw [x0, show (1 : Int32) = nI 1 from rfl, show (2 : Int32) = nI 2 from rfl, show (3 : Int32) = nI 3 from rfl, nI_add, nI_add, nI_add, inb_nI (by omega) (by decide), chk_so, nm_so, inb_nI (by omega) (by decide), chk_so, nm_so, inb_nI (by omega) (by decide), chk_so, nm_so, inb_nI (by omega) (by decide), chk_so, nm_so, nm_so, nm_so, wr_nI _ (by omega), wr_nI _ (by omega), wr_nI _ (by omega), wr_nI _ (by omega), show 60 + 4 * n + 1 = 61 + 4 * n by omega, show 60 + 4 * n + 2 = 62 + 4 * n by omega, show 60 + 4 * n + 3 = 63 + 4 * n by omega, wr_nI _ (by omega), e3', nI_add, rd_ar (by omega), ar_fw_ne (by omega), ar_fw_eq, upd_eq, pk_sub (by omega), Nat.add_sub_cancel]
    · rw [if_neg q0, if_neg q0]
  by_cases qon : ¬ onQ (aR A) (nI p) (nI f) (nI t) (-1) = 0
  · refine Opn.err 3 (by decide) hI hC hM (h11.trans (if_neg qon)) (fun σ1 hm => ?_)
    by_cases q : nI n = 40
    · exact (h12 σ1 hm.1 (f_X12_finds 4 σ1) (fun h => absurd q h) (fun _ => rfl)).trans (if_neg qon)
    · exact (h12 σ1 hm.1 _ (fun _ _ => rfl) (fun h => absurd h q)).trans (if_neg qon)
  have qon := Classical.not_not.mp qon
  by_cases q : ¬ n < 40
  · have e40 : n = 40 := by omega
    refine Opn.err 4 (by decide) hI hC hM (h11.trans ?_) (fun σ1 hm => ?_)
    · rw [if_pos qon, e40, if_neg (by decide)]; rfl
    · exact (h12 σ1 hm.1 (f_X12_finds 4 σ1) (fun h => absurd (by rw [e40]; rfl) h) (fun _ => rfl)).trans (if_pos qon)
  have q := Classical.not_not.mp q
  have hn40 : nI n ≠ 40 := fun h => by have := (nI_eq (a := n) (b := 40) (by omega) (by decide)).mp h; omega
  refine Opn.mk' (nI n) (sR A (upd (upd (upd (upd (upd (aR A) (60 + 4 * n) (nI p)) (61 + 4 * n) (nI f)) (62 + 4 * n) (nI t)) (63 + 4 * n) (nI s)) 2 (nI (n + 1)))) (fw (fw (fw (fw (fw σ 12 n (nI p)) 13 n (nI f)) 14 n (nI t)) 15 n (nI s)) 1 2 (nI (n + 1))) (h11.trans ?_) ?_ ?_ (Nat.le_succ _) ?_ hM (fun σ1 hm => ?_)
  · rw [if_pos qon, if_pos (show nI n < 40 from nI_lt q (by decide))]
    have h31 : n < 2147483648 := by omega
    unfold f_X4_addEntry
    simp only [nm_so, chk_so, bd2_so, wr_nI, h31, fd_ar, ar_fw_eq, ar_fw_ne, upd_eq, ec, inb_nI q (show 40 < 2 ^ 31 by decide), nI_1, nI_pred, ne_eq, Nat.reduceEqDiff, not_false_eq_true, Nat.reducePow]
  · refine hC.row' ?_ (fun k hk _ => ?_) rfl (by rw [ar_fw_ne (by omega), ar_fw_ne (by omega), ar_fw_ne (by omega), ar_fw_ne (by omega), ar_fw_ne (by omega)])
    · refine ⟨?_, c2.cg ⟨by rw [ar_fw_ne (by omega), ar_fw_ne (by omega), ar_fw_ne (by omega), ar_fw_ne (by omega), ar_fw_ne (by omega)], by rw [ar_fw_ne (by omega), ar_fw_ne (by omega), ar_fw_ne (by omega), ar_fw_ne (by omega), ar_fw_ne (by omega)]⟩ (by rw [upd_ne (by omega), upd_ne (by omega), upd_ne (by omega), upd_ne (by omega), upd_ne (by omega)]) (fun k _ _ => by rw [upd_ne (by omega), upd_ne (by omega), upd_ne (by omega), upd_ne (by omega), upd_ne (by omega)]), c3.cg ⟨by rw [ar_fw_ne (by omega), ar_fw_ne (by omega), ar_fw_ne (by omega), ar_fw_ne (by omega), ar_fw_ne (by omega)], by rw [ar_fw_ne (by omega), ar_fw_ne (by omega), ar_fw_ne (by omega), ar_fw_ne (by omega), ar_fw_ne (by omega)]⟩ (by rw [upd_ne (by omega), upd_ne (by omega), upd_ne (by omega), upd_ne (by omega), upd_ne (by omega)]) (fun k _ _ => by rw [upd_ne (by omega), upd_ne (by omega), upd_ne (by omega), upd_ne (by omega), upd_ne (by omega)]), c4.cg (fun k _ _ => by rw [ar_fw_ne (by omega), ar_fw_ne (by omega), ar_fw_ne (by omega), ar_fw_ne (by omega), ar_fw_ne (by omega)]) (fun k _ => by rw [upd_ne (by omega), upd_ne (by omega), upd_ne (by omega), upd_ne (by omega), upd_ne (by omega)]), c5.cg (by rw [ar_fw_ne (by omega), ar_fw_ne (by omega), ar_fw_ne (by omega), ar_fw_ne (by omega), ar_fw_ne (by omega)]) (by rw [upd_ne (by omega), upd_ne (by omega), upd_ne (by omega), upd_ne (by omega), upd_ne (by omega)]) (fun k _ _ => by rw [upd_ne (by omega), upd_ne (by omega), upd_ne (by omega), upd_ne (by omega), upd_ne (by omega)]), c6.cg (by rw [ar_fw_ne (by omega), ar_fw_ne (by omega), ar_fw_ne (by omega), ar_fw_ne (by omega), ar_fw_ne (by omega)]) (fun k _ _ => by rw [ar_fw_ne (by omega), ar_fw_ne (by omega), ar_fw_ne (by omega), ar_fw_ne (by omega), ar_fw_ne (by omega)]) (Nat.le_refl _) (by rw [upd_ne (by omega), upd_ne (by omega), upd_ne (by omega), upd_ne (by omega), upd_ne (by omega)]) (fun p _ k _ _ => by rw [upd_ne (by omega), upd_ne (by omega), upd_ne (by omega), upd_ne (by omega), upd_ne (by omega)]), ?_, c8.cg (fun k _ _ => by rw [ar_fw_ne (by omega), ar_fw_ne (by omega), ar_fw_ne (by omega), ar_fw_ne (by omega), ar_fw_ne (by omega)]) (by rw [upd_ne (by omega), upd_ne (by omega), upd_ne (by omega), upd_ne (by omega), upd_ne (by omega)]) (fun k _ _ => by rw [upd_ne (by omega), upd_ne (by omega), upd_ne (by omega), upd_ne (by omega), upd_ne (by omega)])⟩
      · refine ⟨?_, ?_, ?_, ?_⟩
        · rw [ar_fw_eq, upd_ne (by omega), ar_fw_ne (by omega), ar_fw_ne (by omega), ar_fw_ne (by omega), ar_fw_ne (by omega), upd_ne (by omega), upd_ne (by omega), upd_ne (by omega), upd_ne (by omega), upd_ne (by omega)]; exact c1.1
        · rw [ar_fw_eq, upd_ne (by omega), ar_fw_ne (by omega), ar_fw_ne (by omega), ar_fw_ne (by omega), ar_fw_ne (by omega), upd_ne (by omega), upd_ne (by omega), upd_ne (by omega), upd_ne (by omega), upd_ne (by omega)]; exact c1.2.1
        · rw [ar_fw_eq, upd_eq, upd_eq]
        · rw [ar_fw_eq, upd_ne (by omega), ar_fw_ne (by omega), ar_fw_ne (by omega), ar_fw_ne (by omega), ar_fw_ne (by omega), upd_ne (by omega), upd_ne (by omega), upd_ne (by omega), upd_ne (by omega), upd_ne (by omega)]; exact c1.2.2.2
      · intro k hk
        rw [cn_nI (upd_eq _ _ _) (by omega)] at hk
        show ar _ 12 k = _ ∧ ar _ 13 k = _ ∧ ar _ 14 k = _ ∧ ar _ 15 k = _
        rw [ar_fw_ne (show 12 ≠ 1 by omega), ar_fw_ne (show 12 ≠ 15 by omega), ar_fw_ne (show 12 ≠ 14 by omega), ar_fw_ne (show 12 ≠ 13 by omega), ar_fw_eq, ar_fw_ne (show 13 ≠ 1 by omega), ar_fw_ne (show 13 ≠ 15 by omega), ar_fw_ne (show 13 ≠ 14 by omega), ar_fw_eq, ar_fw_ne (show 13 ≠ 12 by omega), ar_fw_ne (show 14 ≠ 1 by omega), ar_fw_ne (show 14 ≠ 15 by omega), ar_fw_eq, ar_fw_ne (show 14 ≠ 13 by omega), ar_fw_ne (show 14 ≠ 12 by omega), ar_fw_ne (show 15 ≠ 1 by omega), ar_fw_eq, ar_fw_ne (show 15 ≠ 14 by omega), ar_fw_ne (show 15 ≠ 13 by omega), ar_fw_ne (show 15 ≠ 12 by omega)]
        by_cases qk : k = n
        · subst qk
          rw [upd_eq, upd_eq, upd_eq, upd_eq, upd_ne (show 60 + 4 * k ≠ 2 by omega), upd_ne (show 60 + 4 * k ≠ 63 + 4 * k by omega), upd_ne (show 60 + 4 * k ≠ 62 + 4 * k by omega), upd_ne (show 60 + 4 * k ≠ 61 + 4 * k by omega), upd_eq, upd_ne (show 61 + 4 * k ≠ 2 by omega), upd_ne (show 61 + 4 * k ≠ 63 + 4 * k by omega), upd_ne (show 61 + 4 * k ≠ 62 + 4 * k by omega), upd_eq, upd_ne (show 62 + 4 * k ≠ 2 by omega), upd_ne (show 62 + 4 * k ≠ 63 + 4 * k by omega), upd_eq, upd_ne (show 63 + 4 * k ≠ 2 by omega), upd_eq]
          exact ⟨rfl, rfl, rfl, rfl⟩
        · rw [upd_ne qk, upd_ne qk, upd_ne qk, upd_ne qk, upd_ne (by omega), upd_ne (by omega), upd_ne (by omega), upd_ne (by omega), upd_ne (by omega), upd_ne (by omega), upd_ne (by omega), upd_ne (by omega), upd_ne (by omega), upd_ne (by omega), upd_ne (by omega), upd_ne (by omega), upd_ne (by omega), upd_ne (by omega), upd_ne (by omega), upd_ne (by omega), upd_ne (by omega), upd_ne (by omega), upd_ne (by omega), upd_ne (by omega)]
          exact c7 k (by omega)
    · unfold PC at hk; rw [ar_fw_ne (by omega), ar_fw_ne (by omega), ar_fw_ne (by omega), ar_fw_ne (by omega), ar_fw_ne (by omega)]
  · exact ((((FrC.fw (by omega)).tr (FrC.fw (by omega))).tr (FrC.fw (by omega))).tr (FrC.fw (by omega))).tr (FrC.fw (by omega))
  · have e0 : (upd (upd (upd (upd (upd (aR A) (60 + 4 * n) (nI p)) (61 + 4 * n) (nI f)) (62 + 4 * n) (nI t)) (63 + 4 * n) (nI s)) 2 (nI (n + 1))) (60 + 4 * n) = nI p := by rw [upd_ne (by omega), upd_ne (by omega), upd_ne (by omega), upd_ne (by omega), upd_eq]
    have e1 : (upd (upd (upd (upd (upd (aR A) (60 + 4 * n) (nI p)) (61 + 4 * n) (nI f)) (62 + 4 * n) (nI t)) (63 + 4 * n) (nI s)) 2 (nI (n + 1))) (61 + 4 * n) = nI f := by rw [upd_ne (by omega), upd_ne (by omega), upd_ne (by omega), upd_eq]
    have e2 : (upd (upd (upd (upd (upd (aR A) (60 + 4 * n) (nI p)) (61 + 4 * n) (nI f)) (62 + 4 * n) (nI t)) (63 + 4 * n) (nI s)) 2 (nI (n + 1))) (62 + 4 * n) = nI t := by rw [upd_ne (by omega), upd_ne (by omega), upd_eq]
    have e3 : (upd (upd (upd (upd (upd (aR A) (60 + 4 * n) (nI p)) (61 + 4 * n) (nI f)) (62 + 4 * n) (nI t)) (63 + 4 * n) (nI s)) 2 (nI (n + 1))) (63 + 4 * n) = nI s := by rw [upd_ne (by omega), upd_eq]
    have e9 : ∀ k, k ≠ 2 → k < 60 + 4 * n ∨ 64 + 4 * n ≤ k → (upd (upd (upd (upd (upd (aR A) (60 + 4 * n) (nI p)) (61 + 4 * n) (nI f)) (62 + 4 * n) (nI t)) (63 + 4 * n) (nI s)) 2 (nI (n + 1))) k = aR A k := fun k h1 h2 => by rw [upd_ne (by omega), upd_ne (by omega), upd_ne (by omega), upd_ne (by omega), upd_ne (by omega)]
    have e22 : (upd (upd (upd (upd (upd (aR A) (60 + 4 * n) (nI p)) (61 + 4 * n) (nI f)) (62 + 4 * n) (nI t)) (63 + 4 * n) (nI s)) 2 (nI (n + 1))) 2 = nI (n + 1) := upd_eq _ _ _
    obtain ⟨R, hR⟩ : ∃ R, R = (upd (upd (upd (upd (upd (aR A) (60 + 4 * n) (nI p)) (61 + 4 * n) (nI f)) (62 + 4 * n) (nI t)) (63 + 4 * n) (nI s)) 2 (nI (n + 1))) := ⟨_, rfl⟩
    rw [← hR] at e0 e1 e2 e3 e9 e22 ⊢
    have d1 : cn R 1 = cn (aR A) 1 := cn_cong (e9 1 (by omega) (by omega))
    have d0 : cn R 0 = cn (aR A) 0 := cn_cong (e9 0 (by omega) (by omega))
    have d2 : cn R 2 = n + 1 := cn_nI e22 (by omega)
    have hold : ∀ e, e < n → cn (aR A) (60 + 4 * e) = p → t < cn (aR A) (61 + 4 * e) ∨ cn (aR A) (62 + 4 * e) < f := by
      intro e he hw
      have h := of_decide_eq_false (onQ_0 qon e (by omega))
      have j := i3 e (by omega)
      have l0 := j.2.2.1.2
      have l1 := j.2.1.2
      by_cases c1 : t < cn (aR A) (61 + 4 * e)
      · exact Or.inl c1
      · by_cases c2 : cn (aR A) (62 + 4 * e) < f
        · exact Or.inr c2
        · refine absurd ⟨fun hh => ?_, ?_, ?_, ?_⟩ h
          · exact nI_pos (n := e) (by omega) (by rw [hh]; decide)
          · rw [j.1.1, hw]
          · rw [j.2.1.1]; exact nI_nlt (by omega) (by omega)
          · rw [j.2.2.1.1]; exact nI_nlt (by omega) (by omega)
    refine hI.row ⟨ICn.of ((e9 0 (by omega) (by omega)).trans hi.1.1) hi.1.2 ((e9 1 (by omega) (by omega)).trans hi.2.1.1) hi.2.1.2 e22 (by omega) ((e9 3 (by omega) (by omega)).trans hi.2.2.2.1.1) hi.2.2.2.1.2 ((e9 4 (by omega) (by omega)).trans hi.2.2.2.2.1.1) hi.2.2.2.2.1.2 ((e9 5 (by omega) (by omega)).trans hi.2.2.2.2.2.1) hi.2.2.2.2.2.2, i2.cg (e9 1 (by omega) (by omega)) (e9 3 (by omega) (by omega)) (fun k _ _ => e9 k (by omega) (by omega)), ?_, ?_, i5.cg (e9 3 (by omega) (by omega)) (fun k _ _ => e9 k (by omega) (by omega)), i6.cg (e9 4 (by omega) (by omega)) (fun k _ _ => e9 k (by omega) (by omega)), i7.cg (fun k _ => e9 k (by omega) (by omega))⟩
    · intro e he
      rw [d2] at he
      by_cases qe : e = n
      · subst qe
        rw [cn_nI e0 (by omega), cn_nI e1 (by omega), cn_nI e2 (by omega), cn_nI e3 (by omega), e0, e1, e2, e3, d0, d1]
        exact ⟨⟨rfl, hp⟩, ⟨rfl, by omega⟩, ⟨rfl, ht⟩, ⟨rfl, hs⟩⟩
      · have a0 := e9 (60 + 4 * e) (by omega) (by omega)
        have a1 := e9 (61 + 4 * e) (by omega) (by omega)
        have a2 := e9 (62 + 4 * e) (by omega) (by omega)
        have a3 := e9 (63 + 4 * e) (by omega) (by omega)
        rw [cn_cong a0, cn_cong a1, cn_cong a2, cn_cong a3, a0, a1, a2, a3, d0, d1]
        exact i3 e (by omega)
    · intro e g he hg hne hw
      rw [d2] at he hg
      have a0 : ∀ e, e < n → cn R (60 + 4 * e) = cn (aR A) (60 + 4 * e) ∧ cn R (61 + 4 * e) = cn (aR A) (61 + 4 * e) ∧ cn R (62 + 4 * e) = cn (aR A) (62 + 4 * e) := fun e he => ⟨cn_cong (e9 _ (by omega) (by omega)), cn_cong (e9 _ (by omega) (by omega)), cn_cong (e9 _ (by omega) (by omega))⟩
      by_cases qe : e = n
      · subst qe
        rw [cn_nI e0 (by omega), (a0 g (by omega)).1] at hw
        rw [cn_nI e1 (by omega), cn_nI e2 (by omega), (a0 g (by omega)).2.1, (a0 g (by omega)).2.2]
        exact hold g (by omega) hw.symm
      · by_cases qg : g = n
        · subst qg
          rw [cn_nI e0 (by omega), (a0 e (by omega)).1] at hw
          rw [cn_nI e1 (by omega), cn_nI e2 (by omega), (a0 e (by omega)).2.1, (a0 e (by omega)).2.2]
          exact (hold e (by omega) hw).symm
        · rw [(a0 e (by omega)).1, (a0 g (by omega)).1] at hw
          rw [(a0 e (by omega)).2.1, (a0 e (by omega)).2.2, (a0 g (by omega)).2.1, (a0 g (by omega)).2.2]
          exact i4 e g (by omega) (by omega) hne hw
  · refine ⟨_, (h12 σ1 hm.1 _ (fun _ _ => rfl) (fun h => absurd h hn40)).trans (if_pos qon), ?_, (((((FrM.fw (by omega)).tr (FrM.fw (by omega))).tr (FrM.fw (by omega))).tr (FrM.fw (by omega))).tr (FrM.fw (by omega))).tr (FrM.fw (by omega))⟩
    refine hm.row ?_ (fun k hk => by rw [ar_fw_ne (by omega), ar_fw_ne (by omega), ar_fw_ne (by omega), ar_fw_ne (by omega), ar_fw_ne (by omega), ar_fw_ne (by omega)]) ?_ ?_ (Or.inl ?_)
    · rw [ar_fw_ne (by omega), ar_fw_eq, ar_fw_eq, ar_fw_eq, ar_fw_eq, ar_fw_eq, hm.1]
    · rw [ar_fw_eq, upd_ne (by omega), ar_fw_ne (by omega), ar_fw_ne (by omega), ar_fw_ne (by omega), ar_fw_ne (by omega), ar_fw_ne (by omega)]
    · rw [ar_fw_eq, upd_ne (by omega), ar_fw_ne (by omega), ar_fw_ne (by omega), ar_fw_ne (by omega), ar_fw_ne (by omega), ar_fw_ne (by omega)]
    · rw [ar_fw_eq, upd_eq]
end O5
