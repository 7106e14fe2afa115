/-! player, lines, cast, know -/
theorem rd_up {σ : St} {k j i : Nat} {v : Int32} {c : Nat} (h : c ≠ k ∨ i ≠ j) (hi : i < 2 ^ 31) : rd (fw σ k j v) c (nI i) = ar σ c i := by
  rw [rd_ar hi]
  by_cases q : c = k
  · subst q
    rw [ar_fw_eq, upd_ne (by omega)]
  · rw [ar_fw_ne q]
section O3
variable {A : AS} {σ : St}
theorem op_player (x y : Int32) (hI : Inv A) (hC : CR A σ) (hM : MR A σ) : Opn A σ (f_X11_player x y) (f_X12_player x y) := by
  have hi := hI.1.1
  have b0 := hi.1.2.2
  have b1 := hi.2.1.2
  have b2 := hi.2.2.1.2
  have b3 := hi.2.2.2.1.2
  have b4 := hi.2.2.2.2.1.2
  have b5 := hi.2.2.2.2.2.2
  have b6 : cn (aR A) 362 ≤ 50 := (hI.1.2.2.2.2.2.2 1 (by decide)).2.1
  have hc := hC.1.1
  obtain ⟨c1, c2, c3, c4, c5, c6, c7, c8⟩ := hC.1
  obtain ⟨i1, i2, i3, i4, i5, i6, i7⟩ := hI.1
  rcases wi_cases x (n := 10) (by omega) with h0 | ⟨h1, g, hg, rfl⟩
  · refine Opn.err 1 (by decide) hI hC hM ?_ (fun σ hm => ?_)
    · unfold f_X11_player f_X11_player_18; rw [w_10, bd_so, h0, if_pos rfl]; exact bd2_id _
    · unfold f_X12_player f_X12_player_20; rw [m_in10, bd_so, h0, if_pos rfl]; exact bd2_id _
  rcases wi_cases y (n := 100) (by omega) with g0 | ⟨g1, v, hv, rfl⟩
  · refine Opn.err 1 (by decide) hI hC hM ?_ (fun σ hm => ?_)
    · unfold f_X11_player f_X11_player_18; rw [w_10, bd_so, h1, if_neg (by decide), w_100, bd_so, g0, if_pos rfl]; exact bd2_id _
    · unfold f_X12_player f_X12_player_20; rw [m_in10, bd_so, h1, if_neg (by decide), m_in100, bd_so, g0, if_pos rfl]; exact bd2_id _
  obtain ⟨n, hn⟩ : ∃ n, n = cn (aR A) 3 := ⟨_, rfl⟩
  have er : aR A 3 = nI n := by rw [hn]; exact hi.2.2.2.1.1
  have ec : ar σ 1 3 = nI n := hc.2.2.2.trans er
  by_cases q : n < 6
  · refine Opn.mk' (nI n) (sR A (upd (upd (upd (upd (aR A) (220 + 3 * n) (nI g)) (221 + 3 * n) (nI v)) (222 + 3 * n) 0) 3 (nI (n + 1)))) (fw (fw (fw (fw σ 16 n (nI g)) 17 n (nI v)) 18 n 0) 1 3 (nI (n + 1))) ?_ ?_ ?_ (Nat.le_succ _) ?_ hM (fun σ1 hm => ?_)
    · unfold f_X11_player f_X4_addPlayer
      have h31 : n < 2147483648 := by omega
      rw [w_10, bd_so, h1, if_neg (by decide), w_100, bd_so, g1, if_neg (by decide), fd_ar, ec, if_pos (show nI n < 6 from nI_lt q (by decide))]
      simp only [nm_so, chk_so, bd2_so, wr_nI, h31, fd_ar, ar_fw_eq, ar_fw_ne, upd_eq, ec, inb_nI q (show 6 < 2 ^ 31 by decide), nI_1, nI_pred, ne_eq, Nat.reduceEqDiff, not_false_eq_true, Nat.reducePow]
    · refine hC.row' ?_ (fun k hk _ => ?_) rfl (by rw [ar_fw_ne (by omega), ar_fw_ne (by omega), ar_fw_ne (by omega), ar_fw_ne (by omega)])
      · refine ⟨?_, c2.cg ⟨by rw [ar_fw_ne (by omega), ar_fw_ne (by omega), ar_fw_ne (by omega), ar_fw_ne (by omega)], by rw [ar_fw_ne (by omega), ar_fw_ne (by omega), ar_fw_ne (by omega), ar_fw_ne (by omega)]⟩ (by rw [upd_ne (by omega), upd_ne (by omega), upd_ne (by omega), upd_ne (by omega)]) (fun k _ _ => by rw [upd_ne (by omega), upd_ne (by omega), upd_ne (by omega), upd_ne (by omega)]), c3.cg ⟨by rw [ar_fw_ne (by omega), ar_fw_ne (by omega), ar_fw_ne (by omega), ar_fw_ne (by omega)], by rw [ar_fw_ne (by omega), ar_fw_ne (by omega), ar_fw_ne (by omega), ar_fw_ne (by omega)]⟩ (by rw [upd_ne (by omega), upd_ne (by omega), upd_ne (by omega), upd_ne (by omega)]) (fun k _ _ => by rw [upd_ne (by omega), upd_ne (by omega), upd_ne (by omega), upd_ne (by omega)]), c4.cg (fun k _ _ => by rw [ar_fw_ne (by omega), ar_fw_ne (by omega), ar_fw_ne (by omega), ar_fw_ne (by omega)]) (fun k _ => by rw [upd_ne (by omega), upd_ne (by omega), upd_ne (by omega), upd_ne (by omega)]), c5.cg (by rw [ar_fw_ne (by omega), ar_fw_ne (by omega), ar_fw_ne (by omega), ar_fw_ne (by omega)]) (by rw [upd_ne (by omega), upd_ne (by omega), upd_ne (by omega), upd_ne (by omega)]) (fun k _ _ => by rw [upd_ne (by omega), upd_ne (by omega), upd_ne (by omega), upd_ne (by omega)]), c6.cg (by rw [ar_fw_ne (by omega), ar_fw_ne (by omega), ar_fw_ne (by omega), ar_fw_ne (by omega)]) (fun k _ _ => by rw [ar_fw_ne (by omega), ar_fw_ne (by omega), ar_fw_ne (by omega), ar_fw_ne (by omega)]) (Nat.le_refl _) (by rw [upd_ne (by omega), upd_ne (by omega), upd_ne (by omega), upd_ne (by omega)]) (fun p _ k _ _ => by rw [upd_ne (by omega), upd_ne (by omega), upd_ne (by omega), upd_ne (by omega)]), c7.cg (fun k _ _ => by rw [ar_fw_ne (by omega), ar_fw_ne (by omega), ar_fw_ne (by omega), ar_fw_ne (by omega)]) (by rw [upd_ne (by omega), upd_ne (by omega), upd_ne (by omega), upd_ne (by omega)]) (fun k _ _ => by rw [upd_ne (by omega), upd_ne (by omega), upd_ne (by omega), upd_ne (by omega)]), ?_⟩
        · refine ⟨?_, ?_, ?_, ?_⟩
          · rw [ar_fw_eq, upd_ne (by omega), ar_fw_ne (by omega), ar_fw_ne (by omega), ar_fw_ne (by omega), upd_ne (by omega), upd_ne (by omega), upd_ne (by omega), upd_ne (by omega)]; exact c1.1
          · rw [ar_fw_eq, upd_ne (by omega), ar_fw_ne (by omega), ar_fw_ne (by omega), ar_fw_ne (by omega), upd_ne (by omega), upd_ne (by omega), upd_ne (by omega), upd_ne (by omega)]; exact c1.2.1
          · rw [ar_fw_eq, upd_ne (by omega), ar_fw_ne (by omega), ar_fw_ne (by omega), ar_fw_ne (by omega), upd_ne (by omega), upd_ne (by omega), upd_ne (by omega), upd_ne (by omega)]; exact c1.2.2.1
          · rw [ar_fw_eq, upd_eq, upd_eq]
        · intro k hk
          rw [cn_nI (upd_eq _ _ _) (by omega)] at hk
          show ar _ 16 k = _ ∧ ar _ 17 k = _ ∧ ar _ 18 k = _
          rw [ar_fw_ne (by omega), ar_fw_ne (by omega), ar_fw_ne (by omega), ar_fw_eq, ar_fw_ne (by omega), ar_fw_ne (by omega), ar_fw_eq, ar_fw_ne (by omega), ar_fw_ne (by omega), ar_fw_eq, ar_fw_ne (by omega), ar_fw_ne (by omega)]
          by_cases qk : k = n
          · subst qk
            rw [upd_eq, upd_eq, upd_eq, upd_ne (by omega), upd_ne (by omega), upd_ne (by omega), upd_eq, upd_ne (by omega), upd_ne (by omega), upd_eq, upd_ne (by omega), upd_eq]
            exact ⟨rfl, rfl, rfl⟩
          · rw [upd_ne qk, upd_ne qk, upd_ne qk, upd_ne (by omega), upd_ne (by omega), upd_ne (by omega), upd_ne (by omega), upd_ne (by omega), upd_ne (by omega), upd_ne (by omega), upd_ne (by omega), upd_ne (by omega), upd_ne (by omega), upd_ne (by omega), upd_ne (by omega)]
            exact c8 k (by omega)
      · unfold PC at hk; rw [ar_fw_ne (by omega), ar_fw_ne (by omega), ar_fw_ne (by omega), ar_fw_ne (by omega)]
    · exact (((FrC.fw (by omega)).tr (FrC.fw (by omega))).tr (FrC.fw (by omega))).tr (FrC.fw (by omega))
    · refine hI.row ⟨ICn.of ((by rw [upd_ne (by omega), upd_ne (by omega), upd_ne (by omega), upd_ne (by omega)] : _ = aR A 0).trans hi.1.1) hi.1.2 ((by rw [upd_ne (by omega), upd_ne (by omega), upd_ne (by omega), upd_ne (by omega)] : _ = aR A 1).trans hi.2.1.1) hi.2.1.2 ((by rw [upd_ne (by omega), upd_ne (by omega), upd_ne (by omega), upd_ne (by omega)] : _ = aR A 2).trans hi.2.2.1.1) hi.2.2.1.2 (upd_eq _ _ _) (by omega) ((by rw [upd_ne (by omega), upd_ne (by omega), upd_ne (by omega), upd_ne (by omega)] : _ = aR A 4).trans hi.2.2.2.2.1.1) hi.2.2.2.2.1.2 ((by rw [upd_ne (by omega), upd_ne (by omega), upd_ne (by omega), upd_ne (by omega)] : _ = aR A 5).trans hi.2.2.2.2.2.1) hi.2.2.2.2.2.2, i2.mo (by rw [upd_ne (by omega), upd_ne (by omega), upd_ne (by omega), upd_ne (by omega)]) ?_ (fun k _ _ => by rw [upd_ne (by omega), upd_ne (by omega), upd_ne (by omega), upd_ne (by omega)]), i3.cg (by rw [upd_ne (by omega), upd_ne (by omega), upd_ne (by omega), upd_ne (by omega)]) (by rw [upd_ne (by omega), upd_ne (by omega), upd_ne (by omega), upd_ne (by omega)]) (by rw [upd_ne (by omega), upd_ne (by omega), upd_ne (by omega), upd_ne (by omega)]) (fun k _ _ => by rw [upd_ne (by omega), upd_ne (by omega), upd_ne (by omega), upd_ne (by omega)]), i4.cg (by rw [upd_ne (by omega), upd_ne (by omega), upd_ne (by omega), upd_ne (by omega)]) (fun k _ _ => by rw [upd_ne (by omega), upd_ne (by omega), upd_ne (by omega), upd_ne (by omega)]), ?_, i6.cg (by rw [upd_ne (by omega), upd_ne (by omega), upd_ne (by omega), upd_ne (by omega)]) (fun k _ _ => by rw [upd_ne (by omega), upd_ne (by omega), upd_ne (by omega), upd_ne (by omega)]), i7.cg (fun k _ => by rw [upd_ne (by omega), upd_ne (by omega), upd_ne (by omega), upd_ne (by omega)])⟩
      · rw [cn_nI (upd_eq _ _ _) (by omega)]; omega
      · intro k hk
        rw [cn_nI (upd_eq _ _ _) (by omega)] at hk
        by_cases qk : k = n
        · subst qk
          have e0 : (upd (upd (upd (upd (aR A) (220 + 3 * k) (nI g)) (221 + 3 * k) (nI v)) (222 + 3 * k) 0) 3 (nI (k + 1))) (220 + 3 * k) = nI g := by rw [upd_ne (by omega), upd_ne (by omega), upd_ne (by omega), upd_eq]
          have e1 : (upd (upd (upd (upd (aR A) (220 + 3 * k) (nI g)) (221 + 3 * k) (nI v)) (222 + 3 * k) 0) 3 (nI (k + 1))) (221 + 3 * k) = nI v := by rw [upd_ne (by omega), upd_ne (by omega), upd_eq]
          rw [cn_nI e0 (by omega), cn_nI e1 (by omega), e0, e1]
          exact ⟨⟨rfl, hg⟩, ⟨rfl, hv⟩⟩
        · unfold cn
          rw [upd_ne (by omega), upd_ne (by omega), upd_ne (by omega), upd_ne (by omega), upd_ne (by omega), upd_ne (by omega), upd_ne (by omega), upd_ne (by omega)]
          exact i5 k (by omega)
    · refine ⟨fw (fw (fw (fw σ1 84 (220 + 3 * n) (nI g)) 84 (221 + 3 * n) (nI v)) 84 (222 + 3 * n) 0) 84 3 (nI (n + 1)), ?_, ?_, (((FrM.fw (by omega)).tr (FrM.fw (by omega))).tr (FrM.fw (by omega))).tr (FrM.fw (by omega))⟩
      · unfold f_X12_player
        have e3 : rd σ1 84 3 = nI n := by rw [← er, ← hm.1]; rfl
        have x0 : (220 + (3 * nI n) : Int32) = nI (220 + 3 * n) := by rw [← nI_add, ← pk_mul]; rfl
        have e3' : rd (fw (fw (fw σ1 84 (220 + 3 * n) (nI g)) 84 (221 + 3 * n) (nI v)) 84 (222 + 3 * n) 0) 84 (nI 3) = nI n := by rw [rd_ar (by omega), ar_fw_eq, upd_ne (by omega), ar_fw_eq, upd_ne (by omega), ar_fw_eq, upd_ne (by omega)]; exact e3
        rw [m_in10, bd_so, h1, if_neg (by decide), m_in100, bd_so, g1, if_neg (by decide), chk_t (by decide), e3, if_neg (fun h => by have := (nI_eq (a := n) (b := 6) (by omega) (by decide)).mp h; omega), x0, show (1 : Int32) = nI 1 from rfl, show (2 : Int32) = nI 2 from rfl, nI_add, nI_add, inb_nI (by omega) (by decide), chk_so, nm_so, inb_nI (by omega) (by decide), chk_so, nm_so, inb_nI (by omega) (by decide), chk_so, nm_so, nm_so, wr_nI _ (by omega), wr_nI _ (by omega), wr_nI _ (by omega), show 220 + 3 * n + 1 = 221 + 3 * n by omega, show 220 + 3 * n + 2 = 222 + 3 * n by omega, show (3 : Int32) = nI 3 from rfl, wr_nI _ (by omega), e3', nI_add, rd_ar (by omega), ar_fw_eq, upd_eq, pk_sub (by omega), Nat.add_sub_cancel]
      · refine hm.row ?_ (fun k hk => by rw [ar_fw_ne (by omega), ar_fw_ne (by omega), ar_fw_ne (by omega), ar_fw_ne (by omega)]) (by rw [ar_fw_ne (by omega), ar_fw_ne (by omega), ar_fw_ne (by omega), ar_fw_ne (by omega)]) (by rw [ar_fw_ne (by omega), ar_fw_ne (by omega), ar_fw_ne (by omega), ar_fw_ne (by omega)]) (hm.lay ?_ (fun k hk => by rw [ar_fw_ne (by omega), ar_fw_ne (by omega), ar_fw_ne (by omega), ar_fw_ne (by omega)]) (by rw [ar_fw_ne (by omega), ar_fw_ne (by omega), ar_fw_ne (by omega), ar_fw_ne (by omega)]))
        · rw [ar_fw_eq, ar_fw_eq, ar_fw_eq, ar_fw_eq, hm.1]
        · exact ⟨by rw [upd_ne (by omega), upd_ne (by omega), upd_ne (by omega), upd_ne (by omega)], by rw [upd_ne (by omega), upd_ne (by omega), upd_ne (by omega), upd_ne (by omega)], fun p hp => ⟨by rw [upd_ne (by omega), upd_ne (by omega), upd_ne (by omega), upd_ne (by omega)], by rw [upd_ne (by omega), upd_ne (by omega), upd_ne (by omega), upd_ne (by omega)]⟩, fun k _ _ => by rw [upd_ne (by omega), upd_ne (by omega), upd_ne (by omega), upd_ne (by omega)], fun k _ _ => by rw [upd_ne (by omega), upd_ne (by omega), upd_ne (by omega), upd_ne (by omega)]⟩
  · have e6 : n = 6 := by omega
    subst e6
    refine Opn.err 4 (by decide) hI hC hM ?_ (fun σ hm => ?_)
    · unfold f_X11_player
      rw [w_10, bd_so, h1, if_neg (by decide), w_100, bd_so, g1, if_neg (by decide), fd_ar, ec, if_neg (by decide)]; exact bd2_id _
    · unfold f_X12_player
      rw [m_in10, bd_so, h1, if_neg (by decide), m_in100, bd_so, g1, if_neg (by decide), chk_t (by decide), show rd σ 84 3 = nI 6 from by rw [← er, ← hm.1]; rfl, if_pos (by decide)]; exact bd2_id _
theorem op_cast (x y : Int32) (hI : Inv A) (hC : CR A σ) (hM : MR A σ) : Opn A σ (f_X11_cast x y) (f_X12_cast x y) := by
  have hi := hI.1.1
  have b0 := hi.1.2.2
  have b1 := hi.2.1.2
  have b2 := hi.2.2.1.2
  have b3 := hi.2.2.2.1.2
  have b4 := hi.2.2.2.2.1.2
  have b5 := hi.2.2.2.2.2.2
  have b6 : cn (aR A) 362 ≤ 50 := (hI.1.2.2.2.2.2.2 1 (by decide)).2.1
  have hc := hC.1.1
  obtain ⟨c1, c2, c3, c4, c5, c6, c7, c8⟩ := hC.1
  obtain ⟨i1, i2, i3, i4, i5, i6, i7⟩ := hI.1
  rcases wi_cases x (n := cn (aR A) 1) (by omega) with h0 | ⟨h1, p, hp, rfl⟩
  · refine Opn.err 1 (by decide) hI hC hM ?_ (fun σ hm => ?_)
    · unfold f_X11_cast f_X11_cast_22; rw [e_hasPart _ hi hc, bd_so, h0, if_pos rfl]; exact bd2_id _
    · unfold f_X12_cast f_X12_cast_21; rw [m_isPart _ hi hm.1, bd_so, h0, if_pos rfl]; exact bd2_id _
  have key : (y = -1 ∨ (y = nI (cn (fun _ => y) 0) ∧ cn (fun _ => y) 0 < cn (aR A) 3)) → f_X11_cast (nI p) y σ = some (aR A (14 + 5 * p), fw σ 11 p y) → (∀ σ1, ar σ1 84 = aR A → f_X12_cast (nI p) y σ1 = f_X12_cast_27 (nI p) y σ1) → Opn A σ (f_X11_cast (nI p) y) (f_X12_cast (nI p) y) := by
    intro hy k11 k12
    refine Opn.mk' (aR A (14 + 5 * p)) (sR A (upd (aR A) (14 + 5 * p) y)) (fw σ 11 p y) k11 ?_ (FrC.fw (by omega)) (Nat.le_succ _) ?_ hM (fun σ1 hm => ?_)
    · refine hC.row' ?_ (fun k hk _ => ?_) rfl (by rw [ar_fw_ne (by omega)])
      · refine ⟨c1.cg (by rw [ar_fw_ne (by omega)]) (fun k _ => by rw [upd_ne (by omega)]), c2.cg ⟨by rw [ar_fw_ne (by omega)], by rw [ar_fw_ne (by omega)]⟩ (by rw [upd_ne (by omega)]) (fun k _ _ => by rw [upd_ne (by omega)]), c3.cg ⟨by rw [ar_fw_ne (by omega)], by rw [ar_fw_ne (by omega)]⟩ (by rw [upd_ne (by omega)]) (fun k _ _ => by rw [upd_ne (by omega)]), c4.cg (fun k _ _ => by rw [ar_fw_ne (by omega)]) (fun k _ => by rw [upd_ne (by omega)]), ?_, c6.cg (by rw [ar_fw_ne (by omega)]) (fun k _ _ => by rw [ar_fw_ne (by omega)]) (Nat.le_refl _) (by rw [upd_ne (by omega)]) (fun p _ k _ _ => by rw [upd_ne (by omega)]), c7.cg (fun k _ _ => by rw [ar_fw_ne (by omega)]) (by rw [upd_ne (by omega)]) (fun k _ _ => by rw [upd_ne (by omega)]), c8.cg (fun k _ _ => by rw [ar_fw_ne (by omega)]) (by rw [upd_ne (by omega)]) (fun k _ _ => by rw [upd_ne (by omega)])⟩
        intro k hk
        rw [cn_cong (show upd (aR A) (14 + 5 * p) y 1 = aR A 1 from by rw [upd_ne (by omega)])] at hk
        show ar _ 11 k = _
        rw [ar_fw_eq]
        by_cases qk : k = p
        · subst qk; rw [upd_eq, upd_eq]
        · rw [upd_ne qk, upd_ne (by omega)]; exact c5 k hk
      · unfold PC at hk; rw [ar_fw_ne (by omega)]
    · refine hI.row ⟨ICn.of ((by rw [upd_ne (by omega)] : _ = aR A 0).trans hi.1.1) hi.1.2 ((by rw [upd_ne (by omega)] : _ = aR A 1).trans hi.2.1.1) hi.2.1.2 ((by rw [upd_ne (by omega)] : _ = aR A 2).trans hi.2.2.1.1) hi.2.2.1.2 ((by rw [upd_ne (by omega)] : _ = aR A 3).trans hi.2.2.2.1.1) hi.2.2.2.1.2 ((by rw [upd_ne (by omega)] : _ = aR A 4).trans hi.2.2.2.2.1.1) hi.2.2.2.2.1.2 ((by rw [upd_ne (by omega)] : _ = aR A 5).trans hi.2.2.2.2.2.1) hi.2.2.2.2.2.2, ?_, i3.cg (by rw [upd_ne (by omega)]) (by rw [upd_ne (by omega)]) (by rw [upd_ne (by omega)]) (fun k _ _ => by rw [upd_ne (by omega)]), i4.cg (by rw [upd_ne (by omega)]) (fun k _ _ => by rw [upd_ne (by omega)]), i5.cg (by rw [upd_ne (by omega)]) (fun k _ _ => by rw [upd_ne (by omega)]), i6.cg (by rw [upd_ne (by omega)]) (fun k _ _ => by rw [upd_ne (by omega)]), i7.cg (fun k _ => by rw [upd_ne (by omega)])⟩
      intro k hk
      rw [cn_cong (show upd (aR A) (14 + 5 * p) y 1 = aR A 1 from by rw [upd_ne (by omega)])] at hk
      have e0 : upd (aR A) (14 + 5 * p) y (10 + 5 * k) = aR A (10 + 5 * k) := by rw [upd_ne (by omega)]
      have e1 : upd (aR A) (14 + 5 * p) y (11 + 5 * k) = aR A (11 + 5 * k) := by rw [upd_ne (by omega)]
      have e2 : upd (aR A) (14 + 5 * p) y (12 + 5 * k) = aR A (12 + 5 * k) := by rw [upd_ne (by omega)]
      have e3 : upd (aR A) (14 + 5 * p) y (13 + 5 * k) = aR A (13 + 5 * k) := by rw [upd_ne (by omega)]
      rw [cn_cong e0, cn_cong e1, cn_cong e2, cn_cong e3, e0, e1, e2, e3, cn_cong (show upd (aR A) (14 + 5 * p) y 3 = aR A 3 from by rw [upd_ne (by omega)])]
      refine ⟨(i2 k hk).1, (i2 k hk).2.1, (i2 k hk).2.2.1, (i2 k hk).2.2.2.1, ?_⟩
      by_cases qk : k = p
      · subst qk
        unfold cn
        rw [upd_eq]
        exact hy
      · have e4 : upd (aR A) (14 + 5 * p) y (14 + 5 * k) = aR A (14 + 5 * k) := by rw [upd_ne (by omega)]
        rw [cn_cong e4, e4]
        exact (i2 k hk).2.2.2.2
    · refine ⟨fw σ1 84 (14 + 5 * p) y, ?_, ?_, FrM.fw (by omega)⟩
      · rw [k12 σ1 hm.1]
        unfold f_X12_cast_27
        rw [m_it4 (by omega) hm.1, bd_so, show (10 + (5 * nI p)) + 4 = nI (14 + 5 * p) from (ix5 p 4).trans (by rw [show 10 + 5 * p + 4 = 14 + 5 * p by omega]), inb_nI (by omega) (by decide), chk_so, nm_so, wr_nI _ (by omega)]
      · refine hm.row ?_ (fun k hk => by rw [ar_fw_ne (by omega)]) (by rw [ar_fw_ne (by omega)]) (by rw [ar_fw_ne (by omega)]) (hm.lay ?_ (fun k hk => by rw [ar_fw_ne (by omega)]) (by rw [ar_fw_ne (by omega)]))
        · rw [ar_fw_eq, hm.1]
        · exact ⟨by rw [upd_ne (by omega)], by rw [upd_ne (by omega)], fun p hp => ⟨by rw [upd_ne (by omega)], by rw [upd_ne (by omega)]⟩, fun k _ _ => by rw [upd_ne (by omega)], fun k _ _ => by rw [upd_ne (by omega)]⟩
  have hrd : rd σ 11 (nI p) = aR A (14 + 5 * p) := by rw [rd_ar (by omega)]; exact c5 p hp
  by_cases qy : y = -1
  · refine key (Or.inl qy) ?_ (fun σ1 hm => ?_)
    · unfold f_X11_cast f_X4_isPlayerOrNobody f_X4_isPlayerOrNobody_13
      rw [e_hasPart _ hi hc, bd_so, h1, if_neg (by decide), if_pos qy, bd_so, if_neg (by decide), inb_nI (show p < 10 by omega) (by decide), chk_so, nm_so, wr_nI _ (by omega), hrd]
    · unfold f_X12_cast
      rw [m_isPart _ hi hm, bd_so, h1, if_neg (by decide), if_pos qy]
  · rcases wi_cases y (n := cn (aR A) 3) (by omega) with g0 | ⟨g1, v, hv, rfl⟩
    · refine Opn.err 1 (by decide) hI hC hM ?_ (fun σ hm => ?_)
      · unfold f_X11_cast f_X4_isPlayerOrNobody f_X11_cast_22
        rw [e_hasPart _ hi hc, bd_so, h1, if_neg (by decide), if_neg qy, e_hasPlayer _ hi hc, bd_so, g0, if_pos rfl, bd_so, if_pos rfl]; exact bd2_id _
      · unfold f_X12_cast f_X12_cast_21
        rw [m_isPart _ hi hm.1, bd_so, h1, if_neg (by decide), if_neg qy, m_isPlayer _ hi hm.1, bd_so, g0, if_pos rfl]; exact bd2_id _
    · refine key (Or.inr ?_) ?_ (fun σ1 hm => ?_)
      · rw [cn_nI (r := fun _ => nI v) (k := 0) rfl (by omega)]
        exact ⟨rfl, hv⟩
      · unfold f_X11_cast f_X4_isPlayerOrNobody f_X4_isPlayerOrNobody_13
        rw [e_hasPart _ hi hc, bd_so, h1, if_neg (by decide), if_neg qy, e_hasPlayer _ hi hc, bd_so, g1, if_neg (by decide), bd_so, if_neg (by decide), inb_nI (show p < 10 by omega) (by decide), chk_so, nm_so, wr_nI _ (by omega), hrd]
      · unfold f_X12_cast
        rw [m_isPart _ hi hm, bd_so, h1, if_neg (by decide), if_neg qy, m_isPlayer _ hi hm, bd_so, g1, if_neg (by decide)]
/-- the last line of all entries -/
def lst (r : Nat → Int32) : Int32 := lp (fun e s => if s < r (62 + 4 * e) then r (62 + 4 * e) else s) (cn r 2) (-1)
theorem e_lastLine {r : Nat → Int32} (hI : ICn r) (hc : CSc 1 r σ) (he : CEn 10 r σ) : f_X4_lastLine σ = some (lst r) := by
  unfold f_X4_lastLine f_X4_lastLine_4 lst
  have h40 := hI.2.2.1.2
  refine (it_lp (fun k (s : Int32) => (s, nI k)) (fun e s => if s < r (62 + 4 * e) then r (62 + 4 * e) else s) (cn r 2) (-1) (fun k s hk => ?_)).trans (it_r ?_)
  · show b_X4_lastLine_4 s (nI k) σ = _
    unfold b_X4_lastLine_4
    rw [fd_ar, hc.2.2.1, hI.2.2.1.1, if_pos (nI_lt hk (by omega)), inb_nI (show k < 40 by omega) (by decide), chk_so, rd_ar (by omega), (he k hk).2.2.1, nI_1]
  · show b_X4_lastLine_4 _ (nI (cn r 2)) σ = _
    unfold b_X4_lastLine_4
    rw [fd_ar, hc.2.2.1, hI.2.2.1.1, if_neg (nI_nlt (Nat.le_refl _) (by omega))]
theorem lst_lt {r : Nat → Int32} {x : Int32} (hx : (-1 : Int32) < x) : lst r < x ↔ ∀ e, e < cn r 2 → r (62 + 4 * e) < x := by
  unfold lst
  have H : ∀ n, lp (fun e s => if s < r (62 + 4 * e) then r (62 + 4 * e) else s) n (-1) < x ↔ ∀ e, e < n → r (62 + 4 * e) < x := by
    intro n
    induction n with
    | zero => exact ⟨fun _ e he => absurd he (Nat.not_lt_zero e), fun _ => hx⟩
    | succ n ih =>
      show (if lp _ n _ < r (62 + 4 * n) then r (62 + 4 * n) else lp _ n _) < x ↔ _
      by_cases q : lp (fun e s => if s < r (62 + 4 * e) then r (62 + 4 * e) else s) n (-1) < r (62 + 4 * n)
      · rw [if_pos q]
        constructor
        · intro h e he
          by_cases qe : e = n
          · rw [qe]; exact h
          · exact ih.mp (Int32.lt_trans q h) e (by omega)
        · exact fun h => h n (by omega)
      · rw [if_neg q]
        constructor
        · intro h e he
          by_cases qe : e = n
          · rw [qe]; exact Int32.lt_of_le_of_lt (Int32.not_lt.mp q) h
          · exact ih.mp h e (by omega)
        · exact fun h => ih.mpr (fun e he => h e (by omega))
  exact H (cn r 2)
theorem op_lines (x : Int32) (hI : Inv A) (hC : CR A σ) (hM : MR A σ) : Opn A σ (f_X11_lines x) (f_X12_lines x) := by
  have hi := hI.1.1
  have b0 := hi.1.2.2
  have b1 := hi.2.1.2
  have b2 := hi.2.2.1.2
  have b3 := hi.2.2.2.1.2
  have b4 := hi.2.2.2.2.1.2
  have b5 := hi.2.2.2.2.2.2
  have b6 : cn (aR A) 362 ≤ 50 := (hI.1.2.2.2.2.2.2 1 (by decide)).2.1
  have hc := hC.1.1
  obtain ⟨c1, c2, c3, c4, c5, c6, c7, c8⟩ := hC.1
  obtain ⟨i1, i2, i3, i4, i5, i6, i7⟩ := hI.1
  by_cases q1 : x < 10
  · refine Opn.err 1 (by decide) hI hC hM ?_ (fun σ hm => ?_)
    · unfold f_X11_lines f_X11_lines_13; rw [if_pos q1]; exact bd2_id _
    · unfold f_X12_lines f_X12_in; rw [if_pos q1, bd_so, if_pos rfl]; exact bd2_id _
  by_cases q2 : 200 < x
  · refine Opn.err 1 (by decide) hI hC hM ?_ (fun σ hm => ?_)
    · unfold f_X11_lines f_X11_lines_13; rw [if_neg q1, if_pos q2]; exact bd2_id _
    · unfold f_X12_lines f_X12_in; rw [if_neg q1, if_pos q2, bd_so, if_pos rfl]; exact bd2_id _
  obtain ⟨L, hL1, hL2, rfl⟩ := rng (a := 10) (b := 200) (by decide) (by decide) q1 q2
  have hx : (-1 : Int32) < nI L := by
    rw [Int32.lt_iff_toInt_lt, nI_toInt (by omega)]
    have : (-1 : Int32).toInt = -1 := by decide
    omega
  have hm12 : ∀ σ1, ar σ1 84 = aR A → f_X12_lines (nI L) σ1 = if anyN (fun e => decide (¬ aR A (62 + 4 * e) < nI L)) (cn (aR A) 2) = true then f_X12_finds 3 σ1 else f_X12_lines_52 (nI L) σ1 := by
    intro σ1 hm
    have e2 : rd σ1 84 2 = nI (cn (aR A) 2) := by rw [← hi.2.2.1.1, ← hm]; rfl
    unfold f_X12_lines f_X12_in
    rw [if_neg q1, if_neg q2, bd_so, if_neg (by decide)]
    unfold f_X12_lines_20
    have hf : f_X12_lines_40 σ1 = some (-1000000 - 3, fw σ1 86 3 (ar σ1 86 3 + 1)) := (bd2_id _).trans (e_finds (by decide))
    have hg : f_X12_lines_52 (nI L) σ1 = some (rd σ1 84 0, wr σ1 84 0 (nI L)) := by unfold f_X12_lines_52; rw [chk_t (by decide)]; rfl
    rw [show f_X12_finds 3 σ1 = some (-1000000 - 3, fw σ1 86 3 (ar σ1 86 3 + 1)) from e_finds (by decide), hg]
    refine (it_any (fun k => nI k) (fun e => decide (¬ aR A (62 + 4 * e) < nI L)) (cn (aR A) 2) (-1000000 - 3, fw σ1 86 3 (ar σ1 86 3 + 1)) (rd σ1 84 0, wr σ1 84 0 (nI L)) (fun k hk hp => ?_) (fun k hk hp => ?_) ?_).trans ?_
    · show b_X12_lines_20 (nI L) (nI k) σ1 = _
      unfold b_X12_lines_20
      rw [chk_t (by decide), e2, if_pos (nI_lt hk (by omega)), m_eo2 (by omega) hm, bd_so, if_neg (of_decide_eq_true hp), hf]; rfl
    · show b_X12_lines_20 (nI L) (nI k) σ1 = _
      unfold b_X12_lines_20
      rw [chk_t (by decide), e2, if_pos (nI_lt hk (by omega)), m_eo2 (by omega) hm, bd_so, if_pos (Classical.not_not.mp (of_decide_eq_false hp)), nI_1]
    · show b_X12_lines_20 (nI L) (nI (cn (aR A) 2)) σ1 = _
      unfold b_X12_lines_20
      rw [chk_t (by decide), e2, if_neg (nI_nlt (Nat.le_refl _) (by omega)), hg]; rfl
    · split <;> rfl
  have h11 : f_X11_lines (nI L) σ = if lst (aR A) < nI L then some (aR A 0, fw σ 1 0 (nI L)) else f_X11_error 3 σ := by
    unfold f_X11_lines
    rw [if_neg q1, if_neg q2, e_lastLine hi hc c7, bd_so, nm_so, fd_ar, c1.1]
    split
    · rfl
    · exact bd2_id _
  by_cases q : lst (aR A) < nI L
  · have hall := (lst_lt hx).mp q
    have hno : anyN (fun e => decide (¬ aR A (62 + 4 * e) < nI L)) (cn (aR A) 2) = false := anyN_f.mpr (fun k hk => decide_eq_false (fun h => h (hall k hk)))
    refine Opn.mk' (aR A 0) (sR A (upd (aR A) 0 (nI L))) (fw σ 1 0 (nI L)) (h11.trans (if_pos q)) ?_ (FrC.fw (by omega)) (Nat.le_succ _) ?_ hM (fun σ1 hm => ?_)
    · refine hC.row' ?_ (fun k hk _ => ?_) rfl (by rw [ar_fw_ne (by omega)])
      · refine ⟨?_, c2.cg ⟨by rw [ar_fw_ne (by omega)], by rw [ar_fw_ne (by omega)]⟩ (by rw [upd_ne (by omega)]) (fun k _ _ => by rw [upd_ne (by omega)]), c3.cg ⟨by rw [ar_fw_ne (by omega)], by rw [ar_fw_ne (by omega)]⟩ (by rw [upd_ne (by omega)]) (fun k _ _ => by rw [upd_ne (by omega)]), c4.cg (fun k _ _ => by rw [ar_fw_ne (by omega)]) (fun k _ => by rw [upd_ne (by omega)]), c5.cg (by rw [ar_fw_ne (by omega)]) (by rw [upd_ne (by omega)]) (fun k _ _ => by rw [upd_ne (by omega)]), c6.cg (by rw [ar_fw_ne (by omega)]) (fun k _ _ => by rw [ar_fw_ne (by omega)]) (Nat.le_refl _) (by rw [upd_ne (by omega)]) (fun p _ k _ _ => by rw [upd_ne (by omega)]), c7.cg (fun k _ _ => by rw [ar_fw_ne (by omega)]) (by rw [upd_ne (by omega)]) (fun k _ _ => by rw [upd_ne (by omega)]), c8.cg (fun k _ _ => by rw [ar_fw_ne (by omega)]) (by rw [upd_ne (by omega)]) (fun k _ _ => by rw [upd_ne (by omega)])⟩
        refine ⟨?_, ?_, ?_, ?_⟩
        · rw [ar_fw_eq, upd_eq, upd_eq]
        · rw [ar_fw_eq, upd_ne (by omega), upd_ne (by omega)]; exact c1.2.1
        · rw [ar_fw_eq, upd_ne (by omega), upd_ne (by omega)]; exact c1.2.2.1
        · rw [ar_fw_eq, upd_ne (by omega), upd_ne (by omega)]; exact c1.2.2.2
      · unfold PC at hk; rw [ar_fw_ne (by omega)]
    · refine hI.row ⟨ICn.of (upd_eq _ _ _) (by omega) ((by rw [upd_ne (by omega)] : _ = aR A 1).trans hi.2.1.1) hi.2.1.2 ((by rw [upd_ne (by omega)] : _ = aR A 2).trans hi.2.2.1.1) hi.2.2.1.2 ((by rw [upd_ne (by omega)] : _ = aR A 3).trans hi.2.2.2.1.1) hi.2.2.2.1.2 ((by rw [upd_ne (by omega)] : _ = aR A 4).trans hi.2.2.2.2.1.1) hi.2.2.2.2.1.2 ((by rw [upd_ne (by omega)] : _ = aR A 5).trans hi.2.2.2.2.2.1) hi.2.2.2.2.2.2, i2.cg (by rw [upd_ne (by omega)]) (by rw [upd_ne (by omega)]) (fun k _ _ => by rw [upd_ne (by omega)]), ?_, i4.cg (by rw [upd_ne (by omega)]) (fun k _ _ => by rw [upd_ne (by omega)]), i5.cg (by rw [upd_ne (by omega)]) (fun k _ _ => by rw [upd_ne (by omega)]), i6.cg (by rw [upd_ne (by omega)]) (fun k _ _ => by rw [upd_ne (by omega)]), i7.cg (fun k _ => by rw [upd_ne (by omega)])⟩
      intro e he
      rw [cn_cong (show upd (aR A) 0 (nI L) 2 = aR A 2 from by rw [upd_ne (by omega)])] at he
      have e0 : upd (aR A) 0 (nI L) (60 + 4 * e) = aR A (60 + 4 * e) := by rw [upd_ne (by omega)]
      have e1 : upd (aR A) 0 (nI L) (61 + 4 * e) = aR A (61 + 4 * e) := by rw [upd_ne (by omega)]
      have e2 : upd (aR A) 0 (nI L) (62 + 4 * e) = aR A (62 + 4 * e) := by rw [upd_ne (by omega)]
      have e3 : upd (aR A) 0 (nI L) (63 + 4 * e) = aR A (63 + 4 * e) := by rw [upd_ne (by omega)]
      rw [cn_cong e0, cn_cong e1, cn_cong e2, cn_cong e3, e0, e1, e2, e3, cn_cong (show upd (aR A) 0 (nI L) 1 = aR A 1 from by rw [upd_ne (by omega)]), cn_nI (upd_eq (aR A) 0 (nI L)) (by omega)]
      have h := i3 e he
      refine ⟨h.1, h.2.1, ⟨h.2.2.1.1, ?_⟩, h.2.2.2⟩
      have h2 := hall e he
      rw [h.2.2.1.1] at h2
      exact (nI_ltI (by have := h.2.2.1.2; omega) (by omega)).mp h2
    · refine ⟨fw σ1 84 0 (nI L), ?_, ?_, FrM.fw (by omega)⟩
      · rw [hm12 σ1 hm.1, hno, if_neg (by decide)]
        unfold f_X12_lines_52
        rw [chk_t (by decide), ← hm.1]
        rfl
      · refine hm.row ?_ (fun k hk => by rw [ar_fw_ne (by omega)]) (by rw [ar_fw_ne (by omega)]) (by rw [ar_fw_ne (by omega)]) (hm.lay ?_ (fun k hk => by rw [ar_fw_ne (by omega)]) (by rw [ar_fw_ne (by omega)]))
        · rw [ar_fw_eq, hm.1]
        · exact ⟨by rw [upd_ne (by omega)], by rw [upd_ne (by omega)], fun p hp => ⟨by rw [upd_ne (by omega)], by rw [upd_ne (by omega)]⟩, fun k _ _ => by rw [upd_ne (by omega)], fun k _ _ => by rw [upd_ne (by omega)]⟩
  · have hyes : anyN (fun e => decide (¬ aR A (62 + 4 * e) < nI L)) (cn (aR A) 2) = true := by
      cases e : anyN (fun e => decide (¬ aR A (62 + 4 * e) < nI L)) (cn (aR A) 2)
      · exact absurd ((lst_lt hx).mpr (fun k hk => Classical.not_not.mp (of_decide_eq_false (anyN_f.mp e k hk)))) q
      · rfl
    exact Opn.err 3 (by decide) hI hC hM (h11.trans (if_neg q)) (fun σ1 hm => by rw [hm12 σ1 hm.1, if_pos hyes]; rfl)
end O3
