/-! acts that change a row a little -/
theorem ICn.of {r : Nat → Int32} {L np ne ny nt nw : Nat} (e0 : r 0 = nI L) (h0 : 10 ≤ L ∧ L ≤ 200) (e1 : r 1 = nI np) (h1 : np ≤ 10) (e2 : r 2 = nI ne) (h2 : ne ≤ 40) (e3 : r 3 = nI ny) (h3 : ny ≤ 6) (e4 : r 4 = nI nt) (h4 : nt ≤ 50) (e5 : r 5 = nI nw) (h5 : nw ≤ 20) : ICn r := by
  unfold ICn cn
  rw [e0, e1, e2, e3, e4, e5, nI_clamp (by omega), nI_clamp (by omega), nI_clamp (by omega), nI_clamp (by omega), nI_clamp (by omega), nI_clamp (by omega)]
  exact ⟨⟨rfl, h0⟩, ⟨rfl, h1⟩, ⟨rfl, h2⟩, ⟨rfl, h3⟩, ⟨rfl, h4⟩, ⟨rfl, h5⟩⟩
theorem e_add {σ : St} {c n : Nat} {x : Int32} (hr : isRow c = true) (hs : ar σ c 1 = nI n) (hn : n < alen (c + 1)) (hl : alen (c + 1) < 2 ^ 31) : f_X7_add c x σ = some (fw (fw σ (c + 1) n x) c 1 (nI (n + 1))) := by
  unfold f_X7_add
  rw [hr, chk_so, fd_ar, hs, if_pos (show nI n < Int32.ofNat (alen (c + 1)) from nI_lt hn hl), inb_nI hn hl, chk_so, nm_so, wr_nI _ (by omega), nm_so, fd_ar, ar_fw_ne (by omega), hs, nI_1]
theorem e_addF {σ : St} {c n : Nat} {x : Int32} (hr : isRow c = true) (hs : ar σ c 1 = nI n) (hn : ¬ n < alen (c + 1)) (hl : n < 2 ^ 31) : f_X7_add c x σ = some σ := by
  unfold f_X7_add
  rw [hr, chk_so, fd_ar, hs, if_neg (show ¬ nI n < Int32.ofNat (alen (c + 1)) from nI_nlt (by omega) hl)]
section O2
variable {A : AS} {σ : St}
theorem op_tell (x : Int32) (hI : Inv A) (hC : CR A σ) (hM : MR A σ) : Opn A σ (f_X11_tell x) (f_X12_tell x) := by
  have hi := hI.1.1
  have b0 := hi.1.2.2
  have b1 := hi.2.1.2
  have b2 := hi.2.2.1.2
  have b3 := hi.2.2.2.1.2
  have b4 := hi.2.2.2.2.1.2
  have b5 := hi.2.2.2.2.2.2
  have b6 : cn (aR A) 362 ≤ 50 := (hI.1.2.2.2.2.2.2 1 (by decide)).2.1
  have h20 := hi.2.2.2.2.2.2
  have ec : ar σ 54 1 = nI (cn (aR A) 5) := hC.1.2.2.1.1.trans hi.2.2.2.2.2.1
  by_cases q : cn (aR A) 5 < 20
  · obtain ⟨n, hn⟩ : ∃ n, n = cn (aR A) 5 := ⟨_, rfl⟩
    rw [← hn] at q ec
    have er : aR A 5 = nI n := by rw [hn]; exact hi.2.2.2.2.2.1
    refine Opn.mk' (nI (n + 1)) (sR A (upd (upd (aR A) (290 + n) x) 5 (nI (n + 1)))) (fw (fw σ 55 n x) 54 1 (nI (n + 1))) ?_ ?_ ?_ (Nat.le_succ _) ?_ hM (fun σ1 hm => ?_)
    · unfold f_X11_tell
      rw [fd_ar, ec, if_pos (show nI n < 20 from nI_lt q (by decide)), e_add (c := 54) (n := n) (by decide) ec (show n < 20 from q) (by decide), bd_so, fd_ar, ar_fw_eq, upd_eq]
    · refine hC.row' ?_ (fun k hk _ => ?_) rfl (by rw [ar_fw_ne (by omega), ar_fw_ne (by omega)])
      · obtain ⟨c1, c2, c3, c4, c5, c6, c7, c8⟩ := hC.1
        refine ⟨c1.cg (by rw [ar_fw_ne (by omega), ar_fw_ne (by omega)]) (fun k _ => by rw [upd_ne (by omega), upd_ne (by omega)]), c2.cg ⟨by rw [ar_fw_ne (by omega), ar_fw_ne (by omega)], by rw [ar_fw_ne (by omega), ar_fw_ne (by omega)]⟩ (by rw [upd_ne (by omega), upd_ne (by omega)]) (fun k _ _ => by rw [upd_ne (by omega), upd_ne (by omega)]), ⟨?_, fun i h => ?_⟩, c4.cg (fun k _ _ => by rw [ar_fw_ne (by omega), ar_fw_ne (by omega)]) (fun k _ => by rw [upd_ne (by omega), upd_ne (by omega)]), c5.cg (by rw [ar_fw_ne (by omega), ar_fw_ne (by omega)]) (by rw [upd_ne (by omega), upd_ne (by omega)]) (fun k _ _ => by rw [upd_ne (by omega), upd_ne (by omega)]), c6.cg (by rw [ar_fw_ne (by omega), ar_fw_ne (by omega)]) (fun k _ _ => by rw [ar_fw_ne (by omega), ar_fw_ne (by omega)]) (Nat.le_refl _) (by rw [upd_ne (by omega), upd_ne (by omega)]) (fun p _ k _ _ => by rw [upd_ne (by omega), upd_ne (by omega)]), c7.cg (fun k _ _ => by rw [ar_fw_ne (by omega), ar_fw_ne (by omega)]) (by rw [upd_ne (by omega), upd_ne (by omega)]) (fun k _ _ => by rw [upd_ne (by omega), upd_ne (by omega)]), c8.cg (fun k _ _ => by rw [ar_fw_ne (by omega), ar_fw_ne (by omega)]) (by rw [upd_ne (by omega), upd_ne (by omega)]) (fun k _ _ => by rw [upd_ne (by omega), upd_ne (by omega)])⟩
        · show ar (fw (fw σ 55 n x) 54 1 (nI (n + 1))) 54 1 = _
          rw [ar_fw_eq, upd_eq, upd_eq]
        · rw [cn_nI (upd_eq _ _ _) (by omega)] at h
          show ar (fw (fw σ 55 n x) 54 1 (nI (n + 1))) 55 i = _
          rw [ar_fw_ne (by omega), ar_fw_eq, upd_ne (show 290 + i ≠ 5 by omega)]
          by_cases qi : i = n
          · rw [qi, upd_eq, upd_eq]
          · rw [upd_ne qi, upd_ne (by omega)]
            exact c3.2 i (by omega)
      · unfold PC at hk; rw [ar_fw_ne (by omega), ar_fw_ne (by omega)]
    · exact (FrC.fw (by omega)).tr (FrC.fw (by omega))
    · refine hI.row ?_
      obtain ⟨i1, i2, i3, i4, i5, i6, i7⟩ := hI.1
      exact ⟨ICn.of ((by rw [upd_ne (by omega), upd_ne (by omega)] : _ = aR A 0).trans hi.1.1) hi.1.2 ((by rw [upd_ne (by omega), upd_ne (by omega)] : _ = aR A 1).trans hi.2.1.1) hi.2.1.2 ((by rw [upd_ne (by omega), upd_ne (by omega)] : _ = aR A 2).trans hi.2.2.1.1) hi.2.2.1.2 ((by rw [upd_ne (by omega), upd_ne (by omega)] : _ = aR A 3).trans hi.2.2.2.1.1) hi.2.2.2.1.2 ((by rw [upd_ne (by omega), upd_ne (by omega)] : _ = aR A 4).trans hi.2.2.2.2.1.1) hi.2.2.2.2.1.2 (upd_eq _ _ _) (by omega), i2.cg (by rw [upd_ne (by omega), upd_ne (by omega)]) (by rw [upd_ne (by omega), upd_ne (by omega)]) (fun k _ _ => by rw [upd_ne (by omega), upd_ne (by omega)]), i3.cg (by rw [upd_ne (by omega), upd_ne (by omega)]) (by rw [upd_ne (by omega), upd_ne (by omega)]) (by rw [upd_ne (by omega), upd_ne (by omega)]) (fun k _ _ => by rw [upd_ne (by omega), upd_ne (by omega)]), i4.cg (by rw [upd_ne (by omega), upd_ne (by omega)]) (fun k _ _ => by rw [upd_ne (by omega), upd_ne (by omega)]), i5.cg (by rw [upd_ne (by omega), upd_ne (by omega)]) (fun k _ _ => by rw [upd_ne (by omega), upd_ne (by omega)]), i6.cg (by rw [upd_ne (by omega), upd_ne (by omega)]) (fun k _ _ => by rw [upd_ne (by omega), upd_ne (by omega)]), i7.cg (fun k _ => by rw [upd_ne (by omega), upd_ne (by omega)])⟩
    · refine ⟨fw (fw σ1 84 (290 + n) x) 84 5 (nI (n + 1)), ?_, ?_, (FrM.fw (by omega)).tr (FrM.fw (by omega))⟩
      · unfold f_X12_tell
        have e5 : rd σ1 84 5 = nI n := by rw [← er, ← hm.1]; rfl
        rw [chk_t (by decide), e5, if_neg (fun h => by have := (nI_eq (a := n) (b := 20) (by omega) (by decide)).mp h; omega), show (290 + nI n : Int32) = nI (290 + n) by rw [← nI_add]; rfl, inb_nI (by omega) (by decide), chk_so, nm_so, wr_nI _ (by omega), nm_so, show rd (fw σ1 84 (290 + n) x) 84 5 = nI n by rw [show rd (fw σ1 84 (290 + n) x) 84 5 = ar (fw σ1 84 (290 + n) x) 84 5 from rfl, ar_fw_eq, upd_ne (by omega)]; exact e5, nI_1]
        show some (ar (fw (fw σ1 84 (290 + n) x) 84 5 (nI (n + 1))) 84 5, _) = _
        rw [ar_fw_eq, upd_eq]
        rfl
      · refine hm.row ?_ (fun k hk => by rw [ar_fw_ne (by omega), ar_fw_ne (by omega)]) (by rw [ar_fw_ne (by omega), ar_fw_ne (by omega)]) (by rw [ar_fw_ne (by omega), ar_fw_ne (by omega)]) (hm.lay ?_ (fun k hk => by rw [ar_fw_ne (by omega), ar_fw_ne (by omega)]) (by rw [ar_fw_ne (by omega), ar_fw_ne (by omega)]))
        · rw [ar_fw_eq, ar_fw_eq, hm.1]
        · exact ⟨by rw [upd_ne (by omega), upd_ne (by omega)], by rw [upd_ne (by omega), upd_ne (by omega)], fun p hp => ⟨by rw [upd_ne (by omega), upd_ne (by omega)], by rw [upd_ne (by omega), upd_ne (by omega)]⟩, fun k _ _ => by rw [upd_ne (by omega), upd_ne (by omega)], fun k _ _ => by rw [upd_ne (by omega), upd_ne (by omega)]⟩
  · have e20 : cn (aR A) 5 = 20 := by omega
    refine Opn.err 4 (by decide) hI hC hM ?_ (fun σ hm => ?_)
    · unfold f_X11_tell
      rw [fd_ar, ec, e20, if_neg (by decide)]; exact bd2_id _
    · unfold f_X12_tell
      rw [chk_t (by decide), show rd σ 84 5 = nI 20 from by rw [← e20, ← hi.2.2.2.2.2.1, ← hm.1]; rfl, if_pos (by decide)]; exact bd2_id _
end O2
