/-! shift -/
def why (r : Nat → Int32) (e : Nat) (y : Int32) : Int32 := if lg_cmp ((r (61 + 4 * e)).toInt64 + y.toInt64) 0 < 0 then 1 else if lg_cmp ((r (62 + 4 * e)).toInt64 + y.toInt64) ((r 0).toInt64) < 0 then (if onQ r (r (60 + 4 * e)) (((r (61 + 4 * e)).toInt64 + y.toInt64).toInt32) (((r (62 + 4 * e)).toInt64 + y.toInt64).toInt32) (nI e) = 0 then 0 else 3) else 1
def mvd (r : Nat → Int32) (e : Nat) (y : Int32) : Nat → Int32 := upd (upd r (61 + 4 * e) (r (61 + 4 * e) + y)) (62 + 4 * e) (r (62 + 4 * e) + y)
theorem why_c (r : Nat → Int32) (e : Nat) (y : Int32) : why r e y = 0 ∨ why r e y = 1 ∨ why r e y = 3 := by
  unfold why
  split
  · exact Or.inr (Or.inl rfl)
  · split
    · split
      · exact Or.inl rfl
      · exact Or.inr (Or.inr rfl)
    · exact Or.inr (Or.inl rfl)
section SH
variable {r : Nat → Int32} {σ : St}
theorem e_shiftError {e : Nat} (y : Int32) (hI : ICn r) (hc : CSc 1 r σ) (he : CEn 10 r σ) (h : e < cn r 2) : f_X11_shiftError (nI e) y σ = some (why r e y) := by
  have h40 := hI.2.2.1.2
  unfold f_X11_shiftError why
  rw [e_hasEntry _ hI hc, bd_so, wi_nI h (by omega), if_neg (by decide), inb_nI (show e < 40 by omega) (by decide), chk_so, rd_ar (by omega), rd_ar (by omega), rd_ar (by omega), (he e h).1, (he e h).2.1, (he e h).2.2.1, fd_ar, hc.1, e_isTaken _ _ _ _ hI hc he, bd_so]
  split
  · rfl
  · split
    · split <;> rfl
    · rfl
theorem m_whyNot {e : Nat} (y : Int32) (hI : ICn r) (hm : ar σ 84 = r) (h : e < cn r 2) : f_X12_whyNot (nI e) y σ = some (why r e y) := by
  have h40 := hI.2.2.1.2
  unfold f_X12_whyNot why
  rw [m_isEntry _ hI hm, bd_so, wi_nI h (by omega), if_neg (by decide), m_eo1 (by omega) hm, bd_so, m_eo2 (by omega) hm, bd_so, m_eo0 (by omega) hm, bd_so, chk_t (by decide), show rd σ 84 0 = r 0 from by rw [← hm]; rfl, m_isOn _ _ _ _ hI hm, bd_so]
  split
  · rfl
  · split
    · split <;> rfl
    · rfl
theorem e_delay {e : Nat} (y : Int32) (he : CEn 10 r σ) (h : e < cn r 2) (h40 : cn r 2 ≤ 40) : f_X4_delay (nI e) y σ = some (fw (fw σ 13 e (r (61 + 4 * e) + y)) 14 e (r (62 + 4 * e) + y)) := by
  unfold f_X4_delay
  rw [inb_nI (show e < 40 by omega) (by decide), chk_so, nm_so, nm_so, rd_ar (by omega), show ar σ 13 e = r (61 + 4 * e) from (he e h).2.1, wr_nI _ (by omega), wr_nI _ (by omega), rd_ar (by omega), ar_fw_ne (by omega), show ar σ 14 e = r (62 + 4 * e) from (he e h).2.2.1]
theorem m_moves {e : Nat} (y : Int32) (hm : ar σ 84 = r) (h : e < 40) : f_X12_moves (nI e) y σ = some (fw (fw (fw σ 84 (61 + 4 * e) (r (61 + 4 * e) + y)) 84 (62 + 4 * e) (r (62 + 4 * e) + y)) 6 4 0) := by
  unfold f_X12_moves
  rw [show (60 + (4 * nI e)) + 1 = nI (61 + 4 * e) from (ix4 e 1).trans (by rw [show 60 + 4 * e + 1 = 61 + 4 * e by omega]), show (60 + (4 * nI e)) + 2 = nI (62 + 4 * e) from (ix4 e 2).trans (by rw [show 60 + 4 * e + 2 = 62 + 4 * e by omega]), inb_nI (show 61 + 4 * e < 466 by omega) (by decide), chk_so, nm_so, inb_nI (show 62 + 4 * e < 466 by omega) (by decide), chk_so, nm_so, nm_so, rd_ar (by omega), hm, wr_nI _ (by omega), wr_nI _ (by omega), rd_ar (by omega), ar_fw_eq, upd_ne (by omega), hm]
end SH
theorem CR.mv {A : AS} {σ : St} {e : Nat} (y : Int32) (hI : Inv A) (hC : CR A σ) (h : e < cn (aR A) 2) : CR (sR A (mvd (aR A) e y)) (fw (fw σ 13 e (aR A (61 + 4 * e) + y)) 14 e (aR A (62 + 4 * e) + y)) := by
  have hi := hI.1.1
  have b0 := hi.1.2.2
  have b1 := hi.2.1.2
  have b2 := hi.2.2.1.2
  have b3 := hi.2.2.2.1.2
  have b4 := hi.2.2.2.2.1.2
  have b5 := hi.2.2.2.2.2.2
  have b6 : cn (aR A) 362 ≤ 50 := (hI.1.2.2.2.2.2.2 1 (by decide)).2.1
  have hc := hC.1.1
  obtain ⟨c1, c2, c3, c4, c5, c6, c7, c8⟩ := hC.1
  obtain ⟨i1, i2, i3, i4, i5, i6, i7⟩ := hI.1
  refine hC.row' ?_ (fun k hk _ => ?_) rfl (by rw [ar_fw_ne (by omega), ar_fw_ne (by omega)])
  · unfold mvd
    refine ⟨c1.cg (by rw [ar_fw_ne (by omega), ar_fw_ne (by omega)]) (fun k _ => by rw [upd_ne (by omega), upd_ne (by omega)]), c2.cg ⟨by rw [ar_fw_ne (by omega), ar_fw_ne (by omega)], by rw [ar_fw_ne (by omega), ar_fw_ne (by omega)]⟩ (by rw [upd_ne (by omega), upd_ne (by omega)]) (fun k _ _ => by rw [upd_ne (by omega), upd_ne (by omega)]), c3.cg ⟨by rw [ar_fw_ne (by omega), ar_fw_ne (by omega)], by rw [ar_fw_ne (by omega), ar_fw_ne (by omega)]⟩ (by rw [upd_ne (by omega), upd_ne (by omega)]) (fun k _ _ => by rw [upd_ne (by omega), upd_ne (by omega)]), c4.cg (fun k _ _ => by rw [ar_fw_ne (by omega), ar_fw_ne (by omega)]) (fun k _ => by rw [upd_ne (by omega), upd_ne (by omega)]), c5.cg (by rw [ar_fw_ne (by omega), ar_fw_ne (by omega)]) (by rw [upd_ne (by omega), upd_ne (by omega)]) (fun k _ _ => by rw [upd_ne (by omega), upd_ne (by omega)]), c6.cg (by rw [ar_fw_ne (by omega), ar_fw_ne (by omega)]) (fun k _ _ => by rw [ar_fw_ne (by omega), ar_fw_ne (by omega)]) (Nat.le_refl _) (by rw [upd_ne (by omega), upd_ne (by omega)]) (fun p _ k _ _ => by rw [upd_ne (by omega), upd_ne (by omega)]), ?_, c8.cg (fun k _ _ => by rw [ar_fw_ne (by omega), ar_fw_ne (by omega)]) (by rw [upd_ne (by omega), upd_ne (by omega)]) (fun k _ _ => by rw [upd_ne (by omega), upd_ne (by omega)])⟩
    intro k hk
    rw [cn_cong (show upd (upd (aR A) (61 + 4 * e) _) (62 + 4 * e) _ 2 = aR A 2 from by rw [upd_ne (by omega), upd_ne (by omega)])] at hk
    show ar _ 12 k = _ ∧ ar _ 13 k = _ ∧ ar _ 14 k = _ ∧ ar _ 15 k = _
    rw [ar_fw_ne (show 12 ≠ 14 by omega), ar_fw_ne (show 12 ≠ 13 by omega), ar_fw_ne (show 13 ≠ 14 by omega), ar_fw_eq, ar_fw_eq, ar_fw_ne (show 14 ≠ 13 by omega), ar_fw_ne (show 15 ≠ 14 by omega), ar_fw_ne (show 15 ≠ 13 by omega), upd_ne (show 60 + 4 * k ≠ 62 + 4 * e by omega), upd_ne (show 60 + 4 * k ≠ 61 + 4 * e by omega), upd_ne (show 61 + 4 * k ≠ 62 + 4 * e by omega), upd_ne (show 63 + 4 * k ≠ 62 + 4 * e by omega), upd_ne (show 63 + 4 * k ≠ 61 + 4 * e by omega)]
    refine ⟨(c7 k hk).1, ?_, ?_, (c7 k hk).2.2.2⟩
    · by_cases qk : k = e
      · subst qk; rw [upd_eq, upd_eq]
      · rw [upd_ne qk, upd_ne (by omega)]; exact (c7 k hk).2.1
    · by_cases qk : k = e
      · subst qk; rw [upd_eq, upd_eq]
      · rw [upd_ne qk, upd_ne (by omega), upd_ne (by omega)]; exact (c7 k hk).2.2.1
  · unfold PC at hk; rw [ar_fw_ne (by omega), ar_fw_ne (by omega)]
theorem MR.mv {A : AS} {σ : St} {e : Nat} (y : Int32) (hm : MR A σ) : MR (sR A (mvd (aR A) e y)) (fw (fw (fw σ 84 (61 + 4 * e) (aR A (61 + 4 * e) + y)) 84 (62 + 4 * e) (aR A (62 + 4 * e) + y)) 6 4 0) := by
  refine hm.row ?_ (fun k hk => by rw [ar_fw_ne (by omega), ar_fw_ne (by omega), ar_fw_ne (by omega)]) ?_ ?_ (Or.inl ?_)
  · rw [ar_fw_ne (by omega), ar_fw_eq, ar_fw_eq, hm.1]; rfl
  · rw [ar_fw_eq, upd_ne (by omega), ar_fw_ne (by omega), ar_fw_ne (by omega)]
  · rw [ar_fw_eq, upd_ne (by omega), ar_fw_ne (by omega), ar_fw_ne (by omega)]
  · rw [ar_fw_eq, upd_eq]
theorem i64_add (f : Nat) (hf : f < 2 ^ 31) (y : Int32) : ((nI f).toInt64 + y.toInt64).toInt = f + y.toInt := by
  rw [Int64.toInt_add, Int32.toInt_toInt64, Int32.toInt_toInt64, nI_toInt hf]
  have h1 := Int32.toInt_lt y
  have h2 := Int32.le_toInt y
  exact Int.bmod_eq_of_le (by omega) (by omega)
theorem i32_add {f g : Nat} {y : Int32} (hf : f < 2 ^ 31) (hg : g < 2 ^ 31) (h : (f : Int) + y.toInt = g) : nI f + y = nI g := by
  apply Int32.toInt_inj.mp
  rw [Int32.toInt_add, nI_toInt hf, nI_toInt hg, h]
  exact Int.bmod_eq_of_le (by omega) (by omega)
theorem why_0 {r : Nat → Int32} {e : Nat} {y : Int32} (hI : IR r) (h : e < cn r 2) (hw : why r e y = 0) : ∃ f t : Nat, r (61 + 4 * e) + y = nI f ∧ r (62 + 4 * e) + y = nI t ∧ f ≤ t ∧ t < cn r 0 ∧ onQ r (r (60 + 4 * e)) (nI f) (nI t) (nI e) = 0 := by
  have hi := hI.1
  have j := hI.2.2.1 e h
  have b0 := hi.1.2.2
  have l1 := j.2.1.2
  have l2 := j.2.2.1.2
  unfold why at hw
  rw [Int64.toInt32_add, Int64.toInt32_add, Int32.toInt32_toInt64, Int32.toInt32_toInt64, Int32.toInt32_toInt64] at hw
  by_cases q1 : lg_cmp ((r (61 + 4 * e)).toInt64 + y.toInt64) 0 < 0
  · rw [if_pos q1] at hw; exact absurd hw (by decide)
  rw [if_neg q1] at hw
  by_cases q2 : lg_cmp ((r (62 + 4 * e)).toInt64 + y.toInt64) ((r 0).toInt64) < 0
  · rw [if_pos q2] at hw
    rw [lg_cmp_lt, Int64.lt_iff_toInt_lt, j.2.1.1, i64_add _ (by omega)] at q1
    rw [lg_cmp_lt, Int64.lt_iff_toInt_lt, j.2.2.1.1, i64_add _ (by omega), hi.1.1, Int32.toInt_toInt64, nI_toInt (by omega)] at q2
    have z0 : (0 : Int64).toInt = 0 := by decide
    rw [z0] at q1
    have e1 : r (61 + 4 * e) + y = nI ((cn r (61 + 4 * e) : Int) + y.toInt).toNat := by
      have := i32_add (f := cn r (61 + 4 * e)) (g := ((cn r (61 + 4 * e) : Int) + y.toInt).toNat) (y := y) (by omega) (by omega) (by omega)
      rw [← j.2.1.1] at this
      exact this
    have e2 : r (62 + 4 * e) + y = nI ((cn r (62 + 4 * e) : Int) + y.toInt).toNat := by
      have := i32_add (f := cn r (62 + 4 * e)) (g := ((cn r (62 + 4 * e) : Int) + y.toInt).toNat) (y := y) (by omega) (by omega) (by omega)
      rw [← j.2.2.1.1] at this
      exact this
    refine ⟨_, _, e1, e2, by omega, by omega, ?_⟩
    rw [← e1, ← e2]
    by_cases q3 : onQ r (r (60 + 4 * e)) (r (61 + 4 * e) + y) (r (62 + 4 * e) + y) (nI e) = 0
    · exact q3
    · rw [if_neg q3] at hw; exact absurd hw (by decide)
  · rw [if_neg q2] at hw; exact absurd hw (by decide)
theorem Inv.mv {A : AS} {e : Nat} {y : Int32} (hI : Inv A) (h : e < cn (aR A) 2) (hw : why (aR A) e y = 0) : Inv (sR A (mvd (aR A) e y)) := by
  obtain ⟨f, t, ef, et, hft, ht, hon⟩ := why_0 hI.1 h hw
  have hi := hI.1.1
  have b0 := hi.1.2.2
  have b1 := hi.2.1.2
  have b2 := hi.2.2.1.2
  have b3 := hi.2.2.2.1.2
  have b4 := hi.2.2.2.2.1.2
  obtain ⟨i1, i2, i3, i4, i5, i6, i7⟩ := hI.1
  have e1 : mvd (aR A) e y (61 + 4 * e) = nI f := by unfold mvd; rw [upd_ne (by omega), upd_eq, ef]
  have e2 : mvd (aR A) e y (62 + 4 * e) = nI t := by unfold mvd; rw [upd_eq, et]
  have e9 : ∀ k, k ≠ 61 + 4 * e → k ≠ 62 + 4 * e → mvd (aR A) e y k = aR A k := fun k h1 h2 => by unfold mvd; rw [upd_ne h2, upd_ne h1]
  have d2 : cn (mvd (aR A) e y) 2 = cn (aR A) 2 := cn_cong (e9 2 (by omega) (by omega))
  have d1 : cn (mvd (aR A) e y) 1 = cn (aR A) 1 := cn_cong (e9 1 (by omega) (by omega))
  have d0 : cn (mvd (aR A) e y) 0 = cn (aR A) 0 := cn_cong (e9 0 (by omega) (by omega))
  have hold : ∀ g, g < cn (aR A) 2 → g ≠ e → cn (aR A) (60 + 4 * g) = cn (aR A) (60 + 4 * e) → t < cn (aR A) (61 + 4 * g) ∨ cn (aR A) (62 + 4 * g) < f := by
    intro g hg hge hww
    have h := of_decide_eq_false (onQ_0 hon g hg)
    have j := i3 g hg
    have l0 := j.2.2.1.2
    have l1 := j.2.1.2
    have je := i3 e (by assumption)
    by_cases c1 : t < cn (aR A) (61 + 4 * g)
    · exact Or.inl c1
    · by_cases c2 : cn (aR A) (62 + 4 * g) < f
      · exact Or.inr c2
      · refine absurd ⟨fun hh => hge ((nI_eq (by omega) (by omega)).mp hh), ?_, ?_, ?_⟩ h
        · rw [j.1.1, je.1.1, hww]
        · rw [j.2.1.1]; exact nI_nlt (by omega) (by omega)
        · rw [j.2.2.1.1]; exact nI_nlt (by omega) (by omega)
  refine hI.row ⟨ICn.of ((e9 0 (by omega) (by omega)).trans hi.1.1) hi.1.2 ((e9 1 (by omega) (by omega)).trans hi.2.1.1) hi.2.1.2 ((e9 2 (by omega) (by omega)).trans hi.2.2.1.1) hi.2.2.1.2 ((e9 3 (by omega) (by omega)).trans hi.2.2.2.1.1) hi.2.2.2.1.2 ((e9 4 (by omega) (by omega)).trans hi.2.2.2.2.1.1) hi.2.2.2.2.1.2 ((e9 5 (by omega) (by omega)).trans hi.2.2.2.2.2.1) hi.2.2.2.2.2.2, i2.cg (e9 1 (by omega) (by omega)) (e9 3 (by omega) (by omega)) (fun k _ _ => e9 k (by omega) (by omega)), ?_, ?_, i5.cg (e9 3 (by omega) (by omega)) (fun k _ _ => e9 k (by omega) (by omega)), i6.cg (e9 4 (by omega) (by omega)) (fun k _ _ => e9 k (by omega) (by omega)), i7.cg (fun k _ => e9 k (by omega) (by omega))⟩
  · intro g hg
    rw [d2] at hg
    have a0 := e9 (60 + 4 * g) (by omega) (by omega)
    have a3 := e9 (63 + 4 * g) (by omega) (by omega)
    have j := i3 g hg
    rw [cn_cong a0, cn_cong a3, a0, a3, d0, d1]
    by_cases qe : g = e
    · subst qe
      rw [cn_nI e1 (by omega), cn_nI e2 (by omega), e1, e2]
      exact ⟨j.1, ⟨rfl, hft⟩, ⟨rfl, ht⟩, j.2.2.2⟩
    · have a1 := e9 (61 + 4 * g) (by omega) (by omega)
      have a2 := e9 (62 + 4 * g) (by omega) (by omega)
      rw [cn_cong a1, cn_cong a2, a1, a2]
      exact j
  · intro g k hg hk hne hww
    rw [d2] at hg hk
    rw [cn_cong (e9 (60 + 4 * g) (by omega) (by omega)), cn_cong (e9 (60 + 4 * k) (by omega) (by omega))] at hww
    by_cases qe : g = e
    · subst qe
      rw [cn_nI e1 (by omega), cn_nI e2 (by omega), cn_cong (e9 (61 + 4 * k) (by omega) (by omega)), cn_cong (e9 (62 + 4 * k) (by omega) (by omega))]
      exact hold k hk (fun q => hne q.symm) hww.symm
    · by_cases qk : k = e
      · subst qk
        rw [cn_nI e1 (by omega), cn_nI e2 (by omega), cn_cong (e9 (61 + 4 * g) (by omega) (by omega)), cn_cong (e9 (62 + 4 * g) (by omega) (by omega))]
        exact (hold g hg qe hww).symm
      · rw [cn_cong (e9 (61 + 4 * k) (by omega) (by omega)), cn_cong (e9 (62 + 4 * k) (by omega) (by omega)), cn_cong (e9 (61 + 4 * g) (by omega) (by omega)), cn_cong (e9 (62 + 4 * g) (by omega) (by omega))]
        exact i4 g k hg hk hne hww
theorem op_shift {A : AS} {σ : St} (x y : Int32) (hI : Inv A) (hC : CR A σ) (hM : MR A σ) : Opn A σ (f_X11_shift x y) (f_X12_shift x y) := by
  have hi := hI.1.1
  have b0 := hi.1.2.2
  have b1 := hi.2.1.2
  have b2 := hi.2.2.1.2
  have b3 := hi.2.2.2.1.2
  have b4 := hi.2.2.2.2.1.2
  have b5 := hi.2.2.2.2.2.2
  have b6 : cn (aR A) 362 ≤ 50 := (hI.1.2.2.2.2.2.2 1 (by decide)).2.1
  have hc := hC.1.1
  obtain ⟨c1, c2, c3, c4, c5, c6, c7, c8⟩ := hC.1
  obtain ⟨i1, i2, i3, i4, i5, i6, i7⟩ := hI.1
  rcases wi_cases x (n := cn (aR A) 2) (by omega) with h0 | ⟨h1, e, he, rfl⟩
  · refine Opn.err 1 (by decide) hI hC hM ?_ (fun σ hm => ?_)
    · unfold f_X11_shift f_X11_shiftError; rw [e_hasEntry _ hi hc, bd_so, h0, if_pos rfl, bd_so, if_neg (by decide)]; exact bd2_id _
    · unfold f_X12_shift f_X12_whyNot; rw [m_isEntry _ hi hm.1, bd_so, h0, if_pos rfl, bd_so, if_neg (by decide)]; exact bd2_id _
  rcases why_c (aR A) e y with hw | hw | hw
  · refine Opn.mk' (aR A (61 + 4 * e) + y) (sR A (mvd (aR A) e y)) _ ?_ (CR.mv y hI hC he) ((FrC.fw (by omega)).tr (FrC.fw (by omega))) (Nat.le_succ _) (hI.mv he hw) hM (fun σ1 hm => ⟨_, ?_, MR.mv (e := e) y hm, ((FrM.fw (by omega)).tr (FrM.fw (by omega))).tr (FrM.fw (by omega))⟩)
    · unfold f_X11_shift
      rw [e_shiftError y hi hc c7 he, bd_so, hw, if_pos rfl, e_delay y c7 he b2, bd_so, inb_nI (show e < 40 by omega) (by decide), chk_so, rd_ar (by omega), ar_fw_ne (by omega), ar_fw_eq, upd_eq]
    · unfold f_X12_shift
      rw [m_whyNot y hi hm.1 he, bd_so, hw, if_pos rfl, m_moves y hm.1 (by omega), bd_so, m_eo1 (by omega) rfl, bd_so, ar_fw_ne (by omega), ar_fw_eq, upd_ne (by omega), ar_fw_eq, upd_eq]
  · refine Opn.err 1 (by decide) hI hC hM ?_ (fun σ hm => ?_)
    · unfold f_X11_shift; rw [e_shiftError y hi hc c7 he, bd_so, hw, if_neg (by decide)]; exact bd2_id _
    · unfold f_X12_shift; rw [m_whyNot y hi hm.1 he, bd_so, hw, if_neg (by decide)]; exact bd2_id _
  · refine Opn.err 3 (by decide) hI hC hM ?_ (fun σ hm => ?_)
    · unfold f_X11_shift; rw [e_shiftError y hi hc c7 he, bd_so, hw, if_neg (by decide)]; exact bd2_id _
    · unfold f_X12_shift; rw [m_whyNot y hi hm.1 he, bd_so, hw, if_neg (by decide)]; exact bd2_id _
