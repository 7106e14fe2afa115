/-! sheets -/
def sSh (A : AS) (b z s : Nat → Int32) : AS := (A.1, A.2.1, A.2.2.1, A.2.2.2.1, A.2.2.2.2.1, b, z, s)
theorem CR.she {A : AS} {σ σ' : St} {b z s : Nat → Int32} (h : CR A σ) (hs : CSh (sSh A b z s) σ') (hu : ∀ k, k ≠ 8 → k < 76 ∨ 84 ≤ k → ar σ' k = ar σ k) (hn : σ'.1 = σ.1) : CR (sSh A b z s) σ' := by
  obtain ⟨h1, h2, h3, h4, h5, h6, h7⟩ := h
  have hn2 : σ.1 ≤ σ'.1 := by rw [hn]; exact Nat.le_refl _
  refine ⟨h1.ag (hu 1 (by omega) (by omega)) (fun k _ _ => hu k (by omega) (by omega)) (fun k _ _ => hu k (by omega) (by omega)) (fun k _ _ => hu k (by omega) (by omega)) hn2, fun q => (h2 q).ag (hu 2 (by omega) (by omega)) (fun k _ _ => hu k (by omega) (by omega)) (fun k _ _ => hu k (by omega) (by omega)) (fun k _ _ => hu k (by omega) (by omega)) hn2, ?_, ?_, ?_, hs, ?_⟩
  · rw [hu 0 (by omega) (by omega)]; exact h3
  · rw [hu 9 (by omega) (by omega)]; exact h4
  · unfold CTr; rw [hu 74 (by omega) (by omega), hu 75 (by omega) (by omega)]; exact h5
  · unfold CSl
    simp only [rc_ar]
    rw [hu 10 (by omega) (by omega), hu 20 (by omega) (by omega), hu 4 (by omega) (by omega), hu 5 (by omega) (by omega), hn]
    exact h7
theorem MR.she {A : AS} {σ σ' : St} {b z s : Nat → Int32} (h : MR A σ) (hb : ar σ' 106 = b) (hz : ar σ' 107 = z) (hs : ar σ' 108 = s) (hu : ∀ k, k = 6 ∨ (84 ≤ k ∧ k ≤ 89) ∨ k = 105 → ar σ' k = ar σ k) : MR (sSh A b z s) σ' := by
  obtain ⟨g1, g2, g3, g4, g5, g6, g7, g8, g9, g10⟩ := h
  unfold MR
  rw [hu 84 (by omega), hu 85 (by omega), hu 6 (by omega), hu 86 (by omega), hu 105 (by omega), hu 87 (by omega), hu 88 (by omega), hu 89 (by omega)]
  exact ⟨g1, g2, g3, g4, g5, g6, hb, hz, hs, g10⟩
theorem Inv.she {A : AS} {b z s : Nat → Int32} (h : Inv A) (hs : ISh (sSh A b z s)) : Inv (sSh A b z s) := ⟨h.1, h.2.1, h.2.2.1, hs⟩
def lowB (v b : Int32) : Int32 := if b = 8 then v.toInt8.toInt32 else if b = 16 then v.toInt16.toInt32 else v
section O6
variable {A : AS} {σ : St}
theorem e_isMissing {s : Nat} (hC : CR A σ) (hs : s < 4) : f_X11_isMissing (nI s) σ = some (if aB A s = 0 then 1 else 0) := by
  unfold f_X11_isMissing
  rw [inb_nI hs (by decide), chk_so, rd_ar (by omega), (hC.2.2.2.2.2.1 s hs).1]
  split <;> rfl
theorem alen_sh {s : Nat} (hs : s < 4) : alen (77 + 2 * s) = 24 := by
  have h : s = 0 ∨ s = 1 ∨ s = 2 ∨ s = 3 := by omega
  rcases h with rfl | rfl | rfl | rfl <;> rfl
theorem op_put (x y v : Int32) (hI : Inv A) (hC : CR A σ) (hM : MR A σ) : Opn A σ (f_X11_put x y v) (f_X12_put x y v) := by
  rcases wi_cases x (n := 4) (by omega) with h0 | ⟨h1, s, hs, rfl⟩
  · refine Opn.err 1 (by decide) hI hC hM ?_ (fun σ hm => ?_)
    · unfold f_X11_put; rw [w_4, bd_so, h0, if_pos rfl]; exact bd2_id _
    · unfold f_X12_put; rw [m_isSheet, bd_so, h0, if_pos rfl]; exact bd2_id _
  have hB : ∀ σ1, MR A σ1 → rd σ1 106 (nI s) = aB A s := fun σ1 hm => by rw [rd_ar (by omega), hm.2.2.2.2.2.2.1]
  have hZ : ∀ σ1, MR A σ1 → rd σ1 107 (nI s) = aZ A s := fun σ1 hm => by rw [rd_ar (by omega), hm.2.2.2.2.2.2.2.1]
  obtain ⟨i1, i2, i3⟩ := hI.2.2.2 s hs
  obtain ⟨c1, c2, c3⟩ := hC.2.2.2.2.2.1 s hs
  by_cases qb : aB A s = 0
  · refine Opn.err 2 (by decide) hI hC hM ?_ (fun σ hm => ?_)
    · unfold f_X11_put; rw [w_4, bd_so, h1, if_neg (by decide), e_isMissing hC hs, bd_so, if_pos qb, if_neg (by decide)]; exact bd2_id _
    · unfold f_X12_put; rw [m_isSheet, bd_so, h1, if_neg (by decide), inb_nI hs (by decide), chk_so, hB σ hm, if_pos qb]; exact bd2_id _
  rcases wi_cases y (n := cn (aZ A) s) (by omega) with g0 | ⟨g1, i, hi, rfl⟩
  · refine Opn.err 1 (by decide) hI hC hM ?_ (fun σ hm => ?_)
    · unfold f_X11_put; rw [w_4, bd_so, h1, if_neg (by decide), e_isMissing hC hs, bd_so, if_neg qb, if_pos rfl, inb_nI hs (by decide), chk_so, nI_clamp (by omega), fd_ar, c2, i2, e_isWithin, bd_so, g0, if_pos rfl]; exact bd2_id _
    · unfold f_X12_put; rw [m_isSheet, bd_so, h1, if_neg (by decide), inb_nI hs (by decide), chk_so, hB σ hm, if_neg qb, hZ σ hm, i2, e_in _ (by omega), bd_so, g0, if_pos rfl]; exact bd2_id _
  refine Opn.mk' 1 (sSh A (aB A) (aZ A) (upd (aS A) (24 * s + i) (lowB v (aB A s)))) (fw σ (77 + 2 * s) i (lowB v (aB A s))) ?_ ?_ (FrC.fw (by omega)) (Nat.le_succ _) (hI.she hI.2.2.2) hM (fun σ1 hm => ⟨fw σ1 108 (24 * s + i) (lowB v (aB A s)), ?_, ?_, FrM.fw (by omega)⟩)
  · have hlb : f_X11_lowestBits v (aB A s) = some (lowB v (aB A s)) := by
      unfold f_X11_lowestBits lowB
      split
      · rfl
      · split <;> rfl
    unfold f_X11_put
    rw [w_4, bd_so, h1, if_neg (by decide), e_isMissing hC hs, bd_so, if_neg qb, if_pos rfl, inb_nI hs (by decide), chk_so, nI_clamp (by omega), fd_ar, c2, i2, e_isWithin, bd_so, g1, if_neg (by decide), rd_ar (by omega), c1, hlb, bd_so, show 76 + 2 * s + 1 = 77 + 2 * s by omega, alen_sh hs, inb_nI (show i < 24 by omega) (by decide), chk_so, nm_so, wr_nI _ (by omega)]
  · refine hC.she (fun s2 hs2 => ?_) (fun k _ _ => ar_fw_ne (by omega)) rfl
    obtain ⟨d1, d2, d3⟩ := hC.2.2.2.2.2.1 s2 hs2
    refine ⟨by rw [ar_fw_ne (by omega)]; exact d1, by rw [ar_fw_ne (by omega)]; exact d2, fun j hj => ?_⟩
    show _ = upd (aS A) (24 * s + i) (lowB v (aB A s)) (24 * s2 + j)
    by_cases q2 : s2 = s
    · subst q2
      rw [ar_fw_eq]
      by_cases qj : j = i
      · subst qj; rw [upd_eq, upd_eq]
      · rw [upd_ne qj, upd_ne (by omega)]; exact d3 j hj
    · rw [ar_fw_ne (by omega), upd_ne (by omega)]; exact d3 j hj
  · have ix : (24 * nI s : Int32) + nI i = nI (24 * s + i) := by rw [show (24 : Int32) = nI 24 from rfl, pk_mul, nI_add]
    have hp : ∀ w, f_X12_put_93 w (nI (24 * s + i)) σ1 = some (1, fw σ1 108 (24 * s + i) w) := fun w => by unfold f_X12_put_93; rw [inb_nI (by omega) (by decide), chk_so, nm_so, wr_nI _ (by omega)]
    unfold f_X12_put lowB
    rw [m_isSheet, bd_so, h1, if_neg (by decide), inb_nI hs (by decide), chk_so, hB σ1 hm, if_neg qb, hZ σ1 hm, i2, e_in _ (by omega), bd_so, g1, if_neg (by decide), ix, hp, hp, hp]
    split
    · rfl
    · split <;> rfl
  · refine hm.she ?_ ?_ ?_ (fun k hk => ar_fw_ne (by omega))
    · rw [ar_fw_ne (by omega)]; exact hm.2.2.2.2.2.2.1
    · rw [ar_fw_ne (by omega)]; exact hm.2.2.2.2.2.2.2.1
    · rw [ar_fw_eq, hm.2.2.2.2.2.2.2.2.1]
end O6
