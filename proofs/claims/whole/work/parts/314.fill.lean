/-! loops that fill a row -/
def fil (f : Nat → Int32) (o n : Nat) (g : Nat → Int32) : Nat → Int32 := fun j => if o ≤ j ∧ j < o + n then g (j - o) else f j
def stF (σ : St) (c o n : Nat) (g : Nat → Int32) : St := (σ.1, va_up σ.2.1 c (fil (σ.2.1 c) o n g), σ.2.2)
theorem fil_in {f g : Nat → Int32} {o n j : Nat} (h1 : o ≤ j) (h2 : j < o + n) : fil f o n g j = g (j - o) := if_pos ⟨h1, h2⟩
theorem fil_out {f g : Nat → Int32} {o n j : Nat} (h : ¬ (o ≤ j ∧ j < o + n)) : fil f o n g j = f j := if_neg h
theorem ar_stF_eq (σ : St) (c o n : Nat) (g : Nat → Int32) : ar (stF σ c o n g) c = fil (ar σ c) o n g := by unfold ar stF; exact va_up_self _ _ _
theorem ar_stF_ne {σ : St} {c k o n : Nat} {g : Nat → Int32} (h : k ≠ c) : ar (stF σ c o n g) k = ar σ k := by unfold ar stF; exact va_up_ne _ _ h
theorem stF_0 (σ : St) (c o : Nat) (g : Nat → Int32) : stF σ c o 0 g = σ := by
  unfold stF
  have e1 : fil (σ.2.1 c) o 0 g = σ.2.1 c := funext fun j => fil_out (by omega)
  have e2 : va_up σ.2.1 c (σ.2.1 c) = σ.2.1 := funext fun k => by
    unfold va_up
    split
    · subst_vars; rfl
    · rfl
  rw [e1, e2]
theorem stF_s (σ : St) (c o k : Nat) (g : Nat → Int32) : fw (stF σ c o k g) c (o + k) (g k) = stF σ c o (k + 1) g := by
  unfold fw stF
  have e1 : va_up σ.2.1 c (fil (σ.2.1 c) o k g) c = fil (σ.2.1 c) o k g := va_up_self _ _ _
  have e2 : upd (fil (σ.2.1 c) o k g) (o + k) (g k) = fil (σ.2.1 c) o (k + 1) g := funext fun j => by
    unfold upd
    split
    · rename_i h; subst h; rw [fil_in (by omega) (by omega), Nat.add_sub_cancel_left]
    · by_cases q : o ≤ j ∧ j < o + k
      · rw [fil_in q.1 q.2, fil_in q.1 (by omega)]
      · rw [fil_out q, fil_out (by omega)]
  have e3 : va_up (va_up σ.2.1 c (fil (σ.2.1 c) o k g)) c (fil (σ.2.1 c) o (k + 1) g) = va_up σ.2.1 c (fil (σ.2.1 c) o (k + 1) g) := funext fun q => by
    unfold va_up
    split <;> rfl
  show (σ.1, va_up (va_up σ.2.1 c (fil (σ.2.1 c) o k g)) c (upd (va_up σ.2.1 c (fil (σ.2.1 c) o k g) c) (o + k) (g k)), σ.2.2) = _
  rw [e1, e2, e3]
theorem FrC.stF {σ : St} {c o n : Nat} {g : Nat → Int32} (h : (c < 84 ∨ 110 ≤ c) ∧ c ≠ 6) : FrC σ (stF σ c o n g) := ⟨fun q h1 h2 => ar_stF_ne (by omega), ar_stF_ne (fun e => h.2 e.symm), rfl⟩
theorem FrM.stF {σ : St} {c o n : Nat} {g : Nat → Int32} (h : (84 ≤ c ∧ c < 110) ∨ c = 6) : FrM σ (stF σ c o n g) := ⟨fun q h1 h2 => ar_stF_ne (by omega), rfl⟩
theorem it_fil {T : Type} {f : (Int32 × St) → Option ((Int32 × St) ⊕ T)} {σ : St} (c o n : Nat) (g : Nat → Int32) (h : ∀ k, k < n → f (nI k, stF σ c o k g) = some (.inl (nI (k + 1), fw (stF σ c o k g) c (o + k) (g k)))) : it f (0, σ) = it f (nI n, stF σ c o n g) := by
  have e := it_lp (f := f) (S := Unit) (fun k _ => (nI k, stF σ c o k g)) (fun _ _ => ()) n () (fun k _ hk => by rw [h k hk, stF_s])
  have e0 : (nI 0, stF σ c o 0 g) = ((0 : Int32), σ) := by rw [stF_0]; rfl
  rw [← e0]
  exact e
theorem cpy_stF {σ : St} {k0 k1 sp dp n : Nat} (h0 : sp < 2 ^ 31) (h1 : dp < 2 ^ 31) (h2 : n < 2 ^ 31) : cpy σ k0 (nI sp) k1 (nI dp) (nI n) = stF σ k1 dp n (fun j => ar σ k0 (sp + j)) := by
  unfold cpy stF va_cpy fil ar
  rw [nI_clamp h0, nI_clamp h1, nI_clamp h2]
theorem e_fill {c : Nat} {x : Int32} {σ : St} (hc : isIA c = true) (hl : alen c < 2 ^ 31) : f_J7_fill_53178 c x σ = some (stF σ c 0 (alen c) (fun _ => x)) := by
  unfold f_J7_fill_53178 f_J7_fill_53178_5
  rw [hc, chk_so]
  refine (it_fil c 0 (alen c) (fun _ => x) (fun k hk => ?_)).trans (it_r ?_)
  · show b_J7_fill_53178_5 c x (nI k) (Int32.ofNat (alen c)) _ = _
    unfold b_J7_fill_53178_5
    rw [if_pos (show nI k < Int32.ofNat (alen c) from nI_lt hk hl), inb_nI hk hl, chk_so, nm_so, wr_nI _ (by omega), nI_1, Nat.zero_add]
  · show b_J7_fill_53178_5 c x (nI (alen c)) (Int32.ofNat (alen c)) _ = _
    unfold b_J7_fill_53178_5
    rw [if_neg (show ¬ nI (alen c) < Int32.ofNat (alen c) from nI_nlt (Nat.le_refl _) hl)]
section O7
variable {A : AS} {σ : St}
theorem op_sheet (x y z : Int32) (hI : Inv A) (hC : CR A σ) (hM : MR A σ) : Opn A σ (f_X11_sheet x y z) (f_X12_sheet x y z) := by
  rcases wi_cases x (n := 4) (by omega) with h0 | ⟨h1, s, hs, rfl⟩
  · refine Opn.err 1 (by decide) hI hC hM ?_ (fun σ hm => ?_)
    · unfold f_X11_sheet f_X11_sheet_30; rw [w_4, bd_so, h0, if_pos rfl]; exact bd2_id _
    · unfold f_X12_sheet f_X12_sheet_29; rw [m_isSheet, bd_so, h0, if_pos rfl]; exact bd2_id _
  by_cases qy : ¬ (y = 0 ∨ y = 8 ∨ y = 16 ∨ y = 32)
  · have n0 : ¬ y = 0 := fun h => qy (Or.inl h)
    have n1 : ¬ y = 8 := fun h => qy (Or.inr (Or.inl h))
    have n2 : ¬ y = 16 := fun h => qy (Or.inr (Or.inr (Or.inl h)))
    have n3 : ¬ y = 32 := fun h => qy (Or.inr (Or.inr (Or.inr h)))
    refine Opn.err 1 (by decide) hI hC hM ?_ (fun σ hm => ?_)
    · unfold f_X11_sheet f_X11_sheet_30; rw [w_4, bd_so, h1, if_neg (by decide), if_neg n0, if_neg n1, if_neg n2, if_neg n3]; exact bd2_id _
    · unfold f_X12_sheet f_X12_sheet_29; rw [m_isSheet, bd_so, h1, if_neg (by decide), if_neg n0, if_neg n1, if_neg n2, if_neg n3]; exact bd2_id _
  have qy := Classical.not_not.mp qy
  have s11 : f_X11_sheet (nI s) y z σ = f_X11_sheet_36 (nI s) y z σ := by
    unfold f_X11_sheet
    rw [w_4, bd_so, h1, if_neg (by decide)]
    rcases qy with rfl | rfl | rfl | rfl
    · rw [if_pos rfl]
    · rw [if_neg (by decide), if_pos rfl]
    · rw [if_neg (by decide), if_neg (by decide), if_pos rfl]
    · rw [if_neg (by decide), if_neg (by decide), if_neg (by decide), if_pos rfl]
  have s12 : ∀ σ, f_X12_sheet (nI s) y z σ = f_X12_sheet_35 (nI s) y z σ := fun σ => by
    unfold f_X12_sheet
    rw [m_isSheet, bd_so, h1, if_neg (by decide)]
    rcases qy with rfl | rfl | rfl | rfl
    · rw [if_pos rfl]
    · rw [if_neg (by decide), if_pos rfl]
    · rw [if_neg (by decide), if_neg (by decide), if_pos rfl]
    · rw [if_neg (by decide), if_neg (by decide), if_neg (by decide), if_pos rfl]
  have key : ∀ m : Nat, m ≤ 24 → f_X11_sheet_36 (nI s) y z σ = f_X11_sheet_88 (nI s) (nI m) (76 + 2 * (nI s).toNatClampNeg) (wr σ 8 (nI s) y) → (∀ σ, f_X12_sheet_35 (nI s) y z σ = f_X12_sheet_86 (nI s) (nI m) (nI s) (wr σ 106 (nI s) y)) → Opn A σ (f_X11_sheet (nI s) y z) (f_X12_sheet (nI s) y z) := by
    intro m hm24 k11 k12
    refine Opn.mk' 1 (sSh A (upd (aB A) s y) (upd (aZ A) s (nI m)) (fil (aS A) (24 * s) 24 (fun _ => 0))) (stF (fw (fw σ 8 s y) (76 + 2 * s) 1 (nI m)) (77 + 2 * s) 0 24 (fun _ => 0)) (s11.trans (k11.trans ?_)) ?_ (((FrC.fw (by omega)).tr (FrC.fw (by omega))).tr (FrC.stF (by omega))) (Nat.le_succ _) (hI.she ?_) hM (fun σ1 hm => ⟨stF (fw (fw σ1 106 s y) 107 s (nI m)) 108 (24 * s) 24 (fun _ => 0), (s12 σ1).trans ((k12 σ1).trans ?_), ?_, ((FrM.fw (by omega)).tr (FrM.fw (by omega))).tr (FrM.stF (by omega))⟩)
    · unfold f_X11_sheet_88
      rw [nm_so, inb_nI hs (by decide), chk_so, nI_clamp (by omega), wr_nI _ (by omega), show 76 + 2 * s + 1 = 77 + 2 * s by omega, e_fill (decide_eq_true (by omega)) (by rw [alen_sh hs]; decide), alen_sh hs]
      rfl
    · refine hC.she (fun s2 hs2 => ?_) (fun k _ _ => by rw [ar_stF_ne (by omega), ar_fw_ne (by omega), ar_fw_ne (by omega)]) rfl
      obtain ⟨d1, d2, d3⟩ := hC.2.2.2.2.2.1 s2 hs2
      by_cases q2 : s2 = s
      · subst q2
        refine ⟨?_, ?_, fun j hj => ?_⟩
        · rw [ar_stF_ne (by omega), ar_fw_ne (by omega), ar_fw_eq, upd_eq]; exact (upd_eq _ _ _).symm
        · rw [ar_stF_ne (by omega), ar_fw_eq, upd_eq]; exact (upd_eq _ _ _).symm
        · show _ = fil (aS A) (24 * s2) 24 (fun _ => 0) (24 * s2 + j)
          rw [ar_stF_eq, fil_in (by omega) (by omega), fil_in (by omega) (by omega)]
      · refine ⟨?_, ?_, fun j hj => ?_⟩
        · rw [ar_stF_ne (by omega), ar_fw_ne (by omega), ar_fw_eq, upd_ne q2, d1]; exact (upd_ne q2).symm
        · rw [ar_stF_ne (by omega), ar_fw_ne (by omega), ar_fw_ne (by omega), d2]; exact (upd_ne q2).symm
        · show _ = fil (aS A) (24 * s) 24 (fun _ => 0) (24 * s2 + j)
          rw [ar_stF_ne (by omega), ar_fw_ne (by omega), ar_fw_ne (by omega), d3 j hj, fil_out (by omega)]
    · intro s2 hs2
      obtain ⟨d1, d2, d3⟩ := hI.2.2.2 s2 hs2
      show (upd (aB A) s y s2 = 0 ∨ upd (aB A) s y s2 = 8 ∨ upd (aB A) s y s2 = 16 ∨ upd (aB A) s y s2 = 32) ∧ upd (aZ A) s (nI m) s2 = nI (cn (upd (aZ A) s (nI m)) s2) ∧ cn (upd (aZ A) s (nI m)) s2 ≤ 24
      by_cases q2 : s2 = s
      · subst q2
        rw [upd_eq, cn_nI (upd_eq _ _ _) (by omega), upd_eq]
        exact ⟨qy, rfl, hm24⟩
      · rw [upd_ne q2, cn_cong (upd_ne q2), upd_ne q2]
        exact ⟨d1, d2, d3⟩
    · unfold f_X12_sheet_86 f_X12_sheet_90
      rw [inb_nI hs (by decide), chk_so, nm_so, wr_nI _ (by omega), wr_nI _ (by omega)]
      refine (it_fil 108 (24 * s) 24 (fun _ => 0) (fun k hk => ?_)).trans (it_r ?_)
      · show b_X12_sheet_90 (nI s) (nI k) _ = _
        unfold b_X12_sheet_90
        rw [if_pos (show nI k < 24 from nI_lt hk (by decide)), show (24 * nI s : Int32) + nI k = nI (24 * s + k) by rw [show (24 : Int32) = nI 24 from rfl, pk_mul, nI_add], inb_nI (by omega) (by decide), chk_so, nm_so, wr_nI _ (by omega), nI_1]
      · rfl
    · refine hm.she ?_ ?_ ?_ (fun k hk => by rw [ar_stF_ne (by omega), ar_fw_ne (by omega), ar_fw_ne (by omega)])
      · rw [ar_stF_ne (by omega), ar_fw_ne (by omega), ar_fw_eq, hm.2.2.2.2.2.2.1]
      · rw [ar_stF_ne (by omega), ar_fw_eq, ar_fw_ne (by omega), hm.2.2.2.2.2.2.2.1]
      · rw [ar_stF_eq, ar_fw_ne (by omega), ar_fw_ne (by omega), hm.2.2.2.2.2.2.2.2.1]
  by_cases q0 : y = 0
  · refine key 0 (by decide) ?_ (fun σ => ?_)
    · unfold f_X11_sheet_36 f_X11_sheet_50 f_X11_sheet_66
      rw [if_pos q0, if_pos q0, inb_nI hs (by decide), chk_so, nm_so, if_pos q0]; rfl
    · unfold f_X12_sheet_35 f_X12_sheet_49 f_X12_sheet_65
      rw [if_pos q0, if_pos q0, inb_nI hs (by decide), chk_so, nm_so, if_pos q0]; rfl
  by_cases q1 : z < 0
  · refine Opn.err 3 (by decide) hI hC hM ?_ (fun σ hm => ?_)
    · rw [s11]; unfold f_X11_sheet_36; rw [if_neg q0, if_pos q1]; exact bd2_id _
    · rw [s12]; unfold f_X12_sheet_35; rw [if_neg q0, if_pos q1]; exact bd2_id _
  by_cases q2 : 24 < z
  · refine Opn.err 1 (by decide) hI hC hM ?_ (fun σ hm => ?_)
    · rw [s11]; unfold f_X11_sheet_36 f_X11_sheet_50; rw [if_neg q0, if_neg q1, if_neg q0, if_pos q2]; exact bd2_id _
    · rw [s12]; unfold f_X12_sheet_35 f_X12_sheet_49; rw [if_neg q0, if_neg q1, if_neg q0, if_pos q2]; exact bd2_id _
  obtain ⟨m, _, hm24, rfl⟩ := rng (a := 0) (b := 24) (by decide) (by decide) q1 q2
  refine key m hm24 ?_ (fun σ => ?_)
  · unfold f_X11_sheet_36 f_X11_sheet_50 f_X11_sheet_66
    rw [if_neg q0, if_neg q1, if_neg q0, if_neg q2, inb_nI hs (by decide), chk_so, nm_so, if_neg q0]
  · unfold f_X12_sheet_35 f_X12_sheet_49 f_X12_sheet_65
    rw [if_neg q0, if_neg q1, if_neg q0, if_neg q2, inb_nI hs (by decide), chk_so, nm_so, if_neg q0]
end O7
