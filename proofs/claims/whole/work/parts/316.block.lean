/-! whom the cast tells, all at once -/
def tld (r : Nat → Int32) (n : Nat) (g : Nat → Int32) : Nat → Int32 := fun k => if 14 ≤ k ∧ (k - 14) % 5 = 0 ∧ (k - 14) / 5 < n then g ((k - 14) / 5) else r k
theorem tld_at {r g : Nat → Int32} {n p : Nat} (h : p < n) : tld r n g (14 + 5 * p) = g p := by
  unfold tld
  rw [show (14 + 5 * p - 14) = 5 * p by omega, show 5 * p / 5 = p by omega, if_pos ⟨by omega, by omega, h⟩]
theorem tld_ge {r g : Nat → Int32} {n p : Nat} (h : ¬ p < n) : tld r n g (14 + 5 * p) = r (14 + 5 * p) := by
  unfold tld
  rw [if_neg (by omega)]
theorem tld_ne {r g : Nat → Int32} {n k : Nat} (h : ∀ p, p < n → k ≠ 14 + 5 * p) : tld r n g k = r k := by
  unfold tld
  rw [if_neg]
  intro ⟨h1, h2, h3⟩
  exact h _ h3 (by omega)
theorem tld_0 (r g : Nat → Int32) : tld r 0 g = r := funext fun k => tld_ne (fun p hp => absurd hp (Nat.not_lt_zero p))
theorem tld_s (r g : Nat → Int32) (n : Nat) : upd (tld r n g) (14 + 5 * n) (g n) = tld r (n + 1) g := funext fun k => by
  by_cases q : k = 14 + 5 * n
  · rw [q, upd_eq, tld_at (by omega)]
  · rw [upd_ne q]
    by_cases q2 : ∃ p, p < n ∧ k = 14 + 5 * p
    · obtain ⟨p, hp, rfl⟩ := q2
      rw [tld_at hp, tld_at (by omega)]
    · rw [tld_ne (fun p hp e => q2 ⟨p, hp, e⟩), tld_ne (fun p hp e => by
        by_cases q3 : p = n
        · exact q (by rw [e, q3])
        · exact q2 ⟨p, by omega, e⟩)]
section O9
variable {A : AS} {σ σ' : St} {n : Nat} {g : Nat → Int32}
theorem CR.tl (hI : Inv A) (hC : CR A σ) (hn : n ≤ cn (aR A) 1) (h11 : ∀ p, p < cn (aR A) 1 → ar σ' 11 p = tld (aR A) n g (14 + 5 * p)) (hu : ∀ k, k ≠ 11 → ar σ' k = ar σ k) (h1 : σ'.1 = σ.1) : CR (sR A (tld (aR A) n g)) σ' := by
  have hi := hI.1.1
  have b1 := hi.2.1.2
  obtain ⟨c1, c2, c3, c4, c5, c6, c7, c8⟩ := hC.1
  have e9 : ∀ k, k < 14 ∨ 60 ≤ k → tld (aR A) n g k = aR A k := fun k hk => tld_ne (fun p hp => by omega)
  refine hC.row' ⟨c1.cg (hu 1 (by omega)) (fun k _ => e9 k (by omega)), c2.cg ⟨hu 52 (by omega), hu 53 (by omega)⟩ (e9 4 (by omega)) (fun k _ _ => e9 k (by omega)), c3.cg ⟨hu 54 (by omega), hu 55 (by omega)⟩ (e9 5 (by omega)) (fun k _ _ => e9 k (by omega)), c4.cg (fun k _ _ => hu k (by omega)) (fun k _ => e9 k (by omega)), ?_, c6.cg (hu 10 (by omega)) (fun k _ _ => hu k (by omega)) (by rw [h1]; exact Nat.le_refl _) (e9 1 (by omega)) (fun p hp k _ _ => tld_ne (fun q hq => by omega)), c7.cg (fun k _ _ => hu k (by omega)) (e9 2 (by omega)) (fun k _ _ => e9 k (by omega)), c8.cg (fun k _ _ => hu k (by omega)) (e9 3 (by omega)) (fun k _ _ => e9 k (by omega))⟩ (fun k hk _ => hu k (by unfold PC at hk; omega)) h1 (hu 10 (by omega))
  intro p hp
  rw [cn_cong (e9 1 (by omega))] at hp
  exact h11 p hp
theorem Inv.tl (hI : Inv A) (hn : n ≤ cn (aR A) 1) (hg : ∀ p, p < n → g p = -1 ∨ ∃ v, g p = nI v ∧ v < cn (aR A) 3) : Inv (sR A (tld (aR A) n g)) := by
  have hi := hI.1.1
  have b1 := hi.2.1.2
  have b3 := hi.2.2.2.1.2
  obtain ⟨i1, i2, i3, i4, i5, i6, i7⟩ := hI.1
  have e9 : ∀ k, k < 14 ∨ 60 ≤ k → tld (aR A) n g k = aR A k := fun k hk => tld_ne (fun p hp => by omega)
  refine hI.row ⟨ICn.of ((e9 0 (by omega)).trans hi.1.1) hi.1.2 ((e9 1 (by omega)).trans hi.2.1.1) hi.2.1.2 ((e9 2 (by omega)).trans hi.2.2.1.1) hi.2.2.1.2 ((e9 3 (by omega)).trans hi.2.2.2.1.1) hi.2.2.2.1.2 ((e9 4 (by omega)).trans hi.2.2.2.2.1.1) hi.2.2.2.2.1.2 ((e9 5 (by omega)).trans hi.2.2.2.2.2.1) hi.2.2.2.2.2.2, ?_, i3.cg (e9 0 (by omega)) (e9 1 (by omega)) (e9 2 (by omega)) (fun k _ _ => e9 k (by omega)), i4.cg (e9 2 (by omega)) (fun k _ _ => e9 k (by omega)), i5.cg (e9 3 (by omega)) (fun k _ _ => e9 k (by omega)), i6.cg (e9 4 (by omega)) (fun k _ _ => e9 k (by omega)), i7.cg (fun k _ => e9 k (by omega))⟩
  intro k hk
  rw [cn_cong (e9 1 (by omega))] at hk
  have e0 : tld (aR A) n g (10 + 5 * k) = aR A (10 + 5 * k) := tld_ne (fun q hq => by omega)
  have e1 : tld (aR A) n g (11 + 5 * k) = aR A (11 + 5 * k) := tld_ne (fun q hq => by omega)
  have e2 : tld (aR A) n g (12 + 5 * k) = aR A (12 + 5 * k) := tld_ne (fun q hq => by omega)
  have e3 : tld (aR A) n g (13 + 5 * k) = aR A (13 + 5 * k) := tld_ne (fun q hq => by omega)
  rw [cn_cong e0, cn_cong e1, cn_cong e2, cn_cong e3, e0, e1, e2, e3, cn_cong (e9 3 (by omega))]
  refine ⟨(i2 k hk).1, (i2 k hk).2.1, (i2 k hk).2.2.1, (i2 k hk).2.2.2.1, ?_⟩
  by_cases q : k < n
  · have e4 : tld (aR A) n g (14 + 5 * k) = g k := tld_at q
    rcases hg k q with h | ⟨v, h, hv⟩
    · exact Or.inl (e4.trans h)
    · rw [cn_nI (e4.trans h) (by omega)]
      exact Or.inr ⟨e4.trans h, hv⟩
  · have e4 : tld (aR A) n g (14 + 5 * k) = aR A (14 + 5 * k) := tld_ge q
    rw [cn_cong e4, e4]
    exact (i2 k hk).2.2.2.2
theorem MR.tl (hI : Inv A) (hm : MR A σ) (hn : n ≤ cn (aR A) 1) (hr : ar σ' 84 = tld (aR A) n g) (hu : ∀ k, k ≠ 84 → ar σ' k = ar σ k) : MR (sR A (tld (aR A) n g)) σ' := by
  have b1 := hI.1.1.2.1.2
  have e9 : ∀ k, k < 14 ∨ 60 ≤ k → tld (aR A) n g k = aR A k := fun k hk => tld_ne (fun p hp => by omega)
  exact hm.row hr (fun k hk => hu k (by omega)) (by rw [hu 6 (by omega)]) (by rw [hu 6 (by omega)]) (hm.lay ⟨e9 1 (by omega), e9 2 (by omega), fun p hp => ⟨tld_ne (fun q hq => by omega), tld_ne (fun q hq => by omega)⟩, fun k _ _ => e9 k (by omega), fun k _ _ => e9 k (by omega)⟩ (fun k hk => hu k (by omega)) (by rw [hu 6 (by omega)]))
end O9
/-! block -/
def pnb (v : Int32) (n : Nat) : Int32 := if v = -1 then 1 else wi v n
theorem e_pnb {r : Nat → Int32} {σ : St} (v : Int32) (hI : ICn r) (hc : CSc 1 r σ) : f_X4_isPlayerOrNobody v σ = some (pnb v (cn r 3)) := by
  unfold f_X4_isPlayerOrNobody f_X4_isPlayerOrNobody_13 pnb
  rw [e_hasPlayer _ hI hc, bd_so]
  by_cases q : v = -1
  · rw [if_pos q, if_pos q]
  · rw [if_neg q, if_neg q]
    rcases wi_cases v (n := cn r 3) (by have := hI.2.2.2.1.2; omega) with h | ⟨h, _⟩
    · rw [h, if_pos rfl]
    · rw [h, if_neg (by decide)]
theorem m_pnb (v : Int32) {n : Nat} (hn : n < 2 ^ 31) : f_X12_in v (-1) (nI n - 1) = some (pnb v n) := by
  have h := e_in v hn
  unfold f_X12_in at h ⊢
  unfold pnb
  have z1 : (-1 : Int32).toInt = -1 := by decide
  have z0 : (0 : Int32).toInt = 0 := by decide
  by_cases q : v = -1
  · subst q
    rw [if_pos rfl, if_neg (by decide), if_neg]
    rw [Int32.lt_iff_toInt_lt, z1]
    cases n with
    | zero => decide
    | succ m => rw [nI_pred, nI_toInt (by omega)]; omega
  · rw [if_neg q]
    by_cases q2 : v < 0
    · rw [if_pos q2] at h
      rw [← h, if_pos]
      rw [Int32.lt_iff_toInt_lt] at q2 ⊢
      have : v.toInt ≠ -1 := fun e => q (Int32.toInt_inj.mp (e.trans z1.symm))
      omega
    · rw [if_neg q2] at h
      rw [← h, if_neg]
      rw [Int32.lt_iff_toInt_lt] at q2 ⊢
      omega
theorem pnb_1 {v : Int32} {n : Nat} (hn : n < 2 ^ 31) (h : pnb v n ≠ 0) : v = -1 ∨ ∃ j, v = nI j ∧ j < n := by
  unfold pnb at h
  by_cases q : v = -1
  · exact Or.inl q
  · rw [if_neg q] at h
    rcases wi_cases v hn with e | ⟨_, j, hj, e⟩
    · exact absurd e h
    · exact Or.inr ⟨j, e, hj⟩
section O10
variable {A : AS} {σ : St}
theorem op_block (x : Int32) (hI : Inv A) (hC : CR A σ) (hM : MR A σ) : Opn A σ (f_X11_block x) (f_X12_block x) := by
  rcases wi_cases x (n := 4) (by omega) with h0 | ⟨h1, s, hs, rfl⟩
  · refine Opn.err 1 (by decide) hI hC hM ?_ (fun σ hm => ?_)
    · unfold f_X11_block; rw [w_4, bd_so, h0, if_pos rfl]; exact bd2_id _
    · unfold f_X12_block; rw [m_isSheet, bd_so, h0, if_pos rfl]; exact bd2_id _
  obtain ⟨ds1, ds2, ds3⟩ := hC.2.2.2.2.2.1 s hs
  obtain ⟨js1, js2, js3⟩ := hI.2.2.2 s hs
  have hi := hI.1.1
  have b1 := hi.2.1.2
  have b3 := hi.2.2.2.1.2
  have hc := hC.1.1
  by_cases q1 : aB A s = 0
  · refine Opn.err 2 (by decide) hI hC hM ?_ (fun σ hm => ?_)
    · unfold f_X11_block; rw [w_4, bd_so, h1, if_neg (by decide), e_isMissing hC hs, if_pos q1, bd_so, if_neg (by decide)]; exact bd2_id _
    · unfold f_X12_block; rw [m_isSheet, bd_so, h1, if_neg (by decide), inb_nI hs (by decide), chk_so, rd_ar (by omega), hm.2.2.2.2.2.2.1, if_pos q1]; exact bd2_id _
  obtain ⟨n, hn⟩ : ∃ n, n = min (cn (aZ A) s) (cn (aR A) 1) := ⟨_, rfl⟩
  have n1 : n ≤ cn (aR A) 1 := by omega
  have n2 : n ≤ cn (aZ A) s := by omega
  have s11 : f_X11_block (nI s) σ = f_X11_block_53 (76 + 2 * s) (nI n) 0 σ := by
    unfold f_X11_block
    rw [w_4, bd_so, h1, if_neg (by decide), e_isMissing hC hs, if_neg q1, bd_so, if_pos rfl, inb_nI hs (by decide), chk_so, nm_so, nI_clamp (by omega), fd_ar, fd_ar, ds2, js2, hc.2.1, hi.2.1.1]
    congr 1
    by_cases q : cn (aR A) 1 < cn (aZ A) s
    · rw [if_pos (nI_lt q (by omega)), show n = cn (aR A) 1 by omega]
    · rw [if_neg (nI_nlt (by omega) (by omega)), show n = cn (aZ A) s by omega]
  have s12 : ∀ {σ1 : St}, MR A σ1 → f_X12_block (nI s) σ1 = f_X12_block_61 (nI s) (nI n) 0 σ1 := by
    intro σ1 hm
    unfold f_X12_block f_X12_block_58
    rw [m_isSheet, bd_so, h1, if_neg (by decide), inb_nI hs (by decide), chk_so, rd_ar (by omega), hm.2.2.2.2.2.2.1, if_neg q1, chk_t (by decide), rd_ar (by omega), hm.2.2.2.2.2.2.2.1, js2, show rd σ1 84 1 = nI (cn (aR A) 1) by rw [← hi.2.1.1, ← hm.1]; rfl]
    by_cases q : cn (aZ A) s < cn (aR A) 1
    · rw [if_pos (nI_lt q (by omega)), show n = cn (aZ A) s by omega]
    · rw [if_neg (nI_nlt (by omega) (by omega)), show n = cn (aR A) 1 by omega]
  obtain ⟨p, hp⟩ : ∃ p : Nat → Bool, p = fun k => decide (pnb (aS A (24 * s + k)) (cn (aR A) 3) = 0) := ⟨_, rfl⟩
  have t11 : f_X11_block_53 (76 + 2 * s) (nI n) 0 σ = if anyN p n = true then f_X11_block_76 σ else f_X11_block_88 (76 + 2 * s) (nI n) σ := by
    unfold f_X11_block_53
    refine it_anyK (fun k => nI k) p n _ _ (fun k hk hpk => ?_) (fun k hk hpk => ?_) ?_
    · rw [hp] at hpk
      show b_X11_block_53 _ _ (nI k) σ = _
      unfold b_X11_block_53
      rw [if_pos (nI_lt hk (by omega)), show 76 + 2 * s + 1 = 77 + 2 * s by omega, alen_sh hs, inb_nI (by omega) (by decide), chk_so, rd_ar (by omega), ds3 k (by omega), e_pnb _ hi hc, bd_so, if_pos (of_decide_eq_true hpk)]
    · rw [hp] at hpk
      show b_X11_block_53 _ _ (nI k) σ = _
      unfold b_X11_block_53
      rw [if_pos (nI_lt hk (by omega)), show 76 + 2 * s + 1 = 77 + 2 * s by omega, alen_sh hs, inb_nI (by omega) (by decide), chk_so, rd_ar (by omega), ds3 k (by omega), e_pnb _ hi hc, bd_so, if_neg (of_decide_eq_false hpk), nI_1]
    · show b_X11_block_53 _ _ (nI n) σ = _
      unfold b_X11_block_53
      rw [if_neg (nI_nlt (Nat.le_refl _) (by omega))]
  have e24 : ∀ k : Nat, ((24 * nI s) + nI k : Int32) = nI (24 * s + k) := fun k => by rw [show (24 : Int32) = nI 24 from rfl, pk_mul, nI_add]
  have t12 : ∀ {σ1 : St}, MR A σ1 → f_X12_block_61 (nI s) (nI n) 0 σ1 = if anyN p n = true then f_X12_block_92 σ1 else f_X12_block_104 (nI s) (nI n) σ1 := by
    intro σ1 hm
    have e3 : rd σ1 84 3 = nI (cn (aR A) 3) := by rw [← hi.2.2.2.1.1, ← hm.1]; rfl
    unfold f_X12_block_61
    refine it_anyK (fun k => nI k) p n _ _ (fun k hk hpk => ?_) (fun k hk hpk => ?_) ?_
    · rw [hp] at hpk
      show b_X12_block_61 _ _ (nI k) σ1 = _
      unfold b_X12_block_61
      rw [if_pos (nI_lt hk (by omega)), e24, inb_nI (by omega) (by decide), chk_so, chk_t (by decide), rd_ar (by omega), hm.2.2.2.2.2.2.2.2.1, e3, m_pnb _ (by omega), bd_so, if_pos (of_decide_eq_true hpk)]
    · rw [hp] at hpk
      show b_X12_block_61 _ _ (nI k) σ1 = _
      unfold b_X12_block_61
      rw [if_pos (nI_lt hk (by omega)), e24, inb_nI (by omega) (by decide), chk_so, chk_t (by decide), rd_ar (by omega), hm.2.2.2.2.2.2.2.2.1, e3, m_pnb _ (by omega), bd_so, if_neg (of_decide_eq_false hpk), nI_1]
    · show b_X12_block_61 _ _ (nI n) σ1 = _
      unfold b_X12_block_61
      rw [if_neg (nI_nlt (Nat.le_refl _) (by omega))]
  by_cases q2 : anyN p n = true
  · refine Opn.err 5 (by decide) hI hC hM ?_ (fun σ hm => ?_)
    · rw [s11, t11, if_pos q2]; unfold f_X11_block_76; exact bd2_id _
    · rw [s12 hm, t12 hm, if_pos q2]; unfold f_X12_block_92; exact bd2_id _
  have hg : ∀ k, k < n → aS A (24 * s + k) = -1 ∨ ∃ v, aS A (24 * s + k) = nI v ∧ v < cn (aR A) 3 := by
    intro k hk
    refine pnb_1 (by omega) (fun h0 => q2 (anyN_t.mpr ⟨k, hk, ?_⟩))
    rw [hp]; exact decide_eq_true h0
  refine Opn.mk' (nI n) (sR A (tld (aR A) n (fun k => aS A (24 * s + k)))) (stF σ 11 0 n (fun k => ar σ (77 + 2 * s) (0 + k))) ?_ (CR.tl hI hC n1 (fun k hk => ?_) (fun k hk => ar_stF_ne hk) rfl) (FrC.stF (by omega)) (Nat.le_succ _) (Inv.tl hI n1 hg) hM (fun σ1 hm => ⟨stG σ1 84 (tld (aR A) n (fun k => aS A (24 * s + k))), ?_, MR.tl hI hm n1 (ar_stG_eq _ _ _) (fun k hk => ar_stG_ne hk), FrM.stG (by omega)⟩)
  · rw [s11, t11, if_neg q2]
    unfold f_X11_block_88
    rw [show 76 + 2 * s + 1 = 77 + 2 * s by omega, alen_sh hs, show (0 : Int32) = nI 0 from rfl, cpokN (by omega) (by omega) (by omega) (by omega) (by omega), chk_so, nm_so, cpy_stF (by omega) (by omega) (by omega)]
  · rw [ar_stF_eq]
    by_cases q : k < n
    · rw [fil_in (by omega) (by omega), tld_at q, Nat.zero_add, Nat.sub_zero, ds3 k (by omega)]
    · rw [fil_out (by omega), tld_ge q]; exact hC.1.2.2.2.2.1 k hk
  · rw [s12 hm, t12 hm, if_neg q2]
    unfold f_X12_block_104 f_X12_block_106
    refine (it_row 84 n (fun j => tld (aR A) j (fun k => aS A (24 * s + k))) (by rw [tld_0, hm.1]) (fun k hk => ?_)).trans (it_r ?_)
    · show b_X12_block_106 _ _ (nI k) _ = _
      unfold b_X12_block_106
      rw [if_pos (nI_lt hk (by omega)), e24, inb_nI (by omega) (by decide), chk_so, show (10 + (5 * nI k)) + 4 = nI (14 + 5 * k) from (ix5 k 4).trans (by rw [show 10 + 5 * k + 4 = 14 + 5 * k by omega]), inb_nI (by omega) (by decide), chk_so, nm_so, wr_nI _ (by omega), nI_1, rd_ar (by omega), ar_stG_ne (by omega), hm.2.2.2.2.2.2.2.2.1, fw_stG, ← tld_s]
    · show b_X12_block_106 _ _ (nI n) _ = _
      unfold b_X12_block_106
      rw [if_neg (nI_nlt (Nat.le_refl _) (by omega))]
/-! feed -/
def byt (w : Int64) (k : Nat) : Int32 := (((w).toUInt64 >>> (((8 * nI k) : Int32).toInt64.toUInt64 &&& Int64.toUInt64 63)).toInt64).toInt32 &&& 255
def fed (r : Nat → Int32) (m k : Nat) (w : Int64) : Nat → Int32 := upd (fil r (240 + m) k (byt w)) 4 (nI (m + k))
theorem fed_o {r : Nat → Int32} {m k j : Nat} {w : Int64} (h : j ≠ 4) (h2 : j < 240 + m ∨ 240 + m + k ≤ j) : fed r m k w j = r j := by
  unfold fed; rw [upd_ne h, fil_out (by omega)]
theorem fed_i {r : Nat → Int32} {m k j : Nat} {w : Int64} (h2 : 240 + m ≤ j ∧ j < 240 + m + k) : fed r m k w j = byt w (j - (240 + m)) := by
  unfold fed; rw [upd_ne (by omega), fil_in h2.1 h2.2]
theorem fed_4 {r : Nat → Int32} {m k : Nat} {w : Int64} : fed r m k w 4 = nI (m + k) := upd_eq _ _ _
theorem fed_s (r : Nat → Int32) (m k : Nat) (w : Int64) : upd (upd (fed r m k w) (240 + m + k) (byt w k)) 4 (nI (m + k + 1)) = fed r m (k + 1) w := funext fun j => by
  by_cases q4 : j = 4
  · rw [q4, upd_eq, fed_4]; rfl
  rw [upd_ne q4]
  by_cases q : j = 240 + m + k
  · rw [q, upd_eq, fed_i ⟨by omega, by omega⟩, show 240 + m + k - (240 + m) = k by omega]
  rw [upd_ne q]
  by_cases q2 : 240 + m ≤ j ∧ j < 240 + m + k
  · rw [fed_i q2, fed_i ⟨q2.1, by omega⟩]
  · rw [fed_o q4 (by omega), fed_o q4 (by omega)]
def cfd (σ : St) (m k : Nat) (w : Int64) : St := fw (stF σ 53 m k (byt w)) 52 1 (nI (m + k))
theorem cfd_s (σ : St) (m k : Nat) (w : Int64) : fw (fw (cfd σ m k w) 53 (m + k) (byt w k)) 52 1 (nI (m + k + 1)) = cfd σ m (k + 1) w := by
  show fw (fw (fw (stG σ 53 (fil (ar σ 53) m k (byt w))) 52 1 (nI (m + k))) 53 (m + k) (byt w k)) 52 1 (nI (m + k + 1)) = fw (stG σ 53 (fil (ar σ 53) m (k + 1) (byt w))) 52 1 (nI (m + (k + 1)))
  rw [fw3 (by decide), fil_s, Nat.add_assoc]
theorem op_feed (w : Int64) (x : Int32) (hI : Inv A) (hC : CR A σ) (hM : MR A σ) : Opn A σ (f_X11_feed w x) (f_X12_feed w x) := by
  have hi := hI.1.1
  have b0 := hi.1.2.2
  have b1 := hi.2.1.2
  have b2 := hi.2.2.1.2
  have b3 := hi.2.2.2.1.2
  have b4 := hi.2.2.2.2.1.2
  have b6 : cn (aR A) 362 ≤ 50 := (hI.1.2.2.2.2.2.2 1 (by decide)).2.1
  obtain ⟨c1, c2, c3, c4, c5, c6, c7, c8⟩ := hC.1
  obtain ⟨i1, i2, i3, i4, i5, i6, i7⟩ := hI.1
  by_cases q1 : x < 1
  · refine Opn.err 1 (by decide) hI hC hM ?_ (fun σ _ => ?_)
    · unfold f_X11_feed f_X11_feed_11; rw [if_pos q1]; exact bd2_id _
    · unfold f_X12_feed f_X12_in; rw [if_pos q1, bd_so, if_pos rfl]; exact bd2_id _
  by_cases q2 : 8 < x
  · refine Opn.err 1 (by decide) hI hC hM ?_ (fun σ _ => ?_)
    · unfold f_X11_feed f_X11_feed_11; rw [if_neg q1, if_pos q2]; exact bd2_id _
    · unfold f_X12_feed f_X12_in; rw [if_neg q1, if_pos q2, bd_so, if_pos rfl]; exact bd2_id _
  obtain ⟨n, hn1, hn8, rfl⟩ := rng (a := 1) (b := 8) (by decide) (by decide) q1 q2
  obtain ⟨m, hm⟩ : ∃ m, m = cn (aR A) 4 := ⟨_, rfl⟩
  have er : aR A 4 = nI m := by rw [hm]; exact hi.2.2.2.2.1.1
  have ec : ar σ 52 1 = nI m := c2.1.trans er
  rw [← hm] at b4
  by_cases q3 : 50 < m + n
  · refine Opn.err 4 (by decide) hI hC hM ?_ (fun σ hM => ?_)
    · unfold f_X11_feed; rw [if_neg q1, if_neg q2, fd_ar, ec, nI_add, if_pos (show (50 : Int32) < nI (m + n) from nI_lt q3 (by omega))]; exact bd2_id _
    · unfold f_X12_feed f_X12_in; rw [if_neg q1, if_neg q2, bd_so, if_neg (by decide), chk_t (by decide), show rd σ 84 4 = nI m by rw [← er, ← hM.1]; rfl, nI_add, if_pos (show (50 : Int32) < nI (m + n) from nI_lt q3 (by omega))]; exact bd2_id _
  have q3' : ¬ (50 : Int32) < nI (m + n) := nI_nlt (show m + n ≤ 50 by omega) (by decide)
  have hby : ∀ k, ∃ j : Nat, j < 256 ∧ byt w k = nI j := fun k => pk_andE _ 8 (by decide)
  have ef : ∀ j, j ≠ 4 → (j < 240 + m ∨ 240 + m + n ≤ j) → fed (aR A) m n w j = aR A j := fun j h1 h2 => fed_o h1 h2
  refine Opn.mk' (nI (m + n)) (sR A (fed (aR A) m n w)) (cfd σ m n w) ?_ ?_ ((FrC.stF (by omega)).tr (FrC.fw (by omega))) (Nat.le_succ _) ?_ hM (fun σ1 hm1 => ⟨stG σ1 84 (fed (aR A) m n w), ?_, ?_, FrM.stG (by omega)⟩)
  · unfold f_X11_feed
    rw [if_neg q1, if_neg q2, fd_ar, ec, nI_add, if_neg q3']
    unfold f_X11_feed_43
    have e := it_lp (f := fun z : Int32 × St => b_X11_feed_43 w (nI n) z.1 z.2) (S := Unit) (fun k _ => (nI k, cfd σ m k w)) (fun _ _ => ()) n () (fun k _ hk => by
      show b_X11_feed_43 w (nI n) (nI k) (cfd σ m k w) = _
      unfold b_X11_feed_43
      rw [if_pos (nI_lt hk (by omega)), e_add (c := 52) (n := m + k) (by decide) (by unfold cfd; rw [ar_fw_eq, upd_eq]) (show m + k < 50 by omega) (by decide), bd_so, nI_1]
      show some (Sum.inl (nI (k + 1), fw (fw (cfd σ m k w) 53 (m + k) (byt w k)) 52 1 (nI (m + k + 1)))) = _
      rw [cfd_s])
    have e0 : (nI 0, cfd σ m 0 w) = ((0 : Int32), σ) := by
      unfold cfd
      rw [stF_0, fw_same (by rw [ec, Nat.add_zero])]
      rfl
    rw [e0] at e
    refine e.trans (it_r ?_)
    show b_X11_feed_43 w (nI n) (nI n) (cfd σ m n w) = _
    unfold b_X11_feed_43 f_X11_feed_77
    rw [if_neg (nI_nlt (Nat.le_refl _) (by omega)), fd_ar]
    unfold cfd
    rw [ar_fw_eq, upd_eq]
    rfl
  · have eu : ∀ k, k ≠ 52 → k ≠ 53 → ar (cfd σ m n w) k = ar σ k := fun k h1 h2 => by unfold cfd; rw [ar_fw_ne h1, ar_stF_ne h2]
    refine hC.row' ⟨c1.cg (eu 1 (by omega) (by omega)) (fun k _ => ef k (by omega) (by omega)), ⟨?_, fun i h => ?_⟩, c3.cg ⟨eu 54 (by omega) (by omega), eu 55 (by omega) (by omega)⟩ (ef 5 (by omega) (by omega)) (fun k _ _ => ef k (by omega) (by omega)), c4.cg (fun k _ _ => eu k (by omega) (by omega)) (fun k _ => ef k (by omega) (by omega)), c5.cg (eu 11 (by omega) (by omega)) (ef 1 (by omega) (by omega)) (fun k _ _ => ef k (by omega) (by omega)), c6.cg (eu 10 (by omega) (by omega)) (fun k _ _ => eu k (by omega) (by omega)) (Nat.le_refl _) (ef 1 (by omega) (by omega)) (fun p _ k _ _ => ef k (by omega) (by omega)), c7.cg (fun k _ _ => eu k (by omega) (by omega)) (ef 2 (by omega) (by omega)) (fun k _ _ => ef k (by omega) (by omega)), c8.cg (fun k _ _ => eu k (by omega) (by omega)) (ef 3 (by omega) (by omega)) (fun k _ _ => ef k (by omega) (by omega))⟩ (fun k hk _ => eu k (by unfold PC at hk; omega) (by unfold PC at hk; omega)) rfl (eu 10 (by omega) (by omega))
    · rw [fed_4]; unfold cfd; rw [ar_fw_eq, upd_eq]
    · rw [cn_nI fed_4 (by omega)] at h
      show ar (cfd σ m n w) 53 i = _
      unfold cfd
      rw [ar_fw_ne (by omega), ar_stF_eq]
      by_cases q : m ≤ i
      · rw [fil_in q h, fed_i ⟨by omega, by omega⟩, show 240 + i - (240 + m) = i - m by omega]
      · rw [fil_out (by omega), ef _ (by omega) (by omega)]
        exact c2.2 i (by omega)
  · refine hI.row ⟨ICn.of ((ef 0 (by omega) (by omega)).trans hi.1.1) hi.1.2 ((ef 1 (by omega) (by omega)).trans hi.2.1.1) hi.2.1.2 ((ef 2 (by omega) (by omega)).trans hi.2.2.1.1) hi.2.2.1.2 ((ef 3 (by omega) (by omega)).trans hi.2.2.2.1.1) hi.2.2.2.1.2 fed_4 (by omega) ((ef 5 (by omega) (by omega)).trans hi.2.2.2.2.2.1) hi.2.2.2.2.2.2, i2.cg (ef 1 (by omega) (by omega)) (ef 3 (by omega) (by omega)) (fun k _ _ => ef k (by omega) (by omega)), i3.cg (ef 0 (by omega) (by omega)) (ef 1 (by omega) (by omega)) (ef 2 (by omega) (by omega)) (fun k _ _ => ef k (by omega) (by omega)), i4.cg (ef 2 (by omega) (by omega)) (fun k _ _ => ef k (by omega) (by omega)), i5.cg (ef 3 (by omega) (by omega)) (fun k _ _ => ef k (by omega) (by omega)), ?_, i7.cg (fun k _ => ef k (by omega) (by omega))⟩
    intro i h
    rw [cn_nI fed_4 (by omega)] at h
    by_cases q : m ≤ i
    · obtain ⟨j, hj, ej⟩ := hby (240 + i - (240 + m))
      have e5 : fed (aR A) m n w (240 + i) = nI j := (fed_i ⟨by omega, by omega⟩).trans ej
      rw [cn_nI e5 (by omega)]
      exact ⟨e5, hj⟩
    · have e5 := ef (240 + i) (by omega) (by omega)
      rw [cn_cong e5, e5]
      exact i6 i (by omega)
  · unfold f_X12_feed f_X12_in
    rw [if_neg q1, if_neg q2, bd_so, if_neg (by decide), chk_t (by decide), show rd σ1 84 4 = nI m by rw [← er, ← hm1.1]; rfl, nI_add, if_neg q3']
    unfold f_X12_feed_38
    have e00 : fed (aR A) m 0 w = ar σ1 84 := by
      rw [hm1.1]
      funext j
      by_cases q : j = 4
      · rw [q, fed_4, Nat.add_zero, er]
      · exact fed_o q (by omega)
    refine (it_row 84 n (fun k => fed (aR A) m k w) e00 (fun k hk => ?_)).trans (it_k ?_)
    · show b_X12_feed_38 w (nI n) (nI k) _ = _
      unfold b_X12_feed_38
      have e4 : ∀ τ : St, rd τ 84 4 = ar τ 84 4 := fun τ => rfl
      rw [if_pos (nI_lt hk (by omega)), chk_t (by decide), e4, ar_stG_eq, fed_4, show (240 + nI (m + k) : Int32) = nI (240 + m + k) by rw [show (240 : Int32) = nI 240 from rfl, nI_add, ← Nat.add_assoc], inb_nI (by omega) (by decide), chk_so, nm_so, wr_nI _ (by omega), fw_stG, nm_so, e4, ar_stG_eq, upd_ne (by omega), fed_4, nI_1, nI_1, Int64.toInt32_and]
      show some (Sum.inl (nI (k + 1), fw (stG σ1 84 (upd (fed (aR A) m k w) (240 + m + k) (byt w k))) 84 4 (nI (m + k + 1)))) = _
      rw [fw_stG, fed_s]
    · show b_X12_feed_38 w (nI n) (nI n) _ = _
      unfold b_X12_feed_38 f_X12_feed_87
      rw [if_neg (nI_nlt (Nat.le_refl _) (by omega)), chk_t (by decide)]
      show some (Sum.inr (ar (stG σ1 84 (fed (aR A) m n w)) 84 4, stG σ1 84 (fed (aR A) m n w))) = _
      rw [ar_stG_eq, fed_4]
      rfl
  · refine hm1.row (ar_stG_eq _ _ _) (fun k hk => ar_stG_ne (by omega)) (by rw [ar_stG_ne (by omega)]) (by rw [ar_stG_ne (by omega)]) (hm1.lay ⟨ef 1 (by omega) (by omega), ef 2 (by omega) (by omega), fun p hp => ⟨ef _ (by omega) (by omega), ef _ (by omega) (by omega)⟩, fun k _ _ => ef k (by omega) (by omega), fun k _ _ => ef k (by omega) (by omega)⟩ (fun k hk => ar_stG_ne (by omega)) (by rw [ar_stG_ne (by omega)]))
end O10
