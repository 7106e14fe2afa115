/-! what bars the cast first -/
def hit (r : Nat → Int32) (p q : Nat) : Prop := r (14 + 5 * q) = r (14 + 5 * p) ∧ hwr r p q ≠ 0
def stp (r : Nat → Int32) (p : Nat) : Prop := r (14 + 5 * p) ≠ -1 ∧ (abl r (cn r (14 + 5 * p)) p = 0 ∨ ∃ q, (p < q ∧ q < cn r 1) ∧ hit r p q)
def F3y (σ σ' : St) : Prop := (∀ c, c ≠ 3 → c ≠ 30 → c ≠ 31 → ar σ' c = ar σ c) ∧ σ'.1 = σ.1 ∧ σ'.2.2 = σ.2.2
theorem F3y.rfl' (σ : St) : F3y σ σ := ⟨fun _ _ _ _ => rfl, rfl, rfl⟩
theorem F3y.tr {a b c : St} (h : F3y a b) (h2 : F3y b c) : F3y a c := ⟨fun k p q s => (h2.1 k p q s).trans (h.1 k p q s), h2.2.1.trans h.2.1, h2.2.2.trans h.2.2⟩
theorem F3y.of {σ σ' : St} (h : F3 σ σ') : F3y σ σ' := ⟨h.1, h.2.1, h.2.2.1⟩
theorem F3y.of31 {σ σ' : St} (h : F31 σ σ') : F3y σ σ' := ⟨fun c _ h1 h2 => h.1 c h1 h2, h.2.1, h.2.2⟩
theorem F3y.w {σ : St} {j : Nat} {v : Int32} : F3y σ (fw σ 3 j v) := ⟨fun c h _ _ => ar_fw_ne h, rfl, rfl⟩
theorem F3y.frs {σ σ' : St} (h : F3y σ σ') : FrS σ σ' := by
  refine ⟨fun k hk => h.1 k (fun e => hk (by unfold SC; omega)) (fun e => hk (by unfold SC; omega)) (fun e => hk (by unfold SC; omega)), h.2.1, h.2.2, ?_, ?_⟩
  · rw [rc_ar, rc_ar, h.1 4 (by omega) (by omega) (by omega)]; exact id
  · rw [rc_ar, rc_ar, h.1 5 (by omega) (by omega) (by omega)]; exact id
section FBR
variable {A : AS} {σ : St} {p : Nat}
theorem ab_no {q : Nat} (hI : Inv A) (hC : CR A σ) (hp : p < cn (aR A) 1) (hq : q < cn (aR A) 1) (h : ¬ hit (aR A) p q) : ∃ τ, b_X10_findBarAbove_4 (nI p) (aR A (14 + 5 * p)) (nI q) σ = some (.inl (nI (q + 1), τ)) ∧ F3y σ τ ∧ ar τ 3 4 = ar σ 3 4 := by
  have b1 := hI.1.1.2.1.2
  have e1 : fd σ 1 1 = nI (cn (aR A) 1) := hC.1.1.2.1.trans hI.1.1.2.1.1
  unfold b_X10_findBarAbove_4 f_X10_findBarAbove_49
  rw [e1, if_pos (nI_lt hq (by omega)), inb_nI (show q < 10 by omega) (by decide), chk_so, rd_ar (by omega), show ar σ 11 q = _ from hC.1.2.2.2.2.1 q hq, nI_1]
  by_cases q1 : aR A (14 + 5 * q) = aR A (14 + 5 * p)
  · rw [if_pos q1, nm_so]
    obtain ⟨σ', x1, x2, x3⟩ := e_how hI (hC.frs (F3y.w (σ := σ) (j := 5) (v := nI q)).frs) hp hq
    have h0 : hwr (aR A) p q = 0 := Classical.byContradiction fun hn => h ⟨q1, hn⟩
    refine ⟨σ', ?_, F3y.w.tr (F3y.of x2), ?_⟩
    · rw [x1, bd2_so, if_pos h0]
    · rw [x2.2.2.2 4 (by omega), ar_fw_eq, upd_ne (by omega)]
  · exact ⟨σ, by rw [if_neg q1], F3y.rfl' σ, rfl⟩
theorem ab_yes {q : Nat} (hI : Inv A) (hC : CR A σ) (hp : p < cn (aR A) 1) (hq : q < cn (aR A) 1) (h : hit (aR A) p q) : ∃ τ, b_X10_findBarAbove_4 (nI p) (aR A (14 + 5 * p)) (nI q) σ = some (.inr (hwr (aR A) p q, τ)) ∧ F3y σ τ ∧ ar τ 3 4 = ar σ 3 4 ∧ ar τ 3 5 = nI q ∧ ar τ 3 6 = lnr (aR A) p q := by
  have b1 := hI.1.1.2.1.2
  have e1 : fd σ 1 1 = nI (cn (aR A) 1) := hC.1.1.2.1.trans hI.1.1.2.1.1
  unfold b_X10_findBarAbove_4
  rw [e1, if_pos (nI_lt hq (by omega)), inb_nI (show q < 10 by omega) (by decide), chk_so, rd_ar (by omega), show ar σ 11 q = _ from hC.1.2.2.2.2.1 q hq, if_pos h.1, nm_so]
  obtain ⟨σ', x1, x2, x3⟩ := e_how hI (hC.frs (F3y.w (σ := σ) (j := 5) (v := nI q)).frs) hp hq
  refine ⟨σ', by rw [x1, bd2_so, if_neg h.2], F3y.w.tr (F3y.of x2), ?_, ?_, x3 h.2⟩
  · rw [x2.2.2.2 4 (by omega), ar_fw_eq, upd_ne (by omega)]
  · rw [x2.2.2.2 5 (by omega), ar_fw_eq, upd_eq]
theorem ab_skip {n : Nat} (hI : Inv A) (hC : CR A σ) (hp : p < cn (aR A) 1) (hn : p + 1 ≤ n) (hn2 : n ≤ cn (aR A) 1) (h : ∀ q, p < q → q < n → ¬ hit (aR A) p q) : ∃ τ, f_X10_findBarAbove (nI p) (aR A (14 + 5 * p)) σ = it (fun z : Int32 × St => b_X10_findBarAbove_4 (nI p) (aR A (14 + 5 * p)) z.1 z.2) (nI n, τ) ∧ F3y σ τ ∧ ar τ 3 4 = ar σ 3 4 := by
  unfold f_X10_findBarAbove f_X10_findBarAbove_4
  rw [nI_1]
  exact it_ex (f := fun z : Int32 × St => b_X10_findBarAbove_4 (nI p) (aR A (14 + 5 * p)) z.1 z.2) (V := St) (fun k v => (nI k, v)) (fun _ v => F3y σ v ∧ ar v 3 4 = ar σ 3 4) (p + 1) n hn (v := σ) ⟨F3y.rfl' σ, rfl⟩ (fun k v hk hkn hv => by
    obtain ⟨τ, t1, t2, t3⟩ := ab_no hI (hC.frs hv.1.frs) hp (show k < cn (aR A) 1 by omega) (h k (by omega) hkn)
    exact ⟨τ, t1, hv.1.tr t2, t3.trans hv.2⟩)
theorem e_above0 (hI : Inv A) (hC : CR A σ) (hp : p < cn (aR A) 1) (h : ∀ q, p < q → q < cn (aR A) 1 → ¬ hit (aR A) p q) : ∃ τ, f_X10_findBarAbove (nI p) (aR A (14 + 5 * p)) σ = some (0, τ) ∧ F3y σ τ ∧ ar τ 3 4 = ar σ 3 4 := by
  have b1 := hI.1.1.2.1.2
  obtain ⟨τ, t1, t2, t3⟩ := ab_skip hI hC hp (n := cn (aR A) 1) (by omega) (Nat.le_refl _) h
  refine ⟨τ, t1.trans (it_r ?_), t2, t3⟩
  have e1 : fd τ 1 1 = nI (cn (aR A) 1) := (hC.frs t2.frs).1.1.2.1.trans hI.1.1.2.1.1
  show b_X10_findBarAbove_4 _ _ (nI (cn (aR A) 1)) τ = _
  unfold b_X10_findBarAbove_4
  rw [e1, if_neg (nI_nlt (Nat.le_refl _) (by omega))]
theorem e_above1 {q : Nat} (hI : Inv A) (hC : CR A σ) (hp : p < cn (aR A) 1) (hpq : p < q) (hq : q < cn (aR A) 1) (h : hit (aR A) p q) (hn : ∀ j, p < j → j < q → ¬ hit (aR A) p j) : ∃ τ, f_X10_findBarAbove (nI p) (aR A (14 + 5 * p)) σ = some (hwr (aR A) p q, τ) ∧ F3y σ τ ∧ ar τ 3 4 = ar σ 3 4 ∧ ar τ 3 5 = nI q ∧ ar τ 3 6 = lnr (aR A) p q := by
  obtain ⟨τ, t1, t2, t3⟩ := ab_skip hI hC hp (n := q) (by omega) (by omega) hn
  obtain ⟨τ', s1, s2, s3, s4, s5⟩ := ab_yes hI (hC.frs t2.frs) hp hq h
  exact ⟨τ', t1.trans (it_r s1), t2.tr s2, s3.trans t3, s4, s5⟩
theorem tl_y (hI : Inv A) (hp : p < cn (aR A) 1) (h : aR A (14 + 5 * p) ≠ -1) : aR A (14 + 5 * p) = nI (cn (aR A) (14 + 5 * p)) ∧ cn (aR A) (14 + 5 * p) < cn (aR A) 3 := (hI.1.2.1 p hp).2.2.2.2.resolve_left h
theorem e_fb_no (hI : Inv A) (hC : CR A σ) (hp : p < cn (aR A) 1) (h : ¬ stp (aR A) p) : ∃ τ, b_X10_findBar_2 (nI p) σ = some (.inl (nI (p + 1), τ)) ∧ F3y σ τ := by
  have b1 := hI.1.1.2.1.2
  have e1 : fd σ 1 1 = nI (cn (aR A) 1) := hC.1.1.2.1.trans hI.1.1.2.1.1
  unfold b_X10_findBar_2 f_X10_findBar_52 f_X10_findBar_59
  rw [e1, if_pos (nI_lt hp (by omega)), inb_nI (show p < 10 by omega) (by decide), chk_so, rd_ar (by omega), show ar σ 11 p = _ from hC.1.2.2.2.2.1 p hp, nI_1]
  by_cases q1 : aR A (14 + 5 * p) = -1
  · exact ⟨σ, by rw [if_pos q1], F3y.rfl' σ⟩
  · obtain ⟨ey, hy⟩ := tl_y hI hp q1
    rw [if_neg q1, nm_so]
    have hf0 := F3y.w (σ := σ) (j := 4) (v := nI p)
    obtain ⟨σ1, x1, x2⟩ := e_isAble (σ := fw σ 3 4 (nI p)) hI (hC.frs hf0.frs) hy hp
    have ha : abl (aR A) (cn (aR A) (14 + 5 * p)) p ≠ 0 := fun e => h ⟨q1, Or.inl e⟩
    rw [← ey] at x1
    rw [x1, bd2_so, if_neg ha]
    have hf1 := hf0.tr (F3y.of31 x2)
    obtain ⟨τ, t1, t2, t3⟩ := e_above0 hI (hC.frs hf1.frs) hp (fun q h1 h2 hh => h ⟨q1, Or.inr ⟨q, ⟨h1, h2⟩, hh⟩⟩)
    exact ⟨τ, by rw [t1, bd2_so, if_pos rfl], hf1.tr t2⟩
theorem e_fb_skip {n : Nat} (hI : Inv A) (hC : CR A σ) (hn : n ≤ cn (aR A) 1) (h : ∀ p, p < n → ¬ stp (aR A) p) : ∃ τ, f_X10_findBar σ = it (fun z : Int32 × St => b_X10_findBar_2 z.1 z.2) (nI n, τ) ∧ F3y σ τ := by
  unfold f_X10_findBar f_X10_findBar_2
  exact it_ex (f := fun z : Int32 × St => b_X10_findBar_2 z.1 z.2) (V := St) (fun k v => (nI k, v)) (fun _ v => F3y σ v) 0 n (Nat.zero_le _) (v := σ) (F3y.rfl' σ) (fun k v _ hkn hv => by
    obtain ⟨τ, t1, t2⟩ := e_fb_no hI (hC.frs hv.frs) (show k < cn (aR A) 1 by omega) (h k hkn)
    exact ⟨τ, t1, hv.tr t2⟩)
/-! the model -/
def F94 (σ σ' : St) : Prop := (∀ c, c ≠ 90 → c ≠ 93 → c ≠ 94 → ar σ' c = ar σ c) ∧ σ'.1 = σ.1 ∧ σ'.2.2 = σ.2.2
theorem F94.rfl' (σ : St) : F94 σ σ := ⟨fun _ _ _ _ => rfl, rfl, rfl⟩
theorem F94.tr {a b c : St} (h : F94 a b) (h2 : F94 b c) : F94 a c := ⟨fun k p q s => (h2.1 k p q s).trans (h.1 k p q s), h2.2.1.trans h.2.1, h2.2.2.trans h.2.2⟩
theorem F94.of {σ σ' : St} (h : F93 σ σ') : F94 σ σ' := ⟨fun c h1 h2 _ => h.1 c h1 h2, h.2.1, h.2.2⟩
theorem F94.w {σ : St} {j : Nat} {v : Int32} : F94 σ (fw σ 94 j v) := ⟨fun c _ _ h => ar_fw_ne h, rfl, rfl⟩
theorem F94.frq {σ σ' : St} (h : F94 σ σ') : FrQ σ σ' := by
  have h6 := h.1 6 (by omega) (by omega) (by omega)
  exact ⟨⟨fun k hk _ => h.1 k (by omega) (by omega) (by omega), h.2.1⟩, fun k hk => h.1 k (by omega) (by omega) (by omega), by rw [h6], by rw [h6], by rw [h6]⟩
def LD (A : AS) (σ : St) : Prop := Laid (aR A) (ar σ 87) (ar σ 88) (ar σ 89)
theorem LD.f {σ σ' : St} (h : LD A σ) (hf : F94 σ σ') : LD A σ' := by
  unfold LD
  rw [hf.1 87 (by omega) (by omega) (by omega), hf.1 88 (by omega) (by omega) (by omega), hf.1 89 (by omega) (by omega) (by omega)]
  exact h
theorem m_hl {q : Nat} (hI : Inv A) (hl : LD A σ) (hp : p < cn (aR A) 1) (hq : q < cn (aR A) 1) (hpq : p < q) : rd σ 88 ((10 * nI p) + nI q) = hwr (aR A) p q ∧ rd σ 89 ((10 * nI p) + nI q) = lnr (aR A) p q ∧ inb ((10 * nI p) + nI q) 100 = true := by
  have b1 := hI.1.1.2.1.2
  obtain ⟨y1, y2⟩ := hl.1 p q hp hq (by omega)
  rw [hws_e hI.1] at y1
  rw [lns_e hI.1] at y2
  rw [ix10, rd_ar (by omega), rd_ar (by omega)]
  exact ⟨y1, y2, inb_nI (by omega) (by decide)⟩
theorem m_ab_no {q : Nat} (hI : Inv A) (hm : MR A σ) (hl : LD A σ) (hp : p < cn (aR A) 1) (hq : q < cn (aR A) 1) (hpq : p < q) (h : ¬ hit (aR A) p q) : b_X12_findBar_65 (nI p) (aR A (14 + 5 * p)) (nI q) σ = some (.inl (nI (q + 1))) := by
  have b1 := hI.1.1.2.1.2
  have e1 : rd σ 84 1 = nI (cn (aR A) 1) := by rw [← hI.1.1.2.1.1, ← hm.1]; rfl
  obtain ⟨y1, y2, y3⟩ := m_hl hI hl hp hq hpq
  unfold b_X12_findBar_65 f_X12_findBar_144
  rw [chk_t (by decide), e1, if_pos (nI_lt hq (by omega)), m_it4 (by omega) hm.1, bd_so, y3, chk_so, y1, nI_1]
  by_cases q1 : aR A (14 + 5 * q) = aR A (14 + 5 * p)
  · rw [if_pos q1, if_pos (Classical.byContradiction fun hn => h ⟨q1, hn⟩)]
  · rw [if_neg q1]
theorem m_ab_skip {n : Nat} (hI : Inv A) (hm : MR A σ) (hl : LD A σ) (hp : p < cn (aR A) 1) (hn : p + 1 ≤ n) (hn2 : n ≤ cn (aR A) 1) (h : ∀ q, p < q → q < n → ¬ hit (aR A) p q) : f_X12_findBar_65 (nI p) (aR A (14 + 5 * p)) (nI p + 1) σ = it (fun z : Int32 => b_X12_findBar_65 (nI p) (aR A (14 + 5 * p)) z σ) (nI n) := by
  unfold f_X12_findBar_65
  rw [nI_1]
  obtain ⟨_, e, _⟩ := it_ex (f := fun z : Int32 => b_X12_findBar_65 (nI p) (aR A (14 + 5 * p)) z σ) (V := Unit) (fun k _ => nI k) (fun _ _ => True) (p + 1) n hn (v := ()) trivial (fun k v hk hkn _ => ⟨(), m_ab_no hI hm hl hp (show k < cn (aR A) 1 by omega) (by omega) (h k (by omega) hkn), trivial⟩)
  exact e
theorem m_fb_no (hI : Inv A) (hm : MR A σ) (hl : LD A σ) (hp : p < cn (aR A) 1) (h : ¬ stp (aR A) p) : ∃ τ, b_X12_findBar_13 (nI p) σ = some (.inl (nI (p + 1), τ)) ∧ F94 σ τ ∧ ar τ 94 0 = ar σ 94 0 := by
  have b1 := hI.1.1.2.1.2
  have e1 : rd σ 84 1 = nI (cn (aR A) 1) := by rw [← hI.1.1.2.1.1, ← hm.1]; rfl
  unfold b_X12_findBar_13
  rw [chk_t (by decide), e1, if_pos (nI_lt hp (by omega)), m_it4 (by omega) hm.1, bd_so]
  by_cases q1 : aR A (14 + 5 * p) = -1
  · refine ⟨σ, ?_, F94.rfl' σ, rfl⟩
    unfold f_X12_findBar_150
    rw [if_pos (by rw [q1]; decide), nI_1]
  · obtain ⟨ey, hy⟩ := tl_y hI hp q1
    have b3 := hI.1.1.2.2.2.1.2
    have hn0 : ¬ aR A (14 + 5 * p) < 0 := by rw [ey]; exact nI_pos (by omega)
    have ha : abl (aR A) (cn (aR A) (14 + 5 * p)) p ≠ 0 := fun e => h ⟨q1, Or.inl e⟩
    rw [if_neg hn0, chk_t (by decide), nm_so, show wr σ 94 1 (nI p) = fw σ 94 1 (nI p) from rfl]
    have hf0 := F94.w (σ := σ) (j := 1) (v := nI p)
    obtain ⟨σ1, x1, x2⟩ := m_isAble (σ := fw σ 94 1 (nI p)) hI (hm.frq hf0.frq) hy hp
    rw [← ey] at x1
    rw [x1, bd2_so, if_neg ha]
    have hf1 := hf0.tr (F94.of x2)
    have hm1 := hm.frq hf1.frq
    refine ⟨σ1, ?_, hf1, ?_⟩
    · rw [m_ab_skip hI hm1 (hl.f hf1) hp (n := cn (aR A) 1) (by omega) (Nat.le_refl _) (fun q h1 h2 hh => h ⟨q1, Or.inr ⟨q, ⟨h1, h2⟩, hh⟩⟩)]
      refine it_r ?_
      have e2 : rd σ1 84 1 = nI (cn (aR A) 1) := by rw [← hI.1.1.2.1.1, ← hm1.1]; rfl
      show b_X12_findBar_65 _ _ (nI (cn (aR A) 1)) σ1 = _
      unfold b_X12_findBar_65 f_X12_findBar_150
      rw [chk_t (by decide), e2, if_neg (nI_nlt (Nat.le_refl _) (by omega)), nI_1]
      rfl
    · rw [x2.1 94 (by omega) (by omega), ar_fw_eq, upd_ne (by omega)]
theorem m_fb_skip {n : Nat} (hI : Inv A) (hm : MR A σ) (hl : LD A σ) (hn : n ≤ cn (aR A) 1) (h : ∀ p, p < n → ¬ stp (aR A) p) : ∃ τ, f_X12_findBar_13 0 σ = it (fun z : Int32 × St => b_X12_findBar_13 z.1 z.2) (nI n, τ) ∧ F94 σ τ ∧ ar τ 94 0 = ar σ 94 0 := by
  unfold f_X12_findBar_13
  exact it_ex (f := fun z : Int32 × St => b_X12_findBar_13 z.1 z.2) (V := St) (fun k v => (nI k, v)) (fun _ v => F94 σ v ∧ ar v 94 0 = ar σ 94 0) 0 n (Nat.zero_le _) (v := σ) ⟨F94.rfl' σ, rfl⟩ (fun k v _ hkn hv => by
    obtain ⟨τ, t1, t2, t3⟩ := m_fb_no hI (hm.frq hv.1.frq) (hl.f hv.1) (show k < cn (aR A) 1 by omega) (h k hkn)
    exact ⟨τ, t1, hv.1.tr t2, t3.trans hv.2⟩)
/-! both -/
def FbC (A : AS) (h P Q L : Int32) : Prop := ∀ σ, CR A σ → ∃ τ, f_X10_findBar σ = some (h, τ) ∧ FrS σ τ ∧ (h ≠ 0 → ar τ 3 4 = P) ∧ (h ≠ 0 → h ≠ 1 → ar τ 3 5 = Q ∧ ar τ 3 6 = L)
def FbM (A : AS) (h P Q L : Int32) : Prop := ∀ σ, MR A σ → ∃ τ, f_X12_findBar σ = some τ ∧ MR A τ ∧ FrM σ τ ∧ ar τ 94 0 = h ∧ (h ≠ 0 → ar τ 94 1 = P) ∧ (h ≠ 0 → h ≠ 1 → ar τ 94 2 = Q ∧ ar τ 94 3 = L)
theorem m_fb_st (hI : Inv A) (hm : MR A σ) : ∃ τ, f_X12_findBar σ = f_X12_findBar_13 0 τ ∧ MR A τ ∧ FrM σ τ ∧ LD A τ ∧ ar τ 94 0 = 0 := by
  obtain ⟨τ', e2, m2, f2, l2⟩ := m_lay hI hm
  have hf := F94.w (σ := τ') (j := 0) (v := 0)
  refine ⟨fw τ' 94 0 0, ?_, m2.frq hf.frq, f2.tr hf.frq.1, LD.f (A := A) l2 hf, by rw [ar_fw_eq, upd_eq]⟩
  unfold f_X12_findBar
  rw [e2, bd_so, chk_t (by decide), nm_so]
  rfl
theorem fb_spec (hI : Inv A) : ∃ h P Q L : Int32, FbC A h P Q L ∧ FbM A h P Q L := by
  have b1 := hI.1.1.2.1.2
  have b3 := hI.1.1.2.2.2.1.2
  by_cases hs : ∃ p, p < cn (aR A) 1 ∧ stp (aR A) p
  · obtain ⟨p, ⟨hp, hst⟩, hmin⟩ := pk_least (fun p => p < cn (aR A) 1 ∧ stp (aR A) p) hs
    have hno : ∀ j, j < p → ¬ stp (aR A) j := fun j hj hh => hmin j hj ⟨by omega, hh⟩
    obtain ⟨q1, hst2⟩ := hst
    obtain ⟨ey, hy⟩ := tl_y hI hp q1
    have hn0 : ¬ aR A (14 + 5 * p) < 0 := by rw [ey]; exact nI_pos (by omega)
    -- the walk up to p on both sides
    have cst : ∀ σ, CR A σ → ∃ τ, f_X10_findBar σ = it (fun z : Int32 × St => b_X10_findBar_2 z.1 z.2) (nI p, τ) ∧ F3y σ τ := fun σ hC => e_fb_skip hI hC (by omega) hno
    by_cases ha : abl (aR A) (cn (aR A) (14 + 5 * p)) p = 0
    · refine ⟨1, nI p, 0, 0, fun σ hC => ?_, fun σ hm => ?_⟩
      · obtain ⟨τ, t1, t2⟩ := cst σ hC
        have hC1 := hC.frs t2.frs
        have hf0 := F3y.w (σ := τ) (j := 4) (v := nI p)
        obtain ⟨σ1, x1, x2⟩ := e_isAble (σ := fw τ 3 4 (nI p)) hI (hC1.frs hf0.frs) hy hp
        rw [← ey] at x1
        have e1 : fd τ 1 1 = nI (cn (aR A) 1) := hC1.1.1.2.1.trans hI.1.1.2.1.1
        refine ⟨σ1, t1.trans (it_r ?_), ((t2.tr hf0).tr (F3y.of31 x2)).frs, fun _ => ?_, fun _ h => absurd rfl h⟩
        · show b_X10_findBar_2 (nI p) τ = _
          unfold b_X10_findBar_2 f_X10_findBar_52
          rw [e1, if_pos (nI_lt hp (by omega)), inb_nI (show p < 10 by omega) (by decide), chk_so, rd_ar (by omega), show ar τ 11 p = _ from hC1.1.2.2.2.2.1 p hp, if_neg q1, nm_so, x1, bd2_so, if_pos ha, if_neg (by decide)]
        · rw [x2.1 3 (by omega) (by omega), ar_fw_eq, upd_eq]
      · obtain ⟨τ0, s1, s2, s3, s4, s5⟩ := m_fb_st hI hm
        obtain ⟨τ, t1, t2, t3⟩ := m_fb_skip hI s2 s4 (n := p) (by omega) hno
        have hm1 := s2.frq t2.frq
        have e1 : rd τ 84 1 = nI (cn (aR A) 1) := by rw [← hI.1.1.2.1.1, ← hm1.1]; rfl
        have hf0 := F94.w (σ := τ) (j := 1) (v := nI p)
        obtain ⟨σ1, x1, x2⟩ := m_isAble (σ := fw τ 94 1 (nI p)) hI (hm1.frq hf0.frq) hy hp
        rw [← ey] at x1
        have hf := ((t2.tr hf0).tr (F94.of x2)).tr (F94.w (σ := σ1) (j := 0) (v := 1))
        refine ⟨fw σ1 94 0 1, s1.trans (t1.trans (it_r ?_)), s2.frq hf.frq, s3.tr hf.frq.1, by rw [ar_fw_eq, upd_eq], fun _ => ?_, fun _ h => absurd rfl h⟩
        · show b_X12_findBar_13 (nI p) τ = _
          unfold b_X12_findBar_13 f_X12_findBar_53
          rw [chk_t (by decide), e1, if_pos (nI_lt hp (by omega)), m_it4 (by omega) hm1.1, bd_so, if_neg hn0, chk_t (by decide), nm_so, show wr τ 94 1 (nI p) = fw τ 94 1 (nI p) from rfl, x1, bd2_so, if_pos ha, chk_t (by decide), nm_so]
          rfl
        · rw [ar_fw_eq, upd_ne (by omega), x2.1 94 (by omega) (by omega), ar_fw_eq, upd_eq]
    · have hq := hst2.resolve_left ha
      obtain ⟨q, ⟨⟨hpq, hqn⟩, hh⟩, hqmin⟩ := pk_least (fun q => (p < q ∧ q < cn (aR A) 1) ∧ hit (aR A) p q) hq
      have hqno : ∀ j, p < j → j < q → ¬ hit (aR A) p j := fun j h1 h2 hh => hqmin j h2 ⟨⟨h1, by omega⟩, hh⟩
      refine ⟨hwr (aR A) p q, nI p, nI q, lnr (aR A) p q, fun σ hC => ?_, fun σ hm => ?_⟩
      · obtain ⟨τ, t1, t2⟩ := cst σ hC
        have hC1 := hC.frs t2.frs
        have hf0 := F3y.w (σ := τ) (j := 4) (v := nI p)
        obtain ⟨σ1, x1, x2⟩ := e_isAble (σ := fw τ 3 4 (nI p)) hI (hC1.frs hf0.frs) hy hp
        rw [← ey] at x1
        have hf1 := hf0.tr (F3y.of31 x2)
        obtain ⟨σ2, y1, y2, y3, y4, y5⟩ := e_above1 hI (hC1.frs hf1.frs) hp hpq hqn hh hqno
        have e1 : fd τ 1 1 = nI (cn (aR A) 1) := hC1.1.1.2.1.trans hI.1.1.2.1.1
        refine ⟨σ2, t1.trans (it_r ?_), (t2.tr (hf1.tr y2)).frs, fun _ => ?_, fun _ _ => ⟨y4, y5⟩⟩
        · show b_X10_findBar_2 (nI p) τ = _
          unfold b_X10_findBar_2 f_X10_findBar_52
          rw [e1, if_pos (nI_lt hp (by omega)), inb_nI (show p < 10 by omega) (by decide), chk_so, rd_ar (by omega), show ar τ 11 p = _ from hC1.1.2.2.2.2.1 p hp, if_neg q1, nm_so, x1, bd2_so, if_neg ha, y1, bd2_so, if_neg hh.2]
        · rw [y3, x2.1 3 (by omega) (by omega), ar_fw_eq, upd_eq]
      · obtain ⟨τ0, s1, s2, s3, s4, s5⟩ := m_fb_st hI hm
        obtain ⟨τ, t1, t2, t3⟩ := m_fb_skip hI s2 s4 (n := p) (by omega) hno
        have hm1 := s2.frq t2.frq
        have e1 : rd τ 84 1 = nI (cn (aR A) 1) := by rw [← hI.1.1.2.1.1, ← hm1.1]; rfl
        have hf0 := F94.w (σ := τ) (j := 1) (v := nI p)
        obtain ⟨σ1, x1, x2⟩ := m_isAble (σ := fw τ 94 1 (nI p)) hI (hm1.frq hf0.frq) hy hp
        rw [← ey] at x1
        have hf1 := (t2.tr hf0).tr (F94.of x2)
        have hm2 := s2.frq hf1.frq
        have hl2 := s4.f hf1
        obtain ⟨z1, z2, z3⟩ := m_hl hI hl2 hp hqn hpq
        have e2 : rd σ1 84 1 = nI (cn (aR A) 1) := by rw [← hI.1.1.2.1.1, ← hm2.1]; rfl
        have hf := ((hf1.tr (F94.w (σ := σ1) (j := 0) (v := hwr (aR A) p q))).tr (F94.w (j := 2) (v := nI q))).tr (F94.w (j := 3) (v := lnr (aR A) p q))
        refine ⟨_, s1.trans (t1.trans (it_r ?_)), s2.frq hf.frq, s3.tr hf.frq.1, ?_, fun _ => ?_, fun _ _ => ⟨?_, ?_⟩⟩
        · show b_X12_findBar_13 (nI p) τ = _
          unfold b_X12_findBar_13
          rw [chk_t (by decide), e1, if_pos (nI_lt hp (by omega)), m_it4 (by omega) hm1.1, bd_so, if_neg hn0, chk_t (by decide), nm_so, show wr τ 94 1 (nI p) = fw τ 94 1 (nI p) from rfl, x1, bd2_so, if_neg ha, m_ab_skip hI hm2 hl2 hp (n := q) (by omega) (by omega) hqno]
          refine it_r ?_
          show b_X12_findBar_65 _ _ (nI q) σ1 = _
          have z2' : rd (fw (fw σ1 94 0 (hwr (aR A) p q)) 94 2 (nI q)) 89 ((10 * nI p) + nI q) = lnr (aR A) p q := by
            rw [rd_cl, ar_fw_ne (by omega), ar_fw_ne (by omega), ← rd_cl]; exact z2
          unfold b_X12_findBar_65 f_X12_findBar_102
          rw [chk_t (by decide), e2, if_pos (nI_lt hqn (by omega)), m_it4 (by omega) hm2.1, bd_so, if_pos hh.1, z3, chk_so, z1, if_neg hh.2, chk_so, chk_t (by decide), nm_so, show wr σ1 94 0 (hwr (aR A) p q) = fw σ1 94 0 (hwr (aR A) p q) from rfl, chk_t (by decide), nm_so, show wr (fw σ1 94 0 (hwr (aR A) p q)) 94 2 (nI q) = fw (fw σ1 94 0 (hwr (aR A) p q)) 94 2 (nI q) from rfl, chk_t (by decide), nm_so, z2']
          rfl
        · rw [ar_fw_eq, upd_ne (by omega), ar_fw_eq, upd_ne (by omega), ar_fw_eq, upd_eq]
        · rw [ar_fw_eq, upd_ne (by omega), ar_fw_eq, upd_ne (by omega), ar_fw_eq, upd_ne (by omega), x2.1 94 (by omega) (by omega), ar_fw_eq, upd_eq]
        · rw [ar_fw_eq, upd_ne (by omega), ar_fw_eq, upd_eq]
        · rw [ar_fw_eq, upd_eq]
  · have hno : ∀ p, p < cn (aR A) 1 → ¬ stp (aR A) p := fun p hp hh => hs ⟨p, hp, hh⟩
    refine ⟨0, 0, 0, 0, fun σ hC => ?_, fun σ hm => ?_⟩
    · obtain ⟨τ, t1, t2⟩ := e_fb_skip hI hC (Nat.le_refl _) hno
      have e1 : fd τ 1 1 = nI (cn (aR A) 1) := (hC.frs t2.frs).1.1.2.1.trans hI.1.1.2.1.1
      refine ⟨τ, t1.trans (it_r ?_), t2.frs, fun h => absurd rfl h, fun h => absurd rfl h⟩
      show b_X10_findBar_2 (nI (cn (aR A) 1)) τ = _
      unfold b_X10_findBar_2
      rw [e1, if_neg (nI_nlt (Nat.le_refl _) (by omega))]
    · obtain ⟨τ0, s1, s2, s3, s4, s5⟩ := m_fb_st hI hm
      obtain ⟨τ, t1, t2, t3⟩ := m_fb_skip hI s2 s4 (Nat.le_refl _) hno
      have hm1 := s2.frq t2.frq
      have e1 : rd τ 84 1 = nI (cn (aR A) 1) := by rw [← hI.1.1.2.1.1, ← hm1.1]; rfl
      refine ⟨τ, s1.trans (t1.trans (it_r ?_)), hm1, s3.tr t2.frq.1, t3.trans s5, fun h => absurd rfl h, fun h => absurd rfl h⟩
      show b_X12_findBar_13 (nI (cn (aR A) 1)) τ = _
      unfold b_X12_findBar_13
      rw [chk_t (by decide), e1, if_neg (nI_nlt (Nat.le_refl _) (by omega))]
theorem op_bars (x : Int32) (hI : Inv A) (hC : CR A σ) (hM : MR A σ) : Opn A σ (f_X11_bars x) (f_X12_bars x) := by
  rcases wi_cases x (n := 4) (by omega) with h0 | ⟨h1, a, ha, rfl⟩
  · refine Opn.err 1 (by decide) hI hC hM ?_ (fun σ hm => ?_)
    · unfold f_X11_bars; rw [w_4, bd_so, h0, if_pos rfl]; exact bd2_id _
    · unfold f_X12_bars; rw [m_in4, bd_so, h0, if_pos rfl]; exact bd2_id _
  obtain ⟨h, P, Q, L, hc, hm⟩ := fb_spec hI
  obtain ⟨σ1, c1, c2, c3, c4⟩ := hc σ hC
  have s11 : f_X11_bars (nI a) σ = (if nI a = 0 then some (h, σ1) else if h = 0 then f_X11_bars_42 σ1 else if h = 1 then (if 1 < nI a then f_X11_bars_42 σ1 else f_X11_bars_48 (nI a) σ1) else f_X11_bars_48 (nI a) σ1) := by
    unfold f_X11_bars
    rw [w_4, bd_so, h1, if_neg (by decide), c1, bd2_so]
  have s12 : ∀ {τ : St}, MR A τ → ∃ τ', MR A τ' ∧ FrM τ τ' ∧ (h ≠ 0 → ar τ' 94 1 = P) ∧ (h ≠ 0 → h ≠ 1 → ar τ' 94 2 = Q ∧ ar τ' 94 3 = L) ∧ f_X12_bars (nI a) τ = (if nI a = 0 then some (h, τ') else if h = 0 then f_X12_bars_54 τ' else if h = 1 then (if 1 < nI a then f_X12_bars_54 τ' else f_X12_bars_62 (nI a) τ') else f_X12_bars_62 (nI a) τ') := by
    intro τ hM
    obtain ⟨τ', m1, m2, m3, m4, m5, m6⟩ := hm τ hM
    refine ⟨τ', m2, m3, m5, m6, ?_⟩
    unfold f_X12_bars
    rw [m_in4, bd_so, h1, if_neg (by decide), m1, bd_so, chk_t (by decide), chk_t (by decide), show rd τ' 94 0 = h from m4]
  by_cases q0 : nI a = 0
  · refine Opn.s h σ1 hI hC hM (by rw [s11, if_pos q0]) c2 (fun τ hm => ?_)
    obtain ⟨τ', m2, m3, m5, m6, e⟩ := s12 hm
    exact ⟨τ', by rw [e, if_pos q0], m2, m3⟩
  by_cases q1 : h = 0
  · refine Opn.errS 2 (by decide) σ1 hI hC hM ?_ c2 (fun τ hm => ?_)
    · rw [s11, if_neg q0, if_pos q1]; exact bd2_id _
    · obtain ⟨τ', m2, m3, m5, m6, e⟩ := s12 hm
      exact ⟨τ', by rw [e, if_neg q0, if_pos q1]; exact bd2_id _, m2, m3⟩
  have ha3 : a = 1 ∨ a = 2 ∨ a = 3 := by
    have : a ≠ 0 := fun e => q0 (by rw [e]; rfl)
    omega
  by_cases q2 : h = 1
  · rcases ha3 with rfl | ha3
    · refine Opn.s P σ1 hI hC hM ?_ c2 (fun τ hm => ?_)
      · rw [s11, if_neg q0, if_neg q1, if_pos q2, if_neg (by decide)]
        unfold f_X11_bars_48
        rw [if_pos (by decide), fd_ar, c3 q1]
      · obtain ⟨τ', m2, m3, m5, m6, e⟩ := s12 hm
        refine ⟨τ', ?_, m2, m3⟩
        rw [e, if_neg q0, if_neg q1, if_pos q2, if_neg (by decide)]
        unfold f_X12_bars_62
        rw [chk_t (by decide), rd_ar (by decide), m5 q1]
    · have hlt : (1 : Int32) < nI a := nI_lt (a := 1) (b := a) (by omega) (by omega)
      refine Opn.errS 2 (by decide) σ1 hI hC hM ?_ c2 (fun τ hm => ?_)
      · rw [s11, if_neg q0, if_neg q1, if_pos q2, if_pos hlt]; exact bd2_id _
      · obtain ⟨τ', m2, m3, m5, m6, e⟩ := s12 hm
        exact ⟨τ', by rw [e, if_neg q0, if_neg q1, if_pos q2, if_pos hlt]; exact bd2_id _, m2, m3⟩
  · have s11' : f_X11_bars (nI a) σ = f_X11_bars_48 (nI a) σ1 := by rw [s11, if_neg q0, if_neg q1, if_neg q2]
    have s12' : ∀ {τ : St}, MR A τ → ∃ τ', MR A τ' ∧ FrM τ τ' ∧ ar τ' 94 1 = P ∧ ar τ' 94 2 = Q ∧ ar τ' 94 3 = L ∧ f_X12_bars (nI a) τ = f_X12_bars_62 (nI a) τ' := by
      intro τ hm
      obtain ⟨τ', m2, m3, m5, m6, e⟩ := s12 hm
      exact ⟨τ', m2, m3, m5 q1, (m6 q1 q2).1, (m6 q1 q2).2, by rw [e, if_neg q0, if_neg q1, if_neg q2]⟩
    obtain ⟨d5, d6⟩ := c4 q1 q2
    rcases ha3 with rfl | rfl | rfl
    · refine Opn.s P σ1 hI hC hM ?_ c2 (fun τ hm => ?_)
      · rw [s11']; unfold f_X11_bars_48; rw [if_pos (by decide), fd_ar, c3 q1]
      · obtain ⟨τ', m2, m3, n1, n2, n3, e⟩ := s12' hm
        refine ⟨τ', ?_, m2, m3⟩
        rw [e]; unfold f_X12_bars_62; rw [chk_t (by decide), rd_ar (by decide), n1]
    · refine Opn.s Q σ1 hI hC hM ?_ c2 (fun τ hm => ?_)
      · rw [s11']; unfold f_X11_bars_48; rw [if_neg (by decide), if_pos (by decide), fd_ar, d5]
      · obtain ⟨τ', m2, m3, n1, n2, n3, e⟩ := s12' hm
        refine ⟨τ', ?_, m2, m3⟩
        rw [e]; unfold f_X12_bars_62; rw [chk_t (by decide), rd_ar (by decide), n2]
    · refine Opn.s L σ1 hI hC hM ?_ c2 (fun τ hm => ?_)
      · rw [s11']; unfold f_X11_bars_48; rw [if_neg (by decide), if_neg (by decide), fd_ar, d6]
      · obtain ⟨τ', m2, m3, n1, n2, n3, e⟩ := s12' hm
        refine ⟨τ', ?_, m2, m3⟩
        rw [e]; unfold f_X12_bars_62; rw [chk_t (by decide), rd_ar (by decide), n3]
end FBR
