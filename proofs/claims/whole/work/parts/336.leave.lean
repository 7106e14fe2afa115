section LV
variable {A : AS} {σ : St}
theorem bits_c {s : Nat} (h : s < 1024) : f_J6_bitCount_0f7a4 (nI s) = some (nI (cnt s.testBit 10)) := by
  have H : ∀ s, s < 1024 → f_J6_bitCount_0f7a4 (nI s) = some (nI (cnt s.testBit 10)) := by decide +kernel
  exact H s h
theorem cnt_le (P : Nat → Bool) : ∀ n, cnt P n ≤ n
  | 0 => Nat.le_refl 0
  | n + 1 => by
    have := cnt_le P n
    show cnt P n + (if P n = true then 1 else 0) ≤ n + 1
    split <;> omega
theorem bits_m (s : Nat) : f_X12_bits (nI s) = some (nI (cnt s.testBit 10)) := by
  unfold f_X12_bits f_X12_bits_4
  obtain ⟨_, e, _⟩ := it_ex (f := fun z : Int32 × Int32 => b_X12_bits_4 (nI s) z.1 z.2) (V := Unit) (fun k _ => (nI (cnt s.testBit k), nI k)) (fun _ _ => True) 0 10 (Nat.zero_le _) (v := ()) trivial (fun k _ _ hk _ => ⟨(), by
    show b_X12_bits_4 (nI s) (nI (cnt s.testBit k)) (nI k) = some (.inl (nI (cnt s.testBit k + (if s.testBit k = true then 1 else 0)), nI (k + 1)))
    unfold b_X12_bits_4
    rw [if_pos (show nI k < 10 from nI_lt hk (by decide)), bit_v _ (by omega), bt_nI (by omega), nI_1]
    cases s.testBit k
    · rw [if_neg (by decide), if_neg (by decide), Int32.add_zero]; rfl
    · rw [if_pos rfl, if_pos rfl, nI_1], trivial⟩)
  refine e.trans (it_r ?_)
  show b_X12_bits_4 (nI s) (nI (cnt s.testBit 10)) (nI 10) = _
  unfold b_X12_bits_4
  rw [if_neg (by decide)]
/-! the order -/
def lss (W : Nat → Int32) (a b : Nat) : Prop := (W a).toInt < (W b).toInt ∨ ((W a).toInt = (W b).toInt ∧ (cnt a.testBit 10 < cnt b.testBit 10 ∨ (cnt a.testBit 10 = cnt b.testBit 10 ∧ a < b)))
theorem lss_tr {W : Nat → Int32} {a b c : Nat} (h : lss W a b) (h2 : lss W b c) : lss W a c := by unfold lss at *; omega
theorem lss_tot {W : Nat → Int32} {a b : Nat} (h : ¬ lss W a b) (h2 : ¬ lss W b a) : a = b := by unfold lss at *; omega
theorem lss_ir {W : Nat → Int32} {a : Nat} : ¬ lss W a a := by unfold lss; omega
theorem i_eq {a b : Int32} : a = b ↔ a.toInt = b.toInt := Int32.toInt_inj.symm
/-! the class -/
theorem e_weigh (hI : Inv A) (hC : CR A σ) : ∃ τ, f_X8_weighSets σ = some τ ∧ F37 σ τ ∧ ∀ s, s < 2 ^ cn (aR A) 1 → ar τ 37 s = sm (aR A) 2 0 s := by
  have b1 := hI.1.1.2.1.2
  have n10 := p10 b1
  unfold f_X8_weighSets
  rw [chk_t (by decide), nm_so]
  have f0 : F37 σ (fw σ 37 0 0) := ⟨fun c h => ar_fw_ne h, rfl, rfl⟩
  show ∃ τ, f_X8_weighSets_9 0 (fw σ 37 0 0) = some τ ∧ _
  unfold f_X8_weighSets_9
  obtain ⟨v, h1, h2, h3⟩ := it_ex (f := fun z : Int32 × St => b_X8_weighSets_9 z.1 z.2) (V := St) (fun k v => (nI k, v)) (fun k v => F37 σ v ∧ ∀ s, s < 2 ^ k → ar v 37 s = sm (aR A) 2 0 s) 0 (cn (aR A) 1) (Nat.zero_le _) (v := fw σ 37 0 0) ⟨f0, fun s hs => by
      have : s = 0 := by simp at hs; omega
      subst this
      rw [ar_fw_eq, upd_eq, sm_0]⟩ (fun p v _ hp hv => by
    obtain ⟨hv1, hv2⟩ := hv
    have hCv := hC.frs hv1.frs
    have hpn : 2 ^ (p + 1) ≤ 2 ^ cn (aR A) 1 := Nat.pow_le_pow_right (by decide) hp
    have hpp : 2 ^ (p + 1) = 2 * 2 ^ p := by rw [Nat.pow_succ, Nat.mul_comm]
    obtain ⟨v', k1, k2, k3⟩ := it_ex (f := fun z : Int32 × St => b_X8_weighSets_36 (nI p) (nI (2 ^ p)) (wt (aR A) (nI p)) z.1 z.2) (V := St) (fun k v => (nI k, v)) (fun j u => F37 σ u ∧ ∀ s, s < 2 ^ p + j → ar u 37 s = sm (aR A) 2 0 s) 0 (2 ^ p) (Nat.zero_le _) (v := v) ⟨hv1, fun s hs => hv2 s hs⟩ (fun j u _ hj hu => by
      obtain ⟨u1, u2⟩ := hu
      have hjs : j ||| 2 ^ p = 2 ^ p + j := tp_add hj
      refine ⟨fw u 37 (2 ^ p + j) (sm (aR A) 2 0 (2 ^ p + j)), ?_, ⟨fun c h => by rw [ar_fw_ne h]; exact u1.1 c h, u1.2.1, u1.2.2⟩, fun s hs => ?_⟩
      · show b_X8_weighSets_36 (nI p) (nI (2 ^ p)) (wt (aR A) (nI p)) (nI j) u = _
        unfold b_X8_weighSets_36
        rw [if_pos (nI_lt hj (by omega)), inb_nI (show j < 1024 by omega) (by decide), chk_so, nI_or, hjs, inb_nI (show 2 ^ p + j < 1024 by omega) (by decide), chk_so, nm_so, wr_nI _ (by omega), nI_1, rd_ar (by omega), u2 j (by omega), ← hjs, sm_top hj hp, cst2]
      · rw [ar_fw_eq]
        by_cases q : s = 2 ^ p + j
        · rw [q, upd_eq]
        · rw [upd_ne q]; exact u2 s (by omega))
    refine ⟨v', ?_, k2, fun s hs => k3 s (by omega)⟩
    show b_X8_weighSets_9 (nI p) v = _
    unfold b_X8_weighSets_9 f_X8_weighSets_36
    rw [show fd v 1 1 = nI (cn (aR A) 1) from hCv.1.1.2.1.trans hI.1.1.2.1.1, if_pos (nI_lt hp (by omega)), e_weight _ hI.1.1 hCv.1.1 hCv.1.2.2.2.2.2.2.1, bd_so, nI_bit (by omega)]
    refine k1.trans (it_k ?_)
    show b_X8_weighSets_36 (nI p) (nI (2 ^ p)) (wt (aR A) (nI p)) (nI (2 ^ p)) v' = _
    unfold b_X8_weighSets_36 f_X8_weighSets_66
    rw [if_neg (nI_nlt (Nat.le_refl _) (by omega)), nI_1])
  refine ⟨v, h1.trans (it_r ?_), h2, h3⟩
  show b_X8_weighSets_9 (nI (cn (aR A) 1)) v = _
  unfold b_X8_weighSets_9
  rw [show fd v 1 1 = nI (cn (aR A) 1) from (hC.frs h2.frs).1.1.2.1.trans hI.1.1.2.1.1, if_neg (nI_nlt (Nat.le_refl _) (by omega))]
theorem e_less {a b : Nat} (hI : Inv A) (h37 : ∀ s, s < 2 ^ cn (aR A) 1 → ar σ 37 s = sm (aR A) 2 0 s) (ha : a < 2 ^ cn (aR A) 1) (hb : b < 2 ^ cn (aR A) 1) : ∃ x : Int32, f_X8_isLess (nI a) (nI b) σ = some x ∧ (x = 0 ↔ ¬ lss (sm (aR A) 2 0) a b) := by
  have n10 := p10 hI.1.1.2.1.2
  unfold f_X8_isLess
  rw [inb_nI (show a < 1024 by omega) (by decide), chk_so, inb_nI (show b < 1024 by omega) (by decide), chk_so, rd_ar (by omega), rd_ar (by omega), h37 a ha, h37 b hb, bits_c (by omega), bd_so, bits_c (by omega), bd_so]
  have c1 := cnt_le a.testBit 10
  have c2 := cnt_le b.testBit 10
  have hsub : ∀ i j, i ≤ 10 → j ≤ 10 → ((nI i - nI j = 0) ↔ i = j) ∧ ((nI i - nI j < 0) ↔ i < j) := by
    have : ∀ i, i < 11 → ∀ j, j < 11 → ((nI i - nI j = 0) ↔ i = j) ∧ ((nI i - nI j < 0) ↔ i < j) := by decide +kernel
    intro i j hi hj
    exact this i (by omega) j (by omega)
  have hs := hsub _ _ c1 c2
  have hab := nI_ltI (a := a) (b := b) (by omega) (by omega)
  unfold lss
  split
  · rename_i q1
    rw [i_eq] at q1
    split
    · rename_i q2
      rw [hs.1] at q2
      split
      · rename_i q3
        rw [hab] at q3
        exact ⟨1, rfl, fun h => absurd h (by decide), fun h => absurd (by omega) h⟩
      · rename_i q3
        rw [hab] at q3
        exact ⟨0, rfl, fun _ => by omega, fun _ => rfl⟩
    · rename_i q2
      rw [hs.1] at q2
      split
      · rename_i q3
        rw [hs.2] at q3
        exact ⟨1, rfl, fun h => absurd h (by decide), fun h => absurd (by omega) h⟩
      · rename_i q3
        rw [hs.2] at q3
        exact ⟨0, rfl, fun _ => by omega, fun _ => rfl⟩
  · rename_i q1
    rw [i_eq] at q1
    split
    · rename_i q2
      rw [Int32.lt_iff_toInt_lt] at q2
      exact ⟨1, rfl, fun h => absurd h (by decide), fun h => absurd (by omega) h⟩
    · rename_i q2
      rw [Int32.lt_iff_toInt_lt] at q2
      exact ⟨0, rfl, fun _ => by omega, fun _ => rfl⟩
def Least (r : Nat → Int32) (ok : Nat → Prop) (n o : Nat) : Prop := o < n ∧ ok o ∧ ∀ j, j < n → ok j → ¬ lss (sm r 2 0) j o
theorem Least.uq {r : Nat → Int32} {ok : Nat → Prop} {n o o' : Nat} (h : Least r ok n o) (h' : Least r ok n o') : o = o' := lss_tot (h'.2.2 o h.1 h.2.1) (h.2.2 o' h'.1 h'.2.1)
theorem e_wOS {s : Nat} (hI : Inv A) (hC : CR A σ) : f_X4_weightOfSet (nI s) σ = some (sm (aR A) 2 0 s) := by
  have b1 := hI.1.1.2.1.2
  have e1 : fd σ 1 1 = nI (cn (aR A) 1) := hC.1.1.2.1.trans hI.1.1.2.1.1
  unfold f_X4_weightOfSet f_X4_weightOfSet_4
  obtain ⟨_, e, _⟩ := it_ex (f := fun z : Int32 × Int32 => b_X4_weightOfSet_4 (nI s) z.1 z.2 σ) (V := Unit) (fun k _ => (smS (aR A) 2 0 s k, nI k)) (fun _ _ => True) 0 (cn (aR A) 1) (Nat.zero_le _) (v := ()) trivial (fun k _ _ hk _ => ⟨(), by
    show b_X4_weightOfSet_4 (nI s) (smS (aR A) 2 0 s k) (nI k) σ = some (.inl ((if s.testBit k = true then smS (aR A) 2 0 s k + cst (aR A) 2 0 k else smS (aR A) 2 0 s k), nI (k + 1)))
    unfold b_X4_weightOfSet_4 f_X4_weightOfSet_28
    rw [e1, if_pos (nI_lt hk (by omega)), e_weight _ hI.1.1 hC.1.1 hC.1.2.2.2.2.2.2.1, bd_so, nI_1, cst2, bit_v _ (by omega), bt_nI (by omega)]
    cases s.testBit k <;> rfl, trivial⟩)
  refine e.trans (it_r ?_)
  show b_X4_weightOfSet_4 (nI s) (smS (aR A) 2 0 s (cn (aR A) 1)) (nI (cn (aR A) 1)) σ = _
  unfold b_X4_weightOfSet_4
  rw [e1, if_neg (nI_nlt (Nat.le_refl _) (by omega))]
  rfl
theorem m_wO {s : Nat} (hI : Inv A) (hm : MR A σ) (hwt : WtM (aR A) (ar σ 103)) : f_X12_weightOf (nI s) σ = some (sm (aR A) 2 0 s) := by
  have b1 := hI.1.1.2.1.2
  have e1 : rd σ 84 1 = nI (cn (aR A) 1) := by rw [← hI.1.1.2.1.1, ← hm.1]; rfl
  unfold f_X12_weightOf f_X12_weightOf_4
  obtain ⟨_, e, _⟩ := it_ex (f := fun z : Int32 × Int32 => b_X12_weightOf_4 (nI s) z.1 z.2 σ) (V := Unit) (fun k _ => (smS (aR A) 2 0 s k, nI k)) (fun _ _ => True) 0 (cn (aR A) 1) (Nat.zero_le _) (v := ()) trivial (fun k _ _ hk _ => ⟨(), by
    show b_X12_weightOf_4 (nI s) (smS (aR A) 2 0 s k) (nI k) σ = some (.inl ((if s.testBit k = true then smS (aR A) 2 0 s k + cst (aR A) 2 0 k else smS (aR A) 2 0 s k), nI (k + 1)))
    unfold b_X12_weightOf_4 f_X12_weightOf_34
    rw [chk_t (by decide), e1, if_pos (nI_lt hk (by omega)), inb_nI (show k < 10 by omega) (by decide), chk_so, rd_ar (by omega), hwt k hk, nI_1, cst2, bit_v _ (by omega), bt_nI (by omega)]
    cases s.testBit k
    · rw [if_neg (by decide), if_neg (by decide), Int32.add_zero]
    · rw [if_pos (by decide), if_pos rfl], trivial⟩)
  refine e.trans (it_r ?_)
  show b_X12_weightOf_4 (nI s) (smS (aR A) 2 0 s (cn (aR A) 1)) (nI (cn (aR A) 1)) σ = _
  unfold b_X12_weightOf_4
  rw [chk_t (by decide), e1, if_neg (nI_nlt (Nat.le_refl _) (by omega))]
  rfl
theorem e_leftOut {L : List Nat} {c : Nat} (hI : Inv A) (hC : CR A σ) (hL : L.length ≤ 6) (c3 : rc σ 4 9 = c) (c4 : isLeast c = true) (c5 : CrC (aR A) L (ar σ c)) : ∃ o τ, f_X8_leftOut σ = some (nI o, τ) ∧ FrS σ τ ∧ Least (aR A) (fun s => wy (aR A) L ((2 ^ cn (aR A) 1 - 1) ^^^ s) ≠ 0) (2 ^ cn (aR A) 1) o := by
  have hi := hI.1.1
  have b1 := hi.2.1.2
  have n10 := p10 b1
  have hpos := Nat.two_pow_pos (cn (aR A) 1)
  have lc := of_decide_eq_true c4
  obtain ⟨τ, w1, w2, w3⟩ := e_weigh hI hC
  have hCτ := hC.frs w2.frs
  obtain ⟨N, hN⟩ : ∃ N, N = 2 ^ cn (aR A) 1 := ⟨_, rfl⟩
  rw [← hN] at hpos n10
  have eall : f_X4_allParts τ = some (nI (N - 1)) := by
    unfold f_X4_allParts
    rw [show fd τ 1 1 = nI (cn (aR A) 1) from hCτ.1.1.2.1.trans hi.2.1.1, allP b1, hN]
  have hb31 : ∀ s, s < N → wy (aR A) L s < 2 ^ 31 := fun s hs => wy_31 (by rw [← hN]; exact hs) b1 hL
  have hxl : ∀ k, k < N → (N - 1) ^^^ k < N := fun k hk => by rw [hN] at hk ⊢; exact Nat.xor_lt_two_pow (by omega) hk
  have e9 : rc τ 4 9 = c := by rw [rc_ar, w2.1 4 (by omega), ← rc_ar]; exact c3
  have ec : ar τ c = ar σ c := w2.1 c (by omega)
  unfold f_X8_leftOut f_X8_leftOut_16
  rw [w1, bd_so, eall, bd_so, ← hN]
  obtain ⟨o, k1, k2, k3, k4, k5⟩ := it_ex (f := fun z : Int32 × Int32 => b_X8_leftOut_16 (nI (N - 1)) z.1 z.2 τ) (V := Nat) (fun k o => (nI o, nI k)) (fun k o => o < N ∧ wy (aR A) L ((N - 1) ^^^ o) ≠ 0 ∧ (∀ j, j < k → wy (aR A) L ((N - 1) ^^^ j) ≠ 0 → ¬ lss (sm (aR A) 2 0) j o) ∧ ¬ lss (sm (aR A) 2 0) (N - 1) o) 0 (N - 1) (Nat.zero_le _) (v := N - 1) ⟨by omega, by rw [Nat.xor_self, wy_0]; decide, fun j hj => absurd hj (Nat.not_lt_zero j), lss_ir⟩ (fun k o _ hk ho => by
    obtain ⟨o1, o2, o3, o4⟩ := ho
    have hr := hxl k (by omega)
    have hps := pos_i (hb31 _ hr)
    obtain ⟨x, x1, x2⟩ := e_less (σ := τ) (a := k) (b := o) hI w3 (by omega) (by omega)
    have hb : b_X8_leftOut_16 (nI (N - 1)) (nI o) (nI k) τ = if wy (aR A) L ((N - 1) ^^^ k) ≠ 0 ∧ x ≠ 0 then some (.inl (nI k, nI (k + 1))) else some (.inl (nI o, nI (k + 1))) := by
      unfold b_X8_leftOut_16 f_X8_leftOut_43
      rw [if_pos (nI_lt hk (by omega)), e9, c4, chk_so, nI_xor, inb_nI (show (N - 1) ^^^ k < 1024 by omega) (by decide), chk_so, rd_ar (by omega), ec, c5 _ (by rw [← hN]; exact hr), x1, bd_so, nI_1]
      by_cases q1 : wy (aR A) L ((N - 1) ^^^ k) ≠ 0
      · rw [if_pos (hps.mpr q1)]
        by_cases q2 : x = 0
        · rw [if_pos q2, if_neg (fun h => h.2 q2)]
        · rw [if_neg q2, if_pos ⟨q1, q2⟩]
      · rw [if_neg (fun h => q1 (hps.mp h)), if_neg (fun h => q1 h.1)]
    by_cases q : wy (aR A) L ((N - 1) ^^^ k) ≠ 0 ∧ x ≠ 0
    · rw [if_pos q] at hb
      have hl : lss (sm (aR A) 2 0) k o := Classical.byContradiction fun h => q.2 (x2.mpr h)
      refine ⟨k, hb, by omega, q.1, fun j hj hw h => ?_, fun h => o4 (lss_tr h hl)⟩
      by_cases qj : j = k
      · rw [qj] at h; exact lss_ir h
      · exact o3 j (by omega) hw (lss_tr h hl)
    · rw [if_neg q] at hb
      refine ⟨o, hb, o1, o2, fun j hj hw => ?_, o4⟩
      by_cases qj : j = k
      · rw [qj] at hw ⊢
        exact x2.mp (Classical.byContradiction fun h => q ⟨hw, h⟩)
      · exact o3 j (by omega) hw)
  refine ⟨o, τ, k1.trans (it_r ?_), w2.frs, k2, k3, fun j hj hw => ?_⟩
  · show b_X8_leftOut_16 (nI (N - 1)) (nI o) (nI (N - 1)) τ = _
    unfold b_X8_leftOut_16
    rw [if_neg (nI_nlt (Nat.le_refl _) (by omega))]
  · by_cases qj : j = N - 1
    · rw [qj]; exact k5
    · exact k4 j (by omega) hw
theorem m_leave {L : List Nat} {v : Int32} (hI : Inv A) (hm : MR A σ) (hL : L.length ≤ 6) (hlo : WyM (aR A) L σ.2.2) : ∃ o τ, f_X12_leave_30 v 0 σ = some ((if v = 0 then sm (aR A) 2 0 o else nI o), τ) ∧ MR A τ ∧ FrM σ τ ∧ Least (aR A) (fun s => wy (aR A) L ((2 ^ cn (aR A) 1 - 1) ^^^ s) ≠ 0) (2 ^ cn (aR A) 1) o := by
  have hi := hI.1.1
  have b1 := hi.2.1.2
  have n10 := p10 b1
  have hpos := Nat.two_pow_pos (cn (aR A) 1)
  unfold f_X12_leave_30
  obtain ⟨v1, g1, g2, g3, g4⟩ := it_ex (f := fun z : Int32 × St => b_X12_leave_30 v z.1 z.2) (V := St) (fun k v => (nI k, v)) (fun k v => FrQ σ v ∧ v.2.2 = σ.2.2 ∧ ∀ p, p < k → ar v 103 p = wt (aR A) (nI p)) 0 (cn (aR A) 1) (Nat.zero_le _) (v := σ) ⟨FrQ.rfl' σ, rfl, fun p hp => absurd hp (Nat.not_lt_zero p)⟩ (fun k u _ hk hv => by
    obtain ⟨u1, u2, u3⟩ := hv
    have m1 := hm.frq u1
    have e1 : rd u 84 1 = nI (cn (aR A) 1) := by rw [← hi.2.1.1, ← m1.1]; rfl
    refine ⟨fw u 103 k (wt (aR A) (nI k)), ?_, u1.tr (FrQ.w (by omega)), u2, fun p hp => ?_⟩
    · show b_X12_leave_30 v (nI k) u = _
      unfold b_X12_leave_30
      rw [chk_t (by decide), e1, if_pos (nI_lt hk (by omega)), m_weight _ hI.1.1 m1.1, bd_so, inb_nI (show k < 10 by omega) (by decide), chk_so, nm_so, wr_nI _ (by omega), nI_1]
    · rw [ar_fw_eq]
      by_cases q : p = k
      · rw [q, upd_eq]
      · rw [upd_ne q]; exact u3 p (by omega))
  have m1 := hm.frq g2
  have e1 : it (fun z : Int32 × St => b_X12_leave_30 v z.1 z.2) (0, σ) = f_X12_leave_57 v v1 := g1.trans (it_k (by
    show b_X12_leave_30 v (nI (cn (aR A) 1)) v1 = _
    unfold b_X12_leave_30
    rw [chk_t (by decide), show rd v1 84 1 = nI (cn (aR A) 1) by rw [← hi.2.1.1, ← m1.1]; rfl, if_neg (nI_nlt (Nat.le_refl _) (by omega))]))
  rw [e1]
  have hlo1 : WyM (aR A) L v1.2.2 := by rw [g3]; exact hlo
  obtain ⟨N, hN⟩ : ∃ N, N = 2 ^ cn (aR A) 1 := ⟨_, rfl⟩
  rw [← hN] at hpos n10
  have hb31 : ∀ s, s < N → wy (aR A) L s < 2 ^ 31 := fun s hs => wy_31 (by rw [← hN]; exact hs) b1 hL
  have hxl : ∀ k, k < N → (N - 1) ^^^ k < N := fun k hk => by rw [hN] at hk ⊢; exact Nat.xor_lt_two_pow (by omega) hk
  unfold f_X12_leave_57 f_X12_leave_65
  obtain ⟨o, k1, k2⟩ := it_ex (f := fun z : Int32 × Int32 × Int32 => b_X12_leave_65 v z.1 z.2.1 z.2.2 v1) (V := Option Nat) (fun k o => ((match o with | none => -1 | some o => nI o), (match o with | none => 0 | some o => sm (aR A) 2 0 o), nI k)) (fun k o => (o = none ∧ ∀ j, j < k → ¬ wy (aR A) L ((N - 1) ^^^ j) ≠ 0) ∨ ∃ o', o = some o' ∧ Least (aR A) (fun s => wy (aR A) L ((N - 1) ^^^ s) ≠ 0) k o') 0 N (Nat.zero_le _) (v := none) (Or.inl ⟨rfl, fun j hj => absurd hj (Nat.not_lt_zero j)⟩) (fun k o _ hk ho => by
    have hr := hxl k hk
    have hz := lz_i (hb31 _ hr)
    have hsub : Sub k (N - 1) := by rw [hN]; exact lt_all (by rw [← hN]; exact hk)
    have hb : ∀ x z, b_X12_leave_65 v x z (nI k) v1 = if wy (aR A) L ((N - 1) ^^^ k) = 0 then some (.inl (x, z, nI (k + 1))) else if x < 0 then some (.inl (nI k, sm (aR A) 2 0 k, nI (k + 1))) else if sm (aR A) 2 0 k < z then some (.inl (nI k, sm (aR A) 2 0 k, nI (k + 1))) else if sm (aR A) 2 0 k = z then (bd (f_X12_bits x) fun r42 => if nI (cnt k.testBit 10) < r42 then some (.inl (nI k, sm (aR A) 2 0 k, nI (k + 1))) else some (.inl (x, z, nI (k + 1)))) else some (.inl (x, z, nI (k + 1))) := by
      intro x z
      unfold b_X12_leave_65 f_X12_leave_134 f_X12_leave_141
      rw [m_all hI m1, bd_so, bd_so, ← hN, if_neg (nI_nlt (by omega) (by omega)), andn_s hsub, inb_nI (show (N - 1) ^^^ k < 2048 by omega) (by decide), chk_so, rdL_n (by omega), hlo1 _ (by rw [← hN]; exact hr), m_wO hI m1 g4, bd_so, bits_m, bd_so, nI_1]
      by_cases q : wy (aR A) L ((N - 1) ^^^ k) = 0
      · rw [if_pos (hz.mpr q), if_pos q]
      · rw [if_neg (fun h => q (hz.mp h)), if_neg q]
    by_cases q : wy (aR A) L ((N - 1) ^^^ k) = 0
    · refine ⟨o, ?_, ?_⟩
      · show b_X12_leave_65 v _ _ (nI k) v1 = _
        rw [hb, if_pos q]
      · rcases ho with ⟨o1, o2⟩ | ⟨o', o1, o2, o3, o4⟩
        · refine Or.inl ⟨o1, fun j hj => ?_⟩
          by_cases qj : j = k
          · rw [qj]; exact fun h => h q
          · exact o2 j (by omega)
        · refine Or.inr ⟨o', o1, by omega, o3, fun j hj hw => ?_⟩
          by_cases qj : j = k
          · rw [qj] at hw; exact absurd q hw
          · exact o4 j (by omega) hw
    · rcases ho with ⟨rfl, o2⟩ | ⟨o', rfl, o2, o3, o4⟩
      · refine ⟨some k, ?_, Or.inr ⟨k, rfl, by omega, q, fun j hj hw => ?_⟩⟩
        · show b_X12_leave_65 v (-1) 0 (nI k) v1 = _
          rw [hb, if_neg q, if_pos (by decide)]
        · by_cases qj : j = k
          · rw [qj]; exact lss_ir
          · exact absurd hw (o2 j (by omega))
      · have hbb := hb (nI o') (sm (aR A) 2 0 o')
        rw [if_neg q, if_neg (show ¬ nI o' < 0 from nI_nlt (b := 0) (by omega) (by omega)), bits_m, bd_so] at hbb
        have hcc := nI_ltI (a := cnt k.testBit 10) (b := cnt o'.testBit 10) (by have := cnt_le k.testBit 10; omega) (by have := cnt_le o'.testBit 10; omega)
        by_cases ql : lss (sm (aR A) 2 0) k o'
        · refine ⟨some k, ?_, Or.inr ⟨k, rfl, by omega, q, fun j hj hw h => ?_⟩⟩
          · show b_X12_leave_65 v (nI o') (sm (aR A) 2 0 o') (nI k) v1 = _
            rw [hbb]
            unfold lss at ql
            by_cases z1 : (sm (aR A) 2 0 k).toInt < (sm (aR A) 2 0 o').toInt
            · rw [if_pos (Int32.lt_iff_toInt_lt.mpr z1)]
            · rw [if_neg (fun h => z1 (Int32.lt_iff_toInt_lt.mp h)), if_pos (i_eq.mpr (by omega)), if_pos (hcc.mpr (by omega))]
          · by_cases qj : j = k
            · rw [qj] at h; exact lss_ir h
            · exact o4 j (by omega) hw (lss_tr h ql)
        · refine ⟨some o', ?_, Or.inr ⟨o', rfl, by omega, o3, fun j hj hw => ?_⟩⟩
          · show b_X12_leave_65 v (nI o') (sm (aR A) 2 0 o') (nI k) v1 = _
            rw [hbb]
            unfold lss at ql
            rw [if_neg (fun h => by have := Int32.lt_iff_toInt_lt.mp h; omega)]
            by_cases z1 : (sm (aR A) 2 0 k).toInt = (sm (aR A) 2 0 o').toInt
            · rw [if_pos (i_eq.mpr z1), if_neg (fun h => by have := hcc.mp h; omega)]
            · rw [if_neg (fun h => z1 (i_eq.mp h))]
          · by_cases qj : j = k
            · rw [qj]; exact ql
            · exact o4 j (by omega) hw)
  rcases k2 with ⟨_, k2⟩ | ⟨o', rfl, k2⟩
  · exact absurd (by rw [Nat.xor_self, wy_0]; decide) (k2 (N - 1) (by omega))
  · refine ⟨o', v1, k1.trans (it_r ?_), m1, g2.1, by rw [← hN]; exact k2⟩
    show b_X12_leave_65 v (nI o') (sm (aR A) 2 0 o') (nI N) v1 = _
    unfold b_X12_leave_65 f_X12_leave_147
    rw [m_all hI m1, bd_so, ← hN, if_pos (nI_lt (by omega) (by omega))]
    by_cases q : v = 0
    · rw [if_pos q, if_pos q]; rfl
    · rw [if_neg q, if_neg q]; rfl
theorem op_leave (x v : Int32) (hI : Inv A) (hC : CR A σ) (hM : MR A σ) : Opn A σ (f_X11_leave x v) (f_X12_leave x v) := by
  have hi := hI.1.1
  have b3 := hi.2.2.2.1.2
  have h64 := p64 b3
  rcases wi_cases x (n := 2 ^ cn (aR A) 3) (by omega) with g0 | ⟨g1, set, hset, rfl⟩
  · refine Opn.err 1 (by decide) hI hC hM ?_ (fun σ hm => ?_)
    · unfold f_X11_leave f_X11_leave_19; rw [e_isSet _ hI hC, bd_so, g0, if_pos rfl]; exact bd2_id _
    · unfold f_X12_leave f_X12_leave_17; rw [m_isTroupe _ hI hm, bd_so, g0, if_pos rfl]; exact bd2_id _
  rcases wi_cases v (n := 2) (by omega) with k0 | ⟨k1, _⟩
  · refine Opn.err 1 (by decide) hI hC hM ?_ (fun σ hm => ?_)
    · unfold f_X11_leave f_X11_leave_19; rw [e_isSet _ hI hC, bd_so, g1, if_neg (by decide), w_2, bd_so, k0, if_pos rfl]; exact bd2_id _
    · unfold f_X12_leave f_X12_leave_17; rw [m_isTroupe _ hI hm, bd_so, g1, if_neg (by decide), m_in2, bd_so, k0, if_pos rfl]; exact bd2_id _
  have hLl : (pls set (cn (aR A) 3)).reverse.length ≤ 6 := by rw [List.length_reverse]; have := pls_len set (cn (aR A) 3); omega
  obtain ⟨τ, c, c1, c2, c3, c4, c5, c6⟩ := e_count hI hC hset
  have hCτ := hC.frs c2
  obtain ⟨o, τ2, l1, l2, l3⟩ := e_leftOut hI hCτ hLl c3 c4 c5
  refine Opn.s (if v = 0 then sm (aR A) 2 0 o else nI o) τ2 hI hC hM ?_ (c2.tr l2) (fun σ1 hm => ?_)
  · unfold f_X11_leave
    rw [e_isSet _ hI hC, bd_so, g1, if_neg (by decide), w_2, bd_so, k1, if_neg (by decide), c1, bd_so, l1, bd2_so, e_wOS hI (hCτ.frs l2), bd_so]
    by_cases q : v = 0
    · rw [if_pos q, if_pos q]
    · rw [if_neg q, if_neg q]
  · obtain ⟨τ', d1, d2, d3, d4, d5⟩ := m_ways (set := set) hI hm (set_hi hset)
    obtain ⟨o2, τ3, p1, p2, p3, p4⟩ := m_leave (v := v) hI d2 hLl d5
    refine ⟨τ3, ?_, p2, d3.tr p3⟩
    unfold f_X12_leave
    rw [m_isTroupe _ hI hm, bd_so, g1, if_neg (by decide), m_in2, bd_so, k1, if_neg (by decide), d1, bd_so, p1, l3.uq p4]
end LV
