/-! best, take, check -/
section MD
variable {A : AS} {w : Nat}
def FDm (σ σ' : St) : Prop := (∀ c, c ≠ 90 → c ≠ 93 → c ≠ 98 → c ≠ 99 → c ≠ 102 → c ≠ 104 → ar σ' c = ar σ c) ∧ σ'.1 = σ.1 ∧ σ'.2.2 = σ.2.2
theorem FDm.rfl' (σ : St) : FDm σ σ := ⟨fun _ _ _ _ _ _ _ => rfl, rfl, rfl⟩
theorem FDm.tr {a b c : St} (h : FDm a b) (h2 : FDm b c) : FDm a c := ⟨fun k p q s t u v => (h2.1 k p q s t u v).trans (h.1 k p q s t u v), h2.2.1.trans h.2.1, h2.2.2.trans h.2.2⟩
theorem FDm.frq {σ σ' : St} (h : FDm σ σ') : FrQ σ σ' := by
  have h6 := h.1 6 (by omega) (by omega) (by omega) (by omega) (by omega) (by omega)
  exact ⟨⟨fun k hk _ => h.1 k (by omega) (by omega) (by omega) (by omega) (by omega) (by omega), h.2.1⟩, fun k hk => h.1 k (by omega) (by omega) (by omega) (by omega) (by omega) (by omega), by rw [h6], by rw [h6], by rw [h6]⟩
def MBs (A : AS) (w set : Nat) (σ : St) : Prop := MR A σ ∧ LD A σ ∧ WtM (aR A) (ar σ 103) ∧ ∀ i, i ≤ 6 → SuM (aR A) w set i (ar σ 100)
theorem MBs.f {set : Nat} {σ σ' : St} (h : MBs A w set σ) (hf : FDm σ σ') : MBs A w set σ' := by
  obtain ⟨h1, h2, h3, h4⟩ := h
  refine ⟨h1.frq hf.frq, ?_, by rw [hf.1 103 (by omega) (by omega) (by omega) (by omega) (by omega) (by omega)]; exact h3, by rw [hf.1 100 (by omega) (by omega) (by omega) (by omega) (by omega) (by omega)]; exact h4⟩
  unfold LD
  rw [hf.1 87 (by omega) (by omega) (by omega) (by omega) (by omega) (by omega), hf.1 88 (by omega) (by omega) (by omega) (by omega) (by omega) (by omega), hf.1 89 (by omega) (by omega) (by omega) (by omega) (by omega) (by omega)]
  exact h2
def Rel (w : Nat) (bud so best : Int) : Prop := (w = 2 → bud = best ∧ so ≤ best) ∧ (w ≠ 2 → bud = best - so)
theorem rel_ok {bud so best c z : Int} (h : Rel w bud so best) : jz w (jz w so c) z ≤ best ↔ jz w c z ≤ bud := by
  unfold jz
  by_cases q : w = 2
  · obtain ⟨h1, h2⟩ := h.1 q
    rw [if_pos q, if_pos q, if_pos q]
    constructor
    · intro h3
      split at h3
      · split at h3 <;> split <;> omega
      · split at h3 <;> split <;> omega
    · intro h3
      split
      · split at h3 <;> omega
      · split <;> split at h3 <;> omega
  · have := h.2 q
    rw [if_neg q, if_neg q, if_neg q]
    omega
theorem m_who {σ : St} {t i left : Nat} {set best so : Int32} (hI : Inv A) (hm : MR A σ) (ht : t < 2 ^ cn (aR A) 1) : f_X12_findBest_97 (nI w) set (nI left) best so (nI i) (nI t) σ = f_X12_findBest_147 (nI w) set (nI left) best so (nI i) (nI t) (stG σ 104 (asg (ar σ 104) t i)) := by
  have b1 := hI.1.1.2.1.2
  have e1 : ∀ f, rd (stG σ 104 f) 84 1 = nI (cn (aR A) 1) := fun f => by
    rw [rd_cl, ar_stG_ne (by omega), hm.1]; exact hI.1.1.2.1.1
  unfold f_X12_findBest_97 f_X12_findBest_100
  rw [← gvn_fin ht]
  refine (it_row 104 (cn (aR A) 1) (gvn t i (ar σ 104)) gvn_0 (fun k hk => ?_)).trans (it_k ?_)
  · show b_X12_findBest_100 _ _ _ _ _ (nI i) (nI t) (nI k) (stG σ 104 (gvn t i (ar σ 104) k)) = _
    unfold b_X12_findBest_100 f_X12_findBest_140
    rw [chk_t (by decide), e1, if_pos (nI_lt hk (by omega)), inb_nI (show k < 10 by omega) (by decide), chk_so, chk_so, chk_so, nm_so, nm_so, wr_nI _ (by omega), wr_nI _ (by omega), fw_stG, fw_stG, nI_1]
    by_cases h : t.testBit k = true
    · rw [if_pos ((set_b (by omega)).mpr h), gvn_put h]
    · rw [if_neg (fun e => h ((set_b (by omega)).mp e)), rd_ar (by omega), ar_stG_eq, ← gvn_skip h]
      congr 4
      funext q
      unfold upd
      split
      · rename_i hq; rw [hq]
      · rfl
  · show b_X12_findBest_100 _ _ _ _ _ (nI i) (nI t) (nI (cn (aR A) 1)) (stG σ 104 (gvn t i (ar σ 104) (cn (aR A) 1))) = _
    unfold b_X12_findBest_100
    rw [chk_t (by decide), e1, if_neg (nI_nlt (Nat.le_refl _) (by omega))]
theorem m_isBest {σ : St} {y : Nat} {ys : List Nat} {i left t set : Nat} {bud so best : Int} {soI beI : Int32} (hI : IR (aR A)) (hw : w < 4) (hi : i < 6) (hy : y < cn (aR A) 3) (hys : ∀ q, q ∈ ys → q < cn (aR A) 3) (hl : ys.length ≤ 6) (hleft : left < 2 ^ cn (aR A) 1) (hso : soI.toInt = so) (hbe : beI.toInt = best) (hsr : -60000 ≤ so ∧ so ≤ 500000) (hrel : Rel w bud so best) (h98 : MayM (aR A) y (ar σ 98)) (h99 : CostM (aR A) w y (ar σ 99)) (hrow : ∀ t, t < 2 ^ cn (aR A) 1 → Enc 1000000000 (mv (aR A) w ys t) (ar σ 100 (1024 * (i + 1) + t))) (ht : Sub t left) : (okT (aR A) w y ys left bud t → f_X12_isBest (nI w) (nI i) (nI left) (nI t) soI beI σ = some 1) ∧ (¬ okT (aR A) w y ys left bud t → f_X12_isBest (nI w) (nI i) (nI left) (nI t) soI beI σ = some 0) := by
  have b1 := hI.1.2.1.2
  have n10 := p10 b1
  have htl := ht.le
  have htn : t < 2 ^ cn (aR A) 1 := by omega
  have hrest : left ^^^ t < 2 ^ cn (aR A) 1 := Nat.xor_lt_two_pow hleft htn
  have hhead : f_X12_isBest (nI w) (nI i) (nI left) (nI t) soI beI σ = if ar σ 98 t = 0 then some 0 else (if ar σ 100 (1024 * (i + 1) + (left ^^^ t)) < 1000000000 then (bd (f_X12_joined (nI w) soI (ar σ 99 t)) fun r5 => bd (f_X12_joined (nI w) r5 (ar σ 100 (1024 * (i + 1) + (left ^^^ t)))) fun r8 => if beI < r8 then some 0 else some 1) else some 0) := by
    unfold f_X12_isBest
    rw [andn_s ht, ix1, inb_nI (show 1024 * (i + 1) + (left ^^^ t) < 7168 by omega) (by decide), chk_so, inb_nI (show t < 1024 by omega) (by decide), chk_so, rd_ar (by omega), rd_ar (by omega), rd_ar (by omega)]
  rw [hhead, h98 t htn, h99 t htn]
  have hr := hrow (left ^^^ t) hrest
  have hsm := sm_r (w := w) hI hy t
  by_cases qm : may (aR A) y t = true
  · rw [if_neg (by rw [if_pos qm]; decide)]
    cases eo : mv (aR A) w ys (left ^^^ t) with
    | none =>
      rw [eo] at hr
      have hv : ar σ 100 (1024 * (i + 1) + (left ^^^ t)) = 1000000000 := hr
      rw [hv, if_neg (by decide)]
      refine ⟨fun h => ?_, fun _ => rfl⟩
      obtain ⟨_, _, z', h3, _⟩ := h
      rw [eo] at h3
      cases h3
    | some z =>
      rw [eo] at hr
      have hv : (ar σ 100 (1024 * (i + 1) + (left ^^^ t))).toInt = z := hr
      have hz := mv_r6 hI hys hl eo
      obtain ⟨v1, e1, e2⟩ := m_join (w := w) (a := soI) (b := sm (aR A) w y t) hw (by omega) (by omega)
      have hv1 : -200000 ≤ v1.toInt ∧ v1.toInt ≤ 1000000 := by
        rw [e2, hso]
        unfold jz
        split
        · split <;> omega
        · omega
      obtain ⟨v2, e3, e4⟩ := m_join (w := w) (a := v1) (b := ar σ 100 (1024 * (i + 1) + (left ^^^ t))) hw (by omega) (by omega)
      rw [if_pos (Int32.lt_iff_toInt_lt.mpr (by rw [hv, gfar_i]; omega)), e1, bd_so, e3, bd_so]
      have hok : ¬ beI < v2 ↔ okT (aR A) w y ys left bud t := by
        rw [Int32.lt_iff_toInt_lt, hbe, e4, e2, hso, hv]
        have := rel_ok (c := (sm (aR A) w y t).toInt) (z := z) hrel
        constructor
        · intro h; exact ⟨ht, qm, z, eo, this.mp (by omega)⟩
        · rintro ⟨_, _, z', h3, h4⟩
          rw [eo] at h3; cases h3
          have := this.mpr h4
          omega
      exact ⟨fun h => by rw [if_neg (hok.mpr h)], fun h => by rw [if_pos (Classical.byContradiction fun hn => h (hok.mp hn))]⟩
  · rw [if_pos (by rw [if_neg qm])]
    exact ⟨fun h => absurd h.2.1 qm, fun _ => rfl⟩
theorem m_deal {set : Nat} {best : Int} {beI : Int32} (hI : Inv A) (hw : w < 4) (hset : ∀ y, set.testBit y = true → y < cn (aR A) 3) (hbe : beI.toInt = best) : ∀ (k i left : Nat) (bud so : Int) (soI : Int32) (σ : St), i + k = 6 → left < 2 ^ cn (aR A) 1 → soI.toInt = so → -9990 * (i : Int) ≤ so ∧ so ≤ 80000 * i → Rel w bud so best → MBs A w set σ → Bok (aR A) w (psx set i k) left bud → ∃ τ, it (fun z : Int32 × Int32 × Int32 × St => b_X12_findBest_34 (nI w) (nI set) z.1 beI z.2.1 z.2.2.1 z.2.2.2) (nI left, soI, nI i, σ) = some (1, τ) ∧ FDm σ τ ∧ Deal (aR A) w (psx set i k) left bud (ar σ 104) (ar τ 104)
  | 0, i, left, bud, so, soI, σ, hik, hleft, hso, hsr, hrel, hmb, hbok => by
    refine ⟨σ, it_r ?_, FDm.rfl' σ, rfl⟩
    show b_X12_findBest_34 (nI w) (nI set) (nI left) beI soI (nI i) σ = _
    unfold b_X12_findBest_34
    rw [show i = 6 by omega, if_neg (by decide)]
  | k + 1, i, left, bud, so, soI, σ, hik, hleft, hso, hsr, hrel, hmb, hbok => by
    have b1 := hI.1.1.2.1.2
    have n10 := p10 b1
    by_cases q : set.testBit i = true
    · have hy := hset i q
      have q1 : ¬ ((nI set >>> (nI i &&& 31)) &&& 1) = 0 := fun e => by
        rw [bit_0 (by omega), bt_nI (by omega), q] at e; exact absurd e (by decide)
      rw [psx_s, if_pos q] at hbok ⊢
      have hpl : ∀ z, z ∈ psx set (i + 1) k → z < cn (aR A) 3 := fun z hz => hset z (psx_m hz)
      have hlen := psx_len set (i + 1) k
      obtain ⟨T, hown⟩ := own_ex hbok
      have hTl := hown.1.1.le
      have hTn : T < 2 ^ cn (aR A) 1 := by omega
      obtain ⟨hm, hld, hwt, hsu⟩ := hmb
      obtain ⟨a, a1, a2, a3⟩ := m_sets (y := i) hI hm hld hy
      have fa : FDm σ a := ⟨fun c z1 z2 z3 _ _ _ => a2.1 c z1 z2 z3, a2.2.1, a2.2.2⟩
      have ma := hm.frq fa.frq
      obtain ⟨b, c1, c2, c3⟩ := m_costs (y := i) (w := w) hI ma hw hy (by rw [a2.1 103 (by omega) (by omega) (by omega)]; exact hwt)
      have fb : FDm a b := ⟨fun c z1 z2 _ z4 z5 _ => c2.1 c z1 z2 z4 z5, c2.2.1, c2.2.2⟩
      have fab := fa.tr fb
      have hmb : MBs A w set b := MBs.f ⟨hm, hld, hwt, hsu⟩ fab
      have hb98 : MayM (aR A) i (ar b 98) := by rw [c2.1 98 (by omega) (by omega) (by omega) (by omega)]; exact a3
      have hrow : ∀ t, t < 2 ^ cn (aR A) 1 → Enc 1000000000 (mv (aR A) w (psx set (i + 1) k) t) (ar b 100 (1024 * (i + 1) + t)) := fun t ht => by
        have := hmb.2.2.2 (i + 1) (by omega) t ht
        rw [show 6 - (i + 1) = k by omega] at this
        exact this
      have hib := fun t (ht : Sub t left) => m_isBest (set := set) (t := t) hI.1 hw (show i < 6 by omega) hy hpl (by omega) hleft hso hbe (by omega) hrel hb98 c3 hrow ht
      -- the loop over subsets, upwards
      have hloop : ∀ d x, x + d = T → Sub x left → it (fun z : Int32 => b_X12_findBest_69 (nI w) (nI set) (nI left) beI soI (nI i) z b) (nI x) = f_X12_findBest_97 (nI w) (nI set) (nI left) beI soI (nI i) (nI T) b := by
        intro d
        induction d using Nat.strongRecOn with
        | ind d ih =>
          intro x hxd hx
          by_cases q0 : d = 0
          · have hxT : x = T := by omega
            subst hxT
            refine it_k ?_
            show b_X12_findBest_69 _ _ _ _ _ (nI i) (nI x) b = _
            unfold b_X12_findBest_69
            rw [(hib x hx).1 hown.1, bd_so, if_neg (by decide)]
          · have hxT : x < T := by omega
            have hno := hown.2 x hxT
            have hg := nxt_gt hx (show x < left by omega)
            have hle := nxt_le hx hown.1.1 hxT
            have hb : b_X12_findBest_69 (nI w) (nI set) (nI left) beI soI (nI i) (nI x) b = some (.inl (nI (nxt left x))) := by
              unfold b_X12_findBest_69
              rw [(hib x hx).2 hno, bd_so, if_pos rfl, nxt_i hx (by omega) (by omega)]
            exact (it_l (f := fun z : Int32 => b_X12_findBest_69 (nI w) (nI set) (nI left) beI soI (nI i) z b) hb).trans (ih (T - nxt left x) (by omega) (nxt left x) (by omega) (nxt_sub left x))
      obtain ⟨c, hc⟩ : ∃ c, c = stG b 104 (asg (ar b 104) T i) := ⟨_, rfl⟩
      have fc : FDm b c := by rw [hc]; exact ⟨fun z _ _ _ _ _ h => ar_stG_ne h, rfl, rfl⟩
      have hsm := sm_r (w := w) hI.1 hy T
      obtain ⟨v1, e1, e2⟩ := m_join (w := w) (a := soI) (b := sm (aR A) w i T) hw (by omega) (by omega)
      rw [hso] at e2
      have hstep : b_X12_findBest_34 (nI w) (nI set) (nI left) beI soI (nI i) σ = some (.inl (nI (left ^^^ T), v1, nI (i + 1), c)) := by
        unfold b_X12_findBest_34 f_X12_findBest_69
        rw [if_pos (show nI i < 6 from nI_lt (a := i) (b := 6) (by omega) (by decide)), if_neg q1, a1, bd_so, c1, bd_so]
        refine (hloop T 0 (Nat.zero_add _) (Sub.z left)).trans ?_
        rw [m_who hI hmb.1 hTn, ← hc]
        unfold f_X12_findBest_147 f_X12_findBest_169
        rw [inb_nI (show T < 1024 by omega) (by decide), chk_so, rd_ar (by omega), show ar c 99 T = sm (aR A) w i T by rw [hc, ar_stG_ne (by omega)]; exact c3 T hTn, e1, bd_so, andn_s hown.1.1, nI_1]
      have hxl : left ^^^ T < 2 ^ cn (aR A) 1 := Nat.xor_lt_two_pow hleft hTn
      have hok := hown.1
      have hrel' : Rel w (nb w bud (sm (aR A) w i T).toInt) v1.toInt best := by
        unfold nb
        refine ⟨fun h2 => ?_, fun h2 => ?_⟩
        · obtain ⟨g1, g2⟩ := hrel.1 h2
          obtain ⟨_, _, z', _, h4⟩ := hok
          rw [if_pos h2, e2]
          refine ⟨g1, ?_⟩
          unfold jz at h4 ⊢
          rw [if_pos h2] at h4 ⊢
          split
          · split at h4 <;> omega
          · omega
        · have := hrel.2 h2
          rw [if_neg h2, e2]
          unfold jz
          rw [if_neg h2]
          omega
      obtain ⟨τ, r1, r2, r3⟩ := m_deal hI hw hset hbe k (i + 1) (left ^^^ T) _ v1.toInt v1 c (by omega) hxl rfl (by
        rw [e2]
        unfold jz
        split
        · split <;> omega
        · omega) hrel' (hmb.f fc) (own_nx hown.1)
      refine ⟨τ, (it_l hstep).trans r1, (fab.tr fc).tr r2, T, hown, ?_⟩
      have e104 : ar c 104 = asg (ar σ 104) T i := by
        rw [hc, ar_stG_eq, c2.1 104 (by omega) (by omega) (by omega) (by omega), a2.1 104 (by omega) (by omega) (by omega)]
      rw [← e104]; exact r3
    · have q1 : ((nI set >>> (nI i &&& 31)) &&& 1) = 0 := by
        rw [bit_0 (by omega), bt_nI (by omega)]
        cases e : set.testBit i <;> first | rfl | exact absurd e q
      rw [psx_s, if_neg q] at hbok ⊢
      obtain ⟨τ, r1, r2, r3⟩ := m_deal hI hw hset hbe k (i + 1) left bud so soI σ (by omega) hleft hso (by omega) hrel hmb hbok
      refine ⟨τ, (it_l ?_).trans r1, r2, r3⟩
      show b_X12_findBest_34 (nI w) (nI set) (nI left) beI soI (nI i) σ = _
      unfold b_X12_findBest_34 f_X12_findBest_169
      rw [if_pos (show nI i < 6 from nI_lt (a := i) (b := 6) (by omega) (by decide)), if_pos q1, nI_1]
/-! who they are -/
theorem pls_hi {set n : Nat} (h : ∀ y, set.testBit y = true → y < n) : ∀ k, pls set (n + k) = pls set n
  | 0 => rfl
  | k + 1 => by
    show pls set ((n + k) + 1) = _
    rw [pls_s, if_neg (fun e => by have := h _ e; omega)]
    exact pls_hi h k
theorem pls_psx {set n : Nat} (hn : n ≤ 6) (h : ∀ y, set.testBit y = true → y < n) : psx set 0 6 = pls set n := by
  have := pls_hi h (6 - n)
  rw [show n + (6 - n) = 6 by omega] at this
  rw [← this]
  unfold psx pls
  rw [List.range_eq_range']
theorem set_hi {set n : Nat} (h : set < 2 ^ n) : ∀ y, set.testBit y = true → y < n := fun y hy => by
  rcases Nat.lt_or_ge y n with z | z
  · exact z
  · rw [Nat.testBit_lt_two_pow (Nat.lt_of_lt_of_le h (Nat.pow_le_pow_right (by decide) z))] at hy; exact absurd hy (by decide)
theorem sub1 (x : Int32) : x - 1 = x + (-1) := Int32.sub_eq_add_neg x 1
/-- the class: whether there is a casting, its sum, who plays what -/
theorem e_best {σ : St} {set : Nat} (hI : Inv A) (hC : CR A σ) (hw : w < 4) (hset : set < 2 ^ cn (aR A) 3) : ∃ τ, FrS σ τ ∧ match mv (aR A) w (pls set (cn (aR A) 3)) (2 ^ cn (aR A) 1 - 1) with
    | some m => f_X8_findBest (nI w) (nI set) σ = some (1, τ) ∧ ar τ 4 11 = (if w = 0 then -(Int32.ofInt m) else Int32.ofInt m) ∧ ∃ W0, Deal (aR A) w (pls set (cn (aR A) 3)) (2 ^ cn (aR A) 1 - 1) m W0 (ar τ 39)
    | none => f_X8_findBest (nI w) (nI set) σ = some (0, τ) := by
  have b1 := hI.1.1.2.1.2
  have b3 := hI.1.1.2.2.2.1.2
  have n10 := p10 b1
  have hpos := Nat.two_pow_pos (cn (aR A) 1)
  have hs64 : set < 64 := Nat.lt_of_lt_of_le hset (Nat.pow_le_pow_right (n := 2) (by decide) b3 : 2 ^ cn (aR A) 3 ≤ 2 ^ 6)
  obtain ⟨ts, hts⟩ : ∃ ts, ts = pls set (cn (aR A) 3) := ⟨_, rfl⟩
  have hall : f_X4_allParts σ = some (nI (2 ^ cn (aR A) 1 - 1)) := by
    unfold f_X4_allParts
    rw [show fd σ 1 1 = nI (cn (aR A) 1) from hC.1.1.2.1.trans hI.1.1.2.1.1, allP b1]
  have f4 : FrS σ (fw σ 4 11 0) := FrS.w (by unfold SC; omega) (by omega) (by omega)
  obtain ⟨σ7, g1, g2, g3⟩ := e_gather (w := w) hI (hC.frs f4) hw hs64
  rw [← hts] at g3 ⊢
  have f7 := f4.tr g2.frs
  have hC7 := hC.frs f7
  have htm : ∀ y, y ∈ ts → y < cn (aR A) 3 := fun y hy => by rw [hts] at hy; exact (pls_m hy).1
  have htl : ts.length ≤ 6 := by have := pls_len set (cn (aR A) 3); rw [hts]; omega
  have hhead : f_X8_findBest (nI w) (nI set) σ = if fd σ7 4 5 = 0 then (if nI (2 ^ cn (aR A) 1 - 1) = 0 then some (1, σ7) else some (0, σ7)) else (bd (f_X10_findBarred σ7) fun σ11 => chk (inb ((fd σ11 4 5) - 1) 6) <| bd (f_X8_price (rd σ11 35 ((fd σ11 4 5) - 1)) σ11) fun σ15 => chk (cpok 0 0 (nI (2 ^ cn (aR A) 1 - 1) + 1) 1024 1024) <| nm (cpy σ15 37 0 (46 + ((fd σ11 4 5) - 1).toNatClampNeg) 0 (nI (2 ^ cn (aR A) 1 - 1) + 1)) fun σ18 => f_X8_findBest_87 (nI w) (nI (2 ^ cn (aR A) 1 - 1)) (((fd σ11 4 5) - 1) - 1) σ18) := by
    unfold f_X8_findBest
    rw [hall, bd_so, nm_so, g1, bd_so]
  have e11 : ar σ7 4 11 = 0 := by rw [g2.2.1 11 (by omega), ar_fw_eq, upd_eq]
  cases hcs : ts with
  | nil =>
    have e45 : fd σ7 4 5 = 0 := by rw [fd_ar, g3.1, hcs]; rfl
    rw [if_pos e45] at hhead
    refine ⟨σ7, f7, ?_⟩
    by_cases q : 2 ^ cn (aR A) 1 - 1 = 0
    · rw [mv_nil, if_pos q]
      refine ⟨by rw [hhead, q, if_pos (by decide)], ?_, ar σ7 39, rfl⟩
      rw [e11]
      split <;> rfl
    · rw [mv_nil, if_neg q]
      show f_X8_findBest (nI w) (nI set) σ = some (0, σ7)
      rw [hhead, if_neg (nI_ne0 (by omega) (by omega))]
  | cons y0 ys0 =>
    rw [← hcs]
    have hlen : 1 ≤ ts.length := by rw [hcs]; simp
    obtain ⟨la, hla⟩ : ∃ la, la = ts.length - 1 := ⟨_, rfl⟩
    have hla1 : ts.length = la + 1 := by omega
    have e45 : ¬ fd σ7 4 5 = 0 := by rw [fd_ar, g3.1]; exact nI_ne0 (by omega) (by omega)
    rw [if_neg e45] at hhead
    obtain ⟨σ11, h1, h2, h3⟩ := e_barred hI hC7
    have f11 := f7.tr h2.frs
    have hC11 := hC.frs f11
    have ht11 : Team (aR A) w ts σ11 := ⟨by rw [h2.1 4 (by omega) (by omega) (by omega) (by omega)]; exact g3.1, by rw [h2.1 35 (by omega) (by omega) (by omega) (by omega)]; exact g3.2.1, fun y hy => by rw [h2.1 (40 + y) (by omega) (by omega) (by omega) (by have := htm y hy; omega)]; exact g3.2.2 y hy⟩
    have hc11 : CSt (aR A) σ11 := ⟨hC11.1.1.2.1.trans hI.1.1.2.1.1, h3⟩
    have e45' : fd σ11 4 5 - 1 = nI la := by rw [fd_ar, ht11.1, hla1]; exact nI_pred la
    have hyl : ts.getD la 0 ∈ ts := by
      have : ts.getD la 0 ∈ ts.drop la := by rw [getD_drop (by omega)]; exact List.mem_cons_self ..
      exact List.mem_of_mem_drop this
    obtain ⟨yl, hyl2⟩ : ∃ yl, yl = ts.getD la 0 := ⟨_, rfl⟩
    rw [← hyl2] at hyl
    have hdl : ts.drop la = [yl] := by rw [getD_drop (by omega), ← hyl2, List.drop_eq_nil_of_le (by omega)]
    obtain ⟨σ15, p1, p2, p3⟩ := e_price (w := w) hI.1 (htm yl hyl) hc11 (ht11.2.2 yl hyl)
    have e35 : rd σ11 35 (nI la) = nI yl := by rw [rd_ar (by omega), ht11.2.1 la (by omega), hyl2]
    obtain ⟨σ18, h18⟩ : ∃ s, s = stF σ15 (46 + la) 0 (2 ^ cn (aR A) 1) (ar σ15 37) := ⟨_, rfl⟩
    rw [h1, bd_so, e45', inb_nI (show la < 6 by omega) (by decide), chk_so, e35, p1, bd_so, all1, cpok0 n10 n10 (by omega), chk_so, nm_so, nI_clamp (by omega), cpy0 (by omega), ← h18, sub1] at hhead
    -- what the loop keeps
    have e18 : ∀ c, c ≠ 37 → c ≠ 46 + la → ar σ18 c = ar σ11 c := fun c z1 z2 => by rw [h18, ar_stF_ne z2, p2.1 c z1]
    have le18 : LeC (aR A) w (ts.drop la) (ar σ18 (46 + la)) := fun s hs => by
      rw [h18, ar_stF_eq, fil_in (Nat.zero_le _) (by omega), Nat.sub_zero, p3 s hs, hdl, mv_one hI.1 (htm yl hyl)]
      unfold enC
      by_cases q : may (aR A) yl s = true
      · rw [if_pos q, if_pos q]; rfl
      · rw [if_neg q, if_neg q]; rfl
    unfold f_X8_findBest_87 at hhead
    obtain ⟨v, k1, k2, k3, k4, k5⟩ := it_ex (f := fun z : Int32 × St => b_X8_findBest_87 (nI w) (nI (2 ^ cn (aR A) 1 - 1)) z.1 z.2) (V := St) (fun k v => (nI (la - k) + (-1), v)) (fun k v => (∀ c, c ≠ 37 → (c < 46 ∨ 52 ≤ c) → ar v c = ar σ11 c) ∧ (v.1 = σ11.1 ∧ v.2.2 = σ11.2.2) ∧ (∀ i, la - k ≤ i → i ≤ la → i ≠ 0 → LeC (aR A) w (ts.drop i) (ar v (46 + i))) ∧ (la - k = 0 → Enc 100000000 (mv (aR A) w ts (2 ^ cn (aR A) 1 - 1)) (ar v 46 (2 ^ cn (aR A) 1 - 1)))) 0 la (Nat.zero_le _) (v := σ18) ⟨fun c z1 z2 => e18 c z1 (by omega), by rw [h18]; exact ⟨p2.2.1, p2.2.2⟩, fun i z1 z2 _ => by rw [show i = la by omega]; exact le18, fun h0 => by
        have hl0 : la = 0 := by omega
        have := le18 (2 ^ cn (aR A) 1 - 1) (by omega)
        rw [hl0] at this
        exact this⟩ (fun k v _ hk hv => by
      obtain ⟨u1, u2, u3, u4⟩ := hv
      obtain ⟨j, hj⟩ : ∃ j, j = la - (k + 1) := ⟨_, rfl⟩
      have hjk : la - k = j + 1 := by omega
      have hdj := getD_drop (ts := ts) (j := j) (by omega)
      obtain ⟨y, hy⟩ : ∃ y, y = ts.getD j 0 := ⟨_, rfl⟩
      rw [← hy] at hdj
      have hmem : y ∈ ts := by
        have : y ∈ ts.drop j := by rw [hdj]; exact List.mem_cons_self ..
        exact List.mem_of_mem_drop this
      have e35v : rd v 35 (nI j) = nI y := by rw [rd_ar (by omega), u1 35 (by omega) (by omega), ht11.2.1 j (by omega), hy]
      have hcv : CSt (aR A) v := ⟨by rw [fd_ar, u1 1 (by omega) (by omega)]; exact hc11.1, by rw [u1 32 (by omega) (by omega)]; exact hc11.2⟩
      obtain ⟨a, q1, q2, q3⟩ := e_price (w := w) hI.1 (htm y hmem) hcv (by rw [u1 (40 + y) (by have := htm y hmem; omega) (by have := htm y hmem; omega)]; exact ht11.2.2 y hmem)
      obtain ⟨b, s1, s2, s3⟩ := e_add2 (w := w) (y := y) (ys := ts.drop (j + 1)) (j := j) (σ := a) hI.1 hw (htm y hmem) (fun z hz => htm z (List.mem_of_mem_drop hz)) (by rw [List.length_drop]; omega) (by omega) q3 (by rw [q2.1 (46 + (j + 1)) (by omega)]; exact u3 (j + 1) (by omega) (by omega) (by omega))
      rw [← hdj] at s3
      refine ⟨b, ?_, fun c z1 z2 => by rw [s2.1 c (by omega), q2.1 c z1]; exact u1 c z1 z2, ⟨by rw [s2.2.1, q2.2.1]; exact u2.1, by rw [s2.2.2, q2.2.2]; exact u2.2⟩, fun i z1 z2 z3 => ?_, fun h0 => ?_⟩
      · show b_X8_findBest_87 (nI w) (nI (2 ^ cn (aR A) 1 - 1)) (nI (la - k) + (-1)) v = _
        rw [hjk, pk_m1]
        unfold b_X8_findBest_87
        rw [if_neg (nI_pos (by omega)), inb_nI (show j < 6 by omega) (by decide), chk_so, e35v, q1, bd_so, s1, bd_so, ← hj]
      · by_cases qi : i = j
        · rw [qi]
          exact fun s hs => s3 s hs (Or.inl (by omega))
        · rw [s2.1 (46 + i) (by omega), q2.1 (46 + i) (by omega)]
          exact u3 i (by omega) z2 z3
      · have hj0 : j = 0 := by omega
        have := s3 (2 ^ cn (aR A) 1 - 1) (by omega) (Or.inr rfl)
        rw [hj0] at this
        exact this)
    have k5' := k5 (by omega)
    have fv : FrS σ11 v := by
      refine ⟨fun c hc => k2 c (fun e => hc (by unfold SC; omega)) (by unfold SC at hc; omega), k3.1, k3.2, ?_, ?_⟩
      · rw [rc_ar, rc_ar, k2 4 (by omega) (by omega)]; exact id
      · rw [rc_ar, rc_ar, k2 5 (by omega) (by omega)]; exact id
    have efin : f_X8_findBest (nI w) (nI set) σ = f_X8_findBest_117 (nI w) (nI (2 ^ cn (aR A) 1 - 1)) v := by
      rw [hhead]
      refine k1.trans (it_k ?_)
      show b_X8_findBest_87 (nI w) (nI (2 ^ cn (aR A) 1 - 1)) (nI (la - la) + (-1)) v = _
      rw [Nat.sub_self]
      unfold b_X8_findBest_87
      rw [if_pos (by decide)]
    unfold f_X8_findBest_117 at efin
    rw [inb_nI (show 2 ^ cn (aR A) 1 - 1 < 1024 by omega) (by decide), chk_so, rd_ar (by omega)] at efin
    cases eo : mv (aR A) w ts (2 ^ cn (aR A) 1 - 1) with
    | none =>
      rw [eo] at k5'
      have hv : ar v 46 (2 ^ cn (aR A) 1 - 1) = 100000000 := k5'
      refine ⟨v, f11.tr fv, ?_⟩
      show f_X8_findBest (nI w) (nI set) σ = some (0, v)
      rw [efin, hv, if_neg (by decide)]
    | some m =>
      rw [eo] at k5'
      have hv : (ar v 46 (2 ^ cn (aR A) 1 - 1)).toInt = m := k5'
      have hmr := mv_r6 hI.1 htm htl eo
      have hvo : ar v 46 (2 ^ cn (aR A) 1 - 1) = Int32.ofInt m := by rw [← hv, Int32.ofInt_toInt]
      obtain ⟨S, hS⟩ : ∃ S, S = (if w = 0 then -(Int32.ofInt m) else Int32.ofInt m) := ⟨_, rfl⟩
      obtain ⟨v2, hv2⟩ : ∃ s, s = fw v 4 11 S := ⟨_, rfl⟩
      have fv2 : FrS v v2 := by rw [hv2]; exact FrS.w (by unfold SC; omega) (by omega) (by omega)
      have u2 : ∀ c, c ≠ 4 → ar v2 c = ar v c := fun c h => by rw [hv2, ar_fw_ne h]
      have hcb : CBs (aR A) w ts v2 := by
        refine ⟨⟨by rw [fd_ar, u2 1 (by omega), k2 1 (by omega) (by omega)]; exact hc11.1, by rw [u2 32 (by omega), k2 32 (by omega) (by omega)]; exact hc11.2⟩, ⟨by rw [hv2, ar_fw_eq, upd_ne (by omega), k2 4 (by omega) (by omega)]; exact ht11.1, by rw [u2 35 (by omega), k2 35 (by omega) (by omega)]; exact ht11.2.1, fun y hy => by rw [u2 (40 + y) (by omega), k2 (40 + y) (by have := htm y hy; omega) (by have := htm y hy; omega)]; exact ht11.2.2 y hy⟩, fun i z1 z2 => by rw [u2 (46 + i) (by omega)]; exact k4 i (by omega) (by omega) (by omega)⟩
      obtain ⟨τ, r1, r2, r3⟩ := e_deal (ts := ts) hI.1 hw htm htl la 0 (2 ^ cn (aR A) 1 - 1) m (ar v 46 (2 ^ cn (aR A) 1 - 1)) v2 (by omega) (by omega) hv (by omega) hcb ⟨m, eo, Int.le_refl m⟩
      have fτ : FrS v2 τ := by
        refine ⟨fun c hc => r2.1 c (fun e => hc (by unfold SC; omega)) (fun e => hc (by unfold SC; omega)), r2.2.1, r2.2.2, ?_, ?_⟩
        · rw [rc_ar, rc_ar, r2.1 4 (by omega) (by omega)]; exact id
        · rw [rc_ar, rc_ar, r2.1 5 (by omega) (by omega)]; exact id
      have e157 : f_X8_findBest_157 (nI w) (nI (2 ^ cn (aR A) 1 - 1)) S v = some (1, τ) := by
        unfold f_X8_findBest_157 f_X8_dealOut f_X8_dealOut_15
        rw [nm_so, ← hv2, inb_nI (show 2 ^ cn (aR A) 1 - 1 < 1024 by omega) (by decide), chk_so, rd_ar (by omega), u2 46 (by omega)]
        have : it (fun z : Int32 × Int32 × Int32 × St => b_X8_dealOut_15 (nI w) z.1 z.2.1 z.2.2.1 z.2.2.2) (nI (2 ^ cn (aR A) 1 - 1), ar v 46 (2 ^ cn (aR A) 1 - 1), 0, v2) = some τ := r1
        rw [this, bd_so]
      refine ⟨τ, ((f11.tr fv).tr fv2).tr fτ, ?_, ?_, _, r3⟩
      · rw [efin, if_pos (Int32.lt_iff_toInt_lt.mpr (by rw [hv, far_i]; omega)), hvo, ← e157, hS]
        by_cases q : w = 0
        · rw [if_pos (by rw [q]; rfl), if_pos q]
        · rw [if_neg (nI_ne0 (by omega) (by omega)), if_neg q]
      · rw [r2.1 4 (by omega) (by omega), hv2, ar_fw_eq, upd_eq, hS]
theorem m_best {σ : St} {set : Nat} (hI : Inv A) (hm : MR A σ) (hw : w < 4) (hset : set < 2 ^ cn (aR A) 3) : ∃ τ, MR A τ ∧ FrM σ τ ∧ match mv (aR A) w (pls set (cn (aR A) 3)) (2 ^ cn (aR A) 1 - 1) with
    | some m => f_X12_findBest (nI w) (nI set) σ = some (1, τ) ∧ f_X12_sumOf (nI w) (nI set) τ = some (if w = 0 then -(Int32.ofInt m) else Int32.ofInt m) ∧ ∃ W0, Deal (aR A) w (pls set (cn (aR A) 3)) (2 ^ cn (aR A) 1 - 1) m W0 (ar τ 104)
    | none => f_X12_findBest (nI w) (nI set) σ = some (0, τ) := by
  have b1 := hI.1.1.2.1.2
  have b3 := hI.1.1.2.2.2.1.2
  have n10 := p10 b1
  have hpos := Nat.two_pow_pos (cn (aR A) 1)
  have hsh := set_hi hset
  obtain ⟨σ3, y1, y2, y3, y4, y5, y6⟩ := m_sums (w := w) hI hm hw hsh
  have hsu := y6 0 (by omega) (2 ^ cn (aR A) 1 - 1) (by omega)
  rw [show 6 - 0 = 6 from rfl, pls_psx b3 hsh, show 1024 * 0 + (2 ^ cn (aR A) 1 - 1) = 2 ^ cn (aR A) 1 - 1 by omega] at hsu
  have hhead : f_X12_findBest (nI w) (nI set) σ = if ar σ3 100 (2 ^ cn (aR A) 1 - 1) = 1000000000 then some (0, σ3) else f_X12_findBest_34 (nI w) (nI set) (nI (2 ^ cn (aR A) 1 - 1)) (ar σ3 100 (2 ^ cn (aR A) 1 - 1)) 0 0 σ3 := by
    unfold f_X12_findBest
    rw [y1, bd_so, m_all hI y2, bd_so, inb_nI (show 2 ^ cn (aR A) 1 - 1 < 7168 by omega) (by decide), chk_so, rd_ar (by omega)]
  cases eo : mv (aR A) w (pls set (cn (aR A) 3)) (2 ^ cn (aR A) 1 - 1) with
  | none =>
    rw [eo] at hsu
    have hv : ar σ3 100 (2 ^ cn (aR A) 1 - 1) = 1000000000 := hsu
    refine ⟨σ3, y2, y3, ?_⟩
    show f_X12_findBest (nI w) (nI set) σ = some (0, σ3)
    rw [hhead, if_pos hv]
  | some m =>
    rw [eo] at hsu
    have hv : (ar σ3 100 (2 ^ cn (aR A) 1 - 1)).toInt = m := hsu
    have hmr := mv_r6 (ys := pls set (cn (aR A) 3)) hI.1 (fun y hy => (pls_m hy).1) (by have := pls_len set (cn (aR A) 3); omega) eo
    have hvo : ar σ3 100 (2 ^ cn (aR A) 1 - 1) = Int32.ofInt m := by rw [← hv, Int32.ofInt_toInt]
    have hne : ¬ ar σ3 100 (2 ^ cn (aR A) 1 - 1) = 1000000000 := fun e => by rw [e, gfar_i] at hv; omega
    rw [if_neg hne] at hhead
    obtain ⟨τ, r1, r2, r3⟩ := m_deal (set := set) (best := m) (beI := ar σ3 100 (2 ^ cn (aR A) 1 - 1)) hI hw hsh hv 6 0 (2 ^ cn (aR A) 1 - 1) m 0 0 σ3 rfl (by omega) (by decide) (by omega) ⟨fun h => ⟨rfl, hmr.2.2 h⟩, fun _ => by omega⟩ ⟨y2, y4, y5, y6⟩ ⟨m, by rw [pls_psx b3 hsh]; exact eo, Int.le_refl m⟩
    rw [pls_psx b3 hsh] at r3
    have mτ := y2.frq r2.frq
    refine ⟨τ, mτ, y3.tr r2.frq.1, ?_, ?_, _, r3⟩
    · rw [hhead]; exact r1
    · unfold f_X12_sumOf
      rw [m_all hI mτ, bd_so, inb_nI (show 2 ^ cn (aR A) 1 - 1 < 7168 by omega) (by decide), chk_so, rd_ar (by omega), r2.1 100 (by omega) (by omega) (by omega) (by omega) (by omega) (by omega), hvo]
      by_cases q : w = 0
      · rw [if_pos (by rw [q]; rfl), if_pos q]
      · rw [if_neg (nI_ne0 (by omega) (by omega)), if_neg q]
end MD
