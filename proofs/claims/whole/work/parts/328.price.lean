/-! what sets cost: the class's price, the model's sets and costs -/
theorem tp_add {s t : Nat} (h : s < 2 ^ t) : s ||| 2 ^ t = 2 ^ t + s := by
  have := Nat.two_pow_add_eq_or_of_lt h 1
  rw [Nat.mul_one] at this
  rw [this, Nat.or_comm]
theorem top_ex : ∀ {n m : Nat}, 1 ≤ m → m < 2 ^ n → ∃ t s, t < n ∧ s < 2 ^ t ∧ m = s ||| 2 ^ t
  | 0, m, h1, h2 => by simp at h2; omega
  | n + 1, m, h1, h2 => by
    by_cases q : m < 2 ^ n
    · obtain ⟨t, s, ht, hs, e⟩ := top_ex h1 q
      exact ⟨t, s, by omega, hs, e⟩
    · rw [Nat.pow_succ] at h2
      exact ⟨n, m - 2 ^ n, by omega, by omega, by rw [tp_add (by omega)]; omega⟩
theorem tp_lt {s t n : Nat} (hs : s < 2 ^ t) (ht : t < n) : s ||| 2 ^ t < 2 ^ n := Nat.or_lt_two_pow (Nat.lt_of_lt_of_le hs (Nat.pow_le_pow_right (by decide) (by omega))) (Nat.pow_lt_pow_right (by decide) ht)
theorem p10 {n : Nat} (h : n ≤ 10) : 2 ^ n ≤ 1024 := Nat.pow_le_pow_right (n := 2) (by decide) h
theorem clr_top {s t : Nat} (hs : s < 2 ^ t) : (s ||| 2 ^ t) ^^^ ((s ||| 2 ^ t) &&& 2 ^ t) = s := Nat.eq_of_testBit_eq fun i => by
  have := tb_clr (s ||| 2 ^ t) t i
  rw [tb_top] at this
  cases e : s.testBit i with
  | true =>
    refine this.mpr ⟨Or.inl e, fun h => ?_⟩
    rw [h, Nat.testBit_lt_two_pow hs] at e
    exact absurd e (by decide)
  | false =>
    cases e2 : ((s ||| 2 ^ t) ^^^ ((s ||| 2 ^ t) &&& 2 ^ t)).testBit i with
    | false => rfl
    | true =>
      obtain ⟨h1, h2⟩ := this.mp e2
      rcases h1 with h | h
      · rw [e] at h; exact absurd h (by decide)
      · exact absurd h h2
theorem shr_n {m j : Nat} (hm : m < 2 ^ 31) (hj : j < 32) : nI m >>> (nI j &&& 31) = nI (m / 2 ^ j) := pk_shrN hm _ j (s_l j hj)
/-- the loop for the top bit -/
theorem it_top {T : Type} {f : Int32 → Option (Int32 ⊕ T)} {s t : Nat} {k : Option T} (hs : s < 2 ^ t) (ht : t < 10) (h1 : ∀ j, j < t → 1 < nI (s ||| 2 ^ t) >>> (nI j &&& 31) → f (nI j) = some (.inl (nI (j + 1)))) (h2 : ¬ 1 < nI (s ||| 2 ^ t) >>> (nI t &&& 31) → f (nI t) = k.map .inr) : it f 0 = k := by
  have hm : s ||| 2 ^ t < 2 ^ 10 := tp_lt hs ht
  obtain ⟨_, e, _⟩ := it_ex (f := f) (V := Unit) (fun k _ => nI k) (fun _ _ => True) 0 t (Nat.zero_le _) (v := ()) trivial (fun j v _ hj _ => ⟨(), h1 j hj (by
    rw [shr_n (by omega) (by omega)]
    refine nI_lt (a := 1) ?_ ?_
    · rw [tp_add hs, Nat.lt_div_iff_mul_lt (Nat.two_pow_pos j)]
      have e : 2 ^ t = 2 ^ (t - j) * 2 ^ j := by rw [← Nat.pow_add]; congr 1; omega
      have h3 : 2 ^ 1 ≤ 2 ^ (t - j) := Nat.pow_le_pow_right (by decide) (by omega)
      have h4 := Nat.two_pow_pos j
      have h5 : 2 ^ 1 * 2 ^ j ≤ 2 ^ (t - j) * 2 ^ j := Nat.mul_le_mul_right _ h3
      omega
    · have := Nat.div_le_self (s ||| 2 ^ t) (2 ^ j)
      omega), trivial⟩)
  refine e.trans (it_k (h2 ?_))
  rw [shr_n (by omega) (by omega), tp_add hs, Nat.add_div_left _ (Nat.two_pow_pos t), Nat.div_eq_of_lt hs]
  decide
section PX
variable {A : AS} {σ : St} {w y : Nat}
def SgC (r : Nat → Int32) (w y : Nat) (row : Nat → Int32) : Prop := ∀ p, p < cn r 1 → row p = if abl r y p = 0 then 100000000 else cst r w y p
def enC (r : Nat → Int32) (w y s : Nat) : Int32 := if may r y s = true then sm r w y s else 100000000
def CostC (r : Nat → Int32) (w y : Nat) (row : Nat → Int32) : Prop := ∀ s, s < 2 ^ cn r 1 → row s = enC r w y s
theorem sm_far (hI : IR (aR A)) (hy : y < cn (aR A) 3) (s : Nat) : sm (aR A) w y s < 100000000 := by
  have := sm_r (w := w) hI hy s
  rw [Int32.lt_iff_toInt_lt, show (100000000 : Int32).toInt = 100000000 by decide]; omega
theorem cst_far (hI : IR (aR A)) (hy : y < cn (aR A) 3) (p : Nat) : cst (aR A) w y p < 100000000 := by
  have := cst_r (w := w) hI hy p
  rw [Int32.lt_iff_toInt_lt, show (100000000 : Int32).toInt = 100000000 by decide]; omega
theorem enC_lt (hI : IR (aR A)) (hy : y < cn (aR A) 3) (s : Nat) : enC (aR A) w y s < 100000000 ↔ may (aR A) y s = true := by
  unfold enC
  cases e : may (aR A) y s with
  | true => exact ⟨fun _ => rfl, fun _ => sm_far hI hy s⟩
  | false => exact ⟨fun h => absurd (show (100000000 : Int32) < 100000000 from h) (by decide), fun h => absurd h (by decide)⟩
theorem brd_and {r : Nat → Int32} {p s : Nat} {v : Int32} (hI : IR r) (hb : Brd r p v) (hs : s < 2 ^ p) (hp : p < cn r 1) : ((v &&& nI s) = 0) ↔ anyN (fun q => s.testBit q && brB r p q) p = false := by
  obtain ⟨b, hb1, eb, hb2⟩ := hb
  rw [eb, and_0 (by omega), anyN_f]
  constructor
  · intro h q hq
    cases e1 : s.testBit q with
    | false => rfl
    | true =>
      rw [Bool.true_and]
      refine decide_eq_false (fun hn => h q ⟨(hb2 q).mpr ⟨by omega, by omega, ?_⟩, e1⟩)
      rw [hws_e hI]; exact hn
  · rintro h q ⟨h1, h2⟩
    have hq : q < p := by
      rcases Nat.lt_or_ge q p with z | z
      · exact z
      · rw [Nat.testBit_lt_two_pow (Nat.lt_of_lt_of_le hs (Nat.pow_le_pow_right (by decide) z))] at h2; exact absurd h2 (by decide)
    have := h q hq
    rw [h2, Bool.true_and] at this
    obtain ⟨_, _, h4⟩ := (hb2 q).mp h1
    rw [hws_e hI] at h4
    exact of_decide_eq_false this h4
def F37 (σ σ' : St) : Prop := (∀ c, c ≠ 37 → ar σ' c = ar σ c) ∧ σ'.1 = σ.1 ∧ σ'.2.2 = σ.2.2
theorem F37.rfl' (σ : St) : F37 σ σ := ⟨fun _ _ => rfl, rfl, rfl⟩
theorem F37.tr {a b c : St} (h : F37 a b) (h2 : F37 b c) : F37 a c := ⟨fun k p => (h2.1 k p).trans (h.1 k p), h2.2.1.trans h.2.1, h2.2.2.trans h.2.2⟩
theorem F37.frs {σ σ' : St} (h : F37 σ σ') : FrS σ σ' := FrS.of (c := 37) (by unfold SC; omega) (by omega) h.1 h.2.1 h.2.2
theorem e_price (hI : IR (aR A)) (hy : y < cn (aR A) 3) (hc : CSt (aR A) σ) (hsg : SgC (aR A) w y (ar σ (40 + y))) : ∃ τ, f_X8_price (nI y) σ = some τ ∧ F37 σ τ ∧ CostC (aR A) w y (ar τ 37) := by
  have b1 := hI.1.2.1.2
  have b3 := hI.1.2.2.2.1.2
  have n10 := p10 b1
  unfold f_X8_price
  rw [chk_t (by decide), nm_so]
  have f0 : F37 σ (fw σ 37 0 0) := ⟨fun c h => ar_fw_ne h, rfl, rfl⟩
  show ∃ τ, f_X8_price_9 (nI y) 0 (fw σ 37 0 0) = some τ ∧ _
  unfold f_X8_price_9
  have hrd : ∀ {v : St}, F37 σ v → fd v 1 1 = nI (cn (aR A) 1) ∧ (∀ p, p < cn (aR A) 1 → Brd (aR A) p (ar v 32 p)) ∧ SgC (aR A) w y (ar v (40 + y)) := fun {v} hv => ⟨by rw [fd_ar, hv.1 1 (by omega)]; exact hc.1, fun p hp => by rw [hv.1 32 (by omega)]; exact hc.2 p hp, by rw [hv.1 (40 + y) (by omega)]; exact hsg⟩
  obtain ⟨v, h1, h2, h3⟩ := it_ex (f := fun z : Int32 × St => b_X8_price_9 (nI y) z.1 z.2) (V := St) (fun k v => (nI k, v)) (fun k v => F37 σ v ∧ ∀ s, s < 2 ^ k → ar v 37 s = enC (aR A) w y s) 0 (cn (aR A) 1) (Nat.zero_le _) (v := fw σ 37 0 0) ⟨f0, fun s hs => by
      have : s = 0 := by simp at hs; omega
      subst this
      rw [ar_fw_eq, upd_eq]
      unfold enC
      rw [may_0, if_pos rfl, sm_0]⟩ (fun p v _ hp hv => by
    obtain ⟨hv1, hv2⟩ := hv
    obtain ⟨g1, g2, g3⟩ := hrd hv1
    have hpn : 2 ^ (p + 1) ≤ 2 ^ cn (aR A) 1 := Nat.pow_le_pow_right (by decide) hp
    have hpp : 2 ^ (p + 1) = 2 * 2 ^ p := by rw [Nat.pow_succ, Nat.mul_comm]
    obtain ⟨v', k1, k2, k3⟩ := it_ex (f := fun z : Int32 × St => b_X8_price_48 (nI y) (nI p) (nI (2 ^ p)) (ar v (40 + y) p) (ar v 32 p) z.1 z.2) (V := St) (fun k v => (nI k, v)) (fun j u => F37 σ u ∧ ∀ s, s < 2 ^ p + j → ar u 37 s = enC (aR A) w y s) 0 (2 ^ p) (Nat.zero_le _) (v := v) ⟨hv1, fun s hs => hv2 s hs⟩ (fun j u _ hj hu => by
      obtain ⟨u1, u2⟩ := hu
      have hjs : j ||| 2 ^ p = 2 ^ p + j := tp_add hj
      refine ⟨fw u 37 (2 ^ p + j) (enC (aR A) w y (2 ^ p + j)), ?_, ⟨fun c h => by rw [ar_fw_ne h]; exact u1.1 c h, u1.2.1, u1.2.2⟩, fun s hs => ?_⟩
      · show b_X8_price_48 (nI y) (nI p) (nI (2 ^ p)) (ar v (40 + y) p) (ar v 32 p) (nI j) u = _
        have h116 : ∀ x, f_X8_price_116 (nI y) (nI p) (nI (2 ^ p)) (ar v (40 + y) p) (ar v 32 p) (nI j) x (nI j ||| nI (2 ^ p)) u = some (.inl (nI (j + 1), fw u 37 (2 ^ p + j) x)) := by
          intro x
          unfold f_X8_price_116
          rw [nI_or, hjs, inb_nI (show 2 ^ p + j < 1024 by omega) (by decide), chk_so, nm_so, wr_nI _ (by omega), nI_1]
        have euj : ar u 37 j = enC (aR A) w y j := u2 j (by omega)
        have hen : enC (aR A) w y (2 ^ p + j) = if may (aR A) y (j ||| 2 ^ p) = true then sm (aR A) w y j + cst (aR A) w y p else 100000000 := by
          unfold enC
          rw [← hjs, sm_top hj hp]
        unfold b_X8_price_48 f_X8_price_85 f_X8_price_86
        rw [if_pos (nI_lt hj (by omega)), inb_nI (show j < 1024 by omega) (by decide), chk_so, chk_so, rd_ar (by omega), euj, h116, h116, hen, may_top hj hp, g3 p hp]
        by_cases qa : abl (aR A) y p = 0
        · rw [if_pos qa, if_neg (by decide), if_pos rfl, decide_eq_true qa]
          simp
        · rw [if_neg qa, if_pos (cst_far hI hy p), decide_eq_false qa]
          by_cases qm : may (aR A) y j = true
          · rw [if_pos ((enC_lt hI hy j).mpr qm), qm]
            have ec : enC (aR A) w y j = sm (aR A) w y j := if_pos qm
            rw [ec]
            have hbr := brd_and hI (g2 p hp) hj hp
            cases qb : anyN (fun q => j.testBit q && brB (aR A) p q) p with
            | false => rw [if_pos (hbr.mpr qb), if_neg (by decide)]; rfl
            | true => rw [if_neg (fun h => by rw [hbr.mp h] at qb; exact absurd qb (by decide)), if_pos rfl]; rfl
          · rw [if_neg (fun h => qm ((enC_lt hI hy j).mp h)), if_pos rfl]
            have qm' : may (aR A) y j = false := by cases e : may (aR A) y j <;> first | rfl | exact absurd e qm
            rw [qm']
            rfl
      · rw [ar_fw_eq]
        by_cases qs : s = 2 ^ p + j
        · rw [qs, upd_eq]
        · rw [upd_ne qs]; exact u2 s (by omega))
    refine ⟨v', ?_, k2, fun s hs => k3 s (by omega)⟩
    show b_X8_price_9 (nI y) (nI p) v = _
    unfold b_X8_price_9 f_X8_price_48
    rw [g1, if_pos (nI_lt hp (by omega)), inb_nI (show y < 6 by omega) (by decide), chk_so, inb_nI (show p < 10 by omega) (by decide), chk_so, nI_clamp (by omega), rd_ar (by omega), rd_ar (by omega), nI_bit (by omega)]
    refine k1.trans (it_r ?_)
    show b_X8_price_48 (nI y) (nI p) (nI (2 ^ p)) (ar v (40 + y) p) (ar v 32 p) (nI (2 ^ p)) v' = _
    unfold b_X8_price_48 f_X8_price_123
    rw [if_neg (nI_nlt (Nat.le_refl _) (by omega)), nI_1]
    rfl)
  refine ⟨v, h1.trans (it_r ?_), h2, h3⟩
  show b_X8_price_9 (nI y) (nI (cn (aR A) 1)) v = _
  unfold b_X8_price_9
  rw [(hrd h2).1, if_neg (nI_nlt (Nat.le_refl _) (by omega))]
/-! asking -/
theorem cst0 {r : Nat → Int32} {y p : Nat} : cst r 0 y p = -(wsh r y p) := if_pos rfl
theorem cst1 {r : Nat → Int32} {y p : Nat} : cst r 1 y p = if ((r (222 + 3 * y) >>> (nI p &&& 31)) &&& 1) = 1 then 0 else wt r (nI p) := (if_neg (by decide)).trans (if_pos rfl)
theorem cst2 {r : Nat → Int32} {y p : Nat} : cst r 2 y p = wt r (nI p) := (if_neg (by decide)).trans ((if_neg (by decide)).trans (if_pos rfl))
theorem cst3 {r : Nat → Int32} {y p : Nat} : cst r 3 y p = if r (14 + 5 * p) = nI y then 0 else 1 := (if_neg (by decide)).trans ((if_neg (by decide)).trans (if_neg (by decide)))
theorem e_cost {p : Nat} (hI : Inv A) (hC : CR A σ) (hw : w < 4) (hy : y < cn (aR A) 3) (hp : p < cn (aR A) 1) : ∃ τ, f_X8_costOf (nI w) (nI y) (nI p) σ = some (cst (aR A) w y p, τ) ∧ F31 σ τ := by
  have b1 := hI.1.1.2.1.2
  have b3 := hI.1.1.2.2.2.1.2
  have hc := hC.1.1
  have he := hC.1.2.2.2.2.2.2.1
  have h4 : w = 0 ∨ w = 1 ∨ w = 2 ∨ w = 3 := by omega
  unfold f_X8_costOf
  rcases h4 with rfl | rfl | rfl | rfl
  · obtain ⟨τ, e1, f1⟩ := e_wishOf hI hC hy hp
    exact ⟨τ, by rw [if_pos (by decide), e1, bd2_so, cst0], f1⟩
  · refine ⟨σ, ?_, F31.rfl' σ⟩
    unfold f_X4_knows
    rw [if_neg (by decide), if_pos (by decide), inb_nI (show y < 6 by omega) (by decide), chk_so, rd_ar (by omega), show ar σ 18 y = _ from (hC.1.2.2.2.2.2.2.2 y hy).2.2, e_weight _ hI.1.1 hc he, cst1]
    by_cases q : ((aR A (222 + 3 * y) >>> (nI p &&& 31)) &&& 1) = 1
    · have q0 : ¬ ((aR A (222 + 3 * y) >>> (nI p &&& 31)) &&& 1) = 0 := by rw [q]; decide
      rw [if_neg q0, bd_so, if_neg (by decide), if_pos q]
    · have q0 : ((aR A (222 + 3 * y) >>> (nI p &&& 31)) &&& 1) = 0 := by
        rw [bit_v _ (by omega)] at q ⊢
        cases e : bt (aR A (222 + 3 * y)) p with
        | false => rfl
        | true => rw [e] at q; exact absurd rfl q
      rw [if_pos q0, bd_so, if_pos rfl, bd_so, if_neg q]
  · refine ⟨σ, ?_, F31.rfl' σ⟩
    rw [if_neg (by decide), if_neg (by decide), if_pos (by decide), e_weight _ hI.1.1 hc he, bd_so, cst2]
  · refine ⟨σ, ?_, F31.rfl' σ⟩
    rw [if_neg (by decide), if_neg (by decide), if_neg (by decide), inb_nI (show p < 10 by omega) (by decide), chk_so, rd_ar (by omega), show ar σ 11 p = _ from hC.1.2.2.2.2.1 p hp, cst3]
    split <;> rfl
def FA (y : Nat) (σ σ' : St) : Prop := (∀ c, c ≠ 30 → c ≠ 31 → c ≠ 40 + y → ar σ' c = ar σ c) ∧ σ'.1 = σ.1 ∧ σ'.2.2 = σ.2.2
theorem FA.tr {a b c : St} (h : FA y a b) (h2 : FA y b c) : FA y a c := ⟨fun k p q s => (h2.1 k p q s).trans (h.1 k p q s), h2.2.1.trans h.2.1, h2.2.2.trans h.2.2⟩
theorem FA.of {σ σ' : St} (h : F31 σ σ') : FA y σ σ' := ⟨fun c h1 h2 _ => h.1 c h1 h2, h.2.1, h.2.2⟩
theorem FA.frs {σ σ' : St} (hy : y < 6) (h : FA y σ σ') : FrS σ σ' := by
  refine ⟨fun k hk => h.1 k (fun e => hk (by unfold SC; omega)) (fun e => hk (by unfold SC; omega)) (fun e => hk (by unfold SC; omega)), h.2.1, h.2.2, ?_, ?_⟩
  · rw [rc_ar, rc_ar, h.1 4 (by omega) (by omega) (by omega)]; exact id
  · rw [rc_ar, rc_ar, h.1 5 (by omega) (by omega) (by omega)]; exact id
theorem e_ask (hI : Inv A) (hC : CR A σ) (hw : w < 4) (hy : y < cn (aR A) 3) : ∃ τ, f_X8_ask (nI y) (nI w) σ = some τ ∧ FA y σ τ ∧ SgC (aR A) w y (ar τ (40 + y)) := by
  have b1 := hI.1.1.2.1.2
  have b3 := hI.1.1.2.2.2.1.2
  unfold f_X8_ask f_X8_ask_2
  have hrd : ∀ {v : St}, FA y σ v → fd v 1 1 = nI (cn (aR A) 1) := fun {v} hv => by rw [fd_ar, hv.1 1 (by omega) (by omega) (by omega)]; exact hC.1.1.2.1.trans hI.1.1.2.1.1
  obtain ⟨v, h1, h2, h3⟩ := it_ex (f := fun z : Int32 × St => b_X8_ask_2 (nI y) (nI w) z.1 z.2) (V := St) (fun k v => (nI k, v)) (fun k v => FA y σ v ∧ ∀ p, p < k → ar v (40 + y) p = if abl (aR A) y p = 0 then 100000000 else cst (aR A) w y p) 0 (cn (aR A) 1) (Nat.zero_le _) (v := σ) ⟨⟨fun _ _ _ _ => rfl, rfl, rfl⟩, fun p hp => absurd hp (Nat.not_lt_zero p)⟩ (fun k v _ hk hv => by
    obtain ⟨v1, v2⟩ := hv
    have hCv := hC.frs (v1.frs (by omega))
    obtain ⟨σ1, x1, x2⟩ := e_isAble hI hCv hy hk
    have hF : ∀ {u : St} {x : Int32}, FA y σ u → FA y σ (fw u (40 + y) k x) := fun {u x} hu => ⟨fun c z1 z2 z3 => by rw [ar_fw_ne z3]; exact hu.1 c z1 z2 z3, hu.2.1, hu.2.2⟩
    have h44 : ∀ (u : St) (x : Int32), f_X8_ask_44 (nI y) (nI w) (nI k) x (nI k) (40 + (nI y).toNatClampNeg) u = some (.inl (nI (k + 1), fw u (40 + y) k x)) := by
      intro u x
      unfold f_X8_ask_44
      rw [nI_clamp (by omega), inb_nI (show k < 10 by omega) (by decide), chk_so, nm_so, wr_nI _ (by omega), nI_1]
    have hp1 := v1.tr (FA.of x2)
    have ev : ∀ {u : St} {x : Int32}, ar u (40 + y) = ar v (40 + y) → x = (if abl (aR A) y k = 0 then 100000000 else cst (aR A) w y k) → ∀ p, p < k + 1 → ar (fw u (40 + y) k x) (40 + y) p = if abl (aR A) y p = 0 then 100000000 else cst (aR A) w y p := by
      intro u x hu hx p hp
      rw [ar_fw_eq]
      by_cases qp : p = k
      · rw [qp, upd_eq]; exact hx
      · rw [upd_ne qp, hu]; exact v2 p (by omega)
    by_cases qa : abl (aR A) y k = 0
    · refine ⟨fw σ1 (40 + y) k 100000000, ?_, hF hp1, ev (x2.1 (40 + y) (by omega) (by omega)) (by rw [if_pos qa])⟩
      show b_X8_ask_2 (nI y) (nI w) (nI k) v = _
      unfold b_X8_ask_2
      rw [hrd v1, if_pos (nI_lt hk (by omega)), inb_nI (show y < 6 by omega) (by decide), chk_so, x1, bd2_so, if_pos qa, h44]
    · obtain ⟨σ2, x3, x4⟩ := e_cost (w := w) hI (hC.frs (hp1.frs (by omega))) hw hy hk
      refine ⟨fw σ2 (40 + y) k (cst (aR A) w y k), ?_, hF (hp1.tr (FA.of x4)), ev (by rw [x4.1 (40 + y) (by omega) (by omega), x2.1 (40 + y) (by omega) (by omega)]) (by rw [if_neg qa])⟩
      show b_X8_ask_2 (nI y) (nI w) (nI k) v = _
      unfold b_X8_ask_2
      rw [hrd v1, if_pos (nI_lt hk (by omega)), inb_nI (show y < 6 by omega) (by decide), chk_so, x1, bd2_so, if_neg qa, x3, bd2_so, h44])
  refine ⟨v, h1.trans (it_r ?_), h2, h3⟩
  show b_X8_ask_2 (nI y) (nI w) (nI (cn (aR A) 1)) v = _
  unfold b_X8_ask_2
  rw [hrd h2, if_neg (nI_nlt (Nat.le_refl _) (by omega))]
def pls (set k : Nat) : List Nat := (List.range k).filter (fun y => set.testBit y)
theorem pls_s (set k : Nat) : pls set (k + 1) = if set.testBit k = true then pls set k ++ [k] else pls set k := by
  unfold pls
  rw [List.range_succ, List.filter_append]
  by_cases q : set.testBit k = true
  · rw [if_pos q]; simp [q]
  · rw [if_neg q]; simp [q]
theorem pls_len (set : Nat) : ∀ k, (pls set k).length ≤ k
  | 0 => Nat.le_refl _
  | k + 1 => by
    have := pls_len set k
    rw [pls_s]
    split
    · rw [List.length_append]; simp; omega
    · omega
theorem pls_m {set k y : Nat} (h : y ∈ pls set k) : y < k ∧ set.testBit y = true := by
  unfold pls at h
  rw [List.mem_filter, List.mem_range] at h
  exact h
def FGa (σ σ' : St) : Prop := (∀ c, c ≠ 4 → c ≠ 30 → c ≠ 31 → c ≠ 35 → (c < 40 ∨ 46 ≤ c) → ar σ' c = ar σ c) ∧ (∀ j, j ≠ 5 → ar σ' 4 j = ar σ 4 j) ∧ σ'.1 = σ.1 ∧ σ'.2.2 = σ.2.2
theorem FGa.frs {σ σ' : St} (h : FGa σ σ') : FrS σ σ' := by
  refine ⟨fun k hk => h.1 k (fun e => hk (by unfold SC; omega)) (fun e => hk (by unfold SC; omega)) (fun e => hk (by unfold SC; omega)) (fun e => hk (by unfold SC; omega)) (by unfold SC at hk; omega), h.2.2.1, h.2.2.2, ?_, ?_⟩
  · rw [rc_ar, rc_ar, h.2.1 9 (by omega)]; exact id
  · rw [rc_ar, rc_ar, h.1 5 (by omega) (by omega) (by omega) (by omega) (by omega)]; exact id
def Team (r : Nat → Int32) (w : Nat) (ts : List Nat) (σ : St) : Prop := ar σ 4 5 = nI ts.length ∧ (∀ j, j < ts.length → ar σ 35 j = nI (ts.getD j 0)) ∧ ∀ y, y ∈ ts → SgC r w y (ar σ (40 + y))
theorem e_gather {set : Nat} (hI : Inv A) (hC : CR A σ) (hw : w < 4) (hs : set < 64) : ∃ τ, f_X8_gather (nI set) (nI w) σ = some τ ∧ FGa σ τ ∧ Team (aR A) w (pls set (cn (aR A) 3)) τ := by
  have b3 := hI.1.1.2.2.2.1.2
  unfold f_X8_gather
  rw [nm_so]
  unfold f_X8_gather_7
  have hrd : ∀ {v : St}, FGa σ v → fd v 1 3 = nI (cn (aR A) 3) := fun {v} hv => by rw [fd_ar, hv.1 1 (by omega) (by omega) (by omega) (by omega) (by omega)]; exact hC.1.1.2.2.2.trans hI.1.1.2.2.2.1.1
  obtain ⟨v, h1, h2, h3⟩ := it_ex (f := fun z : Int32 × St => b_X8_gather_7 (nI set) (nI w) z.1 z.2) (V := St) (fun k v => (nI k, v)) (fun k v => FGa σ v ∧ Team (aR A) w (pls set k) v) 0 (cn (aR A) 3) (Nat.zero_le _) (v := fw σ 4 5 0) ⟨⟨fun c h _ _ _ _ => ar_fw_ne h, fun j hj => by rw [ar_fw_eq, upd_ne hj], rfl, rfl⟩, by rw [ar_fw_eq, upd_eq]; rfl, fun j hj => absurd hj (Nat.not_lt_zero j), fun y hy => by cases hy⟩ (fun k v _ hk hv => by
    obtain ⟨v1, v2, v3, v4⟩ := hv
    have hlen := pls_len set k
    by_cases q : set.testBit k = true
    · obtain ⟨u, hu⟩ : ∃ u, u = fw (fw v 35 (pls set k).length (nI k)) 4 5 (nI ((pls set k).length + 1)) := ⟨_, rfl⟩
      have fu : FGa σ u := by
        rw [hu]
        exact ⟨fun c z1 z2 z3 z4 z5 => by rw [ar_fw_ne z1, ar_fw_ne z4]; exact v1.1 c z1 z2 z3 z4 z5, fun j hj => by rw [ar_fw_eq, upd_ne hj, ar_fw_ne (by omega)]; exact v1.2.1 j hj, v1.2.2.1, v1.2.2.2⟩
      obtain ⟨τ, x1, x2, x3⟩ := e_ask (w := w) (y := k) hI (hC.frs fu.frs) hw hk
      refine ⟨τ, ?_, ⟨fun c z1 z2 z3 z4 z5 => by rw [x2.1 c z2 z3 (by omega)]; exact fu.1 c z1 z2 z3 z4 z5, fun j hj => by rw [x2.1 4 (by omega) (by omega) (by omega)]; exact fu.2.1 j hj, x2.2.1.trans fu.2.2.1, x2.2.2.trans fu.2.2.2⟩, ?_⟩
      · show b_X8_gather_7 (nI set) (nI w) (nI k) v = _
        unfold b_X8_gather_7 f_X8_gather_52
        have q' : ¬ ((nI set >>> (nI k &&& 31)) &&& 1) = 0 := fun e => by
          rw [bit_0 (by omega), bt_nI (by omega), q] at e; exact absurd e (by decide)
        rw [hrd v1, if_pos (nI_lt hk (by omega)), if_neg q', fd_ar, v2, inb_nI (show (pls set k).length < 6 by omega) (by decide), chk_so, nm_so, wr_nI _ (by omega), nm_so, fd_ar, ar_fw_ne (by omega), v2, nI_1, ← hu, x1, bd_so, nI_1]
      · rw [pls_s, if_pos q]
        have e4 : ar τ 4 = ar u 4 := x2.1 4 (by omega) (by omega) (by omega)
        have e35 : ar τ 35 = ar u 35 := x2.1 35 (by omega) (by omega) (by omega)
        refine ⟨?_, fun j hj => ?_, fun y hy => ?_⟩
        · rw [e4, hu, ar_fw_eq, upd_eq, List.length_append]; rfl
        · rw [List.length_append] at hj
          have hj' : j < (pls set k).length + 1 := hj
          rw [e35, hu, ar_fw_ne (by omega), ar_fw_eq]
          by_cases qj : j = (pls set k).length
          · rw [qj, upd_eq]; simp
          · rw [upd_ne qj, v3 j (by omega)]
            congr 1
            rw [List.getD_eq_getElem?_getD, List.getD_eq_getElem?_getD, List.getElem?_append_left (by omega)]
        · rw [List.mem_append] at hy
          rcases hy with hy | hy
          · have hyk := (pls_m hy).1
            rw [x2.1 (40 + y) (by omega) (by omega) (by omega), hu, ar_fw_ne (by omega), ar_fw_ne (by omega)]
            exact v4 y hy
          · have : y = k := by simpa using hy
            subst this
            exact x3
    · refine ⟨v, ?_, v1, by rw [pls_s, if_neg q]; exact ⟨v2, v3, v4⟩⟩
      show b_X8_gather_7 (nI set) (nI w) (nI k) v = _
      unfold b_X8_gather_7 f_X8_gather_52
      have q' : ((nI set >>> (nI k &&& 31)) &&& 1) = 0 := by
        rw [bit_0 (by omega), bt_nI (by omega)]
        cases e : set.testBit k <;> first | rfl | exact absurd e q
      rw [hrd v1, if_pos (nI_lt hk (by omega)), if_pos q', nI_1])
  refine ⟨v, h1.trans (it_r ?_), h2, h3⟩
  show b_X8_gather_7 (nI set) (nI w) (nI (cn (aR A) 3)) v = _
  unfold b_X8_gather_7
  rw [hrd h2, if_neg (nI_nlt (Nat.le_refl _) (by omega))]
/-! the model -/
def MayM (r : Nat → Int32) (y : Nat) (row : Nat → Int32) : Prop := ∀ s, s < 2 ^ cn r 1 → row s = if may r y s = true then 1 else 0
def CostM (r : Nat → Int32) (w y : Nat) (row : Nat → Int32) : Prop := ∀ s, s < 2 ^ cn r 1 → row s = sm r w y s
def FS98 (σ σ' : St) : Prop := (∀ c, c ≠ 90 → c ≠ 93 → c ≠ 98 → ar σ' c = ar σ c) ∧ σ'.1 = σ.1 ∧ σ'.2.2 = σ.2.2
def FS99 (σ σ' : St) : Prop := (∀ c, c ≠ 90 → c ≠ 93 → c ≠ 99 → c ≠ 102 → ar σ' c = ar σ c) ∧ σ'.1 = σ.1 ∧ σ'.2.2 = σ.2.2
theorem FS98.tr {a b c : St} (h : FS98 a b) (h2 : FS98 b c) : FS98 a c := ⟨fun k p q s => (h2.1 k p q s).trans (h.1 k p q s), h2.2.1.trans h.2.1, h2.2.2.trans h.2.2⟩
theorem FS98.frq {σ σ' : St} (h : FS98 σ σ') : FrQ σ σ' := by
  have h6 := h.1 6 (by omega) (by omega) (by omega)
  exact ⟨⟨fun k hk _ => h.1 k (by omega) (by omega) (by omega), h.2.1⟩, fun k hk => h.1 k (by omega) (by omega) (by omega), by rw [h6], by rw [h6], by rw [h6]⟩
theorem FS99.frq {σ σ' : St} (h : FS99 σ σ') : FrQ σ σ' := by
  have h6 := h.1 6 (by omega) (by omega) (by omega) (by omega)
  exact ⟨⟨fun k hk _ => h.1 k (by omega) (by omega) (by omega) (by omega), h.2.1⟩, fun k hk => h.1 k (by omega) (by omega) (by omega) (by omega), by rw [h6], by rw [h6], by rw [h6]⟩
def abB (r : Nat → Int32) (y : Nat) : Nat → Nat
  | 0 => 0
  | k + 1 => if abl r y k = 0 then abB r y k else abB r y k ||| 2 ^ k
theorem abB_lt (r : Nat → Int32) (y : Nat) : ∀ k, abB r y k < 2 ^ k
  | 0 => by show 0 < 2 ^ 0; decide
  | k + 1 => by
    have := abB_lt r y k
    show (if abl r y k = 0 then abB r y k else abB r y k ||| 2 ^ k) < 2 ^ (k + 1)
    split
    · rw [Nat.pow_succ]; omega
    · exact tp_lt this (by omega)
theorem abB_t (r : Nat → Int32) (y : Nat) : ∀ {k p : Nat}, p < k → ((abB r y k).testBit p = true ↔ abl r y p ≠ 0)
  | 0, p, h => absurd h (Nat.not_lt_zero p)
  | k + 1, p, h => by
    show ((if abl r y k = 0 then abB r y k else abB r y k ||| 2 ^ k).testBit p = true ↔ abl r y p ≠ 0)
    by_cases qp : p = k
    · subst qp
      split
      · rename_i h0
        rw [Nat.testBit_lt_two_pow (abB_lt r y p)]
        exact ⟨fun e => absurd e (by decide), fun e => absurd h0 e⟩
      · rename_i h0
        exact ⟨fun _ => h0, fun _ => tb_top.mpr (Or.inr rfl)⟩
    · split
      · exact abB_t r y (by omega)
      · rw [tb_top, abB_t r y (show p < k by omega)]
        exact ⟨fun h => h.elim id (fun e => absurd e qp), Or.inl⟩
theorem m_sets (hI : Inv A) (hm : MR A σ) (hl : LD A σ) (hy : y < cn (aR A) 3) : ∃ τ, f_X12_findSets (nI y) σ = some τ ∧ FS98 σ τ ∧ MayM (aR A) y (ar τ 98) := by
  have b1 := hI.1.1.2.1.2
  have n10 := p10 b1
  unfold f_X12_findSets f_X12_findSets_4
  obtain ⟨v0, e0, f0⟩ : ∃ v0, it (fun z : Int32 × Int32 × St => b_X12_findSets_4 (nI y) z.1 z.2.1 z.2.2) (0, 0, σ) = f_X12_findSets_39 (nI (abB (aR A) y (cn (aR A) 1))) v0 ∧ F93 σ v0 := by
    obtain ⟨⟨a, v⟩, h1, h2, h3⟩ := it_ex (f := fun z : Int32 × Int32 × St => b_X12_findSets_4 (nI y) z.1 z.2.1 z.2.2) (V := Int32 × St) (fun k v => (v.1, nI k, v.2)) (fun k v => v.1 = nI (abB (aR A) y k) ∧ F93 σ v.2) 0 (cn (aR A) 1) (Nat.zero_le _) (v := (0, σ)) ⟨rfl, F93.rfl' σ⟩ (fun k v _ hk hv => by
      obtain ⟨a, u⟩ := v
      obtain ⟨ha, hu⟩ := hv
      have ha : a = nI (abB (aR A) y k) := ha
      have hu : F93 σ u := hu
      subst ha
      have hmu := hm.frq hu.frq
      have e1 : rd u 84 1 = nI (cn (aR A) 1) := by rw [← hI.1.1.2.1.1, ← hmu.1]; rfl
      obtain ⟨σ1, x1, x2⟩ := m_isAble hI hmu hy hk
      refine ⟨(nI (abB (aR A) y (k + 1)), σ1), ?_, rfl, hu.tr x2⟩
      show b_X12_findSets_4 (nI y) (nI (abB (aR A) y k)) (nI k) u = _
      unfold b_X12_findSets_4 f_X12_findSets_31
      rw [chk_t (by decide), e1, if_pos (nI_lt hk (by omega)), x1, bd2_so, nI_1]
      show _ = some (Sum.inl (nI (if abl (aR A) y k = 0 then abB (aR A) y k else abB (aR A) y k ||| 2 ^ k), nI (k + 1), σ1))
      by_cases qa : abl (aR A) y k = 0
      · rw [if_pos qa, if_pos qa, show (0 : Int32) = nI 0 from rfl, nI_or, Nat.or_zero]
      · rw [if_neg qa, if_neg qa, nI_bit (by omega), nI_or])
    refine ⟨v, h1.trans (it_k ?_), h3⟩
    have hmv := hm.frq h3.frq
    have e1 : rd v 84 1 = nI (cn (aR A) 1) := by rw [← hI.1.1.2.1.1, ← hmv.1]; rfl
    show b_X12_findSets_4 (nI y) a (nI (cn (aR A) 1)) v = _
    unfold b_X12_findSets_4
    rw [chk_t (by decide), e1, if_neg (nI_nlt (Nat.le_refl _) (by omega)), show a = _ from h2]
  rw [e0]
  unfold f_X12_findSets_39
  rw [chk_t (by decide), nm_so]
  obtain ⟨v1, hv1⟩ : ∃ s, s = fw v0 98 0 1 := ⟨_, rfl⟩
  have ev1 : wr v0 98 0 (vp_nar .boolean 1) = v1 := by rw [hv1]; rfl
  rw [ev1]
  have f1 : FS98 σ v1 := by rw [hv1]; exact ⟨fun c z1 z2 z3 => by rw [ar_fw_ne z3]; exact f0.1 c z1 z2, f0.2.1, f0.2.2⟩
  unfold f_X12_findSets_48
  obtain ⟨v, h1, h2, h3⟩ := it_ex (f := fun z : Int32 × St => b_X12_findSets_48 (nI (abB (aR A) y (cn (aR A) 1))) z.1 z.2) (V := St) (fun k v => (nI k, v)) (fun k v => FS98 σ v ∧ ∀ s, s < k → ar v 98 s = if may (aR A) y s = true then 1 else 0) 1 (2 ^ cn (aR A) 1) (Nat.two_pow_pos _) (v := v1) ⟨f1, fun s hs => by
      have : s = 0 := by omega
      subst this
      rw [hv1, ar_fw_eq, upd_eq, may_0, if_pos rfl]⟩ (fun k v hk1 hk hv => by
    obtain ⟨u1, u2⟩ := hv
    have hmu := hm.frq u1.frq
    obtain ⟨t, s, ht, hs, rfl⟩ := top_ex hk1 hk
    have hslt : s < s ||| 2 ^ t := by rw [tp_add hs]; have := Nat.two_pow_pos t; omega
    have hb : Brd (aR A) t (ar v 87 t) := by rw [u1.1 87 (by omega) (by omega) (by omega)]; exact hl.2 t ht
    refine ⟨fw v 98 (s ||| 2 ^ t) (if may (aR A) y (s ||| 2 ^ t) = true then 1 else 0), ?_, ⟨fun c z1 z2 z3 => by rw [ar_fw_ne z3]; exact u1.1 c z1 z2 z3, u1.2.1, u1.2.2⟩, fun j hj => ?_⟩
    · show b_X12_findSets_48 _ (nI (s ||| 2 ^ t)) v = _
      unfold b_X12_findSets_48 f_X12_findSets_59
      rw [m_all hI hmu, bd_so, if_neg (nI_nlt (by omega) (by omega))]
      refine it_top hs (by omega) (fun j hj hlt => ?_) (fun hlt => ?_)
      · show b_X12_findSets_59 _ _ (nI j) v = _
        unfold b_X12_findSets_59
        rw [if_pos hlt, nI_1]
      · show b_X12_findSets_59 _ _ (nI t) v = _
        have h126 : ∀ (x z : Int32), vp_nar .boolean x = z → f_X12_findSets_126 (nI (abB (aR A) y (cn (aR A) 1))) (nI (s ||| 2 ^ t)) x (nI (s ||| 2 ^ t)) v = some (.inl (nI ((s ||| 2 ^ t) + 1), fw v 98 (s ||| 2 ^ t) z)) := by
          intro x z hz
          unfold f_X12_findSets_126
          rw [inb_nI (show s ||| 2 ^ t < 1024 by omega) (by decide), chk_so, nm_so, wr_nI _ (by omega), hz, nI_1]
        unfold b_X12_findSets_59
        rw [if_neg hlt]
        congr 1
        unfold f_X12_findSets_73 f_X12_findSets_125
        rw [nI_clr _ (by omega), clr_top hs, inb_nI (show s < 1024 by omega) (by decide), chk_so, rd_ar (by omega), u2 s hslt, inb_nI (show t < 10 by omega) (by decide), chk_so, rd_ar (by omega), h126 0 0 rfl, h126 1 1 rfl, may_top hs ht]
        have hbr := brd_and hI.1 hb hs ht
        have hab : (((nI (abB (aR A) y (cn (aR A) 1))) >>> (nI t &&& 31)) &&& 1) = 1 ↔ abl (aR A) y t ≠ 0 := by rw [set_b (by omega), abB_t _ _ ht]
        cases qm : may (aR A) y s with
        | false => rfl
        | true =>
          rw [if_pos rfl, if_neg (by decide)]
          by_cases qa : abl (aR A) y t = 0
          · rw [if_neg (fun e => hab.mp e qa), decide_eq_true qa]; rfl
          · rw [if_pos (hab.mpr qa), decide_eq_false qa]
            cases qb : anyN (fun q => s.testBit q && brB (aR A) t q) t with
            | false => rw [if_pos (hbr.mpr qb)]; rfl
            | true => rw [if_neg (fun h => by rw [hbr.mp h] at qb; exact absurd qb (by decide))]; rfl
    · rw [ar_fw_eq]
      by_cases qj : j = s ||| 2 ^ t
      · rw [qj, upd_eq]
      · rw [upd_ne qj]; exact u2 j (by omega))
  refine ⟨v, h1.trans (it_r ?_), h2, h3⟩
  show b_X12_findSets_48 _ (nI (2 ^ cn (aR A) 1)) v = _
  unfold b_X12_findSets_48
  have := Nat.two_pow_pos (cn (aR A) 1)
  rw [m_all hI (hm.frq h2.frq), bd_so, if_pos (nI_lt (by omega) (by omega))]
def WtM (r : Nat → Int32) (row : Nat → Int32) : Prop := ∀ p, p < cn r 1 → row p = wt r (nI p)
theorem m_costs (hI : Inv A) (hm : MR A σ) (hw : w < 4) (hy : y < cn (aR A) 3) (hwt : WtM (aR A) (ar σ 103)) : ∃ τ, f_X12_findCosts (nI y) (nI w) σ = some τ ∧ FS99 σ τ ∧ CostM (aR A) w y (ar τ 99) := by
  have b1 := hI.1.1.2.1.2
  have b3 := hI.1.1.2.2.2.1.2
  have n10 := p10 b1
  unfold f_X12_findCosts f_X12_findCosts_2
  obtain ⟨v0, h1, h2, h3⟩ := it_ex (f := fun z : Int32 × St => b_X12_findCosts_2 (nI y) (nI w) z.1 z.2) (V := St) (fun k v => (nI k, v)) (fun k v => FS99 σ v ∧ ∀ p, p < k → ar v 102 p = cst (aR A) w y p) 0 (cn (aR A) 1) (Nat.zero_le _) (v := σ) ⟨⟨fun _ _ _ _ _ => rfl, rfl, rfl⟩, fun p hp => absurd hp (Nat.not_lt_zero p)⟩ (fun k v _ hk hv => by
    obtain ⟨u1, u2⟩ := hv
    have hmu := hm.frq u1.frq
    have e1 : rd v 84 1 = nI (cn (aR A) 1) := by rw [← hI.1.1.2.1.1, ← hmu.1]; rfl
    have e103 : rd v 103 (nI k) = wt (aR A) (nI k) := by rw [rd_ar (by omega), u1.1 103 (by omega) (by omega) (by omega) (by omega)]; exact hwt k hk
    have h92 : ∀ (u : St) (x : Int32), f_X12_findCosts_92 (nI y) (nI w) (nI k) x (nI k) u = some (.inl (nI (k + 1), fw u 102 k x)) := by
      intro u x
      unfold f_X12_findCosts_92
      rw [inb_nI (show k < 10 by omega) (by decide), chk_so, nm_so, wr_nI _ (by omega), nI_1]
    have key : ∀ (u : St), F93 v u → b_X12_findCosts_2 (nI y) (nI w) (nI k) v = some (.inl (nI (k + 1), fw u 102 k (cst (aR A) w y k))) → ∃ v', b_X12_findCosts_2 (nI y) (nI w) (nI k) v = some (.inl (nI (k + 1), v')) ∧ FS99 σ v' ∧ ∀ p, p < k + 1 → ar v' 102 p = cst (aR A) w y p := by
      intro u hu he
      refine ⟨_, he, ⟨fun c z1 z2 z3 z4 => by rw [ar_fw_ne z4, hu.1 c z1 z2]; exact u1.1 c z1 z2 z3 z4, hu.2.1.trans u1.2.1, hu.2.2.trans u1.2.2⟩, fun p hp => ?_⟩
      rw [ar_fw_eq]
      by_cases qp : p = k
      · rw [qp, upd_eq]
      · rw [upd_ne qp, hu.1 102 (by omega) (by omega)]; exact u2 p (by omega)
    have h4 : w = 0 ∨ w = 1 ∨ w = 2 ∨ w = 3 := by omega
    rcases h4 with rfl | rfl | rfl | rfl
    · obtain ⟨σ1, x1, x2⟩ := m_wishOf hI hmu hy hk
      refine key σ1 x2 ?_
      unfold b_X12_findCosts_2
      rw [chk_t (by decide), e1, if_pos (nI_lt hk (by omega)), if_pos (by decide), x1, bd2_so, h92, cst0]
    · refine key v (F93.rfl' v) ?_
      unfold b_X12_findCosts_2
      rw [chk_t (by decide), e1, if_pos (nI_lt hk (by omega)), if_neg (by decide), if_pos (by decide), m_po2 (by omega) hmu.1, bd_so, inb_nI (show k < 10 by omega) (by decide), chk_so, e103, h92, h92, cst1]
      split <;> rfl
    · refine key v (F93.rfl' v) ?_
      unfold b_X12_findCosts_2
      rw [chk_t (by decide), e1, if_pos (nI_lt hk (by omega)), if_neg (by decide), if_neg (by decide), if_pos (by decide), inb_nI (show k < 10 by omega) (by decide), chk_so, e103, h92, cst2]
    · refine key v (F93.rfl' v) ?_
      unfold b_X12_findCosts_2
      rw [chk_t (by decide), e1, if_pos (nI_lt hk (by omega)), if_neg (by decide), if_neg (by decide), if_neg (by decide), m_it4 (by omega) hmu.1, bd_so, h92, h92, cst3]
      split <;> rfl)
  have hm0 := hm.frq h2.frq
  have e1 : rd v0 84 1 = nI (cn (aR A) 1) := by rw [← hI.1.1.2.1.1, ← hm0.1]; rfl
  have he : it (fun z : Int32 × St => b_X12_findCosts_2 (nI y) (nI w) z.1 z.2) (0, σ) = f_X12_findCosts_99 v0 := h1.trans (it_k (by
    show b_X12_findCosts_2 (nI y) (nI w) (nI (cn (aR A) 1)) v0 = _
    unfold b_X12_findCosts_2
    rw [chk_t (by decide), e1, if_neg (nI_nlt (Nat.le_refl _) (by omega))]))
  rw [he]
  unfold f_X12_findCosts_99
  rw [chk_t (by decide), nm_so]
  show ∃ τ, f_X12_findCosts_108 1 (fw v0 99 0 0) = some τ ∧ _
  unfold f_X12_findCosts_108
  have f1 : FS99 σ (fw v0 99 0 0) := ⟨fun c z1 z2 z3 z4 => by rw [ar_fw_ne z3]; exact h2.1 c z1 z2 z3 z4, h2.2.1, h2.2.2⟩
  obtain ⟨v, g1, g2, g3, g4⟩ := it_ex (f := fun z : Int32 × St => b_X12_findCosts_108 z.1 z.2) (V := St) (fun k v => (nI k, v)) (fun k v => FS99 σ v ∧ ar v 102 = ar v0 102 ∧ ∀ s, s < k → ar v 99 s = sm (aR A) w y s) 1 (2 ^ cn (aR A) 1) (Nat.two_pow_pos _) (v := fw v0 99 0 0) ⟨f1, ar_fw_ne (by omega), fun s hs => by
      have : s = 0 := by omega
      subst this
      rw [ar_fw_eq, upd_eq, sm_0]⟩ (fun k v hk1 hk hv => by
    obtain ⟨u1, u3, u2⟩ := hv
    have hmu := hm.frq u1.frq
    obtain ⟨t, s, ht, hs, rfl⟩ := top_ex hk1 hk
    have hslt : s < s ||| 2 ^ t := by rw [tp_add hs]; have := Nat.two_pow_pos t; omega
    refine ⟨fw v 99 (s ||| 2 ^ t) (sm (aR A) w y (s ||| 2 ^ t)), ?_, ⟨fun c z1 z2 z3 z4 => by rw [ar_fw_ne z3]; exact u1.1 c z1 z2 z3 z4, u1.2.1, u1.2.2⟩, by rw [ar_fw_ne (by omega)]; exact u3, fun j hj => ?_⟩
    · show b_X12_findCosts_108 (nI (s ||| 2 ^ t)) v = _
      unfold b_X12_findCosts_108 f_X12_findCosts_119
      rw [m_all hI hmu, bd_so, if_neg (nI_nlt (by omega) (by omega))]
      refine it_top hs (by omega) (fun j hj hlt => ?_) (fun hlt => ?_)
      · show b_X12_findCosts_119 _ (nI j) v = _
        unfold b_X12_findCosts_119
        rw [if_pos hlt, nI_1]
      · show b_X12_findCosts_119 _ (nI t) v = _
        unfold b_X12_findCosts_119
        rw [if_neg hlt]
        congr 1
        unfold f_X12_findCosts_133
        rw [nI_clr _ (by omega), clr_top hs, inb_nI (show s < 1024 by omega) (by decide), chk_so, inb_nI (show t < 10 by omega) (by decide), chk_so, inb_nI (show s ||| 2 ^ t < 1024 by omega) (by decide), chk_so, nm_so, wr_nI _ (by omega), rd_ar (by omega), rd_ar (by omega), u2 s hslt, u3, h3 t ht, nI_1, sm_top hs ht]
    · rw [ar_fw_eq]
      by_cases qj : j = s ||| 2 ^ t
      · rw [qj, upd_eq]
      · rw [upd_ne qj]; exact u2 j (by omega))
  refine ⟨v, g1.trans (it_r ?_), g2, g4⟩
  show b_X12_findCosts_108 (nI (2 ^ cn (aR A) 1)) v = _
  unfold b_X12_findCosts_108
  have := Nat.two_pow_pos (cn (aR A) 1)
  rw [m_all hI (hm.frq g2.frq), bd_so, if_pos (nI_lt (by omega) (by omega))]
end PX
