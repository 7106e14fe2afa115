/-! how two parts are barred: the model; rows of bars -/
def Pr (a b x y : Nat) : Prop := x < a ∨ (x = a ∧ y < b)
def BI (r : Nat → Int32) (a b : Nat) (bar : Nat → Int32) : Prop := ∀ p, p < 10 → ∃ m, m < 1024 ∧ bar p = nI m ∧ ∀ q, m.testBit q = true ↔ (q < cn r 1 ∧ p < cn r 1 ∧ ((p < q ∧ Pr a b p q) ∨ (q < p ∧ Pr a b q p)) ∧ hwr r p q ≠ 0)
def brs (bar : Nat → Int32) (a b : Nat) : Nat → Int32 := upd (upd bar a (bar a ||| ((1 : Int32) <<< (nI b &&& 31)))) b (upd bar a (bar a ||| ((1 : Int32) <<< (nI b &&& 31))) b ||| ((1 : Int32) <<< (nI a &&& 31)))
section BB
variable {r bar : Nat → Int32} {a b : Nat}
theorem BI.no (h : BI r a b bar) (hab : a < b) (h0 : hwr r a b = 0) (hI : IR r) : BI r a (b + 1) bar := by
  intro p hp
  obtain ⟨m, hm, em, ht⟩ := h p hp
  refine ⟨m, hm, em, fun q => ?_⟩
  rw [ht q]
  unfold Pr
  constructor
  · rintro ⟨h1, h2, h3, h4⟩
    exact ⟨h1, h2, by omega, h4⟩
  · rintro ⟨h1, h2, h3, h4⟩
    refine ⟨h1, h2, ?_, h4⟩
    by_cases q1 : p = a ∧ q = b
    · rw [q1.1, q1.2] at h4; exact absurd h0 h4
    · by_cases q2 : p = b ∧ q = a
      · rw [q2.1, q2.2, hwr_sym hI] at h4; exact absurd h0 h4
      · omega
theorem BI.yes (h : BI r a b bar) (hab : a < b) (hb : b < cn r 1) (hn : cn r 1 ≤ 10) (h0 : hwr r a b ≠ 0) (hI : IR r) : BI r a (b + 1) (brs bar a b) := by
  intro p hp
  obtain ⟨m, hm, em, ht⟩ := h p hp
  unfold brs
  by_cases q1 : p = b
  · subst q1
    rw [upd_eq, upd_ne (by omega), em, nI_bit (by omega), nI_or]
    refine ⟨m ||| 2 ^ a, or_lt hm (by omega), rfl, fun q => ?_⟩
    rw [tb_or, ht q]
    unfold Pr
    constructor
    · rintro (⟨h1, h2, h3, h4⟩ | rfl)
      · exact ⟨h1, h2, by omega, h4⟩
      · exact ⟨by omega, hb, by omega, by rw [hwr_sym hI]; exact h0⟩
    · rintro ⟨h1, h2, h3, h4⟩
      by_cases q2 : q = a
      · exact Or.inr q2
      · exact Or.inl ⟨h1, h2, by omega, h4⟩
  · rw [upd_ne q1]
    by_cases q2 : p = a
    · subst q2
      rw [upd_eq, em, nI_bit (by omega), nI_or]
      refine ⟨m ||| 2 ^ b, or_lt hm (by omega), rfl, fun q => ?_⟩
      rw [tb_or, ht q]
      unfold Pr
      constructor
      · rintro (⟨h1, h2, h3, h4⟩ | rfl)
        · exact ⟨h1, h2, by omega, h4⟩
        · exact ⟨hb, by omega, by omega, h0⟩
      · rintro ⟨h1, h2, h3, h4⟩
        by_cases q2 : q = b
        · exact Or.inr q2
        · exact Or.inl ⟨h1, h2, by omega, h4⟩
    · rw [upd_ne q2]
      refine ⟨m, hm, em, fun q => ?_⟩
      rw [ht q]
      unfold Pr
      constructor
      · rintro ⟨h1, h2, h3, h4⟩
        exact ⟨h1, h2, by omega, h4⟩
      · rintro ⟨h1, h2, h3, h4⟩
        exact ⟨h1, h2, by omega, h4⟩
theorem BI.row (h : BI r a (cn r 1) bar) : BI r (a + 1) (a + 2) bar := by
  intro p hp
  obtain ⟨m, hm, em, ht⟩ := h p hp
  refine ⟨m, hm, em, fun q => ?_⟩
  rw [ht q]
  unfold Pr
  constructor
  · rintro ⟨h1, h2, h3, h4⟩
    exact ⟨h1, h2, by omega, h4⟩
  · rintro ⟨h1, h2, h3, h4⟩
    exact ⟨h1, h2, by omega, h4⟩
theorem BI.zero (h : ∀ p, p < 10 → bar p = 0) : BI r 0 1 bar := by
  intro p hp
  refine ⟨0, by decide, h p hp, fun q => ?_⟩
  rw [Nat.zero_testBit]
  unfold Pr
  constructor
  · intro h; exact absurd h (by decide)
  · rintro ⟨h1, h2, h3, h4⟩; omega
theorem BI.fin (h : BI r (cn r 1) b bar) (hn : cn r 1 ≤ 10) (hI : IR r) {p : Nat} (hp : p < cn r 1) : Brd r p (bar p) := by
  obtain ⟨m, hm, em, ht⟩ := h p (by omega)
  refine ⟨m, hm, em, fun q => ?_⟩
  rw [ht q, hws_e hI]
  unfold Pr
  constructor
  · rintro ⟨h1, h2, h3, h4⟩
    exact ⟨h1, by omega, h4⟩
  · rintro ⟨h1, h2, h3⟩
    exact ⟨h1, hp, by omega, h3⟩
def HL (r : Nat → Int32) (a b : Nat) (how lin : Nat → Int32) : Prop := ∀ x y, x < y → y < cn r 1 → Pr a b x y → (how (10 * x + y) = hwr r x y ∧ how (10 * y + x) = hwr r x y) ∧ lin (10 * x + y) = lnr r x y ∧ lin (10 * y + x) = lnr r x y
def hup (f : Nat → Int32) (a b : Nat) (v : Int32) : Nat → Int32 := upd (upd f (10 * a + b) v) (10 * b + a) v
theorem HL.step {how lin : Nat → Int32} (h : HL r a b how lin) (hab : a < b) (hb : b < cn r 1) (hn : cn r 1 ≤ 10) : HL r a (b + 1) (hup how a b (hwr r a b)) (hup lin a b (lnr r a b)) := by
  intro x y hxy hy hp
  unfold Pr at hp
  unfold hup
  by_cases q : x = a ∧ y = b
  · obtain ⟨rfl, rfl⟩ := q
    rw [upd_ne (show 10 * x + y ≠ 10 * y + x by omega), upd_eq, upd_eq, upd_ne (show 10 * x + y ≠ 10 * y + x by omega), upd_eq, upd_eq]
    exact ⟨⟨rfl, rfl⟩, rfl, rfl⟩
  · rw [upd_ne (show 10 * x + y ≠ 10 * b + a by omega), upd_ne (show 10 * x + y ≠ 10 * a + b by omega), upd_ne (show 10 * y + x ≠ 10 * b + a by omega), upd_ne (show 10 * y + x ≠ 10 * a + b by omega), upd_ne (show 10 * x + y ≠ 10 * b + a by omega), upd_ne (show 10 * x + y ≠ 10 * a + b by omega), upd_ne (show 10 * y + x ≠ 10 * b + a by omega), upd_ne (show 10 * y + x ≠ 10 * a + b by omega)]
    exact h x y hxy hy (by unfold Pr; omega)
theorem HL.row {how lin : Nat → Int32} (h : HL r a (cn r 1) how lin) : HL r (a + 1) (a + 2) how lin := fun x y hxy hy hp => h x y hxy hy (by unfold Pr at hp ⊢; omega)
theorem HL.zero {how lin : Nat → Int32} : HL r 0 1 how lin := fun x y hxy hy hp => by unfold Pr at hp; omega
theorem laid_of {how lin : Nat → Int32} (hI : IR r) (h : BI r (cn r 1) b bar) (h2 : HL r (cn r 1) a how lin) : Laid r bar how lin := by
  have b1 := hI.1.2.1.2
  refine ⟨fun x y hx hy hxy => ?_, fun p hp => h.fin b1 hI hp⟩
  rw [hws_e hI, lns_e hI]
  by_cases q : x < y
  · obtain ⟨⟨h1, _⟩, h3, _⟩ := h2 x y q hy (Or.inl hx)
    exact ⟨h1, h3⟩
  · obtain ⟨⟨_, h1⟩, _, h3⟩ := h2 y x (by omega) hx (Or.inl hy)
    rw [hwr_sym hI, lnr_sym hI]
    exact ⟨h1, h3⟩
end BB
section MB
variable {r : Nat → Int32} {σ : St}
theorem m_meet (a b : Nat) (hI : IR r) (hm : ar σ 84 = r) : f_X12_meetAt (nI a) (nI b) σ = some (meet r a b) := by
  have b2 := hI.1.2.2.1.2
  have e2 : rd σ 84 2 = nI (cn r 2) := by rw [← hI.1.2.2.1.1, ← hm]; rfl
  have hb : ∀ e f s, e < cn r 2 → f < cn r 2 → b_X12_meetAt_19 (nI a) (nI b) s (nI e) (nI f) σ = some (.inl ((if mtP r a b e f = true then mst s (mxi (r (61 + 4 * e)) (r (61 + 4 * f))) else s), nI (f + 1))) := by
    intro e f s he hf
    have h89 : ∀ x, f_X12_meetAt_89 (nI a) (nI b) s (nI e) (nI f) x σ = some (.inl ((if ¬ r (62 + 4 * e) < x ∧ ¬ r (62 + 4 * f) < x then mst s x else s), nI (f + 1))) := by
      intro x
      unfold f_X12_meetAt_89 f_X12_meetAt_119 f_X12_meetAt_120 f_X12_meetAt_137 f_X12_meetAt_142 f_X12_meetAt_143 f_X12_meetAt_144 mst
      rw [m_eo2 (by omega) hm, bd_so, m_eo2 (by omega) hm, bd_so, nI_1]
      by_cases q1 : r (62 + 4 * e) < x <;> by_cases q2 : r (62 + 4 * f) < x <;> by_cases q3 : s < 0 <;> by_cases q4 : x < s <;> simp [q1, q2, q3, q4]
    unfold b_X12_meetAt_19 f_X12_meetAt_144
    rw [chk_t (by decide), e2, if_pos (nI_lt hf (by omega)), m_eo0 (by omega) hm, bd_so, m_eo0 (by omega) hm, bd_so, m_eo1 (by omega) hm, bd_so, m_eo1 (by omega) hm, bd_so, bd_so, bd_so, h89, h89, nI_1]
    unfold mtP mxi
    by_cases q1 : r (60 + 4 * e) = nI a <;> by_cases q2 : r (60 + 4 * f) = nI b <;> by_cases q3 : r (61 + 4 * f) < r (61 + 4 * e) <;> simp [q1, q2, q3]
  unfold f_X12_meetAt f_X12_meetAt_5
  refine (it_lp (f := fun z : Int32 × Int32 => b_X12_meetAt_5 (nI a) (nI b) z.1 z.2 σ) (fun k (s : Int32) => (s, nI k)) (fun e s => lp (fun f s => if mtP r a b e f = true then mst s (mxi (r (61 + 4 * e)) (r (61 + 4 * f))) else s) (cn r 2) s) (cn r 2) (-1) (fun k s hk => ?_)).trans (it_r ?_)
  · show b_X12_meetAt_5 (nI a) (nI b) s (nI k) σ = _
    unfold b_X12_meetAt_5 f_X12_meetAt_19
    rw [chk_t (by decide), e2, if_pos (nI_lt hk (by omega))]
    refine (it_lp (f := fun z : Int32 × Int32 => b_X12_meetAt_19 (nI a) (nI b) z.1 (nI k) z.2 σ) (fun k (s : Int32) => (s, nI k)) (fun f s => if mtP r a b k f = true then mst s (mxi (r (61 + 4 * k)) (r (61 + 4 * f))) else s) (cn r 2) s (fun j s hj => hb k j s hk hj)).trans (it_r ?_)
    show b_X12_meetAt_19 (nI a) (nI b) _ (nI k) (nI (cn r 2)) σ = _
    unfold b_X12_meetAt_19 f_X12_meetAt_150
    rw [chk_t (by decide), e2, if_neg (nI_nlt (Nat.le_refl _) (by omega)), nI_1]
    rfl
  · show b_X12_meetAt_5 (nI a) (nI b) _ (nI (cn r 2)) σ = _
    unfold b_X12_meetAt_5
    rw [chk_t (by decide), e2, if_neg (nI_nlt (Nat.le_refl _) (by omega))]
    rfl
theorem m_near {A : AS} {a b : Nat} (hI : Inv A) (hm : ar σ 84 = aR A) (ha : a < cn (aR A) 1) (hb : b < cn (aR A) 1) : ∃ σ', f_X12_nearAt (nI a) (nI b) σ = some (near (aR A) a b, σ') ∧ F93 σ σ' := by
  have b1 := hI.1.1.2.1.2
  have b2 := hI.1.1.2.2.1.2
  have hst : ∀ e f s τ, e < cn (aR A) 2 → f < cn (aR A) 2 → F93 σ τ → ∃ τ', b_X12_nearAt_19 (nI a) (nI b) s (nI e) (nI f) τ = some (.inl ((if nrP (aR A) a b e f = true then mst s (aR A (61 + 4 * f)) else s), nI (f + 1), τ')) ∧ F93 σ τ' := by
    intro e f s τ he hf hF
    have hm1 : ar τ 84 = aR A := by rw [hF.1 84 (by omega) (by omega)]; exact hm
    have e2 : rd τ 84 2 = nI (cn (aR A) 2) := by rw [← hI.1.1.2.2.1.1, ← hm1]; rfl
    unfold b_X12_nearAt_19
    rw [chk_t (by decide), e2, if_pos (nI_lt hf (by omega)), m_eo0 (by omega) hm1, bd_so, m_eo0 (by omega) hm1, bd_so, m_eo1 (by omega) hm1, bd_so, m_eo2 (by omega) hm1, bd_so, m_eo3 (by omega) hm1, bd_so, m_eo3 (by omega) hm1, bd_so]
    by_cases q1 : aR A (60 + 4 * e) = nI a
    · by_cases q2 : aR A (60 + 4 * f) = nI b
      · by_cases q3 : aR A (62 + 4 * e) < aR A (61 + 4 * f)
        · rw [if_pos q1, if_pos q2, if_pos q3]
          have h98 : ∀ sd, sdI (aR A) e f = sd → ∃ τ', f_X12_nearAt_98 (nI a) (nI b) s (nI e) (nI f) sd τ = some (.inl ((if nrP (aR A) a b e f = true then mst s (aR A (61 + 4 * f)) else s), nI (f + 1), τ')) ∧ F93 σ τ' := by
            intro sd hsd
            obtain ⟨τ', e3, f3⟩ := m_changeOf sd hI rfl hm1 ha hb
            have hF2 := hF.tr f3
            have hm2 : ar τ' 84 = aR A := by rw [hF2.1 84 (by omega) (by omega)]; exact hm
            refine ⟨τ', ?_, hF2⟩
            have h163 : ∀ w, f_X12_nearAt_163 (nI a) (nI b) s (nI e) (nI f) w τ' = some (.inl ((if aR A (61 + 4 * f) - aR A (62 + 4 * e) - 1 < w then mst s (aR A (61 + 4 * f)) else s), nI (f + 1), τ')) := by
              intro w
              unfold f_X12_nearAt_163 f_X12_nearAt_192 f_X12_nearAt_214 f_X12_nearAt_224 f_X12_nearAt_225 f_X12_nearAt_226 mst
              rw [m_eo1 (by omega) hm2, bd_so, m_eo2 (by omega) hm2, bd_so, bd_so, bd_so, nI_1]
              by_cases q4 : aR A (61 + 4 * f) - aR A (62 + 4 * e) - 1 < w <;> by_cases q5 : s < 0 <;> by_cases q6 : aR A (61 + 4 * f) < s <;> simp [q4, q5, q6]
            unfold f_X12_nearAt_98 f_X12_nearAt_130 f_X12_nearAt_154
            rw [e3, bd2_so, m_it0 (by omega) hm2, bd_so, m_it0 (by omega) hm2, bd_so, bd_so, bd_so, h163, h163, h163]
            unfold nrP
            rw [hsd]
            unfold wnt
            by_cases q7 : aR A (10 + 5 * a) = 3 <;> by_cases q8 : aR A (10 + 5 * b) = 3 <;> by_cases q9 : aR A (10 + 5 * a) = 4 <;> by_cases q10 : aR A (10 + 5 * b) = 4 <;> simp [q1, q2, q3, q7, q8, q9, q10]
          by_cases q5 : (aR A (63 + 4 * e) &&& 1) = (aR A (63 + 4 * f) >>> ((1 : Int32) &&& 31))
          · rw [if_pos q5]; exact h98 1 (if_pos q5)
          · rw [if_neg q5]; exact h98 0 (if_neg q5)
        · refine ⟨τ, ?_, hF⟩
          unfold f_X12_nearAt_226
          rw [if_pos q1, if_pos q2, if_neg q3, if_neg (fun h => q3 (of_decide_eq_true h).2.2.1), nI_1]
      · refine ⟨τ, ?_, hF⟩
        unfold f_X12_nearAt_226
        rw [if_pos q1, if_neg q2, if_neg (fun h => q2 (of_decide_eq_true h).2.1), nI_1]
    · refine ⟨τ, ?_, hF⟩
      unfold f_X12_nearAt_226
      rw [if_neg q1, if_neg (fun h => q1 (of_decide_eq_true h).1), nI_1]
  unfold f_X12_nearAt f_X12_nearAt_5
  obtain ⟨⟨s', τ'⟩, h1, h2, h3⟩ := it_ex (f := fun z : Int32 × Int32 × St => b_X12_nearAt_5 (nI a) (nI b) z.1 z.2.1 z.2.2) (V := Int32 × St) (fun k v => (v.1, nI k, v.2)) (fun k v => v.1 = lp (fun e s => lp (fun f s => if nrP (aR A) a b e f = true then mst s (aR A (61 + 4 * f)) else s) (cn (aR A) 2) s) k (-1) ∧ F93 σ v.2) 0 (cn (aR A) 2) (Nat.zero_le _) (v := (-1, σ)) ⟨rfl, F93.rfl' σ⟩ (fun k v _ hk hv => by
    obtain ⟨s, τ⟩ := v
    obtain ⟨hv1, hv2⟩ := hv
    have hm1 : ar τ 84 = aR A := by rw [hv2.1 84 (by omega) (by omega)]; exact hm
    have e2 : rd τ 84 2 = nI (cn (aR A) 2) := by rw [← hI.1.1.2.2.1.1, ← hm1]; rfl
    obtain ⟨⟨s2, τ2⟩, g1, g2, g3⟩ := it_ex (f := fun z : Int32 × Int32 × St => b_X12_nearAt_19 (nI a) (nI b) z.1 (nI k) z.2.1 z.2.2) (V := Int32 × St) (fun k v => (v.1, nI k, v.2)) (fun j v => v.1 = lp (fun f s => if nrP (aR A) a b k f = true then mst s (aR A (61 + 4 * f)) else s) j s ∧ F93 σ v.2) 0 (cn (aR A) 2) (Nat.zero_le _) (v := (s, τ)) ⟨rfl, hv2⟩ (fun j v _ hj hv => by
      obtain ⟨s1, τ1⟩ := v
      obtain ⟨hw1, hw2⟩ := hv
      obtain ⟨τ', e4, f4⟩ := hst k j s1 τ1 hk hj hw2
      refine ⟨(_, τ'), e4, ?_, f4⟩
      show _ = (if nrP (aR A) a b k j = true then mst (lp _ j s) _ else lp _ j s)
      rw [← hw1]
      rfl)
    refine ⟨(s2, τ2), ?_, ?_, g3⟩
    · show b_X12_nearAt_5 (nI a) (nI b) s (nI k) τ = _
      unfold b_X12_nearAt_5 f_X12_nearAt_19
      rw [chk_t (by decide), e2, if_pos (nI_lt hk (by omega))]
      refine g1.trans (it_r ?_)
      show b_X12_nearAt_19 (nI a) (nI b) s2 (nI k) (nI (cn (aR A) 2)) τ2 = _
      have e3 : rd τ2 84 2 = nI (cn (aR A) 2) := by rw [← hI.1.1.2.2.1.1, ← hm, ← g3.1 84 (by omega) (by omega)]; rfl
      unfold b_X12_nearAt_19 f_X12_nearAt_232
      rw [chk_t (by decide), e3, if_neg (nI_nlt (Nat.le_refl _) (by omega)), nI_1]
      rfl
    · show s2 = lp _ (cn (aR A) 2) (lp _ k (-1))
      rw [← hv1]; exact g2)
  refine ⟨τ', h1.trans (it_r ?_), h3⟩
  show b_X12_nearAt_5 (nI a) (nI b) s' (nI (cn (aR A) 2)) τ' = _
  have e3 : rd τ' 84 2 = nI (cn (aR A) 2) := by rw [← hI.1.1.2.2.1.1, ← hm, ← h3.1 84 (by omega) (by omega)]; rfl
  unfold b_X12_nearAt_5
  rw [chk_t (by decide), e3, if_neg (nI_nlt (Nat.le_refl _) (by omega)), show s' = near (aR A) a b from h2]
def FL (σ σ' : St) : Prop := (∀ c, c ≠ 87 → c ≠ 88 → c ≠ 89 → c ≠ 90 → c ≠ 93 → ar σ' c = ar σ c) ∧ σ'.1 = σ.1 ∧ σ'.2.2 = σ.2.2
theorem FL.tr {a b c : St} (h : FL a b) (h2 : FL b c) : FL a c := ⟨fun k p q s t u => (h2.1 k p q s t u).trans (h.1 k p q s t u), h2.2.1.trans h.2.1, h2.2.2.trans h.2.2⟩
theorem FL.of93 {σ σ' : St} (h : F93 σ σ') : FL σ σ' := ⟨fun c _ _ _ h1 h2 => h.1 c h1 h2, h.2.1, h.2.2⟩
theorem ix10 (a b : Nat) : (10 * nI a) + nI b = nI (10 * a + b) := by rw [show (10 : Int32) = nI 10 from rfl, pk_mul, nI_add]
theorem m_142 {a b : Nat} {h l : Int32} (ha : a < 10) (hb : b < 10) (hab : a < b) : ∃ σ', f_X12_layTwo_142 (nI a) (nI b) h l σ = some σ' ∧ FL σ σ' ∧ ar σ' 88 = hup (ar σ 88) a b h ∧ ar σ' 89 = hup (ar σ 89) a b l ∧ ar σ' 87 = if h = 0 then ar σ 87 else brs (ar σ 87) a b := by
  unfold f_X12_layTwo_142
  rw [ix10, ix10, inb_nI (show 10 * a + b < 100 by omega) (by decide), chk_so, inb_nI (show 10 * b + a < 100 by omega) (by decide), nm_so, chk_so, nm_so, nm_so, nm_so, wr_nI _ (by omega), wr_nI _ (by omega), wr_nI _ (by omega), wr_nI _ (by omega)]
  obtain ⟨τ, hτ⟩ : ∃ τ, τ = fw (fw (fw (fw σ 88 (10 * a + b) h) 88 (10 * b + a) h) 89 (10 * a + b) l) 89 (10 * b + a) l := ⟨_, rfl⟩
  rw [← hτ]
  have u : ∀ c, c ≠ 88 → c ≠ 89 → ar τ c = ar σ c := fun c h1 h2 => by rw [hτ, ar_fw_ne h2, ar_fw_ne h2, ar_fw_ne h1, ar_fw_ne h1]
  have v88 : ar τ 88 = hup (ar σ 88) a b h := by rw [hτ, ar_fw_ne (by omega), ar_fw_ne (by omega), ar_fw_eq, ar_fw_eq]; rfl
  have v89 : ar τ 89 = hup (ar σ 89) a b l := by rw [hτ, ar_fw_eq, ar_fw_eq, ar_fw_ne (by omega), ar_fw_ne (by omega)]; rfl
  have n1 : τ.1 = σ.1 := by rw [hτ]; rfl
  have l1 : τ.2.2 = σ.2.2 := by rw [hτ]; rfl
  by_cases q : h = 0
  · rw [if_pos q, if_pos q]
    exact ⟨τ, rfl, ⟨fun c _ h2 h3 _ _ => u c h2 h3, n1, l1⟩, v88, v89, u 87 (by omega) (by omega)⟩
  · rw [if_neg q, if_neg q, inb_nI ha (by decide), chk_so, nm_so, inb_nI hb (by decide), chk_so, nm_so, wr_nI _ (by omega), rd_ar (by omega), wr_nI _ (by omega), rd_ar (by omega)]
    refine ⟨_, rfl, ⟨fun c h1 h2 h3 _ _ => by rw [ar_fw_ne h1, ar_fw_ne h1, u c h2 h3], n1, l1⟩, ?_, ?_, ?_⟩
    · rw [ar_fw_ne (by omega), ar_fw_ne (by omega), v88]
    · rw [ar_fw_ne (by omega), ar_fw_ne (by omega), v89]
    · rw [ar_fw_eq, ar_fw_eq, u 87 (by omega) (by omega)]; rfl
theorem m_und {A : AS} {a : Nat} (hI : Inv A) (ha : a < cn (aR A) 1) : f_X12_isUnder (aR A (10 + 5 * a)) 1 = some (if und (aR A (10 + 5 * a)) = true then 1 else 0) := by
  obtain ⟨e, h⟩ := (hI.1.2.1 a ha).1
  rw [← und_c hI ha, e]
  have := m_isUnder (b := 1) h (by decide)
  rw [e.symm] at this ⊢
  exact this
theorem m_layTwo {A : AS} {a b : Nat} (hI : Inv A) (hm : ar σ 84 = aR A) (ha : a < cn (aR A) 1) (hb : b < cn (aR A) 1) (hab : a < b) : ∃ σ', f_X12_layTwo (nI a) (nI b) σ = some σ' ∧ FL σ σ' ∧ ar σ' 88 = hup (ar σ 88) a b (hwr (aR A) a b) ∧ ar σ' 89 = hup (ar σ 89) a b (lnr (aR A) a b) ∧ ar σ' 87 = if hwr (aR A) a b = 0 then ar σ 87 else brs (ar σ 87) a b := by
  have b1 := hI.1.1.2.1.2
  have hap : f_X12_layTwo (nI a) (nI b) σ = f_X12_layTwo_51 (nI a) (nI b) (if apt (aR A) a b = true then 1 else 0) σ := by
    unfold f_X12_layTwo f_X12_layTwo_23 f_X12_layTwo_46 f_X12_layTwo_50
    rw [m_it0 (by omega) hm, bd_so, m_it0 (by omega) hm, bd_so, bd_so, bd_so, m_und hI ha, m_und hI hb, bd_so, bd_so]
    unfold apt
    by_cases q1 : aR A (10 + 5 * a) = 3 <;> by_cases q2 : aR A (10 + 5 * b) = 3 <;> cases und (aR A (10 + 5 * a)) <;> cases und (aR A (10 + 5 * b)) <;> simp [q1, q2]
  rw [hap]
  unfold f_X12_layTwo_51 f_X12_layTwo_61 f_X12_layTwo_77
  cases q : apt (aR A) a b with
  | true =>
    have eh : hwr (aR A) a b = 0 := by unfold hwr; rw [if_pos q]
    have el : lnr (aR A) a b = -1 := by unfold lnr; rw [if_pos q]
    rw [eh, el]
    exact m_142 (by omega) (by omega) hab
  | false =>
    have q' : ¬ apt (aR A) a b = true := by rw [q]; decide
    rw [if_pos (show (if false = true then (1 : Int32) else 0) = 0 from rfl), if_pos (show (if false = true then (1 : Int32) else 0) = 0 from rfl), m_meet a b hI.1 hm, bd_so, if_pos (show (if false = true then (1 : Int32) else 0) = 0 from rfl)]
    by_cases qm : meet (aR A) a b < 0
    · rw [if_pos qm]
      obtain ⟨σ1, e1, f1⟩ := m_near hI hm ha hb
      have hm1 : ar σ1 84 = aR A := by rw [f1.1 84 (by omega) (by omega)]; exact hm
      obtain ⟨σ2, e2, f2⟩ := m_near hI hm1 hb ha
      rw [e1, bd2_so, e2, bd2_so]
      have el : lnr (aR A) a b = cmb (near (aR A) a b) (near (aR A) b a) := by unfold lnr; rw [if_neg q', if_pos qm]
      have eh : hwr (aR A) a b = if lnr (aR A) a b < 0 then 0 else 3 := by unfold hwr; rw [if_neg q', if_pos qm]
      have f12 := f1.tr f2
      have e128 : (if near (aR A) a b < 0 then f_X12_layTwo_121 (nI a) (nI b) (near (aR A) b a) σ2 else if near (aR A) b a < 0 then f_X12_layTwo_126 (nI a) (nI b) (near (aR A) a b) σ2 else if near (aR A) b a < near (aR A) a b then f_X12_layTwo_121 (nI a) (nI b) (near (aR A) b a) σ2 else f_X12_layTwo_126 (nI a) (nI b) (near (aR A) a b) σ2) = f_X12_layTwo_142 (nI a) (nI b) (hwr (aR A) a b) (lnr (aR A) a b) σ2 := by
        rw [eh, el]
        unfold f_X12_layTwo_121 f_X12_layTwo_126 f_X12_layTwo_128 f_X12_layTwo_140 cmb
        by_cases q1 : near (aR A) a b < 0 <;> by_cases q2 : near (aR A) b a < 0 <;> by_cases q3 : near (aR A) b a < near (aR A) a b <;> simp [q1, q2, q3]
      rw [e128]
      obtain ⟨σ', e3, f3, v88, v89, v87⟩ := m_142 (σ := σ2) (h := hwr (aR A) a b) (l := lnr (aR A) a b) (show a < 10 by omega) (show b < 10 by omega) hab
      refine ⟨σ', e3, (FL.of93 f12).tr f3, ?_, ?_, ?_⟩
      · rw [v88, f12.1 88 (by omega) (by omega)]
      · rw [v89, f12.1 89 (by omega) (by omega)]
      · rw [v87, f12.1 87 (by omega) (by omega)]
    · have eh : hwr (aR A) a b = 2 := by unfold hwr; rw [if_neg q', if_neg qm]
      have el : lnr (aR A) a b = meet (aR A) a b := by unfold lnr; rw [if_neg q', if_neg qm]
      rw [if_neg qm, eh, el]
      exact m_142 (by omega) (by omega) hab
theorem m_lay {A : AS} (hI : Inv A) (hm : MR A σ) : ∃ σ', f_X12_lay σ = some σ' ∧ MR A σ' ∧ FrM σ σ' ∧ Laid (aR A) (ar σ' 87) (ar σ' 88) (ar σ' 89) := by
  have b1 := hI.1.1.2.1.2
  unfold f_X12_lay
  rw [fd_ar]
  rcases hm.2.2.2.2.2.2.2.2.2 with q | ⟨q, hl⟩
  · rw [if_pos q, nm_so]
    have hz : it (fun z : Int32 × St => b_X12_lay_15 z.1 z.2) (0, fw σ 6 4 1) = f_X12_lay_34 (stF (fw σ 6 4 1) 87 0 10 (fun _ => 0)) := by
      refine (it_fil 87 0 10 (fun _ => 0) (fun k hk => ?_)).trans (it_k ?_)
      · show b_X12_lay_15 (nI k) _ = _
        unfold b_X12_lay_15
        rw [if_pos (show nI k < 10 from nI_lt hk (by decide)), inb_nI hk (by decide), chk_so, nm_so, wr_nI _ (by omega), nI_1, Nat.zero_add]
      · rfl
    unfold f_X12_lay_15
    rw [hz]
    unfold f_X12_lay_34 f_X12_lay_36
    obtain ⟨τ0, h0⟩ : ∃ τ, τ = stF (fw σ 6 4 1) 87 0 10 (fun _ => 0) := ⟨_, rfl⟩
    rw [← h0]
    have u0 : ∀ c, c ≠ 6 → c ≠ 87 → ar τ0 c = ar σ c := fun c h1 h2 => by rw [h0, ar_stF_ne h2, ar_fw_ne h1]
    have v87 : ∀ p, p < 10 → ar τ0 87 p = 0 := fun p hp => by rw [h0, ar_stF_eq, fil_in (by omega) (by omega)]
    have hm0 : ar τ0 84 = aR A := by rw [u0 84 (by omega) (by omega)]; exact hm.1
    have hrd : ∀ {τ : St}, FL τ0 τ → ar τ 84 = aR A ∧ rd τ 84 1 = nI (cn (aR A) 1) := fun {τ} hF => by
      have e : ar τ 84 = aR A := by rw [hF.1 84 (by omega) (by omega) (by omega) (by omega) (by omega)]; exact hm0
      exact ⟨e, by rw [← hI.1.1.2.1.1, ← e]; rfl⟩
    obtain ⟨τ, h1, h2, h3, h4⟩ := it_ex (f := fun z : Int32 × St => b_X12_lay_36 z.1 z.2) (V := St) (fun k v => (nI k, v)) (fun k v => FL τ0 v ∧ BI (aR A) k (k + 1) (ar v 87) ∧ HL (aR A) k (k + 1) (ar v 88) (ar v 89)) 0 (cn (aR A) 1) (Nat.zero_le _) (v := τ0) ⟨⟨fun _ _ _ _ _ _ => rfl, rfl, rfl⟩, BI.zero v87, HL.zero⟩ (fun k v _ hk hv => by
      obtain ⟨g1, g2, g3⟩ := hv
      obtain ⟨e84, e1⟩ := hrd g1
      obtain ⟨τ1, k1, k2, k3, k4⟩ := it_ex (f := fun z : Int32 × St => b_X12_lay_50 (nI k) z.1 z.2) (V := St) (fun j v => (nI j, v)) (fun j v => FL τ0 v ∧ BI (aR A) k j (ar v 87) ∧ HL (aR A) k j (ar v 88) (ar v 89)) (k + 1) (cn (aR A) 1) hk (v := v) ⟨g1, g2, g3⟩ (fun j w hkj hj hw => by
        obtain ⟨w1, w2, w3⟩ := hw
        obtain ⟨e84', e1'⟩ := hrd w1
        obtain ⟨σ', x1, x2, x3, x4, x5⟩ := m_layTwo hI e84' hk hj (by omega)
        refine ⟨σ', ?_, w1.tr x2, ?_, ?_⟩
        · show b_X12_lay_50 (nI k) (nI j) w = _
          unfold b_X12_lay_50
          rw [chk_t (by decide), e1', if_pos (nI_lt hj (by omega)), x1, bd_so, nI_1]
        · rw [x5]
          by_cases qh : hwr (aR A) k j = 0
          · rw [if_pos qh]; exact w2.no (by omega) qh hI.1
          · rw [if_neg qh]; exact w2.yes (by omega) hj b1 qh hI.1
        · rw [x3, x4]; exact w3.step (by omega) hj b1)
      refine ⟨τ1, ?_, k2, k3.row, k4.row⟩
      show b_X12_lay_36 (nI k) v = _
      unfold b_X12_lay_36 f_X12_lay_50
      rw [chk_t (by decide), e1, if_pos (nI_lt hk (by omega)), nI_1]
      refine k1.trans (it_r ?_)
      show b_X12_lay_50 (nI k) (nI (cn (aR A) 1)) τ1 = _
      unfold b_X12_lay_50 f_X12_lay_72
      rw [chk_t (by decide), (hrd k2).2, if_neg (nI_nlt (Nat.le_refl _) (by omega)), nI_1]
      rfl)
    have hla := laid_of hI.1 h3 h4
    refine ⟨τ, h1.trans (it_r ?_), ?_, ?_, hla⟩
    · show b_X12_lay_36 (nI (cn (aR A) 1)) τ = _
      unfold b_X12_lay_36
      rw [chk_t (by decide), (hrd h2).2, if_neg (nI_nlt (Nat.le_refl _) (by omega))]
    · obtain ⟨g1, g2, g3, g4, g5, g6, g7, g8, g9, _⟩ := hm
      have u : ∀ c, c ≠ 6 → c ≠ 87 → c ≠ 88 → c ≠ 89 → c ≠ 90 → c ≠ 93 → ar τ c = ar σ c := fun c z1 z2 z3 z4 z5 z6 => by rw [h2.1 c z2 z3 z4 z5 z6, u0 c z1 z2]
      have h6 : ar τ 6 = upd (ar σ 6) 4 1 := by rw [h2.1 6 (by omega) (by omega) (by omega) (by omega) (by omega), h0, ar_stF_ne (by omega), ar_fw_eq]
      unfold MR
      rw [u 84 (by omega) (by omega) (by omega) (by omega) (by omega) (by omega), u 85 (by omega) (by omega) (by omega) (by omega) (by omega) (by omega), u 86 (by omega) (by omega) (by omega) (by omega) (by omega) (by omega), u 105 (by omega) (by omega) (by omega) (by omega) (by omega) (by omega), u 106 (by omega) (by omega) (by omega) (by omega) (by omega) (by omega), u 107 (by omega) (by omega) (by omega) (by omega) (by omega) (by omega), u 108 (by omega) (by omega) (by omega) (by omega) (by omega) (by omega), h6, upd_ne (show 2 ≠ 4 by omega), upd_ne (show 27 ≠ 4 by omega), upd_eq]
      exact ⟨g1, g2, g3, g4, g5, g6, g7, g8, g9, Or.inr ⟨rfl, hla⟩⟩
    · refine ⟨fun k hk h6 => ?_, ?_⟩
      · rw [h2.1 k (by omega) (by omega) (by omega) (by omega) (by omega), u0 k h6 (by omega)]
      · rw [h2.2.1, h0]; rfl
  · rw [if_neg (by rw [q]; decide)]
    exact ⟨σ, rfl, hm, FrM.rfl' σ, hl⟩
end MB
section FB
variable {A : AS} {σ : St}
theorem op_two (x z s : Int32) (hI : Inv A) (hC : CR A σ) (hM : MR A σ) : Opn A σ (f_X11_two x z s) (f_X12_two x z s) := by
  have hi := hI.1.1
  have b1 := hi.2.1.2
  have hc := hC.1.1
  rcases wi_cases x (n := cn (aR A) 1) (by omega) with h0 | ⟨h1, a, ha, rfl⟩
  · refine Opn.err 1 (by decide) hI hC hM ?_ (fun σ hm => ?_)
    · unfold f_X11_two f_X11_two_17 f_X11_isPair; rw [e_hasPart _ hi hc, bd_so, h0, if_pos rfl, bd_so, if_pos rfl]; exact bd2_id _
    · unfold f_X12_two f_X12_two_30; rw [m_isPart _ hi hm.1, bd_so, h0, if_pos rfl]; exact bd2_id _
  rcases wi_cases z (n := cn (aR A) 1) (by omega) with g0 | ⟨g1, b, hb, rfl⟩
  · refine Opn.err 1 (by decide) hI hC hM ?_ (fun σ hm => ?_)
    · unfold f_X11_two f_X11_two_17 f_X11_isPair; rw [e_hasPart _ hi hc, bd_so, h1, if_neg (by decide), e_hasPart _ hi hc, bd_so, g0, if_pos rfl, bd_so, if_pos rfl]; exact bd2_id _
    · unfold f_X12_two f_X12_two_30; rw [m_isPart _ hi hm.1, bd_so, h1, if_neg (by decide), m_isPart _ hi hm.1, bd_so, g0, if_pos rfl]; exact bd2_id _
  by_cases qab : nI a = nI b
  · refine Opn.err 1 (by decide) hI hC hM ?_ (fun σ hm => ?_)
    · unfold f_X11_two f_X11_two_17 f_X11_isPair; rw [e_hasPart _ hi hc, bd_so, h1, if_neg (by decide), e_hasPart _ hi hc, bd_so, g1, if_neg (by decide), if_pos qab, bd_so, if_pos rfl]; exact bd2_id _
    · unfold f_X12_two f_X12_two_30; rw [m_isPart _ hi hm.1, bd_so, h1, if_neg (by decide), m_isPart _ hi hm.1, bd_so, g1, if_neg (by decide), if_pos qab]; exact bd2_id _
  rcases wi_cases s (n := 2) (by omega) with k0 | ⟨k1, _⟩
  · refine Opn.err 1 (by decide) hI hC hM ?_ (fun σ hm => ?_)
    · unfold f_X11_two f_X11_two_17 f_X11_isPair; rw [e_hasPart _ hi hc, bd_so, h1, if_neg (by decide), e_hasPart _ hi hc, bd_so, g1, if_neg (by decide), if_neg qab, bd_so, if_neg (by decide), w_2, bd_so, k0, if_pos rfl]; exact bd2_id _
    · unfold f_X12_two f_X12_two_30; rw [m_isPart _ hi hm.1, bd_so, h1, if_neg (by decide), m_isPart _ hi hm.1, bd_so, g1, if_neg (by decide), if_neg qab, m_in2, bd_so, k0, if_pos rfl]; exact bd2_id _
  obtain ⟨σ1, e1, f1, l1⟩ := e_how hI hC ha hb
  have hab : a ≠ b := fun e => qab (by rw [e])
  have s11 : ∀ R, (if s = 0 then some (hwr (aR A) a b, σ1) else if hwr (aR A) a b = 0 then (bd2 (f_X11_error 2 σ1) fun r14 σ16 => some (r14, σ16)) else some (fd σ1 3 6, σ1)) = R → f_X11_two (nI a) (nI b) s σ = R := by
    intro R hR
    rw [← hR]
    unfold f_X11_two f_X11_isPair
    rw [e_hasPart _ hi hc, bd_so, h1, if_neg (by decide), e_hasPart _ hi hc, bd_so, g1, if_neg (by decide), if_neg qab, bd_so, if_neg (by decide), w_2, bd_so, k1, if_neg (by decide), e1, bd2_so]
  have s12 : ∀ {τ : St}, MR A τ → ∃ τ', MR A τ' ∧ FrM τ τ' ∧ ∀ R, (if s = 0 then some (hwr (aR A) a b, τ') else if hwr (aR A) a b = 0 then (bd2 (f_X12_finds 2 τ') fun r14 σ16 => some (r14, σ16)) else some (lnr (aR A) a b, τ')) = R → f_X12_two (nI a) (nI b) s τ = R := by
    intro τ hm
    obtain ⟨τ', e2, m2, f2, l2⟩ := m_lay hI hm
    refine ⟨τ', m2, f2, fun R hR => ?_⟩
    obtain ⟨y1, y2⟩ := l2.1 a b ha hb hab
    rw [hws_e hI.1] at y1
    rw [lns_e hI.1] at y2
    rw [← hR]
    unfold f_X12_two
    rw [m_isPart _ hi hm.1, bd_so, h1, if_neg (by decide), m_isPart _ hi hm.1, bd_so, g1, if_neg (by decide), if_neg qab, m_in2, bd_so, k1, if_neg (by decide), e2, bd_so, ix10, inb_nI (show 10 * a + b < 100 by omega) (by decide), chk_so, chk_so, rd_ar (by omega), rd_ar (by omega), y1, y2]
  by_cases q1 : s = 0
  · refine Opn.s (hwr (aR A) a b) σ1 hI hC hM (s11 _ (by rw [if_pos q1])) f1.frs (fun τ hm => ?_)
    obtain ⟨τ', m2, f2, hR⟩ := s12 hm
    exact ⟨τ', hR _ (by rw [if_pos q1]), m2, f2⟩
  by_cases q2 : hwr (aR A) a b = 0
  · refine Opn.errS 2 (by decide) σ1 hI hC hM (s11 _ (by rw [if_neg q1, if_pos q2]; exact bd2_id _)) f1.frs (fun τ hm => ?_)
    obtain ⟨τ', m2, f2, hR⟩ := s12 hm
    exact ⟨τ', hR _ (by rw [if_neg q1, if_pos q2]; exact bd2_id _), m2, f2⟩
  · refine Opn.s (lnr (aR A) a b) σ1 hI hC hM (s11 _ (by rw [if_neg q1, if_neg q2, fd_ar, l1 q2])) f1.frs (fun τ hm => ?_)
    obtain ⟨τ', m2, f2, hR⟩ := s12 hm
    exact ⟨τ', hR _ (by rw [if_neg q1, if_neg q2]), m2, f2⟩
/-! the bars of all, the class -/
def FB (σ σ' : St) : Prop := (∀ c, c ≠ 3 → c ≠ 30 → c ≠ 31 → c ≠ 32 → ar σ' c = ar σ c) ∧ σ'.1 = σ.1 ∧ σ'.2.2 = σ.2.2
theorem FB.tr {a b c : St} (h : FB a b) (h2 : FB b c) : FB a c := ⟨fun k p q s t => (h2.1 k p q s t).trans (h.1 k p q s t), h2.2.1.trans h.2.1, h2.2.2.trans h.2.2⟩
theorem FB.of3 {σ σ' : St} (h : F3 σ σ') : FB σ σ' := ⟨fun c h1 h2 h3 _ => h.1 c h1 h2 h3, h.2.1, h.2.2.1⟩
theorem FB.frs {σ σ' : St} (h : FB σ σ') : FrS σ σ' := by
  refine ⟨fun k hk => h.1 k (fun e => hk (by unfold SC; omega)) (fun e => hk (by unfold SC; omega)) (fun e => hk (by unfold SC; omega)) (fun e => hk (by unfold SC; omega)), h.2.1, h.2.2, ?_, ?_⟩
  · rw [rc_ar, rc_ar, h.1 4 (by omega) (by omega) (by omega) (by omega)]; exact id
  · rw [rc_ar, rc_ar, h.1 5 (by omega) (by omega) (by omega) (by omega)]; exact id
theorem e_barred (hI : Inv A) (hC : CR A σ) : ∃ σ', f_X10_findBarred σ = some σ' ∧ FB σ σ' ∧ ∀ p, p < cn (aR A) 1 → Brd (aR A) p (ar σ' 32 p) := by
  have b1 := hI.1.1.2.1.2
  unfold f_X10_findBarred
  rw [e_fill (by decide) (by decide), bd_so, show alen 32 = 10 from rfl]
  obtain ⟨τ0, h0⟩ : ∃ τ, τ = stF σ 32 0 10 (fun _ => 0) := ⟨_, rfl⟩
  rw [← h0]
  have f0 : FB σ τ0 := by rw [h0]; exact ⟨fun c _ _ _ h => ar_stF_ne h, rfl, rfl⟩
  have v0 : ∀ p, p < 10 → ar τ0 32 p = 0 := fun p hp => by rw [h0, ar_stF_eq, fil_in (by omega) (by omega)]
  have hrd : ∀ {τ : St}, FB σ τ → fd τ 1 1 = nI (cn (aR A) 1) := fun {τ} hF => by
    rw [fd_ar, hF.1 1 (by omega) (by omega) (by omega) (by omega), hC.1.1.2.1]; exact hI.1.1.2.1.1
  unfold f_X10_findBarred_10
  obtain ⟨τ, h1, h2, h3⟩ := it_ex (f := fun z : Int32 × St => b_X10_findBarred_10 z.1 z.2) (V := St) (fun k v => (nI k, v)) (fun k v => FB σ v ∧ BI (aR A) k (k + 1) (ar v 32)) 0 (cn (aR A) 1) (Nat.zero_le _) (v := τ0) ⟨f0, BI.zero v0⟩ (fun k v _ hk hv => by
    obtain ⟨g1, g2⟩ := hv
    obtain ⟨τ1, k1, k2, k3⟩ := it_ex (f := fun z : Int32 × St => b_X10_findBarred_25 (nI k) z.1 z.2) (V := St) (fun j v => (nI j, v)) (fun j v => FB σ v ∧ BI (aR A) k j (ar v 32)) (k + 1) (cn (aR A) 1) hk (v := v) ⟨g1, g2⟩ (fun j w hkj hj hw => by
      obtain ⟨w1, w2⟩ := hw
      obtain ⟨σ', x1, x2, _⟩ := e_how hI (hC.frs w1.frs) hk hj
      have e32 : ar σ' 32 = ar w 32 := x2.1 32 (by omega) (by omega) (by omega)
      by_cases qh : hwr (aR A) k j = 0
      · refine ⟨σ', ?_, w1.tr (FB.of3 x2), ?_⟩
        · show b_X10_findBarred_25 (nI k) (nI j) w = _
          unfold b_X10_findBarred_25 f_X10_findBarred_69
          rw [hrd w1, if_pos (nI_lt hj (by omega)), x1, bd2_so, if_pos qh, nI_1]
        · rw [e32]; exact w2.no (by omega) qh hI.1
      · refine ⟨fw (fw σ' 32 k (ar σ' 32 k ||| ((1 : Int32) <<< (nI j &&& 31)))) 32 j (ar (fw σ' 32 k (ar σ' 32 k ||| ((1 : Int32) <<< (nI j &&& 31)))) 32 j ||| ((1 : Int32) <<< (nI k &&& 31))), ?_, ⟨fun c z1 z2 z3 z4 => by rw [ar_fw_ne z4, ar_fw_ne z4, x2.1 c z1 z2 z3, w1.1 c z1 z2 z3 z4], x2.2.1.trans w1.2.1, x2.2.2.1.trans w1.2.2⟩, ?_⟩
        · show b_X10_findBarred_25 (nI k) (nI j) w = _
          unfold b_X10_findBarred_25 f_X10_findBarred_69
          rw [hrd w1, if_pos (nI_lt hj (by omega)), x1, bd2_so, if_neg qh, inb_nI (show k < 10 by omega) (by decide), chk_so, nm_so, inb_nI (show j < 10 by omega) (by decide), chk_so, nm_so, wr_nI _ (by omega), rd_ar (by omega), wr_nI _ (by omega), rd_ar (by omega), nI_1]
        · rw [ar_fw_eq, ar_fw_eq, e32]; exact w2.yes (by omega) hj b1 qh hI.1)
    refine ⟨τ1, ?_, k2, k3.row⟩
    show b_X10_findBarred_10 (nI k) v = _
    unfold b_X10_findBarred_10 f_X10_findBarred_25
    rw [hrd g1, if_pos (nI_lt hk (by omega)), nI_1]
    refine k1.trans (it_r ?_)
    show b_X10_findBarred_25 (nI k) (nI (cn (aR A) 1)) τ1 = _
    unfold b_X10_findBarred_25 f_X10_findBarred_75
    rw [hrd k2, if_neg (nI_nlt (Nat.le_refl _) (by omega)), nI_1]
    rfl)
  refine ⟨τ, h1.trans (it_r ?_), h2, fun p hp => h3.fin b1 hI.1 hp⟩
  show b_X10_findBarred_10 (nI (cn (aR A) 1)) τ = _
  unfold b_X10_findBarred_10
  rw [hrd h2, if_neg (nI_nlt (Nat.le_refl _) (by omega))]
end FB
