/-! the search for groups -/
def updN (G : Nat → Nat) (p g : Nat) : Nat → Nat := fun q => if q = p then g else G q
def fits (S : Nat → Bool) (bar : Nat → Nat → Bool) (G : Nat → Nat) (p g : Nat) : Bool := !anyN (fun q => S q && decide (G q = g) && bar p q) p
def tryG (F : Nat → Nat → (Nat → Nat) → Option (Nat → Nat)) (ok : Nat → Bool) (p used : Nat) (G : Nat → Nat) : Nat → Nat → Option (Nat → Nat)
  | 0, _ => none
  | c + 1, g => match (if ok g = true then F (p + 1) (if g = used then used + 1 else used) (updN G p g) else none) with
    | some R => some R
    | none => tryG F ok p used G c (g + 1)
def srch (S : Nat → Bool) (bar : Nat → Nat → Bool) (M : Nat) : Nat → Nat → Nat → (Nat → Nat) → Option (Nat → Nat)
  | 0, _, _, G => some G
  | k + 1, p, used, G => if S p = true then tryG (srch S bar M k) (fits S bar G p) p used G (min (used + 1) M) 0 else srch S bar M k (p + 1) used G
section SR
variable {S : Nat → Bool} {bar : Nat → Nat → Bool} {M : Nat}
theorem tryG_last {F : Nat → Nat → (Nat → Nat) → Option (Nat → Nat)} {ok : Nat → Bool} {p used : Nat} {G : Nat → Nat} : ∀ {c g : Nat}, (∃ j, g ≤ j ∧ j < g + c ∧ ok j = true ∧ (F (p + 1) (if j = used then used + 1 else used) (updN G p j)).isSome = true) → (tryG F ok p used G c g).isSome = true
  | 0, g, ⟨j, h1, h2, _⟩ => by omega
  | c + 1, g, ⟨j, h1, h2, h3, h4⟩ => by
    show (match (if ok g = true then F (p + 1) (if g = used then used + 1 else used) (updN G p g) else none) with | some R => some R | none => tryG F ok p used G c (g + 1)).isSome = true
    cases e : (if ok g = true then F (p + 1) (if g = used then used + 1 else used) (updN G p g) else none) with
    | some R => rfl
    | none =>
      refine tryG_last ⟨j, ?_, by omega, h3, h4⟩
      by_cases q : j = g
      · subst q
        rw [if_pos h3] at e
        rw [e] at h4
        exact absurd h4 (by decide)
      · omega
theorem srch_max : ∀ {k p used : Nat} {G : Nat → Nat}, used + k ≤ M → (∀ q, q < p → S q = true → G q < used) → (srch S bar M k p used G).isSome = true
  | 0, _, _, _, _, _ => rfl
  | k + 1, p, used, G, hM, hG => by
    show (if S p = true then tryG (srch S bar M k) (fits S bar G p) p used G (min (used + 1) M) 0 else srch S bar M k (p + 1) used G).isSome = true
    by_cases q : S p = true
    · rw [if_pos q]
      refine tryG_last ⟨used, Nat.zero_le _, by omega, ?_, ?_⟩
      · unfold fits
        rw [anyN_f.mpr (fun j hj => ?_)]
        · rfl
        · cases e : S j with
          | false => rfl
          | true =>
            have := hG j hj e
            rw [decide_eq_false (by omega : ¬ G j = used)]
            rfl
      · rw [if_pos rfl]
        refine srch_max (by omega) (fun j hj hs => ?_)
        unfold updN
        by_cases qj : j = p
        · rw [if_pos qj]; omega
        · rw [if_neg qj]
          have := hG j (by omega) hs
          omega
    · rw [if_neg q]
      refine srch_max (by omega) (fun j hj hs => ?_)
      by_cases qj : j = p
      · rw [qj] at hs; exact absurd hs q
      · exact hG j (by omega) hs
/-! rows of members -/
def MB (S : Nat → Bool) (G : Nat → Nat) (p : Nat) (row : Nat → Int32) : Prop := ∀ g, g < 10 → ∃ m, m < 1024 ∧ row g = nI m ∧ ∀ q, m.testBit q = true ↔ (q < p ∧ S q = true ∧ G q = g)
theorem MB.zero {G : Nat → Nat} {row : Nat → Int32} (h : ∀ g, g < 10 → row g = 0) : MB S G 0 row := fun g hg => ⟨0, by decide, h g hg, fun q => by
  rw [Nat.zero_testBit]
  exact ⟨fun h => absurd h (by decide), fun h => absurd h.1 (Nat.not_lt_zero q)⟩⟩
theorem MB.skip {G : Nat → Nat} {p : Nat} {row : Nat → Int32} (h : MB S G p row) (hs : S p ≠ true) : MB S G (p + 1) row := fun g hg => by
  obtain ⟨m, hm, em, ht⟩ := h g hg
  refine ⟨m, hm, em, fun q => ?_⟩
  rw [ht q]
  constructor
  · rintro ⟨h1, h2, h3⟩; exact ⟨by omega, h2, h3⟩
  · rintro ⟨h1, h2, h3⟩
    refine ⟨?_, h2, h3⟩
    by_cases qp : q = p
    · rw [qp] at h2; exact absurd h2 hs
    · omega
theorem MB.unskip {G : Nat → Nat} {p : Nat} {row : Nat → Int32} (h : MB S G (p + 1) row) (hs : S p ≠ true) : MB S G p row := fun g hg => by
  obtain ⟨m, hm, em, ht⟩ := h g hg
  refine ⟨m, hm, em, fun q => ?_⟩
  rw [ht q]
  constructor
  · rintro ⟨h1, h2, h3⟩
    refine ⟨?_, h2, h3⟩
    by_cases qp : q = p
    · rw [qp] at h2; exact absurd h2 hs
    · omega
  · rintro ⟨h1, h2, h3⟩; exact ⟨by omega, h2, h3⟩
theorem MB.put {G : Nat → Nat} {p g : Nat} {row : Nat → Int32} (h : MB S G p row) (hs : S p = true) (hp : p < 10) : MB S (updN G p g) (p + 1) (upd row g (row g ||| ((1 : Int32) <<< (nI p &&& 31)))) := fun j hj => by
  obtain ⟨m, hm, em, ht⟩ := h j hj
  by_cases q : j = g
  · subst q
    rw [upd_eq, em, nI_bit (by omega), nI_or]
    refine ⟨m ||| 2 ^ p, or_lt hm hp, rfl, fun q => ?_⟩
    rw [tb_or, ht q]
    unfold updN
    constructor
    · rintro (⟨h1, h2, h3⟩ | rfl)
      · exact ⟨by omega, h2, by rw [if_neg (by omega)]; exact h3⟩
      · exact ⟨by omega, hs, if_pos rfl⟩
    · rintro ⟨h1, h2, h3⟩
      by_cases qp : q = p
      · exact Or.inr qp
      · rw [if_neg qp] at h3
        exact Or.inl ⟨by omega, h2, h3⟩
  · rw [upd_ne q]
    refine ⟨m, hm, em, fun i => ?_⟩
    rw [ht i]
    unfold updN
    constructor
    · rintro ⟨h1, h2, h3⟩
      exact ⟨by omega, h2, by rw [if_neg (by omega)]; exact h3⟩
    · rintro ⟨h1, h2, h3⟩
      by_cases qp : i = p
      · rw [if_pos qp] at h3; exact absurd h3.symm q
      · rw [if_neg qp] at h3
        exact ⟨by omega, h2, h3⟩
theorem nI_clr (m : Nat) {p : Nat} (hp : p < 31) : nI m &&& (((1 : Int32) <<< (nI p &&& 31)) ^^^ (-1)) = nI (m ^^^ (m &&& 2 ^ p)) := b_ext fun i hi => by
  rw [b_and, b_xor, nI_bit hp, bt_nI hi, bt_nI hi, bt_nI hi, b_m1 i hi, Nat.testBit_xor, Nat.testBit_and]
  cases m.testBit i <;> cases (2 ^ p).testBit i <;> rfl
theorem tb_clr (m p i : Nat) : (m ^^^ (m &&& 2 ^ p)).testBit i = true ↔ (m.testBit i = true ∧ i ≠ p) := by
  rw [Nat.testBit_xor, Nat.testBit_and, Nat.testBit_two_pow]
  by_cases q : p = i
  · rw [decide_eq_true q]
    cases m.testBit i <;> simp [q]
  · rw [decide_eq_false q]
    cases m.testBit i
    · simp
    · simp
      exact fun e => q e.symm
theorem clr_lt {m p : Nat} (hm : m < 1024) : m ^^^ (m &&& 2 ^ p) < 1024 := Nat.xor_lt_two_pow (n := 10) hm (by
  rw [Nat.and_comm]
  exact Nat.and_lt_two_pow (n := 10) _ hm)
theorem MB.take {G : Nat → Nat} {p g : Nat} {row : Nat → Int32} (h : MB S (updN G p g) (p + 1) row) (hp : p < 10) : MB S G p (upd row g (row g &&& (((1 : Int32) <<< (nI p &&& 31)) ^^^ (-1)))) := fun j hj => by
  obtain ⟨m, hm, em, ht⟩ := h j hj
  by_cases q : j = g
  · subst q
    rw [upd_eq, em, nI_clr m (by omega)]
    refine ⟨_, clr_lt hm, rfl, fun q => ?_⟩
    rw [tb_clr, ht q]
    unfold updN
    constructor
    · rintro ⟨⟨h1, h2, h3⟩, h4⟩
      rw [if_neg h4] at h3
      exact ⟨by omega, h2, h3⟩
    · rintro ⟨h1, h2, h3⟩
      exact ⟨⟨by omega, h2, by rw [if_neg (by omega)]; exact h3⟩, by omega⟩
  · rw [upd_ne q]
    refine ⟨m, hm, em, fun i => ?_⟩
    rw [ht i]
    unfold updN
    constructor
    · rintro ⟨h1, h2, h3⟩
      by_cases qp : i = p
      · rw [if_pos qp] at h3; exact absurd h3.symm q
      · rw [if_neg qp] at h3
        exact ⟨by omega, h2, h3⟩
    · rintro ⟨h1, h2, h3⟩
      exact ⟨by omega, h2, by rw [if_neg (by omega)]; exact h3⟩
theorem and_0 {m b : Nat} (hm : m < 2 ^ 31) : (nI m &&& nI b = 0) ↔ ∀ q, ¬ (m.testBit q = true ∧ b.testBit q = true) := by
  rw [nI_and]
  have hlt : m &&& b < 2 ^ 31 := by rw [Nat.and_comm]; exact Nat.and_lt_two_pow _ hm
  have e : (nI (m &&& b) = 0) ↔ m &&& b = 0 := nI_eq (a := m &&& b) (b := 0) hlt (by decide)
  rw [e]
  constructor
  · rintro h q ⟨h1, h2⟩
    have : (m &&& b).testBit q = true := by rw [Nat.testBit_and, h1, h2]; rfl
    rw [h, Nat.zero_testBit] at this
    exact absurd this (by decide)
  · intro h
    refine Nat.eq_of_testBit_eq (fun i => ?_)
    rw [Nat.testBit_and, Nat.zero_testBit]
    cases e1 : m.testBit i with
    | false => rfl
    | true =>
      cases e2 : b.testBit i with
      | false => rfl
      | true => exact absurd ⟨e1, e2⟩ (h i)
def brB (r : Nat → Int32) (p q : Nat) : Bool := decide (hwr r p q ≠ 0)
theorem fits_e {r : Nat → Int32} {G : Nat → Nat} {p g : Nat} {row : Nat → Int32} {v : Int32} (hI : IR r) (h : MB S G p row) (hg : g < 10) (hb : Brd r p v) (hp : p < cn r 1) : ((row g &&& v) = 0) ↔ fits S (brB r) G p g = true := by
  obtain ⟨m, hm, em, ht⟩ := h g hg
  obtain ⟨b, hb1, eb, hb2⟩ := hb
  rw [em, eb, and_0 (by omega)]
  unfold fits
  rw [Bool.not_eq_true', anyN_f]
  constructor
  · intro h q hq
    cases e1 : S q with
    | false => rfl
    | true =>
      by_cases e2 : G q = g
      · rw [decide_eq_true e2, Bool.true_and, Bool.true_and]
        refine decide_eq_false (fun hn => h q ⟨(ht q).mpr ⟨hq, e1, e2⟩, (hb2 q).mpr ⟨by omega, by omega, ?_⟩⟩)
        rw [hws_e hI]; exact hn
      · rw [decide_eq_false e2]; rfl
  · rintro h q ⟨h1, h2⟩
    obtain ⟨g1, g2, g3⟩ := (ht q).mp h1
    have := h q g1
    rw [g2, decide_eq_true g3, Bool.true_and, Bool.true_and] at this
    have h3 := of_decide_eq_false this
    obtain ⟨_, _, h4⟩ := (hb2 q).mp h2
    rw [hws_e hI] at h4
    exact h3 h4
/-! the class -/
def GR (S : Nat → Bool) (G : Nat → Nat) (p : Nat) (row : Nat → Int32) : Prop := ∀ q, q < p → S q = true → row q = nI (G q)
theorem GR.put {G : Nat → Nat} {p g : Nat} {row : Nat → Int32} (h : GR S G p row) : GR S (updN G p g) (p + 1) (upd row p (nI g)) := fun q hq hs => by
  unfold updN
  by_cases qp : q = p
  · rw [if_pos qp, qp, upd_eq]
  · rw [if_neg qp, upd_ne qp]; exact h q (by omega) hs
theorem GR.back {G : Nat → Nat} {p g : Nat} {row : Nat → Int32} (h : GR S (updN G p g) (p + 1) row) : GR S G p row := fun q hq hs => by
  have := h q (by omega) hs
  unfold updN at this
  rw [if_neg (by omega)] at this
  exact this
def FG (σ σ' : St) : Prop := (∀ c, c ≠ 33 → c ≠ 34 → ar σ' c = ar σ c) ∧ σ'.1 = σ.1 ∧ σ'.2.2 = σ.2.2
theorem FG.rfl' (σ : St) : FG σ σ := ⟨fun _ _ _ => rfl, rfl, rfl⟩
theorem FG.tr {a b c : St} (h : FG a b) (h2 : FG b c) : FG a c := ⟨fun k p q => (h2.1 k p q).trans (h.1 k p q), h2.2.1.trans h.2.1, h2.2.2.trans h.2.2⟩
theorem FG.frs {σ σ' : St} (h : FG σ σ') : FrS σ σ' := by
  refine ⟨fun k hk => h.1 k (fun e => hk (by unfold SC; omega)) (fun e => hk (by unfold SC; omega)), h.2.1, h.2.2, ?_, ?_⟩
  · rw [rc_ar, rc_ar, h.1 4 (by omega) (by omega)]; exact id
  · rw [rc_ar, rc_ar, h.1 5 (by omega) (by omega)]; exact id
def CSt (r : Nat → Int32) (σ : St) : Prop := fd σ 1 1 = nI (cn r 1) ∧ ∀ p, p < cn r 1 → Brd r p (ar σ 32 p)
theorem CSt.f {r : Nat → Int32} {σ σ' : St} (h : CSt r σ) (hf : FG σ σ') : CSt r σ' := ⟨by rw [fd_ar, hf.1 1 (by omega) (by omega)]; exact h.1, fun p hp => by rw [hf.1 32 (by omega) (by omega)]; exact h.2 p hp⟩
def Out (S : Nat → Bool) (n p : Nat) (G : Nat → Nat) (σ : St) (o : Option (Nat → Nat)) (x : Option (Int32 × St)) : Prop := match o with
  | some G' => ∃ τ, x = some (1, τ) ∧ FG σ τ ∧ GR S G' n (ar τ 33)
  | none => ∃ τ, x = some (0, τ) ∧ FG σ τ ∧ MB S G p (ar τ 34) ∧ GR S G p (ar τ 33)
theorem e_settle {r : Nat → Int32} {but : Int32} (hI : IR r) (hM : M ≤ 10) (hbut : ∀ p, p < cn r 1 → (nI p = but ↔ S p ≠ true)) : ∀ (k p used : Nat) (G : Nat → Nat) (σ : St) (fuel : Nat), p + k = cn r 1 → used ≤ p → k < fuel → CSt r σ → MB S G p (ar σ 34) → GR S G p (ar σ 33) → Out S (cn r 1) p G σ (srch S (brB r) M k p used G) (f_X8_settle fuel (nI p) (nI used) (nI M) but σ)
  | 0, p, used, G, σ, fuel, hp, hu, hf, hc, hm, hg => by
    have b1 := hI.1.2.1.2
    obtain ⟨fl, rfl⟩ : ∃ fl, fuel = fl + 1 := ⟨fuel - 1, by omega⟩
    refine ⟨σ, ?_, FG.rfl' σ, by rw [← hp]; exact hg⟩
    show s_X8_settle (f_X8_settle fl) (nI p) (nI used) (nI M) but σ = _
    unfold s_X8_settle
    rw [hc.1, if_neg (nI_nlt (by omega) (by omega))]
  | k + 1, p, used, G, σ, fuel, hp, hu, hf, hc, hm, hg => by
    have b1 := hI.1.2.1.2
    obtain ⟨fl, rfl⟩ : ∃ fl, fuel = fl + 1 := ⟨fuel - 1, by omega⟩
    have hpn : p < cn r 1 := by omega
    show Out S (cn r 1) p G σ (if S p = true then tryG (srch S (brB r) M k) (fits S (brB r) G p) p used G (min (used + 1) M) 0 else srch S (brB r) M k (p + 1) used G) (s_X8_settle (f_X8_settle fl) (nI p) (nI used) (nI M) but σ)
    unfold s_X8_settle
    rw [hc.1, if_pos (nI_lt hpn (by omega)), nI_1]
    by_cases qs : S p = true
    · rw [if_pos qs, if_neg (fun e => (hbut p (by omega)).mp e qs)]
      have H : ∀ c g σ, g + c = min (used + 1) M → CSt r σ → MB S G p (ar σ 34) → GR S G p (ar σ 33) → Out S (cn r 1) p G σ (tryG (srch S (brB r) M k) (fits S (brB r) G p) p used G c g) (it (fun z : Int32 × St => b_X8_settle_34 (f_X8_settle fl) (nI p) (nI used) (nI M) but z.1 z.2) (nI g, σ)) := by
        intro c
        induction c with
        | zero =>
          intro g σ hgc hc hm hg
          refine ⟨σ, it_r ?_, FG.rfl' σ, hm, hg⟩
          show b_X8_settle_34 _ (nI p) (nI used) (nI M) but (nI g) σ = _
          unfold b_X8_settle_34
          by_cases q1 : used < g
          · rw [if_pos (nI_lt q1 (by omega))]
          · rw [if_neg (nI_nlt (by omega) (by omega)), if_neg (nI_nlt (by omega) (by omega))]
        | succ c ih =>
          intro g σ hgc hc hm hg
          have q1 : g ≤ used := by omega
          have q2 : g < M := by omega
          have hb : b_X8_settle_34 (f_X8_settle fl) (nI p) (nI used) (nI M) but (nI g) σ = if (ar σ 34 g &&& ar σ 32 p) = 0 then f_X8_settle_104 (f_X8_settle fl) (nI p) (nI used) (nI M) but (nI g) (nI (if g = used then used + 1 else used)) (nI (p + 1)) (fw (fw σ 34 g (ar σ 34 g ||| ((1 : Int32) <<< (nI p &&& 31)))) 33 p (nI g)) else some (.inl (nI (g + 1), σ)) := by
            unfold b_X8_settle_34 f_X8_settle_130
            rw [if_neg (nI_nlt q1 (by omega)), if_pos (nI_lt q2 (by omega)), inb_nI (show g < 10 by omega) (by decide), chk_so, inb_nI (show p < 10 by omega) (by decide), chk_so, rd_ar (by omega), rd_ar (by omega), nm_so, wr_nI _ (by omega), nm_so, wr_nI _ (by omega), nI_1, nI_1, nI_1]
            by_cases q3 : g = used
            · rw [if_pos (show nI g = nI used by rw [q3]), if_pos q3]
            · rw [if_neg (fun e => q3 ((nI_eq (by omega) (by omega)).mp e)), if_neg q3]
          have hfit := fits_e (row := ar σ 34) hI hm (show g < 10 by omega) (hc.2 p hpn) hpn
          show Out S (cn r 1) p G σ (match (if fits S (brB r) G p g = true then srch S (brB r) M k (p + 1) (if g = used then used + 1 else used) (updN G p g) else none) with | some R => some R | none => tryG (srch S (brB r) M k) (fits S (brB r) G p) p used G c (g + 1)) _
          by_cases q3 : fits S (brB r) G p g = true
          · rw [if_pos q3]
            obtain ⟨σ1, h1⟩ : ∃ s, s = fw (fw σ 34 g (ar σ 34 g ||| ((1 : Int32) <<< (nI p &&& 31)))) 33 p (nI g) := ⟨_, rfl⟩
            rw [if_pos (hfit.mpr q3), ← h1] at hb
            have f1 : FG σ σ1 := by rw [h1]; exact ⟨fun c z1 z2 => by rw [ar_fw_ne z1, ar_fw_ne z2], rfl, rfl⟩
            have e34 : ar σ1 34 = upd (ar σ 34) g (ar σ 34 g ||| ((1 : Int32) <<< (nI p &&& 31))) := by rw [h1, ar_fw_ne (by omega), ar_fw_eq]
            have e33 : ar σ1 33 = upd (ar σ 33) p (nI g) := by rw [h1, ar_fw_eq, ar_fw_ne (by omega)]
            have hrec := e_settle hI hM hbut k (p + 1) (if g = used then used + 1 else used) (updN G p g) σ1 fl (by omega) (by split <;> omega) (by omega) (hc.f f1) (by rw [e34]; exact hm.put qs (by omega)) (by rw [e33]; exact hg.put)
            cases eo : srch S (brB r) M k (p + 1) (if g = used then used + 1 else used) (updN G p g) with
            | some R =>
              rw [eo] at hrec
              obtain ⟨τ, x1, x2, x3⟩ := hrec
              refine ⟨τ, it_r ?_, f1.tr x2, x3⟩
              show b_X8_settle_34 _ (nI p) (nI used) (nI M) but (nI g) σ = _
              rw [hb]
              unfold f_X8_settle_104
              rw [x1, bd2_so, if_neg (by decide)]
            | none =>
              rw [eo] at hrec
              obtain ⟨τ, x1, x2, x3, x4⟩ := hrec
              have f2 := f1.tr x2
              have f3 : FG τ (fw τ 34 g (ar τ 34 g &&& (((1 : Int32) <<< (nI p &&& 31)) ^^^ (-1)))) := ⟨fun c z1 z2 => ar_fw_ne z2, rfl, rfl⟩
              have hst : b_X8_settle_34 (f_X8_settle fl) (nI p) (nI used) (nI M) but (nI g) σ = some (.inl (nI (g + 1), fw τ 34 g (ar τ 34 g &&& (((1 : Int32) <<< (nI p &&& 31)) ^^^ (-1))))) := by
                rw [hb]
                unfold f_X8_settle_104 f_X8_settle_130
                rw [x1, bd2_so, if_pos rfl, inb_nI (show g < 10 by omega) (by decide), chk_so, nm_so, wr_nI _ (by omega), rd_ar (by omega), nI_1]
              have := ih (g + 1) (fw τ 34 g (ar τ 34 g &&& (((1 : Int32) <<< (nI p &&& 31)) ^^^ (-1)))) (by omega) (hc.f (f2.tr f3)) (by rw [ar_fw_eq]; exact x3.take (by omega)) (by rw [ar_fw_ne (by omega)]; exact x4.back)
              rw [it_l hst]
              show Out S (cn r 1) p G σ (tryG (srch S (brB r) M k) (fits S (brB r) G p) p used G c (g + 1)) _
              unfold Out at this ⊢
              cases eq : tryG (srch S (brB r) M k) (fits S (brB r) G p) p used G c (g + 1) with
              | some R =>
                rw [eq] at this
                obtain ⟨τ', y1, y2, y3⟩ := this
                exact ⟨τ', y1, (f2.tr f3).tr y2, y3⟩
              | none =>
                rw [eq] at this
                obtain ⟨τ', y1, y2, y3⟩ := this
                exact ⟨τ', y1, (f2.tr f3).tr y2, y3⟩
          · rw [if_neg q3]
            rw [if_neg (fun e => q3 (hfit.mp e))] at hb
            rw [it_l (f := fun z : Int32 × St => b_X8_settle_34 (f_X8_settle fl) (nI p) (nI used) (nI M) but z.1 z.2) (s := (nI g, σ)) hb]
            exact ih (g + 1) σ (by omega) hc hm hg
      unfold f_X8_settle_34
      exact H (min (used + 1) M) 0 σ (Nat.zero_add _) hc hm hg
    · rw [if_neg qs, if_pos ((hbut p (by omega)).mpr qs)]
      have hrec := e_settle hI hM hbut k (p + 1) used G σ fl (by omega) (by omega) (by omega) hc (hm.skip qs) (fun q hq hs => hg q (by
        by_cases e : q = p
        · rw [e] at hs; exact absurd hs qs
        · omega) hs)
      unfold Out at hrec ⊢
      cases eo : srch S (brB r) M k (p + 1) used G with
      | some R =>
        rw [eo] at hrec
        obtain ⟨τ, x1, x2, x3⟩ := hrec
        exact ⟨τ, by rw [x1, bd2_so]; rfl, x2, x3⟩
      | none =>
        rw [eo] at hrec
        obtain ⟨τ, x1, x2, x3, x4⟩ := hrec
        exact ⟨τ, by rw [x1, bd2_so]; rfl, x2, x3.unskip qs, fun q hq hs => x4 q (by omega) hs⟩
/-! the model -/
def GM (S : Nat → Bool) (G : Nat → Nat) (p : Nat) (row : Nat → Int32) : Prop := ∀ q, q < p → row q = if S q = true then nI (G q) else -2
def FI (σ σ' : St) : Prop := (∀ c, c ≠ 95 → c ≠ 96 → c ≠ 97 → ar σ' c = ar σ c) ∧ σ'.1 = σ.1 ∧ σ'.2.2 = σ.2.2
theorem FI.rfl' (σ : St) : FI σ σ := ⟨fun _ _ _ _ => rfl, rfl, rfl⟩
theorem FI.tr {a b c : St} (h : FI a b) (h2 : FI b c) : FI a c := ⟨fun k p q s => (h2.1 k p q s).trans (h.1 k p q s), h2.2.1.trans h.2.1, h2.2.2.trans h.2.2⟩
theorem FI.frq {σ σ' : St} (h : FI σ σ') : FrQ σ σ' := by
  have h6 := h.1 6 (by omega) (by omega) (by omega)
  exact ⟨⟨fun k hk _ => h.1 k (by omega) (by omega) (by omega), h.2.1⟩, fun k hk => h.1 k (by omega) (by omega) (by omega), by rw [h6], by rw [h6], by rw [h6]⟩
def MSt (r : Nat → Int32) (σ : St) : Prop := rd σ 84 1 = nI (cn r 1) ∧ ∀ p, p < cn r 1 → Brd r p (ar σ 87 p)
theorem MSt.f {r : Nat → Int32} {σ σ' : St} (h : MSt r σ) (hf : FI σ σ') : MSt r σ' := ⟨by rw [rd_cl, hf.1 84 (by omega) (by omega) (by omega), ← rd_cl]; exact h.1, fun p hp => by rw [hf.1 87 (by omega) (by omega) (by omega)]; exact h.2 p hp⟩
noncomputable def bI (set many : Int32) : Int32 × St → Option ((Int32 × St) ⊕ (Int32 × St)) := fun z => b_X12_isIn_40 set many z.1 z.2
def Oun (S : Nat → Bool) (n p : Nat) (G : Nat → Nat) (σ : St) (o : Option (Nat → Nat)) (set many : Int32) (s0 : Int32 × St) : Prop := match o with
  | some G' => ∃ τ, it (bI set many) s0 = it (bI set many) (nI n, τ) ∧ FI σ τ ∧ GM S G' n (ar τ 95)
  | none => ∃ τ, it (bI set many) s0 = it (bI set many) (nI p + (-1), τ) ∧ FI σ τ ∧ MB S G p (ar τ 97) ∧ (∀ q, q < p → ar τ 95 q = ar σ 95 q) ∧ ∀ q, q ≤ p → ar τ 96 q = ar σ 96 q
theorem m_in {r : Nat → Int32} {set : Int32} (hI : IR r) (hM : M ≤ 10) (hset : ∀ p, p < cn r 1 → (((set >>> (nI p &&& 31)) &&& 1) = 1 ↔ S p = true)) : ∀ (k p used : Nat) (G : Nat → Nat) (σ : St), p + k = cn r 1 → used ≤ p → MSt r σ → MB S G p (ar σ 97) → GM S G p (ar σ 95) → ar σ 95 p = -1 → ar σ 96 p = nI used → Oun S (cn r 1) p G σ (srch S (brB r) M k p used G) set (nI M) (nI p, σ)
  | 0, p, used, G, σ, hp, hu, hc, hm, hg, h95, h96 => ⟨σ, by rw [show p = cn r 1 by omega], FI.rfl' σ, by rw [← hp]; exact hg⟩
  | k + 1, p, used, G, σ, hp, hu, hc, hm, hg, h95, h96 => by
    have b1 := hI.1.2.1.2
    have hpn : p < cn r 1 := by omega
    show Oun S (cn r 1) p G σ (if S p = true then tryG (srch S (brB r) M k) (fits S (brB r) G p) p used G (min (used + 1) M) 0 else srch S (brB r) M k (p + 1) used G) set (nI M) (nI p, σ)
    -- the body at p, up to the choice
    have hb82 : ∀ τ : St, MSt r τ → ar τ 95 p < 0 → bI set (nI M) (nI p, τ) = f_X12_isIn_82 set (nI M) (nI p) τ := by
      intro τ hc hn
      show b_X12_isIn_40 set (nI M) (nI p) τ = _
      unfold b_X12_isIn_40
      rw [if_neg (nI_pos (by omega)), chk_t (by decide), hc.1, if_pos (nI_lt hpn (by omega)), inb_nI (show p < 11 by omega) (by decide), chk_so, rd_ar (by omega), if_pos hn]
    by_cases qs : S p = true
    · rw [if_pos qs]
      have h82 : ∀ (τ : St) (g : Nat), ar τ 95 p + 1 = nI g → ar τ 96 p = nI used → f_X12_isIn_82 set (nI M) (nI p) τ = f_X12_isIn_132 set (nI M) (nI p) (nI g) 1 (if used < M then nI used else nI M - 1) τ := by
        intro τ g eg e96
        unfold f_X12_isIn_82 f_X12_isIn_106 f_X12_isIn_130
        rw [inb_nI (show p < 11 by omega) (by decide), chk_so, chk_so, chk_so, if_pos ((hset p (by omega)).mpr qs), rd_ar (by omega), rd_ar (by omega), eg, e96]
        by_cases q : used < M
        · rw [if_pos (nI_lt q (by omega)), if_pos q]
        · rw [if_neg (nI_nlt (by omega) (by omega)), if_neg q]
      have hmost : ∀ g, g ≤ 20 → (((if used < M then nI used else nI M - 1) < nI g) ↔ ¬ g < min (used + 1) M) := by
        intro g hg20
        by_cases q : used < M
        · rw [if_pos q, nI_ltI (by omega) (by omega)]; omega
        · rw [if_neg q]
          cases M with
          | zero =>
            have : nI 0 - 1 < nI g := by
              rw [Int32.lt_iff_toInt_lt, nI_toInt (by omega), show (nI 0 - 1).toInt = -1 by decide]; omega
            exact ⟨fun _ => by omega, fun _ => this⟩
          | succ m => rw [nI_pred, nI_ltI (by omega) (by omega)]; omega
      have H : ∀ c g τ s0, g + c = min (used + 1) M → bI set (nI M) s0 = f_X12_isIn_132 set (nI M) (nI p) (nI g) 1 (if used < M then nI used else nI M - 1) τ → FI σ τ → MB S G p (ar τ 97) → (∀ q, q < p → ar τ 95 q = ar σ 95 q) → (∀ q, q ≤ p → ar τ 96 q = ar σ 96 q) → Oun S (cn r 1) p G σ (tryG (srch S (brB r) M k) (fits S (brB r) G p) p used G c g) set (nI M) s0 := by
        intro c
        induction c with
        | zero =>
          intro g τ s0 hgc hs0 hF hmb h5 h6
          refine ⟨τ, it_l (hs0.trans ?_), hF, hmb, h5, h6⟩
          unfold f_X12_isIn_132
          refine it_r ?_
          show b_X12_isIn_132 set (nI M) (nI p) (nI g) 1 _ τ = _
          unfold b_X12_isIn_132 f_X12_isIn_167 f_X12_isIn_202
          have hlt := (hmost g (by omega)).mpr (by omega)
          rw [if_neg (by decide), if_pos hlt, if_neg (by decide), if_pos hlt, if_pos rfl]
          rfl
        | succ c ih =>
          intro g τ s0 hgc hs0 hF hmb h5 h6
          have hnlt : ¬ ((if used < M then nI used else nI M - 1) < nI g) := fun h => (hmost g (by omega)).mp h (by omega)
          have hcτ := hc.f hF
          have hfit := fits_e (row := ar τ 97) hI hmb (show g < 10 by omega) (hcτ.2 p hpn) hpn
          show Oun S (cn r 1) p G σ (match (if fits S (brB r) G p g = true then srch S (brB r) M k (p + 1) (if g = used then used + 1 else used) (updN G p g) else none) with | some R => some R | none => tryG (srch S (brB r) M k) (fits S (brB r) G p) p used G c (g + 1)) set (nI M) s0
          by_cases q3 : fits S (brB r) G p g = true
          · rw [if_pos q3]
            obtain ⟨u', hu'⟩ : ∃ u', u' = if g = used then used + 1 else used := ⟨_, rfl⟩
            rw [← hu']
            have hu1 : u' ≤ p + 1 := by rw [hu']; split <;> omega
            obtain ⟨σ1, h1⟩ : ∃ s, s = fw (fw (fw (fw τ 95 p (nI g)) 97 g (ar τ 97 g ||| ((1 : Int32) <<< (nI p &&& 31)))) 96 (p + 1) (nI u')) 95 (p + 1) (-1) := ⟨_, rfl⟩
            have hstep : bI set (nI M) s0 = some (.inl (nI (p + 1), σ1)) := by
              rw [hs0]
              unfold f_X12_isIn_132
              refine it_r ?_
              show b_X12_isIn_132 set (nI M) (nI p) (nI g) 1 _ τ = _
              have e96 : ar τ 96 p = nI used := (h6 p (Nat.le_refl _)).trans h96
              unfold b_X12_isIn_132
              rw [if_neg (by decide), if_neg hnlt, inb_nI (show g < 10 by omega) (by decide), chk_so, inb_nI (show p < 10 by omega) (by decide), chk_so, rd_ar (by omega), rd_ar (by omega), if_pos (hfit.mpr q3)]
              unfold f_X12_isIn_167 f_X12_isIn_202
              rw [if_neg (by decide), if_neg hnlt, if_neg (by decide), if_neg (by decide)]
              unfold f_X12_isIn_232
              rw [inb_nI (show p < 11 by omega) (by decide), chk_so, nm_so, wr_nI _ (by omega), if_neg (by decide), inb_nI (show g < 10 by omega) (by decide), chk_so, nm_so, wr_nI _ (by omega), rd_ar (by omega), ar_fw_ne (show 97 ≠ 95 by omega)]
              unfold f_X12_isIn_251
              have er : ∀ v : Int32, rd (fw (fw τ 95 p (nI g)) 97 g v) 96 (nI p) = nI used := fun v => by rw [rd_ar (by omega), ar_fw_ne (by omega), ar_fw_ne (by omega), e96]
              rw [if_neg (by decide), inb_nI (show p < 11 by omega) (by decide), chk_so, er, nI_1, nI_1]
              have h291 : ∀ y : Nat, f_X12_isIn_291 set (nI M) (nI p) (nI y) (nI (p + 1)) (fw (fw τ 95 p (nI g)) 97 g (ar τ 97 g ||| ((1 : Int32) <<< (nI p &&& 31)))) = some (.inl (nI (p + 1), fw (fw (fw (fw τ 95 p (nI g)) 97 g (ar τ 97 g ||| ((1 : Int32) <<< (nI p &&& 31)))) 96 (p + 1) (nI y)) 95 (p + 1) (-1))) := by
                intro y
                unfold f_X12_isIn_291
                rw [inb_nI (show p + 1 < 11 by omega) (by decide), chk_so, nm_so, wr_nI _ (by omega), nI_1, inb_nI (show p + 1 < 11 by omega) (by decide), chk_so, nm_so, wr_nI _ (by omega)]
              by_cases q4 : g = used
              · rw [if_pos (by rw [q4]), h291, h1, hu', if_pos q4]; rfl
              · unfold f_X12_isIn_285
                rw [if_neg (fun e => q4 ((nI_eq (by omega) (by omega)).mp e)), inb_nI (show p < 11 by omega) (by decide), chk_so, er, h291, h1, hu', if_neg q4]; rfl
            have f1 : FI τ σ1 := by rw [h1]; exact ⟨fun c z1 z2 z3 => by rw [ar_fw_ne z1, ar_fw_ne z2, ar_fw_ne z3, ar_fw_ne z1], rfl, rfl⟩
            have e97 : ar σ1 97 = upd (ar τ 97) g (ar τ 97 g ||| ((1 : Int32) <<< (nI p &&& 31))) := by rw [h1, ar_fw_ne (by omega), ar_fw_ne (by omega), ar_fw_eq, ar_fw_ne (by omega)]
            have e95 : ar σ1 95 = upd (upd (ar τ 95) p (nI g)) (p + 1) (-1) := by rw [h1, ar_fw_eq, ar_fw_ne (by omega), ar_fw_ne (by omega), ar_fw_eq]
            have e96' : ar σ1 96 = upd (ar τ 96) (p + 1) (nI u') := by rw [h1, ar_fw_ne (by omega), ar_fw_eq, ar_fw_ne (by omega), ar_fw_ne (by omega)]
            have f01 := hF.tr f1
            have hrec := m_in hI hM hset k (p + 1) u' (updN G p g) σ1 (by omega) hu1 (hc.f f01) (by rw [e97]; exact hmb.put qs (by omega)) (fun q hq => by
              rw [e95, upd_ne (by omega)]
              unfold updN
              by_cases qp : q = p
              · rw [qp, upd_eq, if_pos qs, if_pos rfl]
              · rw [upd_ne qp, if_neg qp, h5 q (by omega)]; exact hg q (by omega)) (by rw [e95, upd_eq]) (by rw [e96', upd_eq])
            unfold Oun at hrec
            cases eo : srch S (brB r) M k (p + 1) u' (updN G p g) with
            | some R =>
              rw [eo] at hrec
              obtain ⟨τ', x1, x2, x3⟩ := hrec
              exact ⟨τ', (it_l hstep).trans x1, f01.tr x2, x3⟩
            | none =>
              rw [eo] at hrec
              obtain ⟨τ', x1, x2, x3, x4, x5⟩ := hrec
              have f02 := f01.tr x2
              have y95 : ar τ' 95 p = nI g := by rw [x4 p (by omega), e95, upd_ne (by omega), upd_eq]
              have y96 : ar τ' 96 p = nI used := by rw [x5 p (by omega), e96', upd_ne (by omega), h6 p (Nat.le_refl _), h96]
              rw [pk_m1] at x1
              obtain ⟨τ3, h3⟩ : ∃ s, s = fw τ' 97 g (ar τ' 97 g &&& (((1 : Int32) <<< (nI p &&& 31)) ^^^ (-1))) := ⟨_, rfl⟩
              have f3 : FI τ' τ3 := by rw [h3]; exact ⟨fun c _ _ z3 => ar_fw_ne z3, rfl, rfl⟩
              have hbp : bI set (nI M) (nI p, τ') = f_X12_isIn_132 set (nI M) (nI p) (nI (g + 1)) 1 (if used < M then nI used else nI M - 1) τ3 := by
                show b_X12_isIn_40 set (nI M) (nI p) τ' = _
                unfold b_X12_isIn_40
                rw [if_neg (nI_pos (by omega)), chk_t (by decide), (hc.f f02).1, if_pos (nI_lt hpn (by omega)), inb_nI (show p < 11 by omega) (by decide), chk_so, rd_ar (by omega), y95, if_neg (nI_pos (by omega)), inb_nI (show g < 10 by omega) (by decide), chk_so, nm_so, wr_nI _ (by omega), rd_ar (by omega), ← h3]
                refine h82 τ3 (g + 1) ?_ ?_
                · rw [h3, ar_fw_ne (by omega), y95, nI_1]
                · rw [h3, ar_fw_ne (by omega), y96]
              have hnext := ih (g + 1) τ3 (nI p, τ') (by omega) hbp (f02.tr f3) (by rw [h3, ar_fw_eq]; exact x3.take (by omega)) (fun q hq => by rw [h3, ar_fw_ne (by omega), x4 q (by omega), e95, upd_ne (by omega), upd_ne (by omega), h5 q hq]) (fun q hq => by rw [h3, ar_fw_ne (by omega), x5 q (by omega), e96', upd_ne (by omega), h6 q hq])
              show Oun S (cn r 1) p G σ (tryG (srch S (brB r) M k) (fits S (brB r) G p) p used G c (g + 1)) set (nI M) s0
              unfold Oun at hnext ⊢
              have e0 : it (bI set (nI M)) s0 = it (bI set (nI M)) (nI p, τ') := (it_l hstep).trans x1
              rw [e0]
              exact hnext
          · rw [if_neg q3]
            refine ih (g + 1) τ s0 (by omega) (hs0.trans ?_) hF hmb h5 h6
            unfold f_X12_isIn_132
            refine it_l ?_
            show b_X12_isIn_132 set (nI M) (nI p) (nI g) 1 _ τ = _
            unfold b_X12_isIn_132
            rw [if_neg (by decide), if_neg hnlt, inb_nI (show g < 10 by omega) (by decide), chk_so, inb_nI (show p < 10 by omega) (by decide), chk_so, rd_ar (by omega), rd_ar (by omega), if_neg (fun e => q3 (hfit.mp e)), nI_1]
      exact H (min (used + 1) M) 0 σ (nI p, σ) (Nat.zero_add _) ((hb82 σ hc (by rw [h95]; decide)).trans (h82 σ 0 (by rw [h95]; decide) h96)) (FI.rfl' σ) hm (fun _ _ => rfl) (fun _ _ => rfl)
    · rw [if_neg qs]
      have hns : ¬ ((set >>> (nI p &&& 31)) &&& 1) = 1 := fun e => qs ((hset p (by omega)).mp e)
      have h82 : ∀ τ : St, f_X12_isIn_82 set (nI M) (nI p) τ = f_X12_isIn_167 set (nI M) (nI p) (ar τ 95 p + 1) 0 0 τ := by
        intro τ
        have h132 : ∀ y, f_X12_isIn_132 set (nI M) (nI p) (ar τ 95 p + 1) 0 y τ = f_X12_isIn_167 set (nI M) (nI p) (ar τ 95 p + 1) 0 0 τ := by
          intro y
          unfold f_X12_isIn_132
          refine it_k ?_
          show b_X12_isIn_132 set (nI M) (nI p) (ar τ 95 p + 1) 0 y τ = _
          unfold b_X12_isIn_132
          rw [if_pos rfl]
          rfl
        unfold f_X12_isIn_82 f_X12_isIn_106 f_X12_isIn_130
        rw [inb_nI (show p < 11 by omega) (by decide), chk_so, chk_so, chk_so, if_neg hns, rd_ar (by omega), rd_ar (by omega), h132, h132]
        split <;> rfl
      obtain ⟨σ1, h1⟩ : ∃ s, s = fw (fw (fw σ 95 p (-2)) 96 (p + 1) (nI used)) 95 (p + 1) (-1) := ⟨_, rfl⟩
      have hstep : bI set (nI M) (nI p, σ) = some (.inl (nI (p + 1), σ1)) := by
        rw [hb82 σ hc (by rw [h95]; decide), h82]
        unfold f_X12_isIn_167 f_X12_isIn_202 f_X12_isIn_232 f_X12_isIn_251 f_X12_isIn_285 f_X12_isIn_291
        rw [if_pos rfl, inb_nI (show p < 11 by omega) (by decide), chk_so, rd_ar (by omega), if_pos h95, if_neg (by decide), if_pos rfl, chk_so, nm_so, wr_nI _ (by omega), if_pos rfl, if_pos rfl, chk_so, nI_1, inb_nI (show p + 1 < 11 by omega) (by decide), chk_so, nm_so, rd_ar (by omega), ar_fw_ne (by omega), h96, wr_nI _ (by omega), chk_so, nm_so, wr_nI _ (by omega), h1]
      have f1 : FI σ σ1 := by rw [h1]; exact ⟨fun c z1 z2 z3 => by rw [ar_fw_ne z1, ar_fw_ne z2, ar_fw_ne z1], rfl, rfl⟩
      have e97 : ar σ1 97 = ar σ 97 := by rw [h1, ar_fw_ne (by omega), ar_fw_ne (by omega), ar_fw_ne (by omega)]
      have e95 : ar σ1 95 = upd (upd (ar σ 95) p (-2)) (p + 1) (-1) := by rw [h1, ar_fw_eq, ar_fw_ne (by omega), ar_fw_eq]
      have e96' : ar σ1 96 = upd (ar σ 96) (p + 1) (nI used) := by rw [h1, ar_fw_ne (by omega), ar_fw_eq, ar_fw_ne (by omega)]
      have hrec := m_in hI hM hset k (p + 1) used G σ1 (by omega) (by omega) (hc.f f1) (by rw [e97]; exact hm.skip qs) (fun q hq => by
        rw [e95, upd_ne (by omega)]
        by_cases qp : q = p
        · rw [qp, upd_eq, if_neg qs]
        · rw [upd_ne qp]; exact hg q (by omega)) (by rw [e95, upd_eq]) (by rw [e96', upd_eq])
      unfold Oun at hrec ⊢
      cases eo : srch S (brB r) M k (p + 1) used G with
      | some R =>
        rw [eo] at hrec
        obtain ⟨τ', x1, x2, x3⟩ := hrec
        exact ⟨τ', (it_l hstep).trans x1, f1.tr x2, x3⟩
      | none =>
        rw [eo] at hrec
        obtain ⟨τ', x1, x2, x3, x4, x5⟩ := hrec
        rw [pk_m1] at x1
        have f02 := f1.tr x2
        have y95 : ar τ' 95 p = -2 := by rw [x4 p (by omega), e95, upd_ne (by omega), upd_eq]
        have hbp : bI set (nI M) (nI p, τ') = some (.inl (nI p + (-1), τ')) := by
          rw [hb82 τ' (hc.f f02) (by rw [y95]; decide), h82]
          unfold f_X12_isIn_167 f_X12_isIn_202
          rw [if_pos rfl, inb_nI (show p < 11 by omega) (by decide), chk_so, rd_ar (by omega), if_neg (by rw [y95]; decide), if_pos rfl]
        refine ⟨τ', ((it_l hstep).trans x1).trans (it_l hbp), f02, x3.unskip qs, fun q hq => ?_, fun q hq => ?_⟩
        · rw [x4 q (by omega), e95, upd_ne (by omega), upd_ne (by omega)]
        · rw [x5 q (by omega), e96', upd_ne (by omega)]
end SR
