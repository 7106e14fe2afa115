/-! both readers side by side -/
section JT
variable {A : AS} {c0 σ0 : St} {P R : List Int32} {i u : Nat}
theorem CT.nx {τ : St} (hI : Inv A) (hC : CR A c0) (h : CT u c0 τ i R) (hi : i ≤ cn (aR A) 4) : f_X5_next τ = some (bAt (aR A) i) := e_next hI (hC.frs h.1.1) h.1.2.1 h.2.1 hi
theorem num_go (hI : Inv A) (hC : CR A c0) (hM : MR A σ0) (hR : R.length < 50) : ∀ (f k v : Nat) (τ σ : St), k + f = 4 → v < 10 ^ k → i + k ≤ cn (aR A) 4 → CT u c0 τ (i + k) R → MT σ0 σ P R (i + k) → ∃ j v' τ' σ', i + k ≤ j ∧ j ≤ cn (aR A) 4 ∧ (f ≠ 0 → dig (bAt (aR A) (i + k)) = true → i + k < j) ∧ v' < 10000 ∧ it (fun z : Int32 × Int32 × St => b_X5_readNumber_4 z.1 z.2.1 z.2.2) (nI v, nI k, τ) = some τ' ∧ CT u c0 τ' j (nI v' :: R) ∧ it (fun z : Int32 × St => b_X12_readsOne_128 z.1 (nI i) z.2) (nI v, σ) = some (1, σ') ∧ MT σ0 σ' P (nI v' :: R) j := by
  intro f
  have b4 := hI.1.1.2.2.2.2.1
  have stop : ∀ (k v : Nat) (τ σ : St), v < 10000 → CT u c0 τ (i + k) R → MT σ0 σ P R (i + k) → b_X5_readNumber_4 (nI v) (nI k) τ = (f_X5_readNumber_48 (nI v) τ).map .inr → b_X12_readsOne_128 (nI v) (nI i) σ = (f_X12_readsOne_185 (nI v) σ).map .inr → ∃ τ' σ', it (fun z : Int32 × Int32 × St => b_X5_readNumber_4 z.1 z.2.1 z.2.2) (nI v, nI k, τ) = some τ' ∧ CT u c0 τ' (i + k) (nI v :: R) ∧ it (fun z : Int32 × St => b_X12_readsOne_128 z.1 (nI i) z.2) (nI v, σ) = some (1, σ') ∧ MT σ0 σ' P (nI v :: R) (i + k) := by
    intro k v τ σ hv hc hm e1 e2
    obtain ⟨τ', a1, a2, _⟩ := hc.add (v := 256 + nI v) (c := nI v) hR (by unfold cdr; rw [if_pos (nI_pos' (by omega))])
    obtain ⟨σ', l1, l2⟩ := hm.lay (nI v) (by omega)
    refine ⟨τ', σ', (it_k e1).trans ?_, a2, (it_k e2).trans ?_, l2⟩
    · unfold f_X5_readNumber_48; rw [a1, bd_so]
    · unfold f_X12_readsOne_185; rw [l1, bd_so]
  induction f with
  | zero =>
    intro k v τ σ hk hv hi hc hm
    have hk4 : k = 4 := by omega
    subst hk4
    have e1 : b_X5_readNumber_4 (nI v) (nI 4) τ = (f_X5_readNumber_48 (nI v) τ).map .inr := by
      unfold b_X5_readNumber_4; rw [if_neg (by decide)]
    have e2 : b_X12_readsOne_128 (nI v) (nI i) σ = (f_X12_readsOne_185 (nI v) σ).map .inr := by
      unfold b_X12_readsOne_128
      rw [hm.byte hI hM hi, bd_so, dig_m, bd_so]
      by_cases q : dig (bAt (aR A) (i + 4)) = true
      · rw [if_pos q, if_neg (by decide), fd_ar, hm.2.1, pk_sub (by omega), if_neg (show ¬ nI (i + 4 - i) < 4 from nI_nlt (b := 4) (by omega) (by omega))]
      · rw [if_neg q, if_pos rfl]
    obtain ⟨τ', σ', h1, h2, h3, h4⟩ := stop 4 v τ σ (by omega) hc hm e1 e2
    exact ⟨i + 4, v, τ', σ', Nat.le_refl _, hi, fun h => absurd rfl h, by omega, h1, h2, h3, h4⟩
  | succ f ih =>
    intro k v τ σ hk hv hi hc hm
    by_cases q : dig (bAt (aR A) (i + k)) = true
    · obtain ⟨d, hd, ed⟩ := dig_v q
      have hlt : i + k < cn (aR A) 4 := bAt_lt (fun e => by rw [e] at q; exact absurd q (by decide))
      obtain ⟨c1, c2⟩ := hc.mv
      obtain ⟨m1, m2⟩ := hm.mv
      have hp : 10 ^ (k + 1) = 10 * 10 ^ k := by rw [Nat.pow_succ, Nat.mul_comm]
      have hp4 : 10 ^ k ≤ 1000 := by
        have : k ≤ 3 := by omega
        calc 10 ^ k ≤ 10 ^ 3 := Nat.pow_le_pow_right (by decide) this
          _ = 1000 := by decide
      have ar1 : ((nI v * 10) + nI (48 + d)) - 48 = nI (10 * v + d) := by
        rw [show (10 : Int32) = nI 10 from rfl, show (48 : Int32) = nI 48 from rfl, pk_mul, nI_add, pk_sub (by omega)]
        exact congrArg nI (by omega)
      have ar2 : ((10 * nI v) + nI (48 + d)) - 48 = nI (10 * v + d) := by
        rw [show (10 : Int32) = nI 10 from rfl, show (48 : Int32) = nI 48 from rfl, pk_mul, nI_add, pk_sub (by omega)]
        exact congrArg nI (by omega)
      have s1 : b_X5_readNumber_4 (nI v) (nI k) τ = some (.inl (nI (10 * v + d), nI (k + 1), fw τ 5 3 (nI (i + k + 1)))) := by
        unfold b_X5_readNumber_4
        rw [if_pos (show nI k < 4 from nI_lt (b := 4) (by omega) (by omega)), hc.nx hI hC hi, bd_so, bd_so, dig_e, if_pos q, bd_so, if_neg (by decide), nm_so, c1, ed, ar1, nI_1]
      have s2 : b_X12_readsOne_128 (nI v) (nI i) σ = some (.inl (nI (10 * v + d), fw σ 6 13 (nI (i + k + 1)))) := by
        unfold b_X12_readsOne_128
        rw [hm.byte hI hM hi, bd_so, bd_so, dig_m, if_pos q, bd_so, if_neg (by decide), nm_so, m1, ed, ar2, fd_ar, hm.2.1, pk_sub (by omega), if_pos (show nI (i + k - i) < 4 from nI_lt (b := 4) (by omega) (by omega))]
      obtain ⟨j, v', τ', σ', h1, h2, h3, h4, h5, h6, h7, h8⟩ := ih (k + 1) (10 * v + d) _ _ (by omega) (by omega) (by omega) c2 m2
      exact ⟨j, v', τ', σ', by omega, h2, fun _ _ => by omega, h4, (it_l s1).trans h5, h6, (it_l s2).trans h7, h8⟩
    · have e1 : b_X5_readNumber_4 (nI v) (nI k) τ = (f_X5_readNumber_48 (nI v) τ).map .inr := by
        unfold b_X5_readNumber_4
        rw [if_pos (show nI k < 4 from nI_lt (b := 4) (by omega) (by omega)), hc.nx hI hC hi, bd_so, dig_e, if_neg q, bd_so, if_pos rfl]
      have e2 : b_X12_readsOne_128 (nI v) (nI i) σ = (f_X12_readsOne_185 (nI v) σ).map .inr := by
        unfold b_X12_readsOne_128
        rw [hm.byte hI hM hi, bd_so, dig_m, if_neg q, bd_so, if_pos rfl]
      have hp4 : 10 ^ k ≤ 1000 := by
        have : k ≤ 3 := by omega
        calc 10 ^ k ≤ 10 ^ 3 := Nat.pow_le_pow_right (by decide) this
          _ = 1000 := by decide
      obtain ⟨τ', σ', h1, h2, h3, h4⟩ := stop k v τ σ (by omega) hc hm e1 e2
      exact ⟨i + k, v, τ', σ', Nat.le_refl _, hi, fun _ h => absurd h q, by omega, h1, h2, h3, h4⟩
/-- what a unit comes to -/
def Flt (A : AS) (u : Nat) (c0 σ0 τ' : St) (run : Option (Int32 × St)) : Prop := ∃ j, j ≤ cn (aR A) 4 ∧ CF u c0 τ' j ∧ ∃ σ', run = some (0, σ') ∧ FrQ σ0 σ' ∧ ar σ' 6 13 = nI j
def UOk (A : AS) (u : Nat) (c0 σ0 τ' : St) (run : Option (Int32 × St)) (P : List Int32) (i k : Nat) : Prop := ∃ j R' σ', i < j ∧ j ≤ cn (aR A) 4 ∧ CT u c0 τ' j R' ∧ MT σ0 σ' P R' j ∧ P.length + R'.length ≤ j ∧ run = RunB u σ' ∧ PF u R' (k + 1)
def StpX (x : Nat) (Q : List Int32) (c : Int32) : Prop := rk c ≤ x ∨ (rk c = 3 ∧ x ≤ 2 ∧ ∃ Q1 c2 Q2, Q = Q1 ++ c2 :: Q2 ∧ (∀ q, q ∈ Q1 → 3 < rk q) ∧ rk c2 = 3)
def LOk (A : AS) (u : Nat) (c0 σ0 τ' : St) (run : Option (Int32 × St)) (P : List Int32) (i k x : Nat) : Prop := ∃ j Q R' σ', i < j ∧ j ≤ cn (aR A) 4 ∧ CT u c0 τ' j (setQ Q R') ∧ MT σ0 σ' (Q ++ P) R' j ∧ Q.length + P.length + R'.length ≤ j ∧ run = RunA u σ' ∧ PF u (setQ Q R') (k + 1) ∧ (∀ q, q ∈ Q → x < rk q) ∧ StpX x Q (bAt (aR A) j)
def okP (x : Nat) (P : List Int32) : Prop := ∀ c P', P = c :: P' → c ≠ 33 ∧ rk c ≤ x
def JU (A : AS) (u : Nat) (c0 σ0 : St) (n : Nat) : Prop := ∀ d τ σ P R i k, d ≤ 5 → 7 * (5 - d) + 1 ≤ n → CT u c0 τ i R → MT σ0 σ P R i → P.length + R.length ≤ i → i ≤ cn (aR A) 4 → opn P = d → PF u R k → ∃ τ', (f_X5_read n).2 (nI d) τ = some τ' ∧ (Flt A u c0 σ0 τ' (RunE u σ) ∨ UOk A u c0 σ0 τ' (RunE u σ) P i k)
def JL (A : AS) (u : Nat) (c0 σ0 : St) (n : Nat) : Prop := ∀ x d τ σ P R i k, x ≤ 5 → d ≤ 5 → (6 - x) + (7 * (5 - d) + 1) ≤ n → CT u c0 τ i R → MT σ0 σ P R i → P.length + R.length ≤ i → i ≤ cn (aR A) 4 → opn P = d → PF u R k → okP x P → ∃ τ', (f_X5_read n).1 (nI x) (nI d) τ = some τ' ∧ (Flt A u c0 σ0 τ' (RunE u σ) ∨ LOk A u c0 σ0 τ' (RunE u σ) P i k x)
theorem ju_step {n : Nat} (hu : u < 3) (hI : Inv A) (hC : CR A c0) (hM : MR A σ0) (ihU : JU A u c0 σ0 n) (ihL : JL A u c0 σ0 n) : JU A u c0 σ0 (n + 1) := by
  intro d τ σ P R i k hd hn hc hm hb hi ho hp
  have b4 := hI.1.1.2.2.2.2.1
  show ∃ τ', s_X5_readUnit (f_X5_read n).1 (f_X5_read n).2 (nI d) τ = some τ' ∧ _
  unfold s_X5_readUnit
  rw [hc.nx hI hC hi, bd_so, dig_e, bd_so]
  have hfail : ∀ τ1, τ1 = fw τ 5 4 1 → RunE u σ = some (0, σ) → Flt A u c0 σ0 τ1 (RunE u σ) := fun τ1 e h => ⟨i, hi, by rw [e]; exact hc.flt (by omega), σ, h, hm.1, hm.2.1⟩
  by_cases q : dig (bAt (aR A) i) = true
  · -- a number
    have hlt : i < cn (aR A) 4 := bAt_lt (fun e => by rw [e] at q; exact absurd q (by decide))
    obtain ⟨j, v', τ', σ', h1, h2, h3, h4, h5, h6, h7, h8⟩ := num_go (P := P) hI hC hM (show R.length < 50 by omega) 4 0 0 τ σ rfl (by decide) hi hc hm
    have h3' := h3 (by decide) q
    refine ⟨τ', ?_, Or.inr ⟨j, nI v' :: R, σ', h3', h2, h6, h8, by simp; omega, ?_, Or.inl ⟨v', h4, rfl, k, rfl, hp⟩⟩⟩
    · rw [if_pos q, if_neg (by decide)]
      have : f_X5_readNumber τ = some τ' := h5
      rw [this, bd_so]
    · obtain ⟨dd, hdd, ed⟩ := dig_v q
      have hne : ∀ z : Nat, z < 48 → bAt (aR A) i ≠ nI z := fun z hz e => by
        rw [ed] at e
        have := congrArg Int32.toInt e
        rw [nI_toInt (by omega), nI_toInt (by omega)] at this
        omega
      have hnn : ¬ nix u (48 + dd) < nLen u := fun h => by have := nam_f hu (by omega) h; omega
      have h128 : f_X12_readsOne_128 0 (fd σ 6 13) σ = some (1, σ') := by rw [fd_ar, hm.2.1]; exact h7
      have h86 : f_X12_readsOne_86 (bAt (aR A) i) (-1) σ = some (1, σ') := by
        unfold f_X12_readsOne_86
        rw [if_pos (by decide), dig_m, if_pos q, bd_so, if_neg (by decide), h128]
      have h73 : f_X12_readsOne_73 (nI u) (bAt (aR A) i) σ = some (1, σ') := by
        unfold f_X12_readsOne_73
        rw [ed, if_neg (show ¬ nI (48 + dd) < 0 from nI_nlt (b := 0) (by omega) (by omega)), m_name hu (by omega), if_neg hnn, bd_so, ← ed, h86]
      rw [RunE_eq, one_9 hI hM hm hi, one_73 (hne 33 (by omega)) (hne 40 (by omega)), h73]
      rfl
  have q' : dig (bAt (aR A) i) = false := by cases e : dig (bAt (aR A) i) <;> first | rfl | exact absurd e q
  rw [if_neg q, if_pos rfl]
  -- what is no name
  have h57 : (∀ v, v < 256 → bAt (aR A) i = nI v → ¬ nix u v < nLen u) → ∃ τ', f_X5_readUnit_57 (f_X5_read n).1 (f_X5_read n).2 (nI d) (bAt (aR A) i) τ = some τ' ∧ (Flt A u c0 σ0 τ' (RunE u σ) ∨ UOk A u c0 σ0 τ' (RunE u σ) P i k) := by
    intro hnn
    have hP52 : P.length < 52 := by omega
    unfold f_X5_readUnit_57
    by_cases q33 : bAt (aR A) i = 33
    · have hlt : i < cn (aR A) 4 := bAt_lt (fun e => by rw [e] at q33; exact absurd q33 (by decide))
      rw [if_pos q33]
      have hE := E_push (u := u) hI hM hm hP52 hlt (Or.inl q33)
      by_cases qd : d < 5
      · rw [if_pos (show nI d < 5 from nI_lt (b := 5) qd (by omega)), nm_so]
        obtain ⟨σ', e1, e2⟩ := hE.2 (by omega)
        rw [q33] at e2
        obtain ⟨c1, c2⟩ := hc.mv
        obtain ⟨τ2, a1, a2⟩ := ihU (d + 1) _ σ' (33 :: P) R (i + 1) k (by omega) (by omega) c2 e2 (by simp; omega) (by omega) (by show opn P + _ = _; rw [if_pos (Or.inl rfl), ho]) hp
        rw [c1, nI_1, a1, bd_so]
        rcases a2 with ⟨j, j1, j2, s3, j3, j4, j5⟩ | ⟨j, R', s3, j1, j2, j3, j4, j5, j6, j7⟩
        · obtain ⟨τ3, z1, z2⟩ := j2.add (v := bAt (aR A) i)
          refine ⟨τ3, by rw [z1, bd_so], Or.inl ⟨j, j1, z2, s3, e1.trans j3, j4, j5⟩⟩
        · have hl1 : R'.length + 1 ≤ j := by simp at j5; omega
          obtain ⟨τ3, z1, z2, _⟩ := j3.add (v := bAt (aR A) i) (c := -133) (by omega) (by rw [q33]; unfold cdr; rw [if_neg (by decide), if_neg (by decide)]; decide)
          obtain ⟨s4, w1, w2⟩ := RunB_33 (u := u) j4 (by simp at j5; omega)
          refine ⟨τ3, by rw [z1, bd_so], Or.inr ⟨j, -133 :: R', s4, by omega, j2, z2, w2, by simp at j5 ⊢; omega, (e1.trans j6).trans w1, Or.inr (Or.inr (Or.inl ⟨rfl, by omega, j7⟩))⟩⟩
      · rw [if_neg (show ¬ nI d < 5 from nI_nlt (b := 5) (by omega) (by omega))]
        unfold f_X5_readUnit_96 f_X5_readUnit_132
        rw [if_neg (show ¬ bAt (aR A) i = 40 by rw [q33]; decide), nm_so]
        exact ⟨_, rfl, Or.inl (hfail _ rfl (hE.1 (by omega)))⟩
    · rw [if_neg q33]
      unfold f_X5_readUnit_96 f_X5_readUnit_132
      by_cases q40 : bAt (aR A) i = 40
      · have hlt : i < cn (aR A) 4 := bAt_lt (fun e => by rw [e] at q40; exact absurd q40 (by decide))
        rw [if_pos q40]
        have hE := E_push (u := u) hI hM hm hP52 hlt (Or.inr q40)
        by_cases qd : d < 5
        · rw [if_pos (show nI d < 5 from nI_lt (b := 5) qd (by omega)), nm_so]
          obtain ⟨σ', e1, e2⟩ := hE.2 (by omega)
          rw [q40] at e2
          obtain ⟨c1, c2⟩ := hc.mv
          obtain ⟨τ2, a1, a2⟩ := ihL 0 (d + 1) _ σ' (40 :: P) R (i + 1) k (by omega) (by omega) (by omega) c2 e2 (by simp; omega) (by omega) (by show opn P + _ = _; rw [if_pos (Or.inr rfl), ho]) hp (fun c P' e => by injection e with e1 e2; rw [← e1]; decide)
          rw [c1, nI_1, show f_X5_read n = ((f_X5_read n).1, (f_X5_read n).2) from rfl, show (f_X5_read n).1 0 (nI (d + 1)) (fw τ 5 3 (nI (i + 1))) = some τ2 from a1, bd_so]
          unfold f_X5_readClosing f_X5_readClosing_16
          rcases a2 with ⟨j, j1, j2, s3, j3, j4, j5⟩ | ⟨j, Q, R', s3, j1, j2, j3, j4, j5, j6, j7, j8, j9⟩
          · rw [if_neg (by rw [fd_ar, j2.2.2.1]; decide), nm_so, bd_so]
            exact ⟨_, rfl, Or.inl ⟨j, j1, j2.flt, s3, e1.trans j3, j4, j5⟩⟩
          · rw [if_pos (by rw [fd_ar, j3.2.2.1]), j3.nx hI hC j2, bd_so]
            have hlen : Q.length + P.length + 1 + R'.length ≤ j := by simp at j5; omega
            by_cases q41 : bAt (aR A) j = 41
            · have hlt2 : j < cn (aR A) 4 := bAt_lt (fun e => by rw [e] at q41; exact absurd q41 (by decide))
              obtain ⟨c3, c4⟩ := j3.mv
              obtain ⟨s4, w1, w2⟩ := A_close (u := u) hI hM j4 (by omega) j2 q41 (fun q hq => by have := j8 q hq; omega)
              rw [if_pos q41, nm_so, c3, bd_so]
              refine ⟨_, rfl, Or.inr ⟨j + 1, setQ Q R', s4, by omega, by omega, c4, w2, by rw [setQ_len]; omega, (e1.trans j6).trans w1, j7⟩⟩
            · rw [if_neg q41, nm_so, bd_so]
              have hrun : RunA u s3 = some (0, s3) := by
                rcases j9 with h0 | ⟨h3, _, Q1, c2', Q2, hQ, hQ1, hc2⟩
                · by_cases qe : j = cn (aR A) 4
                  · exact A_endo hI hM j4 (by simp; omega) qe (by simp)
                  · exact A_fail0 hI hM j4 (by simp; omega) (by omega) (by omega) (fun e => absurd e q41)
                · refine A_fail3 hI hM j4 j2 h3 ?_
                  rw [hQ] at j4 hlen
                  have j4' : MT σ0 s3 (Q1 ++ c2' :: (Q2 ++ 40 :: P)) R' j := by rw [List.append_assoc, List.cons_append] at j4; exact j4
                  exact m_tested_yes j4' (by simp at hlen ⊢; omega) hQ1 hc2
              have hl50 : (setQ Q R').length ≤ 50 := by rw [setQ_len]; omega
              exact ⟨_, rfl, Or.inl ⟨j, j2, j3.flt hl50, s3, (e1.trans j6).trans hrun, j4.1, j4.2.1⟩⟩
        · rw [if_neg (show ¬ nI d < 5 from nI_nlt (b := 5) (by omega) (by omega)), nm_so]
          exact ⟨_, rfl, Or.inl (hfail _ rfl (hE.1 (by omega)))⟩
      · rw [if_neg q40, nm_so]
        exact ⟨_, rfl, Or.inl (hfail _ rfl (E_bad hu hI hM hm hi q33 q40 q' hnn))⟩
  by_cases qm : bAt (aR A) i = -1
  · rw [if_pos qm]
    exact h57 (fun v hv e => by
      rw [qm] at e
      have := congrArg Int32.toInt e
      rw [nI_toInt (by omega), show (-1 : Int32).toInt = -1 by decide] at this
      omega)
  · rw [if_neg qm]
    have hlt := bAt_lt qm
    obtain ⟨v, hv, e⟩ := bAt_v hI.1 hlt
    have hrc : rc τ 5 2 = u + 1 := by rw [rc_ar, hc.1.2.2, nI_clamp (by omega)]
    obtain ⟨z, z1, z2⟩ := e_index (σ := τ) hu hv
    rw [hrc, show ((bAt (aR A) i).toUInt32 % 65536).toInt32 = ((nI v).toUInt32 % 65536).toInt32 by rw [e], z1, bd_so]
    by_cases qn : nix u v < nLen u
    · rw [if_neg (fun h => z2.mp h qn)]
      have h6 : nLen u ≤ 6 := by unfold nLen; split <;> omega
      obtain ⟨τ3, a1, a2, a3⟩ := hc.add (v := bAt (aR A) i) (c := -1 - nI (nix u v)) (by omega) (by
        rw [e, nix_l hu hv qn]
        obtain ⟨k1, k2, k3, _⟩ := nmv (nix u v) (by omega)
        unfold cdr
        rw [if_neg k1, if_pos k2, k3])
      obtain ⟨c1, c2⟩ := a2.mv
      obtain ⟨s3, w1, w2⟩ := E_name (u := u) hu hI hM hm (by omega) hi hv e qn
      rw [a1, bd_so, nm_so, c1]
      exact ⟨_, rfl, Or.inr ⟨i + 1, _, s3, by omega, by omega, c2, w2, by simp; omega, w1, Or.inr (Or.inl ⟨nix u v, qn, rfl, k, rfl, hp⟩)⟩⟩
    · rw [if_pos (z2.mpr qn)]
      exact h57 (fun v' hv' e' => by
        rw [e] at e'
        have := congrArg Int32.toInt e'
        rw [nI_toInt (by omega), nI_toInt (by omega)] at this
        rw [show v' = v by omega]; exact qn)
theorem cdr_op {c : Int32} (h : sgn c) : cdr u (-100 - c) = c := by
  have : ∀ c : Int32, (c = 37 ∨ c = 38 ∨ c = 42 ∨ c = 43 ∨ c = 45 ∨ c = 47 ∨ c = 60 ∨ c = 61 ∨ c = 62 ∨ c = 124) → ¬ (0 ≤ -100 - c) ∧ ¬ (-100 < -100 - c) ∧ -100 - (-100 - c) = c := by
    rintro c (rfl | rfl | rfl | rfl | rfl | rfl | rfl | rfl | rfl | rfl) <;> decide
  obtain ⟨h1, h2, h3⟩ := this c h
  unfold cdr
  rw [if_neg h1, if_neg h2, h3]
theorem lev_eq (c : Int32) {x : Nat} (hx : x ≤ 5) : (nI (rk c) - 1 = nI x) ↔ rk c = x + 1 := by
  have : ∀ a, a < 6 → ∀ x, x < 6 → ((nI a - 1 = nI x) ↔ a = x + 1) := by decide
  exact this _ (by have := rk_le c; omega) x (by omega)
theorem StpX.app {x : Nat} {Q Q' : List Int32} {c : Int32} (h : StpX x Q c) : StpX x (Q ++ Q') c := by
  rcases h with h | ⟨h1, h2, Q1, c2, Q2, h3, h4, h5⟩
  · exact Or.inl h
  · exact Or.inr ⟨h1, h2, Q1, c2, Q2 ++ Q', by rw [h3, List.append_assoc, List.cons_append], h4, h5⟩
theorem lp_flt {n x d lim a : Nat} {τ : St} {j : Nat} (h : CF u c0 τ j) : it (fun z : Int32 × St => b_X5_readLevel_34 (f_X5_read n).1 (f_X5_read n).2 (nI x) (nI d) (nI lim) z.1 z.2) (nI a, τ) = some τ := by
  refine it_r ?_
  show b_X5_readLevel_34 _ _ (nI x) (nI d) (nI lim) (nI a) τ = _
  unfold b_X5_readLevel_34
  by_cases q : nI a < nI lim
  · rw [if_pos q, if_neg (by rw [fd_ar, h.2.2.1]; decide)]
  · rw [if_neg q]
theorem jl_loop {n x d lim k i0 : Nat} {E : Option (Int32 × St)} (hI : Inv A) (hC : CR A c0) (hM : MR A σ0) (ihL : JL A u c0 σ0 n) (hx : x < 5) (hd : d ≤ 5) (hn : (6 - (x + 1)) + (7 * (5 - d) + 1) ≤ n) (hlim : lim = if x = 2 then 1 else 50) (ho : opn P = d) (hok : okP x P) : ∀ (g a : Nat) (τ : St) (j : Nat) (Q R' : List Int32) (σ' : St), a + g = 50 → i0 + a < j → j ≤ cn (aR A) 4 → CT u c0 τ j (setQ Q R') → MT σ0 σ' (Q ++ P) R' j → Q.length + P.length + R'.length ≤ j → E = RunA u σ' → PF u (setQ Q R') (k + 1) → (∀ q, q ∈ Q → x < rk q) → (a = 0 → ∀ q, q ∈ Q → x + 1 < rk q) → (a ≠ 0 → ∃ Q2 c, Q = Q2 ++ [c] ∧ (∀ q, q ∈ Q2 → x + 1 < rk q) ∧ rk c = x + 1) → StpX (x + 1) Q (bAt (aR A) j) → ∃ τ', it (fun z : Int32 × St => b_X5_readLevel_34 (f_X5_read n).1 (f_X5_read n).2 (nI x) (nI d) (nI lim) z.1 z.2) (nI a, τ) = some τ' ∧ (Flt A u c0 σ0 τ' E ∨ LOk A u c0 σ0 τ' E P i0 k x) := by
  have b4 := hI.1.1.2.2.2.2.1
  intro g
  induction g with
  | zero => intro a τ j Q R' σ' h1 h2 h3; omega
  | succ g ih =>
    intro a τ j Q R' σ' hg hij hj hc hm hlen hE hp hQ hQ0 hQ1 hst
    have hb : b_X5_readLevel_34 (f_X5_read n).1 (f_X5_read n).2 (nI x) (nI d) (nI lim) (nI a) τ = if a < lim ∧ rk (bAt (aR A) j) = x + 1 then (bd ((f_X5_read n).1 (nI (x + 1)) (nI d) (fw τ 5 3 (nI (j + 1)))) fun s => bd (f_X7_add 72 (bAt (aR A) j) s) fun s' => some (.inl (nI (a + 1), s'))) else some (.inr τ) := by
      unfold b_X5_readLevel_34
      by_cases q1 : a < lim
      · have hl50 : lim ≤ 50 := by rw [hlim]; split <;> omega
        rw [if_pos (nI_lt q1 (by omega)), if_pos (by rw [fd_ar, hc.2.2.1]), hc.nx hI hC hj, bd_so, bd_so, rk_e, bd_so, nm_so, hc.mv.1, nI_1, nI_1]
        by_cases q2 : rk (bAt (aR A) j) = x + 1
        · rw [if_pos ((lev_eq _ (by omega)).mpr q2), if_pos ⟨q1, q2⟩]
        · rw [if_neg (fun e => q2 ((lev_eq _ (by omega)).mp e)), if_neg (fun e => q2 e.2)]
      · rw [if_neg (nI_nlt (by omega) (by omega)), if_neg (fun e => q1 e.1)]
    by_cases q : a < lim ∧ rk (bAt (aR A) j) = x + 1
    · rw [if_pos q] at hb
      have hlt : j < cn (aR A) 4 := bAt_lt (fun e => by rw [e] at q; exact absurd q.2 (by rw [show rk (-1) = 0 by decide]; omega))
      have hsg : sgn (bAt (aR A) j) := rk_sgn (by omega)
      obtain ⟨σ2, w1, w2⟩ := A_op (u := u) (t := x + 1) hI hM hm (by omega) hj q.2 (by omega) (fun h3 => by
        have hx2 : x = 2 := by omega
        have ha0 : a = 0 := by have := q.1; rw [hlim, if_pos hx2] at this; omega
        exact m_tested_no hm (by omega) (fun q' hq' => by have := hQ0 ha0 q' hq'; omega) (fun c P' e => by have := (hok c P' e).2; omega)) (fun q' hq' => hQ q' hq') (fun c P' e => by have := (hok c P' e).2; omega)
      obtain ⟨_, c2⟩ := hc.mv
      have hsl := setQ_len Q R'
      obtain ⟨τ3, a1, a2⟩ := ihL (x + 1) d _ σ2 (bAt (aR A) j :: P) (setQ Q R') (j + 1) (k + 1) (by omega) hd hn c2 w2 (by simp; omega) (by omega) (by rw [opn_rk (by omega)]; exact ho) hp (fun c P' e => by
        injection e with e1 e2
        rw [← e1]
        exact ⟨fun e => by rw [e] at q; exact absurd q.2 (by rw [show rk 33 = 0 by decide]; omega), by omega⟩)
      rw [a1, bd_so] at hb
      rcases a2 with ⟨j', j1, j2, s3, j3, j4, j5⟩ | ⟨j', Q', R'', s3, j1, j2, j3, j4, j5, j6, j7, j8, j9⟩
      · obtain ⟨τ4, z1, z2⟩ := j2.add (v := bAt (aR A) j)
        rw [z1, bd_so] at hb
        exact ⟨τ4, (it_l hb).trans (lp_flt z2), Or.inl ⟨j', j1, z2, s3, (hE.trans w1).trans j3, j4, j5⟩⟩
      · have hl1 : Q'.length + P.length + 1 + R''.length ≤ j' := by simp at j5; omega
        obtain ⟨τ4, z1, z2, _⟩ := j3.add (v := bAt (aR A) j) (c := -100 - bAt (aR A) j) (by rw [setQ_len]; omega) (cdr_op hsg).symm
        rw [z1, bd_so] at hb
        rw [← setQ_sn] at z2
        have j4' : MT σ0 s3 ((Q' ++ [bAt (aR A) j]) ++ P) R'' j' := by rw [List.append_assoc]; exact j4
        obtain ⟨τ5, y1, y2⟩ := ih (a + 1) τ4 j' (Q' ++ [bAt (aR A) j]) R'' s3 (by omega) (by omega) j2 z2 j4' (by simp; omega) ((hE.trans w1).trans j6) (by rw [setQ_sn]; exact Or.inr (Or.inr (Or.inr ⟨_, hsg, rfl, by omega, j7⟩))) (fun q' hq' => by
          rw [List.mem_append, List.mem_singleton] at hq'
          rcases hq' with h | h
          · have := j8 q' h; omega
          · rw [h]; omega) (fun h => by omega) (fun _ => ⟨Q', _, rfl, j8, q.2⟩) j9.app
        exact ⟨τ5, (it_l hb).trans y1, y2⟩
    · rw [if_neg q] at hb
      refine ⟨τ, it_r hb, Or.inr ⟨j, Q, R', σ', by omega, hj, hc, hm, hlen, hE, hp, hQ, ?_⟩⟩
      rcases hst with h | ⟨h1, h2, h3⟩
      · by_cases q2 : rk (bAt (aR A) j) = x + 1
        · have hal : ¬ a < lim := fun h => q ⟨h, q2⟩
          have hx2 : x = 2 := Classical.byContradiction fun h => by
            rw [hlim, if_neg h] at hal
            omega
          have ha1 : a ≠ 0 := by rw [hlim, if_pos hx2] at hal; omega
          obtain ⟨Q2, c, e1, e2, e3⟩ := hQ1 ha1
          exact Or.inr ⟨by omega, by omega, Q2, c, [], e1, fun q' hq' => by have := e2 q' hq'; omega, by omega⟩
        · exact Or.inl (by omega)
      · exact Or.inr ⟨h1, by omega, h3⟩
theorem jl_step {n : Nat} (hI : Inv A) (hC : CR A c0) (hM : MR A σ0) (ihU : JU A u c0 σ0 n) (ihL : JL A u c0 σ0 n) : JL A u c0 σ0 (n + 1) := by
  intro x d τ σ P R i k hx hd hn hc hm hb hi ho hp hok
  have b4 := hI.1.1.2.2.2.2.1
  show ∃ τ', s_X5_readLevel (f_X5_read n).1 (f_X5_read n).2 (nI x) (nI d) τ = some τ' ∧ _
  unfold s_X5_readLevel
  by_cases q : x < 5
  · rw [if_pos (show nI x < 5 from nI_lt (b := 5) q (by omega)), nI_1]
    obtain ⟨τ1, a1, a2⟩ := ihL (x + 1) d τ σ P R i k (by omega) hd (by omega) hc hm hb hi ho hp (fun c P' e => ⟨(hok c P' e).1, by have := (hok c P' e).2; omega⟩)
    rw [a1, bd_so]
    obtain ⟨lim, hlim⟩ : ∃ lim, lim = if x = 2 then 1 else 50 := ⟨_, rfl⟩
    have he : (if nI x = 2 then f_X5_readLevel_30 (f_X5_read n).1 (f_X5_read n).2 (nI x) (nI d) 1 τ1 else f_X5_readLevel_30 (f_X5_read n).1 (f_X5_read n).2 (nI x) (nI d) 50 τ1) = it (fun z : Int32 × St => b_X5_readLevel_34 (f_X5_read n).1 (f_X5_read n).2 (nI x) (nI d) (nI lim) z.1 z.2) (nI 0, τ1) := by
      by_cases q2 : x = 2
      · rw [if_pos (by rw [q2]; rfl), hlim, if_pos q2]; rfl
      · rw [if_neg (fun e => q2 (by
          have := congrArg Int32.toInt e
          rw [nI_toInt (by omega), show (2 : Int32).toInt = 2 by decide] at this
          omega)), hlim, if_neg q2]; rfl
    rw [he]
    rcases a2 with ⟨j, j1, j2, s3, j3, j4, j5⟩ | ⟨j, Q, R', s3, j1, j2, j3, j4, j5, j6, j7, j8, j9⟩
    · exact ⟨τ1, lp_flt j2, Or.inl ⟨j, j1, j2, s3, j3, j4, j5⟩⟩
    · exact jl_loop hI hC hM ihL q hd (by omega) hlim ho hok 50 0 τ1 j Q R' s3 rfl j1 j2 j3 j4 j5 j6 j7 (fun q' hq' => by have := j8 q' hq'; omega) (fun _ => j8) (fun h => absurd rfl h) j9
  · have hx5 : x = 5 := by omega
    subst hx5
    rw [if_neg (by decide)]
    obtain ⟨τ1, a1, a2⟩ := ihU d τ σ P R i k hd (by omega) hc hm hb hi ho hp
    rw [a1, bd_so]
    refine ⟨τ1, rfl, ?_⟩
    rcases a2 with h | ⟨j, R', s3, j1, j2, j3, j4, j5, j6, j7⟩
    · exact Or.inl h
    · refine Or.inr ⟨j, [], R', s3, j1, j2, j3, j4, by simp; omega, ?_, j7, fun q' hq' => (by cases hq'), Or.inl (rk_le _)⟩
      rw [j6]
      exact RunB_A j4 (by omega) (fun P' e => (hok 33 P' e).1 rfl)
theorem joint (hu : u < 3) (hI : Inv A) (hC : CR A c0) (hM : MR A σ0) : ∀ n, JU A u c0 σ0 n ∧ JL A u c0 σ0 n
  | 0 => ⟨fun d τ σ P R i k h1 h2 => by omega, fun x d τ σ P R i k h1 h2 h3 => by omega⟩
  | n + 1 => ⟨ju_step hu hI hC hM (joint hu hI hC hM n).1 (joint hu hI hC hM n).2, jl_step hI hC hM (joint hu hI hC hM n).1 (joint hu hI hC hM n).2⟩
end JT
