/-! text -/
section OT
variable {A : AS} {σ : St} {u : Nat}
/-- the class's reader from its start -/
def ctx0 (u : Nat) (σ : St) : St := fw (fw (fw (fw (fw σ 5 1 (nI 52)) 5 2 (nI (u + 1))) 5 3 0) 5 4 0) 72 1 0
theorem ctx0_ct (u : Nat) (σ : St) : CT u σ (ctx0 u σ) 0 [] := by
  have f1 : FrS σ (fw σ 5 1 (nI 52)) := by
    refine ⟨fun k hk => ar_fw_ne (fun e => hk (by unfold SC; omega)), rfl, rfl, fun h => ?_, fun _ => ?_⟩
    · rw [rc_ar, ar_fw_ne (by omega), ← rc_ar]; exact h
    · rw [rc_ar, ar_fw_eq, upd_eq]; decide
  unfold ctx0
  refine ⟨⟨(((f1.tr (FrS.w (by unfold SC; omega) (by omega) (by omega))).tr (FrS.w (by unfold SC; omega) (by omega) (by omega))).tr (FrS.w (by unfold SC; omega) (by omega) (by omega))).tr (FrS.w (by unfold SC; omega) (by omega) (by omega)), ?_, ?_⟩, ?_, ?_, ?_, trivial⟩
  · rw [ar_fw_ne (by omega), ar_fw_eq, upd_ne (by omega), ar_fw_eq, upd_ne (by omega), ar_fw_eq, upd_ne (by omega), ar_fw_eq, upd_eq]
  · rw [ar_fw_ne (by omega), ar_fw_eq, upd_ne (by omega), ar_fw_eq, upd_ne (by omega), ar_fw_eq, upd_eq]
  · rw [ar_fw_ne (by omega), ar_fw_eq, upd_ne (by omega), ar_fw_eq, upd_eq]; rfl
  · rw [ar_fw_ne (by omega), ar_fw_eq, upd_eq]
  · rw [ar_fw_eq, upd_eq]; rfl
def mtx0 (σ : St) : St := fw (fw (fw σ 6 10 0) 6 12 0) 6 13 0
theorem mtx0_mt (σ : St) : MT σ (mtx0 σ) [] [] 0 := by
  unfold mtx0
  refine ⟨((FrQ.w6 (by omega)).tr (FrQ.w6 (by omega))).tr (FrQ.w6 (by omega)), ?_, ?_, ?_, trivial, trivial⟩
  · rw [ar_fw_eq, upd_eq]; rfl
  · rw [ar_fw_eq, upd_ne (by omega), ar_fw_eq, upd_eq]; rfl
  · rw [ar_fw_eq, upd_ne (by omega), ar_fw_eq, upd_ne (by omega), ar_fw_eq, upd_eq]; rfl
/-- how both end -/
def Bad (A : AS) (u : Nat) (τ σ0 : St) : Prop := ∃ j, j ≤ cn (aR A) 4 ∧ ar τ 5 3 = nI j ∧ (ar τ 5 4 = 1 ∨ (ar τ 5 4 = 0 ∧ j ≠ cn (aR A) 4)) ∧ ∃ σ', f_X12_reads (nI u) σ0 = some (0, σ') ∧ FrQ σ0 σ' ∧ ar σ' 6 13 = nI j
def Good (A : AS) (u : Nat) (τ σ0 : St) : Prop := ∃ R, ar τ 5 3 = nI (cn (aR A) 4) ∧ ar τ 5 4 = 0 ∧ ar τ 72 1 = nI R.length ∧ PR (cdr u) (ar τ 73) R ∧ R.length ≤ 50 ∧ PF u R 1 ∧ ∃ σ', f_X12_reads (nI u) σ0 = some (1, σ') ∧ FrQ σ0 σ' ∧ ar σ' 6 10 = nI R.length ∧ PR id (ar σ' 91) R
theorem reads_both (hu : u < 3) (hI : Inv A) (hC : CR A σ) (hM : MR A σ) : ∃ τ, f_X5_readLevel 60 0 0 (ctx0 u σ) = some τ ∧ FrS σ τ ∧ ar τ 5 1 = nI 52 ∧ ∀ σ0, MR A σ0 → Bad A u τ σ0 ∨ Good A u τ σ0 := by
  have b4 := hI.1.1.2.2.2.2.1
  have key : ∀ σ0, MR A σ0 → ∃ τ, f_X5_readLevel 60 0 0 (ctx0 u σ) = some τ ∧ FrS σ τ ∧ ar τ 5 1 = nI 52 ∧ (Bad A u τ σ0 ∨ Good A u τ σ0) := by
    intro σ0 hm
    obtain ⟨τ, a1, a2⟩ := (joint hu hI hC hm 60).2 0 0 (ctx0 u σ) (mtx0 σ0) [] [] 0 0 (by omega) (by omega) (by omega) (ctx0_ct u σ) (mtx0_mt σ0) (by simp) (by omega) rfl rfl (fun c P' e => by cases e)
    have hr : f_X12_reads (nI u) σ0 = RunE u (mtx0 σ0) := rfl
    rcases a2 with ⟨j, j1, j2, s3, j3, j4, j5⟩ | ⟨j, Q, R', s3, j1, j2, j3, j4, j5, j6, j7, j8, j9⟩
    · exact ⟨τ, a1, j2.1.1, j2.1.2.1, Or.inl ⟨j, j1, j2.2.1, Or.inl j2.2.2.1, s3, hr.trans j3, j4, j5⟩⟩
    · rw [List.append_nil] at j4
      have hl : Q.length + R'.length ≤ j := by simp at j5; omega
      have h40 : ¬ 40 ∈ Q := fun h => by have := j8 40 h; rw [show rk 40 = 0 by decide] at this; omega
      refine ⟨τ, a1, j3.1.1, j3.1.2.1, ?_⟩
      by_cases qe : j = cn (aR A) 4
      · obtain ⟨s4, w1, w2⟩ := A_end (u := u) hI hm j4 (by omega) qe h40 (fun q hq => by have := j8 q hq; omega)
        refine Or.inr ⟨setQ Q R', by rw [← qe]; exact j3.2.1, j3.2.2.1, j3.2.2.2.1, j3.2.2.2.2, by rw [setQ_len]; omega, j7, s4, (hr.trans j6).trans w1, w2.1, w2.2.2.2.1, w2.2.2.2.2.2⟩
      · have hrun : RunA u s3 = some (0, s3) := by
          rcases j9 with h0 | ⟨h3, _, Q1, c2', Q2, hQ, hQ1, hc2⟩
          · exact A_fail0 hI hm j4 (by omega) (by omega) (by omega) (fun _ => h40)
          · refine A_fail3 hI hm j4 j2 h3 ?_
            rw [hQ] at j4 hl
            exact m_tested_yes j4 (by simp at hl; omega) hQ1 hc2
        exact Or.inl ⟨j, j2, j3.2.1, Or.inr ⟨j3.2.2.1, qe⟩, s3, (hr.trans j6).trans hrun, j4.1, j4.2.1⟩
  obtain ⟨τ, a1, a2, a3, _⟩ := key σ hM
  refine ⟨τ, a1, a2, a3, fun σ0 hm => ?_⟩
  obtain ⟨τ2, b1, _, _, b2⟩ := key σ0 hm
  rw [a1] at b1
  injection b1 with b1
  rw [b1]; exact b2
theorem bad_good {τ σ0 σ1 : St} (hI : Inv A) (h : Bad A u τ σ0) (h2 : Good A u τ σ1) : False := by
  have b4 := hI.1.1.2.2.2.2.1
  obtain ⟨j, j1, j2, j3, _⟩ := h
  obtain ⟨R, r1, r2, _⟩ := h2
  rcases j3 with j3 | ⟨_, j3⟩
  · rw [j3] at r2; exact absurd r2 (by decide)
  · rw [j2] at r1
    have := congrArg Int32.toInt r1
    rw [nI_toInt (by omega), nI_toInt (by omega)] at this
    omega
theorem pfx_cg {u : Nat} {f g : Nat → Int32} : ∀ {k m : Nat}, (∀ i, i < k → g i = f i) → pfx u f k m → pfx u g k m
  | 0, _, _, h => h
  | k + 1, m, e, h => by
    have e1 := e k (by omega)
    rcases h with ⟨v, h1, h2, j, h3, h4⟩ | ⟨n, h1, h2, j, h3, h4⟩ | ⟨h1, h2, h3⟩ | ⟨s, h1, h2, h3, h4⟩
    · exact Or.inl ⟨v, h1, e1.trans h2, j, h3, pfx_cg (fun i hi => e i (by omega)) h4⟩
    · exact Or.inr (Or.inl ⟨n, h1, e1.trans h2, j, h3, pfx_cg (fun i hi => e i (by omega)) h4⟩)
    · exact Or.inr (Or.inr (Or.inl ⟨e1.trans h1, h2, pfx_cg (fun i hi => e i (by omega)) h3⟩))
    · exact Or.inr (Or.inr (Or.inr ⟨s, h1, e1.trans h2, h3, pfx_cg (fun i hi => e i (by omega)) h4⟩))
theorem pr_both {g : Int32 → Int32} {f f' : Nat → Int32} : ∀ {R : List Int32}, PR g f R → PR id f' R → ∀ k, k < R.length → f k = g (f' k)
  | [], _, _, k, hk => absurd hk (Nat.not_lt_zero k)
  | c :: R, ⟨h1, h2⟩, ⟨h3, h4⟩, k, hk => by
    by_cases q : k = R.length
    · subst q
      have h3' : f' R.length = c := h3
      rw [h1, h3']
    · exact pr_both h2 h4 k (by simp at hk; omega)
/-! what the row becomes -/
theorem tx_IR {r r' : Nat → Int32} (h : IR r) (e4 : r' 4 = 0) (e : ∀ k, k ≠ 4 → k < 310 → r' k = r k) (hx : ITx r') : IR r' := by
  have hi := h.1
  have b0 := hi.1.2.2
  have b1 := hi.2.1.2
  have b2 := hi.2.2.1.2
  have b3 := hi.2.2.2.1.2
  obtain ⟨i1, i2, i3, i4, i5, i6, i7⟩ := h
  have e4' : r' 4 = nI 0 := e4
  refine ⟨ICn.of ((e 0 (by omega) (by omega)).trans hi.1.1) hi.1.2 ((e 1 (by omega) (by omega)).trans hi.2.1.1) hi.2.1.2 ((e 2 (by omega) (by omega)).trans hi.2.2.1.1) hi.2.2.1.2 ((e 3 (by omega) (by omega)).trans hi.2.2.2.1.1) hi.2.2.2.1.2 e4' (by omega) ((e 5 (by omega) (by omega)).trans hi.2.2.2.2.2.1) hi.2.2.2.2.2.2, i2.cg (e 1 (by omega) (by omega)) (e 3 (by omega) (by omega)) (fun k _ _ => e k (by omega) (by omega)), i3.cg (e 0 (by omega) (by omega)) (e 1 (by omega) (by omega)) (e 2 (by omega) (by omega)) (fun k _ _ => e k (by omega) (by omega)), i4.cg (e 2 (by omega) (by omega)) (fun k _ _ => e k (by omega) (by omega)), i5.cg (e 3 (by omega) (by omega)) (fun k _ _ => e k (by omega) (by omega)), fun i hi' => ?_, hx⟩
  rw [cn_nI e4' (by omega)] at hi'
  omega
theorem tx_CR {r' : Nat → Int32} {τ τ' : St} (hI : Inv A) (hC : CR A τ) (e4 : r' 4 = 0) (e : ∀ k, k ≠ 4 → k < 310 → r' k = aR A k) (h52 : ar τ' 52 1 = 0) (eu : ∀ k, ¬ (52 ≤ k ∧ k ≤ 61 ∧ k ≠ 54 ∧ k ≠ 55) → ar τ' k = ar τ k) (h1 : τ'.1 = τ.1) (hx : CTx 52 r' τ') : CR (sR A r') τ' := by
  have hi := hI.1.1
  have b1 := hi.2.1.2
  have b2 := hi.2.2.1.2
  have b3 := hi.2.2.2.1.2
  have b5 := hi.2.2.2.2.2.2
  obtain ⟨c1, c2, c3, c4, c5, c6, c7, c8⟩ := hC.1
  have e4' : r' 4 = nI 0 := e4
  refine hC.row' ⟨c1.cg (eu 1 (by omega)) (fun k _ => e k (by omega) (by omega)), ⟨h52.trans e4.symm, fun i h => ?_⟩, c3.cg ⟨eu 54 (by omega), eu 55 (by omega)⟩ (e 5 (by omega) (by omega)) (fun k _ _ => e k (by omega) (by omega)), hx, c5.cg (eu 11 (by omega)) (e 1 (by omega) (by omega)) (fun k _ _ => e k (by omega) (by omega)), c6.cg (eu 10 (by omega)) (fun k _ _ => eu k (by omega)) (by omega) (e 1 (by omega) (by omega)) (fun p _ k _ _ => e k (by omega) (by omega)), c7.cg (fun k _ _ => eu k (by omega)) (e 2 (by omega) (by omega)) (fun k _ _ => e k (by omega) (by omega)), c8.cg (fun k _ _ => eu k (by omega)) (e 3 (by omega) (by omega)) (fun k _ _ => e k (by omega) (by omega))⟩ (fun k hk _ => eu k (by unfold PC at hk; omega)) h1 (eu 10 (by omega))
  rw [cn_nI e4' (by omega)] at h
  omega
theorem op_text (x : Int32) (hI : Inv A) (hC : CR A σ) (hM : MR A σ) : Opn A σ (f_X11_text x) (f_X12_text x) := by
  have hi := hI.1.1
  have b1 := hi.2.1.2
  have b2 := hi.2.2.1.2
  have b4 := hi.2.2.2.2.1
  have b6 : cn (aR A) 362 ≤ 50 := (hI.1.2.2.2.2.2.2 1 (by decide)).2.1
  rcases wi_cases x (n := 3) (by omega) with g0 | ⟨g1, u, hu, rfl⟩
  · refine Opn.err 1 (by decide) hI hC hM ?_ (fun σ hm => ?_)
    · unfold f_X11_text; rw [w_3, bd_so, g0, if_pos rfl]; exact bd2_id _
    · unfold f_X12_text; rw [m_in3, bd_so, g0, if_pos rfl]; exact bd2_id _
  obtain ⟨τ, a1, a2, a3, a4⟩ := reads_both hu hI hC hM
  have hCτ := hC.frs a2
  have hnm : f_X5_namesOf (nI u) = some (u + 1) := by
    have : ∀ u, u < 3 → f_X5_namesOf (nI u) = some (u + 1) := by decide
    exact this u hu
  have e52 : rc τ 5 1 = 52 := by rw [rc_ar, a3]; rfl
  have e521 : fd τ (rc τ 5 1) 1 = nI (cn (aR A) 4) := by rw [e52, fd_ar, hCτ.1.2.1.1, b4.1]
  have hrd : ∀ (z : Int32), (if fd τ 5 4 = 0 then (chk (isRow (rc τ 5 1)) (if fd τ 5 3 = fd τ (rc τ 5 1) 1 then some ((1 : Int32), τ) else some (0, τ))) else some (0, τ)) = some (z, τ) → f_X5_reads (nI u) σ = some (z, τ) := by
    intro z hz
    unfold f_X5_reads
    rw [nm_so, hnm, bd_so, chk_t (decide_eq_true (by omega)), nm_so, nm_so, nm_so, nm_so, show fw (fw (fw (fw (fw σ 5 1 (nI 52)) 5 2 (nI (u + 1))) 5 3 0) 5 4 0) 72 1 0 = ctx0 u σ from rfl, a1, bd_so]
    exact hz
  have hrow : isRow (rc τ 5 1) = true := by rw [e52]; decide
  have f52 : FrC σ (fw τ 52 1 0) := a2.frc.tr (FrC.fw (by omega))
  have h8 : ∀ k, k ≠ 52 → ar (fw τ 52 1 0) k = ar τ k := fun k hk => ar_fw_ne hk
  have cx := hCτ.1.2.2.2.1
  have ix := hI.1.2.2.2.2.2.2
  rcases a4 σ hM with hbad | hgood
  · -- refused
    obtain ⟨j, j1, j2, j3, _⟩ := hbad
    have hr : f_X5_reads (nI u) σ = some (0, τ) := hrd 0 (by
      rcases j3 with j3 | ⟨j3, j4⟩
      · rw [if_neg (by rw [fd_ar, j3]; decide)]
      · rw [if_pos (by rw [fd_ar, j3]), hrow, chk_so, e521, if_neg (fun e => j4 (by
          rw [fd_ar, j2] at e
          have := congrArg Int32.toInt e
          rw [nI_toInt (by omega), nI_toInt (by omega)] at this
          omega))])
    obtain ⟨r', hr'⟩ : ∃ r', r' = upd (aR A) 4 0 := ⟨_, rfl⟩
    have e4 : r' 4 = 0 := by rw [hr', upd_eq]
    have ee : ∀ k, k ≠ 4 → r' k = aR A k := fun k hk => by rw [hr', upd_ne hk]
    refine Opn.mk' (-10 - nI j) (sR A r') (fw τ 52 1 0) ?_ ?_ f52 (by show τ.1 ≤ _; rw [a2.2.1]; exact Nat.le_succ _) ?_ hM (fun σ1 hm => ?_)
    · unfold f_X11_text
      rw [w_3, bd_so, g1, if_neg (by decide), hr, bd2_so, nm_so, if_pos rfl, fd_ar, h8 5 (by omega), j2]
    · exact tx_CR hI hCτ e4 (fun k h _ => ee k h) (by rw [ar_fw_eq, upd_eq]) (fun k hk => h8 k (by omega)) rfl (cx.cg (fun k _ _ => h8 k (by omega)) (fun k hk => ee k (by omega)))
    · exact hI.row (tx_IR hI.1 e4 (fun k h _ => ee k h) (ix.cg (fun k hk => ee k (by omega))))
    · rcases a4 σ1 hm with ⟨j', y1, y2, y3, s, y4, y5, y6⟩ | hg
      · have hjj : nI j' = nI j := y2.symm.trans j2
        have hms := hm.frq y5
        refine ⟨fw s 84 4 0, ?_, ?_, y5.1.tr (FrM.fw (by omega))⟩
        · unfold f_X12_text
          rw [m_in3, bd_so, g1, if_neg (by decide), y4, bd2_so, chk_t (by decide), nm_so, if_pos rfl, show wr s 84 4 0 = fw s 84 4 0 from rfl, fd_ar, ar_fw_ne (by omega), y6, hjj]
        · refine hms.row (by rw [ar_fw_eq, hms.1, hr']) (fun k hk => ar_fw_ne (by omega)) (by rw [ar_fw_ne (by omega)]) (by rw [ar_fw_ne (by omega)]) (hms.lay ⟨ee 1 (by omega), ee 2 (by omega), fun p hp => ⟨ee _ (by omega), ee _ (by omega)⟩, fun k _ _ => ee k (by omega), fun k _ _ => ee k (by omega)⟩ (fun k hk => ar_fw_ne (by omega)) (by rw [ar_fw_ne (by omega)]))
      · exact (bad_good hI ⟨j, j1, j2, j3, by assumption⟩ hg).elim
  · -- taken
    obtain ⟨R0, r1, r2, r3, r4, r5, r6, _⟩ := id hgood
    obtain ⟨n, hn⟩ : ∃ n, n = R0.length := ⟨_, rfl⟩
    rw [← hn] at r3 r5
    have hr : f_X5_reads (nI u) σ = some (1, τ) := hrd 1 (by
      rw [if_pos (by rw [fd_ar, r2]), hrow, chk_so, e521, if_pos (by rw [fd_ar, r1])])
    obtain ⟨τ2, hτ2⟩ : ∃ s, s = fw (stF (fw τ 52 1 0) (57 + 2 * u) 0 n (ar τ 73)) (56 + 2 * u) 1 (nI n) := ⟨_, rfl⟩
    have hbec : f_X7_become (56 + 2 * u) 72 (fw τ 52 1 0) = some τ2 := by
      unfold f_X7_become
      have hr0 : isRow (56 + 2 * u) = true := decide_eq_true (by omega)
      have hal : ∀ u, u < 3 → alen (56 + 2 * u + 1) = 50 := by decide
      rw [show isRow 72 = true from by decide, chk_so, hr0, chk_so, fd_ar, h8 72 (by omega), r3, cpok0 (show n ≤ alen (72 + 1) from r5) (by rw [hal u hu]; exact r5) (by omega), chk_so, nm_so, cpy0 (by omega), nm_so, fd_ar, ar_stF_ne (by omega), h8 72 (by omega), r3, h8 73 (by omega), hτ2, show 56 + 2 * u + 1 = 57 + 2 * u by omega]
    have h11 : f_X11_text (nI u) σ = some (1, τ2) := by
      unfold f_X11_text
      rw [w_3, bd_so, g1, if_neg (by decide), hr, bd2_so, nm_so, if_neg (by decide), inb_nI hu (by decide), chk_so, nI_clamp (by omega), hbec, bd_so]
    have hτu : ∀ k, k ≠ 52 → k ≠ 56 + 2 * u → k ≠ 57 + 2 * u → ar τ2 k = ar τ k := fun k q1 q2 q3 => by rw [hτ2, ar_fw_ne q2, ar_stF_ne q3, h8 k q1]
    have fτ2 : FrC σ τ2 := by
      refine a2.frc.tr ⟨fun k q1 q2 => hτu k (by omega) (by omega) (by omega), hτu 6 (by omega) (by omega) (by omega), ?_⟩
      rw [hτ2]; rfl
    have h21 : τ2.1 = τ.1 := by rw [hτ2]; rfl
    have hm2 : MR A τ2 := hM.fr fτ2
    rcases a4 τ2 hm2 with hbad | ⟨R, z1, z2, z3, z4, z5, z6, s, z7, z8, z9, z10⟩
    · exact (bad_good hI hbad hgood).elim
    have hRn : R.length = n := by
      have := congrArg Int32.toInt (z3.symm.trans r3)
      rw [nI_toInt (by omega), nI_toInt (by omega)] at this
      omega
    have hms := hm2.frq z8
    -- the model's loop
    obtain ⟨σ11, h11'⟩ : ∃ t, t = fw (fw s 84 4 0) 84 (310 + 52 * u) (nI n) := ⟨_, rfl⟩
    have q310 : (310 + (52 * nI u) : Int32) = nI (310 + 52 * u) := by rw [show (310 : Int32) = nI 310 from rfl, show (52 : Int32) = nI 52 from rfl, pk_mul, nI_add]
    obtain ⟨v, k1, k2, k3, k4, k5⟩ := it_ex (f := fun z : Int32 × St => b_X12_text_62 (nI (310 + 52 * u)) z.1 z.2) (V := St) (fun k v => (nI k, v)) (fun k v => (∀ c, c ≠ 84 → ar v c = ar σ11 c) ∧ v.1 = σ11.1 ∧ (∀ q, (q < 311 + 52 * u ∨ 311 + 52 * u + k ≤ q) → ar v 84 q = ar σ11 84 q) ∧ ∀ q, q < k → ar v 84 (311 + 52 * u + q) = ar σ11 91 q) 0 n (Nat.zero_le _) (v := σ11) ⟨fun _ _ => rfl, rfl, fun _ _ => rfl, fun q hq => absurd hq (Nat.not_lt_zero q)⟩ (fun k v _ hk hv => by
      obtain ⟨v1, v2, v3, v4⟩ := hv
      refine ⟨fw v 84 (311 + 52 * u + k) (ar σ11 91 k), ?_, fun c hc => by rw [ar_fw_ne hc]; exact v1 c hc, v2, fun q hq => ?_, fun q hq => ?_⟩
      · show b_X12_text_62 (nI (310 + 52 * u)) (nI k) v = _
        unfold b_X12_text_62
        rw [fd_ar, v1 6 (by omega), h11', ar_fw_ne (by omega), ar_fw_ne (by omega), z9, hRn, if_pos (nI_lt hk (by omega)), inb_nI (show k < 52 by omega) (by decide), chk_so, show nI (310 + 52 * u) + 1 + nI k = nI (311 + 52 * u + k) by rw [nI_1, nI_add]; exact congrArg nI (by omega), inb_nI (show 311 + 52 * u + k < 466 by omega) (by decide), chk_so, nm_so, wr_nI _ (by omega), rd_ar (by omega), v1 91 (by omega), nI_1, h11']
      · rw [ar_fw_eq, upd_ne (by omega)]; exact v3 q (by omega)
      · rw [ar_fw_eq]
        by_cases qq : q = k
        · rw [qq, upd_eq]
        · rw [upd_ne (by omega)]; exact v4 q (by omega))
    have h12 : f_X12_text (nI u) τ2 = some (1, fw v 6 4 0) := by
      unfold f_X12_text
      rw [m_in3, bd_so, g1, if_neg (by decide), z7, bd2_so, chk_t (by decide), nm_so, if_neg (by decide), q310, inb_nI (show 310 + 52 * u < 466 by omega) (by decide), chk_so, nm_so, wr_nI _ (by omega), show wr s 84 4 0 = fw s 84 4 0 from rfl, fd_ar, ar_fw_ne (by omega), z9, hRn, ← h11']
      unfold f_X12_text_62
      refine k1.trans (it_k ?_)
      show b_X12_text_62 (nI (310 + 52 * u)) (nI n) v = _
      unfold b_X12_text_62 f_X12_text_95
      rw [fd_ar, k2 6 (by omega), h11', ar_fw_ne (by omega), ar_fw_ne (by omega), z9, hRn, if_neg (nI_nlt (Nat.le_refl _) (by omega)), nm_so]
    -- the row
    obtain ⟨r', hr'⟩ : ∃ r', r' = ar v 84 := ⟨_, rfl⟩
    have hbase : ∀ q, ar σ11 84 q = upd (upd (aR A) 4 0) (310 + 52 * u) (nI n) q := fun q => by rw [h11', ar_fw_eq, ar_fw_eq, hms.1]
    have er : ∀ q, q < 310 + 52 * u ∨ 362 + 52 * u ≤ q → q ≠ 4 → r' q = aR A q := fun q hq h4 => by rw [hr', k4 q (by omega), hbase, upd_ne (by omega), upd_ne h4]
    have e4 : r' 4 = 0 := by rw [hr', k4 4 (by omega), hbase, upd_ne (by omega), upd_eq]
    have en : r' (310 + 52 * u) = nI n := by rw [hr', k4 _ (by omega), hbase, upd_eq]
    have ein : ∀ q, q < n → r' (311 + 52 * u + q) = ar s 91 q := fun q hq => by rw [hr', k5 q hq, h11', ar_fw_ne (by omega), ar_fw_ne (by omega)]
    have hPR : PR id (fun q => r' (311 + 52 * u + q)) R := z10.cg (fun k hk => ein k (by omega))
    have hcn : cn r' (310 + 52 * u) = n := cn_nI en (by omega)
    have hITx : ITx r' := by
      intro w hw
      by_cases qw : w = u
      · subst qw
        rw [hcn]
        refine ⟨en, r5, Or.inr ?_⟩
        have := z6.pfx hPR
        rw [hRn] at this
        exact this
      · have ew : ∀ q, 310 + 52 * w ≤ q → q < 362 + 52 * w → r' q = aR A q := fun q h1 h2 => er q (by omega) (by omega)
        obtain ⟨y1, y2, y3⟩ := ix w hw
        rw [cn_cong (ew (310 + 52 * w) (by omega) (by omega)), ew (310 + 52 * w) (by omega) (by omega)]
        refine ⟨y1, y2, ?_⟩
        rcases y3 with y3 | y3
        · exact Or.inl y3
        · exact Or.inr (pfx_cg (fun k hk => ew _ (by omega) (by omega)) y3)
    have hCTx : CTx 52 r' τ2 := by
      intro w hw
      by_cases qw : w = u
      · subst qw
        rw [hcn]
        refine ⟨?_, fun q hq => ?_⟩
        · rw [en, hτ2, show 52 + 4 + 2 * w = 56 + 2 * w by omega, ar_fw_eq, upd_eq]
        · rw [ein q hq, hτ2, show 52 + 5 + 2 * w = 57 + 2 * w by omega, ar_fw_ne (by omega), ar_stF_eq, fil_in (Nat.zero_le _) (by omega), Nat.sub_zero]
          exact pr_both z4 z10 q (by omega)
      · have ew : ∀ q, 310 + 52 * w ≤ q → q < 362 + 52 * w → r' q = aR A q := fun q h1 h2 => er q (by omega) (by omega)
        obtain ⟨y1, y2, _⟩ := ix w hw
        have cw := cx w hw
        rw [cn_cong (ew (310 + 52 * w) (by omega) (by omega)), ew (310 + 52 * w) (by omega) (by omega), hτu (52 + 4 + 2 * w) (by omega) (by omega) (by omega), hτu (52 + 5 + 2 * w) (by omega) (by omega) (by omega)]
        exact ⟨cw.1, fun q hq => by rw [ew _ (by omega) (by omega)]; exact cw.2 q hq⟩
    have fm : FrM τ2 (fw v 6 4 0) := by
      refine z8.1.tr ⟨fun k hk h6 => ?_, k3.trans (by rw [h11']; rfl)⟩
      rw [ar_fw_ne h6, k2 k (by omega), h11', ar_fw_ne (by omega), ar_fw_ne (by omega)]
    have hcr : CR (sR A r') τ2 := tx_CR hI hCτ e4 (fun k h1 h2 => er k (by omega) h1) (by rw [hτ2, ar_fw_ne (by omega), ar_stF_ne (by omega), ar_fw_eq, upd_eq]) (fun k hk => hτu k (by omega) (by omega) (by omega)) h21 hCTx
    refine ⟨1, sR A r', τ2, fw v 6 4 0, h11, h12, hI.row (tx_IR hI.1 e4 (fun k h1 h2 => er k (by omega) h1) hITx), hcr.fr fm, ?_, ?_⟩
    · have ev : ∀ k, k ≠ 84 → k ≠ 6 → ar (fw v 6 4 0) k = ar s k := fun k h1 h2 => by rw [ar_fw_ne h2, k2 k h1, h11', ar_fw_ne h1, ar_fw_ne h1]
      have ev6 : ∀ j, j ≠ 4 → ar (fw v 6 4 0) 6 j = ar s 6 j := fun j hj => by rw [ar_fw_eq, upd_ne hj, k2 6 (by omega), h11', ar_fw_ne (by omega), ar_fw_ne (by omega)]
      exact hms.row (by rw [ar_fw_ne (by omega), hr']) (fun k hk => ev k (by omega) (by omega)) (ev6 2 (by omega)) (ev6 27 (by omega)) (Or.inl (by rw [ar_fw_eq, upd_eq]))
    · rw [fm.2, h21, a2.2.1]; exact Nat.le_succ _
end OT
