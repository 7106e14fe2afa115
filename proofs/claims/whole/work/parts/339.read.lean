/-! the model's reading as runs -/
section RN
variable {A : AS} {σ0 σ : St} {P R : List Int32} {i u : Nat}
theorem it_un {S T : Type} (f : S → Option (S ⊕ T)) (s : S) : it f s = bd (f s) (fun z => match z with | .inl s' => it f s' | .inr t => some t) := by
  cases h : f s with
  | none => exact it_k (k := none) h
  | some z =>
    cases z with
    | inl s' => exact it_l h
    | inr t => exact it_r h
noncomputable def cE (u : Nat) (o : Option (St ⊕ (Int32 × St))) : Option (Int32 × St) := bd o fun z => match z with | .inl s => f_X12_reads_15 (nI u) s | .inr t => some t
noncomputable def RunA (u : Nat) (σ : St) : Option (Int32 × St) := cE u (f_X12_reads_29 (nI u) σ)
noncomputable def RunB (u : Nat) (σ : St) : Option (Int32 × St) := bd (f_X12_denies σ) (RunA u)
noncomputable def RunE (u : Nat) (σ : St) : Option (Int32 × St) := f_X12_reads_15 (nI u) σ
theorem RunE_eq (u : Nat) (σ : St) : RunE u σ = bd2 (f_X12_readsOne (nI u) σ) fun x s => if x = 0 then some (0, s) else RunB u s := by
  unfold RunE f_X12_reads_15
  rw [it_un]
  have hb : b_X12_reads_15 (nI u) σ = bd2 (f_X12_readsOne (nI u) σ) fun r4 σ6 => if r4 = 0 then some (.inr (0, σ6)) else bd (f_X12_denies σ6) fun σ10 => f_X12_reads_29 (nI u) σ10 := rfl
  rw [hb]
  cases f_X12_readsOne (nI u) σ with
  | none => rfl
  | some z =>
    obtain ⟨x, s⟩ := z
    rw [bd2_so, bd2_so]
    by_cases q : x = 0
    · rw [if_pos q, if_pos q]; rfl
    · rw [if_neg q, if_neg q]
      unfold RunB
      cases f_X12_denies s with
      | none => rfl
      | some s' =>
        rw [bd_so, bd_so]
        unfold RunA cE
        cases f_X12_reads_29 (nI u) s' with
        | none => rfl
        | some z => cases z <;> rfl
theorem RunB_33 (h : MT σ0 σ (33 :: P) R i) (hl : P.length + R.length + 1 < 52) : ∃ σ', RunB u σ = RunB u σ' ∧ MT σ0 σ' P (-133 :: R) i := by
  obtain ⟨σ', h1, h2⟩ := m_denies_33 h hl
  exact ⟨σ', by unfold RunB; rw [h1], h2⟩
theorem RunB_A (h : MT σ0 σ P R i) (hl : P.length < 52) (hp : ∀ P', P ≠ 33 :: P') : RunB u σ = RunA u σ := by
  unfold RunB; rw [m_denies h hl hp]; rfl
/-! after an operand -/
theorem A_81 (h : ∀ c, f_X12_byteAt (fd σ 6 13) σ = some c → c = 41 → f_X12_hasOpen σ = some 0) (hb : ∃ c, f_X12_byteAt (fd σ 6 13) σ = some c) : RunA u σ = cE u (f_X12_reads_81 (nI u) σ) := by
  obtain ⟨c, hc⟩ := hb
  unfold RunA f_X12_reads_29
  refine congrArg (cE u) (it_k ?_)
  show b_X12_reads_29 (nI u) σ = _
  unfold b_X12_reads_29
  rw [hc, bd_so]
  by_cases q : c = 41
  · rw [if_pos q, h c hc q, bd_so, if_pos rfl]
  · rw [if_neg q]
theorem MT.byte (hI : Inv A) (hM : MR A σ0) (h : MT σ0 σ P R i) (hi : i ≤ cn (aR A) 4) : f_X12_byteAt (fd σ 6 13) σ = some (bAt (aR A) i) := by
  rw [fd_ar, h.2.1]; exact m_byte hI (hM.frq h.1) hi
theorem MT.end4 (hI : Inv A) (hM : MR A σ0) (h : MT σ0 σ P R i) (hi : i ≤ cn (aR A) 4) : (fd σ 6 13 = rd σ 84 4) ↔ i = cn (aR A) 4 := by
  have b4 := hI.1.1.2.2.2.2.1
  rw [fd_ar, h.2.1, show rd σ 84 4 = nI (cn (aR A) 4) by rw [← b4.1, ← (hM.frq h.1).1]; rfl]
  constructor
  · intro e
    have := congrArg Int32.toInt e
    rw [nI_toInt (by omega), nI_toInt (by omega)] at this
    omega
  · intro e; rw [e]
theorem A_close {Q : List Int32} (hI : Inv A) (hM : MR A σ0) (h : MT σ0 σ (Q ++ 40 :: P) R i) (hl : Q.length + P.length + 1 + R.length < 52) (hi : i ≤ cn (aR A) 4) (hc : bAt (aR A) i = 41) (hQ : ∀ q, q ∈ Q → 1 ≤ rk q) : ∃ σ', RunA u σ = RunB u σ' ∧ MT σ0 σ' P (setQ Q R) (i + 1) := by
  obtain ⟨s1, e1, e2⟩ := m_settles (t := 1) (P := 40 :: P) (by omega) h (by simp; omega) hQ (fun c P' e => by injection e with e1 e2; rw [← e1]; decide)
  have hP : P.length < 52 := by omega
  have e3 := e2.pop hP
  obtain ⟨e4, e5⟩ := e3.mv
  refine ⟨_, ?_, e5⟩
  unfold RunA f_X12_reads_29 RunB
  rw [it_un]
  have ho : f_X12_hasOpen σ = some 1 := by rw [m_hasOpen h (by simp; omega), if_pos (by simp)]
  have hb : b_X12_reads_29 (nI u) σ = bd (f_X12_denies (fw (fw s1 6 12 (nI P.length)) 6 13 (nI (i + 1)))) fun s => some (.inl s) := by
    unfold b_X12_reads_29
    rw [h.byte hI hM hi, bd_so, if_pos hc, ho, bd_so, if_neg (by decide), show f_X12_settles 1 σ = some s1 from e1, bd_so, nm_so, nm_so, (e2.top hP).1, e4]
  rw [hb]
  cases f_X12_denies (fw (fw s1 6 12 (nI P.length)) 6 13 (nI (i + 1))) with
  | none => rfl
  | some s => rfl
theorem A_op {Q : List Int32} {t : Nat} (hI : Inv A) (hM : MR A σ0) (h : MT σ0 σ (Q ++ P) R i) (hl : Q.length + P.length + R.length < 52) (hi : i ≤ cn (aR A) 4) (ht : rk (bAt (aR A) i) = t) (ht0 : t ≠ 0) (h3 : t = 3 → f_X12_isTested σ = some 0) (hQ : ∀ q, q ∈ Q → t ≤ rk q) (hlow : low t P) : ∃ σ', RunA u σ = RunE u σ' ∧ MT σ0 σ' (bAt (aR A) i :: P) (setQ Q R) (i + 1) := by
  have ht5 := rk_le (bAt (aR A) i)
  obtain ⟨s1, e1, e2⟩ := m_settles (t := t) (P := P) (by omega) h hl hQ hlow
  have hP : P.length < 52 := by omega
  have e3 := e2.psh (bAt (aR A) i) hP
  refine ⟨_, ?_, e3⟩
  have hne : bAt (aR A) i ≠ 41 := fun e => by rw [e] at ht; exact ht0 (ht.symm.trans (by decide))
  have hlt : i ≠ cn (aR A) 4 := fun e => by
    rw [bAt_e (by omega)] at ht
    exact ht0 (ht.symm.trans (by decide))
  rw [A_81 (fun c hc q => by rw [h.byte hI hM hi] at hc; injection hc with hc; exact absurd (hc.trans q) hne) ⟨_, h.byte hI hM hi⟩]
  have h142 : f_X12_reads_142 (nI u) (bAt (aR A) i) (nI t) σ = some (.inl (fw (fw (fw s1 92 P.length (bAt (aR A) i)) 6 12 (nI (P.length + 1))) 6 13 (nI (i + 1)))) := by
    unfold f_X12_reads_142
    rw [e1, bd_so, fd_ar, e2.2.2.1, inb_nI hP (by decide), chk_so, nm_so, wr_nI _ (by omega), nm_so, fd_ar, ar_fw_ne (by omega), e2.2.2.1, nI_1, nm_so, fd_ar, ar_fw_eq, upd_ne (by omega), ar_fw_ne (by omega), e2.2.1, nI_1]
  have h81 : f_X12_reads_81 (nI u) σ = some (.inl (fw (fw (fw s1 92 P.length (bAt (aR A) i)) 6 12 (nI (P.length + 1))) 6 13 (nI (i + 1)))) := by
    unfold f_X12_reads_81
    rw [chk_t (by decide), if_neg (fun e => hlt ((h.end4 hI hM hi).mp e)), h.byte hI hM hi, bd_so, rk_m, bd_so, ht, if_neg (nI_ne0 (by omega) (by omega))]
    by_cases q : t = 3
    · rw [if_pos (by rw [q]; rfl), h3 q, bd_so, if_pos rfl, h142]
    · rw [if_neg (fun e => q (by
        have := congrArg Int32.toInt e
        rw [nI_toInt (by omega), show (3 : Int32).toInt = 3 by decide] at this
        omega)), h142]
  rw [h81]; rfl
theorem A_fail3 (hI : Inv A) (hM : MR A σ0) (h : MT σ0 σ P R i) (hi : i ≤ cn (aR A) 4) (ht : rk (bAt (aR A) i) = 3) (h3 : f_X12_isTested σ = some 1) : RunA u σ = some (0, σ) := by
  have hne : bAt (aR A) i ≠ 41 := fun e => by rw [e] at ht; exact absurd ht (by decide)
  have hlt : i ≠ cn (aR A) 4 := fun e => by
    rw [bAt_e (by omega)] at ht
    exact absurd ht (by decide)
  rw [A_81 (fun c hc q => by rw [h.byte hI hM hi] at hc; injection hc with hc; exact absurd (hc.trans q) hne) ⟨_, h.byte hI hM hi⟩]
  unfold f_X12_reads_81
  rw [chk_t (by decide), if_neg (fun e => hlt ((h.end4 hI hM hi).mp e)), h.byte hI hM hi, bd_so, rk_m, bd_so, ht, if_neg (by decide), if_pos (by decide), h3, bd_so, if_neg (by decide)]
  rfl
theorem A_fail0 (hI : Inv A) (hM : MR A σ0) (h : MT σ0 σ P R i) (hl : P.length < 52) (hi : i < cn (aR A) 4) (ht : rk (bAt (aR A) i) = 0) (h4 : bAt (aR A) i = 41 → ¬ 40 ∈ P) : RunA u σ = some (0, σ) := by
  have hi' : i ≤ cn (aR A) 4 := by omega
  rw [A_81 (fun c hc q => by rw [h.byte hI hM hi'] at hc; injection hc with hc; rw [m_hasOpen h hl, if_neg (h4 (hc.trans q))]) ⟨_, h.byte hI hM hi'⟩]
  unfold f_X12_reads_81
  rw [chk_t (by decide), if_neg (fun e => by have := (h.end4 hI hM hi').mp e; omega), h.byte hI hM hi', bd_so, rk_m, bd_so, ht, if_pos (by decide)]
  rfl
theorem A_endo (hI : Inv A) (hM : MR A σ0) (h : MT σ0 σ P R i) (hl : P.length < 52) (hi : i = cn (aR A) 4) (h4 : 40 ∈ P) : RunA u σ = some (0, σ) := by
  have hi' : i ≤ cn (aR A) 4 := by omega
  have hb : bAt (aR A) i = -1 := bAt_e (by omega)
  rw [A_81 (fun c hc q => by rw [h.byte hI hM hi', hb] at hc; injection hc with hc; rw [q] at hc; exact absurd hc (by decide)) ⟨_, h.byte hI hM hi'⟩]
  unfold f_X12_reads_81 f_X12_reads_94
  rw [chk_t (by decide), if_pos ((h.end4 hI hM hi').mpr hi), m_hasOpen h hl, if_pos h4, bd_so, if_neg (by decide)]
  rfl
theorem A_end (hI : Inv A) (hM : MR A σ0) (h : MT σ0 σ P R i) (hl : P.length + R.length < 52) (hi : i = cn (aR A) 4) (h4 : ¬ 40 ∈ P) (hQ : ∀ q, q ∈ P → 1 ≤ rk q) : ∃ σ', RunA u σ = some (1, σ') ∧ MT σ0 σ' [] (setQ P R) i := by
  have hi' : i ≤ cn (aR A) 4 := by omega
  have hb : bAt (aR A) i = -1 := bAt_e (by omega)
  have h' : MT σ0 σ (P ++ []) R i := by rw [List.append_nil]; exact h
  obtain ⟨s1, e1, e2⟩ := m_settles (t := 1) (P := []) (by omega) h' (by simp; omega) hQ (fun c P' e => by cases e)
  refine ⟨s1, ?_, e2⟩
  rw [A_81 (fun c hc q => by rw [h.byte hI hM hi', hb] at hc; injection hc with hc; rw [q] at hc; exact absurd hc (by decide)) ⟨_, h.byte hI hM hi'⟩]
  unfold f_X12_reads_81 f_X12_reads_94
  rw [chk_t (by decide), if_pos ((h.end4 hI hM hi').mpr hi), m_hasOpen h (by omega), if_neg h4, bd_so, if_pos rfl, show f_X12_settles 1 σ = some s1 from e1, bd_so]
  rfl
/-! an operand -/
theorem one_9 (hI : Inv A) (hM : MR A σ0) (h : MT σ0 σ P R i) (hi : i ≤ cn (aR A) 4) : f_X12_readsOne (nI u) σ = f_X12_readsOne_9 (nI u) (bAt (aR A) i) σ := by
  unfold f_X12_readsOne
  rw [h.byte hI hM hi, bd_so]
theorem one_73 {c : Int32} (h1 : c ≠ 33) (h2 : c ≠ 40) : f_X12_readsOne_9 (nI u) c σ = f_X12_readsOne_73 (nI u) c σ := by
  unfold f_X12_readsOne_9
  refine it_k ?_
  show b_X12_readsOne_9 (nI u) c σ = _
  unfold b_X12_readsOne_9
  rw [if_neg h1, if_neg h2]
theorem E_push (hI : Inv A) (hM : MR A σ0) (h : MT σ0 σ P R i) (hl : P.length < 52) (hi : i < cn (aR A) 4) (hc : bAt (aR A) i = 33 ∨ bAt (aR A) i = 40) : (opn P = 5 → RunE u σ = some (0, σ)) ∧ (opn P < 5 → ∃ σ', RunE u σ = RunE u σ' ∧ MT σ0 σ' (bAt (aR A) i :: P) R (i + 1)) := by
  have hi' : i ≤ cn (aR A) 4 := by omega
  have hb : b_X12_readsOne_9 (nI u) (bAt (aR A) i) σ = f_X12_readsOne_21 (nI u) (bAt (aR A) i) σ := by
    unfold b_X12_readsOne_9
    rcases hc with hc | hc
    · rw [if_pos hc]
    · rw [if_neg (by rw [hc]; decide), if_pos hc]
  constructor
  · intro h5
    rw [RunE_eq, one_9 hI hM h hi']
    have : f_X12_readsOne_9 (nI u) (bAt (aR A) i) σ = some (0, σ) := it_r (by
      show b_X12_readsOne_9 (nI u) (bAt (aR A) i) σ = _
      rw [hb]
      unfold f_X12_readsOne_21
      rw [m_openMany h hl, bd_so, h5, if_pos (by decide)])
    rw [this]; rfl
  · intro h5
    have e3 := h.psh (bAt (aR A) i) hl
    refine ⟨_, ?_, e3⟩
    have hstep : f_X12_readsOne_9 (nI u) (bAt (aR A) i) σ = f_X12_readsOne_9 (nI u) (bAt (aR A) (i + 1)) (fw (fw (fw σ 92 P.length (bAt (aR A) i)) 6 12 (nI (P.length + 1))) 6 13 (nI (i + 1))) := it_l (f := fun z : Int32 × St => b_X12_readsOne_9 (nI u) z.1 z.2) (s := (bAt (aR A) i, σ)) (by
      show b_X12_readsOne_9 (nI u) (bAt (aR A) i) σ = _
      rw [hb]
      unfold f_X12_readsOne_21
      have hn5 : ¬ nI (opn P) = 5 := fun e => by
        have := congrArg Int32.toInt e
        rw [nI_toInt (by omega), show (5 : Int32).toInt = 5 by decide] at this
        omega
      have a1 : fd (fw σ 92 P.length (bAt (aR A) i)) 6 12 + 1 = nI (P.length + 1) := by rw [fd_ar, ar_fw_ne (by omega), h.2.2.1, nI_1]
      have a2 : fd (fw (fw σ 92 P.length (bAt (aR A) i)) 6 12 (nI (P.length + 1))) 6 13 + 1 = nI (i + 1) := by rw [fd_ar, ar_fw_eq, upd_ne (by omega), ar_fw_ne (by omega), h.2.1, nI_1]
      rw [m_openMany h hl, bd_so, if_neg hn5, fd_ar, h.2.2.1, inb_nI hl (by decide), chk_so, nm_so, wr_nI _ (by omega), nm_so, a1, nm_so, a2, e3.byte hI hM (by omega), bd_so])
    rw [RunE_eq, RunE_eq, one_9 hI hM h hi', hstep, ← one_9 hI hM e3 (by omega)]
theorem nam_f {u v : Nat} (hu : u < 3) (hv : v < 256) : nix u v < nLen u → 97 ≤ v := by
  have : ∀ u, u < 3 → ∀ v, v < 256 → nix u v < nLen u → 97 ≤ v := by decide +kernel
  exact this u hu v hv
theorem E_bad (hu : u < 3) (hI : Inv A) (hM : MR A σ0) (h : MT σ0 σ P R i) (hi : i ≤ cn (aR A) 4) (h33 : bAt (aR A) i ≠ 33) (h40 : bAt (aR A) i ≠ 40) (hd : dig (bAt (aR A) i) = false) (hn : ∀ v, v < 256 → bAt (aR A) i = nI v → ¬ nix u v < nLen u) : RunE u σ = some (0, σ) := by
  rw [RunE_eq, one_9 hI hM h hi, one_73 h33 h40]
  have h86 : f_X12_readsOne_86 (bAt (aR A) i) (-1) σ = some (0, σ) := by
    unfold f_X12_readsOne_86
    rw [if_pos (by decide), dig_m, hd, bd_so, if_pos (by decide)]
  have : f_X12_readsOne_73 (nI u) (bAt (aR A) i) σ = some (0, σ) := by
    unfold f_X12_readsOne_73
    by_cases q : i < cn (aR A) 4
    · obtain ⟨v, hv, e⟩ := bAt_v hI.1 q
      rw [e, if_neg (show ¬ nI v < 0 from nI_nlt (b := 0) (by omega) (by omega)), m_name hu hv, if_neg (hn v hv e), bd_so, ← e, h86]
    · rw [if_pos (by rw [bAt_e q]; decide), h86]
  rw [this]; rfl
theorem E_name {v : Nat} (hu : u < 3) (hI : Inv A) (hM : MR A σ0) (h : MT σ0 σ P R i) (hl : R.length < 52) (hi : i ≤ cn (aR A) 4) (hv : v < 256) (e : bAt (aR A) i = nI v) (hn : nix u v < nLen u) : ∃ σ', RunE u σ = RunB u σ' ∧ MT σ0 σ' P ((-1 - nI (nix u v)) :: R) (i + 1) := by
  have h97 := nam_f hu hv hn
  have hne : ∀ k, k < 97 → nI v ≠ nI k := fun k hk e => by
    have := congrArg Int32.toInt e
    rw [nI_toInt (by omega), nI_toInt (by omega)] at this
    omega
  obtain ⟨s1, l1, l2⟩ := h.lay (-1 - nI (nix u v)) hl
  obtain ⟨m1, m2⟩ := l2.mv
  refine ⟨_, ?_, m2⟩
  have h6 : nLen u ≤ 6 := by unfold nLen; split <;> omega
  rw [RunE_eq, one_9 hI hM h hi, e, one_73 (hne 33 (by omega)) (hne 40 (by omega))]
  unfold f_X12_readsOne_73 f_X12_readsOne_86
  rw [if_neg (show ¬ nI v < 0 from nI_nlt (b := 0) (by omega) (by omega)), m_name hu hv, if_pos hn, bd_so, if_neg (show ¬ nI (nix u v) < 0 from nI_nlt (b := 0) (by omega) (by omega)), l1, bd_so, nm_so, m1]
  rfl
end RN
