/-! the model's piles -/
section PI
variable {A : AS} {σ0 σ : St} {P R : List Int32} {i : Nat}
theorem PR.opens {row : Nat → Int32} : ∀ {P : List Int32}, PR id row P → cnt (fun k => decide (row k = 33 ∨ row k = 40)) P.length = opn P
  | [], _ => rfl
  | c :: P, ⟨h1, h2⟩ => by
    have h1' : row P.length = c := h1
    show cnt _ P.length + (if decide (row P.length = 33 ∨ row P.length = 40) = true then 1 else 0) = opn P + (if c = 33 ∨ c = 40 then 1 else 0)
    rw [h2.opens, h1']
    by_cases q : c = 33 ∨ c = 40
    · rw [if_pos q, if_pos (decide_eq_true q)]
    · rw [if_neg q, if_neg (by rw [decide_eq_false q]; decide)]
theorem PR.any {row : Nat → Int32} : ∀ {P : List Int32}, PR id row P → anyN (fun k => decide (row k = 40)) P.length = decide (40 ∈ P)
  | [], _ => by simp [anyN]
  | c :: P, ⟨h1, h2⟩ => by
    have h1' : row P.length = c := h1
    show (anyN (fun k => decide (row k = 40)) P.length || decide (row P.length = 40)) = _
    rw [h2.any, h1', Bool.eq_iff_iff, Bool.or_eq_true, decide_eq_true_iff, decide_eq_true_iff, decide_eq_true_iff, List.mem_cons]
    exact ⟨fun h => h.elim Or.inr (fun e => Or.inl e.symm), fun h => h.elim (fun e => Or.inr e.symm) Or.inl⟩
theorem m_openMany (h : MT σ0 σ P R i) (hl : P.length < 52) : f_X12_openMany σ = some (nI (opn P)) := by
  obtain ⟨h0, h1, h2, h3, h4, h5⟩ := h
  rw [← h4.opens]
  unfold f_X12_openMany f_X12_openMany_4
  obtain ⟨_, e, _⟩ := it_ex (f := fun z : Int32 × Int32 => b_X12_openMany_4 z.1 z.2 σ) (V := Unit) (fun k _ => (nI (cnt (fun k => decide (ar σ 92 k = 33 ∨ ar σ 92 k = 40)) k), nI k)) (fun _ _ => True) 0 P.length (Nat.zero_le _) (v := ()) trivial (fun k _ _ hk _ => ⟨(), by
    show b_X12_openMany_4 _ (nI k) σ = some (.inl (nI (cnt (fun k => decide (ar σ 92 k = 33 ∨ ar σ 92 k = 40)) k + (if decide (ar σ 92 k = 33 ∨ ar σ 92 k = 40) = true then 1 else 0)), nI (k + 1)))
    unfold b_X12_openMany_4 f_X12_openMany_35 f_X12_openMany_40
    rw [fd_ar, h2, if_pos (nI_lt hk (by omega)), inb_nI (show k < 52 by omega) (by decide), chk_so, rd_ar (by omega), nI_1, nI_1]
    by_cases q1 : ar σ 92 k = 33
    · rw [if_pos q1, if_pos (decide_eq_true (Or.inl q1))]
    · by_cases q2 : ar σ 92 k = 40
      · rw [if_neg q1, if_pos q2, if_pos (decide_eq_true (Or.inr q2))]
      · rw [if_neg q1, if_neg q2, if_neg (by rw [decide_eq_false (fun h => h.elim q1 q2)]; decide), Int32.add_zero]; rfl, trivial⟩)
  refine e.trans (it_r ?_)
  show b_X12_openMany_4 _ (nI P.length) σ = _
  unfold b_X12_openMany_4
  rw [fd_ar, h2, if_neg (nI_nlt (Nat.le_refl _) (by omega))]
theorem m_hasOpen (h : MT σ0 σ P R i) (hl : P.length < 52) : f_X12_hasOpen σ = some (if 40 ∈ P then 1 else 0) := by
  obtain ⟨h0, h1, h2, h3, h4, h5⟩ := h
  have hany := h4.any
  have ev : (if 40 ∈ P then (1 : Int32) else 0) = if anyN (fun k => decide (ar σ 92 k = 40)) P.length = true then 1 else 0 := by
    rw [hany]
    by_cases q : 40 ∈ P
    · rw [if_pos q, if_pos (decide_eq_true q)]
    · rw [if_neg q, if_neg (by rw [decide_eq_false q]; decide)]
  rw [ev]
  unfold f_X12_hasOpen f_X12_hasOpen_4
  obtain ⟨_, e, _⟩ := it_ex (f := fun z : Int32 × Int32 => b_X12_hasOpen_4 z.1 z.2 σ) (V := Unit) (fun k _ => ((if anyN (fun k => decide (ar σ 92 k = 40)) k = true then 1 else 0), nI k)) (fun _ _ => True) 0 P.length (Nat.zero_le _) (v := ()) trivial (fun k _ _ hk _ => ⟨(), by
    show b_X12_hasOpen_4 (if anyN (fun k => decide (ar σ 92 k = 40)) k = true then 1 else 0) (nI k) σ = some (.inl ((if (anyN (fun k => decide (ar σ 92 k = 40)) k || decide (ar σ 92 k = 40)) = true then 1 else 0), nI (k + 1)))
    unfold b_X12_hasOpen_4 f_X12_hasOpen_27 f_X12_hasOpen_32
    rw [fd_ar, h2, if_pos (nI_lt hk (by omega)), inb_nI (show k < 52 by omega) (by decide), chk_so, rd_ar (by omega), nI_1]
    cases anyN (fun k => decide (ar σ 92 k = 40)) k with
    | true => rw [if_pos rfl, if_neg (by decide), Bool.true_or, if_pos rfl]
    | false =>
      rw [show (if false = true then (1 : Int32) else 0) = 0 from rfl, if_pos rfl, Bool.false_or]
      by_cases q : ar σ 92 k = 40
      · rw [if_pos q, if_pos (decide_eq_true q)]
      · rw [if_neg q, if_neg (by rw [decide_eq_false q]; decide)], trivial⟩)
  refine e.trans (it_r ?_)
  show b_X12_hasOpen_4 (if anyN (fun k => decide (ar σ 92 k = 40)) P.length = true then 1 else 0) (nI P.length) σ = _
  unfold b_X12_hasOpen_4
  rw [fd_ar, h2, if_neg (nI_nlt (Nat.le_refl _) (by omega)), chk_t (by split <;> decide)]
/-- what stands below -/
def low (t : Nat) (P : List Int32) : Prop := ∀ c P', P = c :: P' → rk c < t
theorem nI_rk (c : Int32) (t : Nat) (ht : t < 10) : (nI (rk c) < nI t) ↔ rk c < t := nI_ltI (by have := rk_le c; omega) (by omega)
theorem m_settles0 {t : Nat} (ht : t < 10) : ∀ {Q : List Int32} {σ : St} {R : List Int32}, MT σ0 σ (Q ++ P) R i → Q.length + P.length + R.length < 52 → (∀ q, q ∈ Q → t ≤ rk q) → low t P → ∃ σ', f_X12_settles_0 (nI t) σ = some σ' ∧ MT σ0 σ' P (setQ Q R) i
  | [], σ, R, h, hl, _, hlow => by
    refine ⟨σ, it_r ?_, h⟩
    have h' : MT σ0 σ P R i := h
    show b_X12_settles_0 (nI t) σ = _
    unfold b_X12_settles_0
    cases P with
    | nil => rw [if_neg h'.emp]
    | cons c P' =>
      have hl' : P'.length < 52 := by simp at hl; omega
      obtain ⟨t1, t2, t3, t4⟩ := h'.top hl'
      rw [if_pos t2, t1, t4, chk_so, t3, rk_m, bd_so, if_pos ((nI_rk c t ht).mpr (hlow c P' rfl))]
  | q :: Q, σ, R, h, hl, hQ, hlow => by
    have hl' : (Q ++ P).length < 52 := by simp at hl ⊢; omega
    have h' : MT σ0 σ (q :: (Q ++ P)) R i := h
    obtain ⟨t1, t2, t3, t4⟩ := h'.top hl'
    have hp := h'.pop hl'
    obtain ⟨σ1, l1, l2⟩ := hp.lay (-100 - q) (by simp at hl; omega)
    have hb : b_X12_settles_0 (nI t) σ = some (.inl σ1) := by
      unfold b_X12_settles_0
      rw [if_pos t2, t1, t4, chk_so, t3, rk_m, bd_so, if_neg (fun e => by have := (nI_rk q t ht).mp e; have := hQ q (by simp); omega), nm_so, fd_ar, hp.2.2.1, t4, chk_so, rd_ar (by omega), ar_fw_ne (by omega), ← rd_ar (by omega), t3, l1, bd_so]
    obtain ⟨σ', s1, s2⟩ := m_settles0 ht (Q := Q) l2 (by simp at hl ⊢; omega) (fun q' hq' => hQ q' (List.mem_cons_of_mem _ hq')) hlow
    exact ⟨σ', (it_l hb).trans s1, s2⟩
theorem m_settles {t : Nat} (ht : t < 10) {Q : List Int32} (h : MT σ0 σ (Q ++ P) R i) (hl : Q.length + P.length + R.length < 52) (hQ : ∀ q, q ∈ Q → t ≤ rk q) (hlow : low t P) : ∃ σ', f_X12_settles (nI t) σ = some σ' ∧ MT σ0 σ' P (setQ Q R) i := by
  cases Q with
  | nil =>
    refine ⟨σ, ?_, h⟩
    have h' : MT σ0 σ P R i := h
    unfold f_X12_settles
    cases P with
    | nil => rw [if_neg h'.emp]
    | cons c P' =>
      have hl' : P'.length < 52 := by simp at hl; omega
      obtain ⟨t1, t2, t3, t4⟩ := h'.top hl'
      rw [if_pos t2, t1, t4, chk_so, t3, rk_m, bd_so, if_pos ((nI_rk c t ht).mpr (hlow c P' rfl))]
  | cons q Q =>
    have hl' : (Q ++ P).length < 52 := by simp at hl ⊢; omega
    have h' : MT σ0 σ (q :: (Q ++ P)) R i := h
    obtain ⟨t1, t2, t3, t4⟩ := h'.top hl'
    have hp := h'.pop hl'
    obtain ⟨σ1, l1, l2⟩ := hp.lay (-100 - q) (by simp at hl; omega)
    obtain ⟨σ', s1, s2⟩ := m_settles0 ht (Q := Q) l2 (by simp at hl ⊢; omega) (fun q' hq' => hQ q' (List.mem_cons_of_mem _ hq')) hlow
    refine ⟨σ', ?_, s2⟩
    unfold f_X12_settles
    rw [if_pos t2, t1, t4, chk_so, t3, rk_m, bd_so, if_neg (fun e => by have := (nI_rk q t ht).mp e; have := hQ q (by simp); omega), nm_so, fd_ar, hp.2.2.1, t4, chk_so, rd_ar (by omega), ar_fw_ne (by omega), ← rd_ar (by omega), t3, l1, bd_so, s1]
theorem m_denies (h : MT σ0 σ P R i) (hl : P.length < 52) (hp : ∀ P', P ≠ 33 :: P') : f_X12_denies σ = some σ := by
  unfold f_X12_denies
  cases P with
  | nil => rw [if_neg h.emp]
  | cons c P' =>
    have hl' : P'.length < 52 := by simp at hl; omega
    obtain ⟨t1, t2, t3, t4⟩ := h.top hl'
    rw [if_pos t2, t1, t4, chk_so, t3, if_neg (fun e => hp P' (by rw [e]))]
theorem m_denies_eq (h : MT σ0 σ P R i) (hl : P.length + R.length < 52) : f_X12_denies σ = f_X12_denies_0 σ := by
  unfold f_X12_denies_0
  cases P with
  | nil =>
    rw [m_denies h (by simp) (fun P' => by simp)]
    refine (it_r ?_).symm
    show b_X12_denies_0 σ = _
    unfold b_X12_denies_0
    rw [if_neg h.emp]
  | cons c P' =>
    have hl' : P'.length < 52 := by simp at hl; omega
    obtain ⟨t1, t2, t3, t4⟩ := h.top hl'
    by_cases q : c = 33
    · obtain ⟨σ1, l1, l2⟩ := (h.pop hl').lay (-133) (by simp at hl; omega)
      have hb : b_X12_denies_0 σ = some (.inl σ1) := by
        unfold b_X12_denies_0
        rw [if_pos t2, t1, t4, chk_so, t3, if_pos q, nm_so, l1, bd_so]
      unfold f_X12_denies
      rw [if_pos t2, t1, t4, chk_so, t3, if_pos q, nm_so, l1, bd_so]
      exact (it_l hb).symm
    · rw [m_denies h (by omega) (fun P' e => q (by injection e))]
      refine (it_r ?_).symm
      show b_X12_denies_0 σ = _
      unfold b_X12_denies_0
      rw [if_pos t2, t1, t4, chk_so, t3, if_neg q]
theorem m_denies_33 (h : MT σ0 σ (33 :: P) R i) (hl : P.length + R.length + 1 < 52) : ∃ σ', f_X12_denies σ = f_X12_denies σ' ∧ MT σ0 σ' P (-133 :: R) i := by
  obtain ⟨t1, t2, t3, t4⟩ := h.top (by omega)
  obtain ⟨σ1, l1, l2⟩ := (h.pop (by omega)).lay (-133) (by omega)
  refine ⟨σ1, ?_, l2⟩
  rw [m_denies_eq l2 (by simp; omega)]
  unfold f_X12_denies
  rw [if_pos t2, t1, t4, chk_so, t3, if_pos rfl, nm_so, l1, bd_so]
/-! comparisons -/
theorem m_tested0 : ∀ {Q : List Int32}, MT σ0 σ (Q ++ P) R i → Q.length + P.length < 52 → (∀ q, q ∈ Q → 3 < rk q) → low 4 P → f_X12_isTested_7 (nI (Q.length + P.length) - 1) σ = f_X12_isTested_30 (nI P.length - 1) σ := by
  intro Q h hl hQ hlow
  have h4 := h.2.2.2.2.1
  clear h
  induction Q with
  | nil =>
    refine it_k ?_
    show b_X12_isTested_7 (nI ([].length + P.length) - 1) σ = _
    rw [show ([] : List Int32).length + P.length = P.length by simp]
    unfold b_X12_isTested_7
    cases P with
    | nil => rw [if_pos (by decide)]
    | cons c P' =>
      have hl' : P'.length < 52 := by simp at hl; omega
      have hc : ar σ 92 P'.length = c := h4.1
      rw [show nI (c :: P').length - 1 = nI P'.length from pk_sub (a := P'.length + 1) (b := 1) (by omega), if_neg (show ¬ nI P'.length < 0 from nI_nlt (b := 0) (by omega) (by omega)), inb_nI hl' (by decide), chk_so, rd_ar (by omega), hc, rk_m, bd_so, if_neg (fun e => by have := (nI_ltI (a := 3) (by omega) (by have := rk_le c; omega)).mp e; have := hlow c P' rfl; omega)]
  | cons q Q ih =>
    have hl' : Q.length + P.length < 52 := by simp at hl; omega
    have hc : ar σ 92 (Q ++ P).length = q := h4.1
    rw [List.length_append] at hc
    refine (it_l ?_).trans (ih hl' (fun q' hq' => hQ q' (List.mem_cons_of_mem _ hq')) h4.2)
    show b_X12_isTested_7 (nI ((q :: Q).length + P.length) - 1) σ = _
    rw [show nI ((q :: Q).length + P.length) - 1 = nI (Q.length + P.length) from (congrArg (fun n => nI n - 1) (show (q :: Q).length + P.length = Q.length + P.length + 1 by simp; omega)).trans (pk_sub (a := Q.length + P.length + 1) (b := 1) (by omega))]
    unfold b_X12_isTested_7
    rw [if_neg (show ¬ nI (Q.length + P.length) < 0 from nI_nlt (b := 0) (by omega) (by omega)), inb_nI hl' (by decide), chk_so, rd_ar (by omega), hc, rk_m, bd_so, if_pos (show (3 : Int32) < nI (rk q) from nI_lt (a := 3) (hQ q (by simp)) (by have := rk_le q; omega)), Int32.sub_eq_add_neg]
theorem m_tested {Q : List Int32} (h : MT σ0 σ (Q ++ P) R i) (hl : Q.length + P.length < 52) (hQ : ∀ q, q ∈ Q → 3 < rk q) (hlow : low 4 P) : f_X12_isTested σ = f_X12_isTested_30 (nI P.length - 1) σ := by
  unfold f_X12_isTested
  rw [fd_ar, h.2.2.1, List.length_append]
  exact m_tested0 h hl hQ hlow
theorem m_tested_no {Q : List Int32} (h : MT σ0 σ (Q ++ P) R i) (hl : Q.length + P.length < 52) (hQ : ∀ q, q ∈ Q → 3 < rk q) (hlow : low 3 P) : f_X12_isTested σ = some 0 := by
  rw [m_tested h hl hQ (fun c P' e => by have := hlow c P' e; omega)]
  unfold f_X12_isTested_30
  have h4 := h.2.2.2.2.1
  have h4P : PR id (ar σ 92) P := by
    clear h hl hQ hlow
    induction Q with
    | nil => exact h4
    | cons q Q ih => exact ih h4.2
  cases P with
  | nil => rw [if_pos (by decide)]
  | cons c P' =>
    have hl' : P'.length < 52 := by simp at hl; omega
    have hc : ar σ 92 P'.length = c := h4P.1
    rw [show nI (c :: P').length - 1 = nI P'.length from pk_sub (a := P'.length + 1) (b := 1) (by omega), if_neg (show ¬ nI P'.length < 0 from nI_nlt (b := 0) (by omega) (by omega)), inb_nI hl' (by decide), chk_so, rd_ar (by omega), hc, rk_m, bd_so, if_neg (fun e => by
      have := (nI_rk c 3 (by omega)).mpr (hlow c P' rfl)
      rw [e] at this
      exact absurd this (by decide))]
theorem m_tested_yes {Q : List Int32} {c : Int32} (h : MT σ0 σ (Q ++ c :: P) R i) (hl : Q.length + P.length + 1 < 52) (hQ : ∀ q, q ∈ Q → 3 < rk q) (hc3 : rk c = 3) : f_X12_isTested σ = some 1 := by
  rw [m_tested (P := c :: P) h (by simp; omega) hQ (fun c' P' e => by injection e with e1 e2; rw [← e1, hc3]; decide)]
  unfold f_X12_isTested_30
  have h4 := h.2.2.2.2.1
  have h4P : PR id (ar σ 92) (c :: P) := by
    clear h hl hQ
    induction Q with
    | nil => exact h4
    | cons q Q ih => exact ih h4.2
  have hc : ar σ 92 P.length = c := h4P.1
  rw [show nI (c :: P).length - 1 = nI P.length from pk_sub (a := P.length + 1) (b := 1) (by omega), if_neg (show ¬ nI P.length < 0 from nI_nlt (b := 0) (by omega) (by omega)), inb_nI (by omega) (by decide), chk_so, rd_ar (by omega), hc, rk_m, bd_so, hc3, if_pos (by decide)]
end PI
