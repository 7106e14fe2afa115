/-! how many are on -/
def cnt (P : Nat → Bool) : Nat → Nat
  | 0 => 0
  | n + 1 => cnt P n + (if P n = true then 1 else 0)
theorem lp_cnt (P : Nat → Bool) : ∀ n, lp (fun e (s : Int32) => if P e = true then s + 1 else s) n 0 = nI (cnt P n)
  | 0 => rfl
  | n + 1 => by
    show (if P n = true then lp _ n 0 + 1 else lp _ n 0) = nI (cnt P n + (if P n = true then 1 else 0))
    rw [lp_cnt P n, nI_1]
    split <;> rfl
theorem cnt_cong {P Q : Nat → Bool} : ∀ {n : Nat}, (∀ k, k < n → P k = Q k) → cnt P n = cnt Q n
  | 0, _ => rfl
  | n + 1, h => by
    show cnt P n + _ = cnt Q n + _
    rw [cnt_cong (fun k hk => h k (Nat.lt_succ_of_lt hk)), h n (Nat.lt_succ_self n)]
theorem cnt_f : ∀ n, cnt (fun _ => false) n = 0
  | 0 => rfl
  | n + 1 => by show cnt _ n + 0 = 0; rw [cnt_f n]
theorem cnt_one {P Q : Nat → Bool} {p : Nat} (h1 : P p = false) (h2 : Q p = true) (h3 : ∀ k, k ≠ p → Q k = P k) : ∀ {n : Nat}, p < n → cnt Q n = cnt P n + 1
  | 0, h => absurd h (Nat.not_lt_zero p)
  | n + 1, h => by
    show cnt Q n + (if Q n = true then 1 else 0) = cnt P n + (if P n = true then 1 else 0) + 1
    by_cases q : p = n
    · subst q
      rw [h1, h2, cnt_cong (P := Q) (Q := P) (fun k hk => h3 k (by omega))]
      rfl
    · rw [cnt_one h1 h2 h3 (n := n) (by omega), h3 n (fun e => q e.symm)]
      omega
theorem cnt_inj {P : Nat → Bool} {w : Nat → Nat} {m : Nat} : ∀ {n : Nat}, (∀ e, e < n → P e = true → w e < m) → (∀ e f, e < n → f < n → P e = true → P f = true → w e = w f → e = f) → cnt P n = cnt (fun p => anyN (fun e => P e && decide (w e = p)) n) m
  | 0, _, _ => (cnt_f m).symm
  | n + 1, hw, hi => by
    have ih := cnt_inj (P := P) (w := w) (m := m) (n := n) (fun e he => hw e (by omega)) (fun e f he hf => hi e f (by omega) (by omega))
    show cnt P n + (if P n = true then 1 else 0) = cnt (fun p => anyN (fun e => P e && decide (w e = p)) n || (P n && decide (w n = p))) m
    by_cases q : P n = true
    · rw [if_pos q, ih]
      refine (cnt_one (p := w n) ?_ ?_ (fun k hk => ?_) (hw n (by omega) q)).symm
      · refine anyN_f.mpr (fun k hk => ?_)
        cases e : P k
        · rfl
        · rw [Bool.true_and]
          refine decide_eq_false (fun e2 => ?_)
          have := hi k n (by omega) (by omega) e q e2
          omega
      · show (anyN _ n || (P n && decide (w n = w n))) = true
        rw [q, decide_eq_true rfl]
        simp
      · show (anyN _ n || (P n && decide (w n = k))) = anyN _ n
        rw [decide_eq_false (fun e => hk e.symm)]
        simp
    · rw [if_neg q, ih, Nat.add_zero]
      refine cnt_cong (fun k hk => ?_)
      have e : P n = false := by cases e : P n <;> first | rfl | exact absurd e q
      rw [e]
      simp
def cov (r : Nat → Int32) (l : Int32) (e : Nat) : Bool := decide (¬ l < r (61 + 4 * e) ∧ ¬ r (62 + 4 * e) < l)
section ON
variable {r : Nat → Int32} {σ : St}
theorem e_covers {e : Nat} (l : Int32) (h40 : cn r 2 ≤ 40) (he : CEn 10 r σ) (h : e < cn r 2) : f_X4_covers (nI e) l σ = some (if cov r l e = true then 1 else 0) := by
  unfold f_X4_covers cov
  rw [inb_nI (show e < 40 by omega) (by decide), chk_so, rd_ar (by omega), rd_ar (by omega), (he e h).2.1, (he e h).2.2.1]
  by_cases q1 : l < r (61 + 4 * e)
  · rw [if_pos q1, if_neg]
    intro h; exact (of_decide_eq_true h).1 q1
  · rw [if_neg q1]
    by_cases q2 : r (62 + 4 * e) < l
    · rw [if_pos q2, if_neg]
      intro h; exact (of_decide_eq_true h).2 q2
    · rw [if_neg q2, if_pos (decide_eq_true ⟨q1, q2⟩)]
theorem onQ_cov (hI : IR r) (l : Int32) {p : Nat} (hp : p < cn r 1) : (onQ r (nI p) l l (-1) = 0) ↔ anyN (fun e => cov r l e && decide (cn r (60 + 4 * e) = p)) (cn r 2) = false := by
  have b1 := hI.1.2.1.2
  have b2 := hI.1.2.2.1.2
  have e : anyN (onP r (nI p) l l (-1)) (cn r 2) = anyN (fun e => cov r l e && decide (cn r (60 + 4 * e) = p)) (cn r 2) := by
    refine anyN_cong (fun e he => ?_)
    obtain ⟨ew, hw⟩ := (hI.2.2.1 e he).1
    unfold onP cov
    rw [ew]
    by_cases q : cn r (60 + 4 * e) = p
    · rw [decide_eq_true q, Bool.and_true]
      congr 1
      refine propext ⟨fun h => h.2.2, fun h => ⟨?_, by rw [q], h⟩⟩
      intro h2
      have h3 := congrArg Int32.toInt h2
      rw [nI_toInt (by omega), show (-1 : Int32).toInt = -1 by decide] at h3
      omega
    · rw [decide_eq_false q, Bool.and_false]
      exact decide_eq_false (fun h => q ((nI_eq (by omega) (by omega)).mp h.2.1))
  unfold onQ
  rw [e]
  constructor
  · intro h
    split at h
    · exact absurd h (by decide)
    · rename_i h2; cases e3 : anyN _ _ <;> first | rfl | exact absurd e3 h2
  · intro h
    rw [h, if_neg (by decide)]
theorem cov_inj (hI : IR r) {L : Nat} (hL : L < 2 ^ 31) : ∀ e f, e < cn r 2 → f < cn r 2 → cov r (nI L) e = true → cov r (nI L) f = true → cn r (60 + 4 * e) = cn r (60 + 4 * f) → e = f := by
  intro e f he hf ce cf hw
  have je := hI.2.2.1 e he
  have jf := hI.2.2.1 f hf
  have b0 := hI.1.1.2.2
  have l1 := je.2.1.2
  have l2 := je.2.2.1.2
  have l3 := jf.2.1.2
  have l4 := jf.2.2.1.2
  obtain ⟨a1, a2⟩ := of_decide_eq_true ce
  obtain ⟨a3, a4⟩ := of_decide_eq_true cf
  rw [je.2.1.1, nI_ltI (by omega) (by omega)] at a1
  rw [je.2.2.1.1, nI_ltI (by omega) (by omega)] at a2
  rw [jf.2.1.1, nI_ltI (by omega) (by omega)] at a3
  rw [jf.2.2.1.1, nI_ltI (by omega) (by omega)] at a4
  by_cases q : e = f
  · exact q
  · have := hI.2.2.2.1 e f he hf q hw
    omega
def many (r : Nat → Int32) (l o : Int32) : Nat := cnt (fun p => (decide (o ≠ 0) || decide (r (10 + 5 * p) ≠ 3)) && decide (onQ r (nI p) l l (-1) ≠ 0)) (cn r 1)
theorem m_manyOn (l o : Int32) (hI : ICn r) (hm : ar σ 84 = r) : f_X12_manyOn l o σ = some (nI (many r l o)) := by
  unfold f_X12_manyOn f_X12_manyOn_5 many
  have b1 := hI.2.1.2
  have e1 : rd σ 84 1 = nI (cn r 1) := by rw [← hI.2.1.1, ← hm]; rfl
  rw [← lp_cnt]
  refine (it_lp (fun k (s : Int32) => (s, nI k)) (fun e (s : Int32) => if ((decide (o ≠ 0) || decide (r (10 + 5 * e) ≠ 3)) && decide (onQ r (nI e) l l (-1) ≠ 0)) = true then s + 1 else s) (cn r 1) 0 (fun k s hk => ?_)).trans (it_r ?_)
  · show b_X12_manyOn_5 l o s (nI k) σ = _
    unfold b_X12_manyOn_5 f_X12_manyOn_32 f_X12_manyOn_48 f_X12_manyOn_49
    rw [chk_t (by decide), e1, if_pos (nI_lt hk (by omega)), m_it0 (by omega) hm, bd_so, m_isOn _ _ _ _ hI hm, bd_so, nI_1, Int32.add_zero]
    by_cases q1 : o = 0 <;> by_cases q2 : r (10 + 5 * k) = 3 <;> by_cases q3 : onQ r (nI k) l l (-1) = 0 <;> simp [q1, q2, q3]
  · show b_X12_manyOn_5 l o _ (nI (cn r 1)) σ = _
    unfold b_X12_manyOn_5
    rw [chk_t (by decide), e1, if_neg (nI_nlt (Nat.le_refl _) (by omega))]
theorem many_c (hI : IR r) {L : Nat} (hL : L < 2 ^ 31) (o : Int32) (P : Nat → Bool) (hP : ∀ e, e < cn r 2 → P e = ((decide (o ≠ 0) || decide (r (10 + 5 * cn r (60 + 4 * e)) ≠ 3)) && cov r (nI L) e)) : cnt P (cn r 2) = many r (nI L) o := by
  rw [cnt_inj (P := P) (w := fun e => cn r (60 + 4 * e)) (m := cn r 1) (fun e he _ => (hI.2.2.1 e he).1.2) (fun e f he hf pe pf => by
    rw [hP e he] at pe
    rw [hP f hf] at pf
    exact cov_inj hI hL e f he hf (Bool.and_eq_true_iff.mp pe).2 (Bool.and_eq_true_iff.mp pf).2)]
  unfold many
  refine cnt_cong (fun p hp => ?_)
  have ho := onQ_cov hI (nI L) hp
  cases e1 : (decide (o ≠ 0) || decide (r (10 + 5 * p) ≠ 3)) with
  | false =>
    rw [Bool.false_and]
    refine anyN_f.mpr (fun e he => ?_)
    rw [hP e he]
    by_cases q : cn r (60 + 4 * e) = p
    · rw [q, e1]; rfl
    · rw [decide_eq_false q, Bool.and_false]
  | true =>
    rw [Bool.true_and]
    have e2 : anyN (fun e => P e && decide (cn r (60 + 4 * e) = p)) (cn r 2) = anyN (fun e => cov r (nI L) e && decide (cn r (60 + 4 * e) = p)) (cn r 2) := by
      refine anyN_cong (fun e he => ?_)
      rw [hP e he]
      by_cases q : cn r (60 + 4 * e) = p
      · rw [q, e1, Bool.true_and]
      · rw [decide_eq_false q, Bool.and_false, Bool.and_false]
    rw [e2]
    cases e3 : anyN (fun e => cov r (nI L) e && decide (cn r (60 + 4 * e) = p)) (cn r 2) with
    | false =>
      have hne : ¬ onQ r (nI p) (nI L) (nI L) (-1) ≠ 0 := fun h => h (ho.mpr e3)
      exact (decide_eq_false hne).symm
    | true =>
      have hne : onQ r (nI p) (nI L) (nI L) (-1) ≠ 0 := fun h => by rw [ho.mp h] at e3; exact absurd e3 (by decide)
      exact (decide_eq_true hne).symm
end ON
section O11
variable {A : AS} {σ : St}
theorem op_on (x : Int32) (hI : Inv A) (hC : CR A σ) (hM : MR A σ) : Opn A σ (f_X11_on x) (f_X12_on x) := by
  have hi := hI.1.1
  have b0 := hi.1.2.2
  have b2 := hi.2.2.1.2
  have hc := hC.1.1
  have he := hC.1.2.2.2.2.2.2.1
  have m0 : ∀ {σ : St}, MR A σ → rd σ 84 0 = nI (cn (aR A) 0) := fun hm => by rw [← hi.1.1, ← hm.1]; rfl
  rcases wi_cases x (n := cn (aR A) 0) (by omega) with h0 | ⟨h1, L, hL, rfl⟩
  · refine Opn.err 1 (by decide) hI hC hM ?_ (fun σ hm => ?_)
    · unfold f_X11_on; rw [e_hasLine _ hi hc, bd_so, h0, if_pos rfl]; exact bd2_id _
    · unfold f_X12_on; rw [chk_t (by decide), m0 hm, e_in _ (by omega), bd_so, h0, if_pos rfl]; exact bd2_id _
  refine Opn.q (nI (many (aR A) (nI L) 1)) hI hC hM ?_ (fun σ hm => ?_)
  · unfold f_X11_on f_X11_on_21
    rw [e_hasLine _ hi hc, bd_so, h1, if_neg (by decide), ← many_c hI.1 (L := L) (by omega) 1 (cov (aR A) (nI L)) (fun e he => by simp), ← lp_cnt]
    refine (it_lp (fun k (s : Int32) => (s, nI k)) (fun e (s : Int32) => if cov (aR A) (nI L) e = true then s + 1 else s) (cn (aR A) 2) 0 (fun k s hk => ?_)).trans (it_r ?_)
    · show b_X11_on_21 (nI L) s (nI k) σ = _
      unfold b_X11_on_21 f_X11_on_47
      rw [fd_ar, hc.2.2.1, hi.2.2.1.1, if_pos (nI_lt hk (by omega)), e_covers _ b2 he hk, bd_so, nI_1]
      cases cov (aR A) (nI L) k <;> rfl
    · show b_X11_on_21 (nI L) _ (nI (cn (aR A) 2)) σ = _
      unfold b_X11_on_21
      rw [fd_ar, hc.2.2.1, hi.2.2.1.1, if_neg (nI_nlt (Nat.le_refl _) (by omega))]
  · unfold f_X12_on
    rw [chk_t (by decide), m0 hm, e_in _ (by omega), bd_so, h1, if_neg (by decide), m_manyOn _ _ hi hm.1, bd_so]
theorem e_seenOn {L : Nat} (hI : Inv A) (hC : CR A σ) (hL : L < 2 ^ 31) : f_X4_seenOn (nI L) σ = some (nI (many (aR A) (nI L) 0)) := by
  have hi := hI.1.1
  have b1 := hi.2.1.2
  have b2 := hi.2.2.1.2
  have hc := hC.1.1
  have he := hC.1.2.2.2.2.2.2.1
  have hro := hC.1.2.2.2.2.2.1
  unfold f_X4_seenOn f_X4_seenOn_4
  rw [← many_c hI.1 (L := L) hL 0 (fun e => decide (aR A (10 + 5 * cn (aR A) (60 + 4 * e)) ≠ 3) && cov (aR A) (nI L) e) (fun e he => by simp), ← lp_cnt]
  refine (it_lp (fun k (s : Int32) => (s, nI k)) (fun e (s : Int32) => if (decide (aR A (10 + 5 * cn (aR A) (60 + 4 * e)) ≠ 3) && cov (aR A) (nI L) e) = true then s + 1 else s) (cn (aR A) 2) 0 (fun k s hk => ?_)).trans (it_r ?_)
  · show b_X4_seenOn_4 (nI L) s (nI k) σ = _
    obtain ⟨ew, hw⟩ := (hI.1.2.2.1 k hk).1
    obtain ⟨r0, r1, r2, _⟩ := hro _ hw
    have ek : (rd σ 10 (nI (cn (aR A) (60 + 4 * k)))).toNatClampNeg = rc σ 10 (cn (aR A) (60 + 4 * k)) := by rw [rd_ar (by omega)]; rfl
    unfold b_X4_seenOn_4 f_X4_seenOn_42
    rw [fd_ar, hc.2.2.1, hi.2.2.1.1, if_pos (nI_lt hk (by omega)), e_covers _ b2 he hk, bd_so, nI_1, inb_nI (show k < 40 by omega) (by decide), chk_so, rd_ar (by omega), (he k hk).1, ew, inb_nI (show cn (aR A) (60 + 4 * k) < 10 by omega) (by decide), chk_so, ek, r0, chk_so, fd_ar, r2]
    cases cov (aR A) (nI L) k
    · simp
    · by_cases q : aR A (10 + 5 * cn (aR A) (60 + 4 * k)) = 3 <;> simp [q]
  · show b_X4_seenOn_4 (nI L) _ (nI (cn (aR A) 2)) σ = _
    unfold b_X4_seenOn_4
    rw [fd_ar, hc.2.2.1, hi.2.2.1.1, if_neg (nI_nlt (Nat.le_refl _) (by omega))]
theorem op_crowd (hI : Inv A) (hC : CR A σ) (hM : MR A σ) : ∃ x, f_X11_crowd σ = some x ∧ f_X12_crowd σ = some x := by
  have hi := hI.1.1
  have b0 := hi.1.2.2
  have hc := hC.1.1
  refine ⟨lp (fun l s => if s < nI (many (aR A) (nI l) 0) then nI (many (aR A) (nI l) 0) else s) (cn (aR A) 0) 0, ?_, ?_⟩
  · unfold f_X11_crowd f_X11_crowd_4
    refine (it_lp (fun k (s : Int32) => (s, nI k)) (fun l s => if s < nI (many (aR A) (nI l) 0) then nI (many (aR A) (nI l) 0) else s) (cn (aR A) 0) 0 (fun k s hk => ?_)).trans (it_r ?_)
    · show b_X11_crowd_4 s (nI k) σ = _
      unfold b_X11_crowd_4
      rw [fd_ar, hc.1, hi.1.1, if_pos (nI_lt hk (by omega)), e_seenOn hI hC (by omega), bd_so, nI_1]
    · show b_X11_crowd_4 _ (nI (cn (aR A) 0)) σ = _
      unfold b_X11_crowd_4
      rw [fd_ar, hc.1, hi.1.1, if_neg (nI_nlt (Nat.le_refl _) (by omega))]
  · have m0 : rd σ 84 0 = nI (cn (aR A) 0) := by rw [← hi.1.1, ← hM.1]; rfl
    unfold f_X12_crowd f_X12_crowd_4
    refine (it_lp (fun k (s : Int32) => (s, nI k)) (fun l s => if s < nI (many (aR A) (nI l) 0) then nI (many (aR A) (nI l) 0) else s) (cn (aR A) 0) 0 (fun k s hk => ?_)).trans (it_r ?_)
    · show b_X12_crowd_4 s (nI k) σ = _
      unfold b_X12_crowd_4 f_X12_crowd_31
      rw [chk_t (by decide), m0, if_pos (nI_lt hk (by omega)), m_manyOn _ _ hi hM.1, bd_so, nI_1]
      split <;> rfl
    · show b_X12_crowd_4 _ (nI (cn (aR A) 0)) σ = _
      unfold b_X12_crowd_4
      rw [chk_t (by decide), m0, if_neg (nI_nlt (Nat.le_refl _) (by omega))]
/-! busy -/
def onS (r : Nat → Int32) (y l : Int32) : Bool := anyN (fun e => decide (r (14 + 5 * cn r (60 + 4 * e)) = y) && cov r l e) (cn r 2)
theorem e_isOnStage (y l : Int32) (hI : Inv A) (hC : CR A σ) : f_X4_isOnStage y l σ = some (if onS (aR A) y l = true then 1 else 0) := by
  have hi := hI.1.1
  have b1 := hi.2.1.2
  have b2 := hi.2.2.1.2
  have hc := hC.1.1
  have he := hC.1.2.2.2.2.2.2.1
  have hto := hC.1.2.2.2.2.1
  unfold f_X4_isOnStage f_X4_isOnStage_2 onS
  have hb : ∀ k, k < cn (aR A) 2 → b_X4_isOnStage_2 y l (nI k) σ = if (decide (aR A (14 + 5 * cn (aR A) (60 + 4 * k)) = y) && cov (aR A) l k) = true then some (.inr 1) else some (.inl (nI (k + 1))) := by
    intro k hk
    obtain ⟨ew, hw⟩ := (hI.1.2.2.1 k hk).1
    unfold b_X4_isOnStage_2 f_X4_isOnStage_36
    rw [fd_ar, hc.2.2.1, hi.2.2.1.1, if_pos (nI_lt hk (by omega)), inb_nI (show k < 40 by omega) (by decide), chk_so, rd_ar (by omega), (he k hk).1, ew, inb_nI (show cn (aR A) (60 + 4 * k) < 10 by omega) (by decide), chk_so, rd_ar (by omega), show ar σ 11 (cn (aR A) (60 + 4 * k)) = aR A (14 + 5 * cn (aR A) (60 + 4 * k)) from hto _ hw, e_covers _ b2 he hk, bd_so, nI_1]
    by_cases q : aR A (14 + 5 * cn (aR A) (60 + 4 * k)) = y <;> cases cov (aR A) l k <;> simp [q]
  refine it_any (fun k => nI k) _ (cn (aR A) 2) 1 0 (fun k hk hp => ?_) (fun k hk hp => ?_) ?_
  · show b_X4_isOnStage_2 y l (nI k) σ = _
    rw [hb k hk, if_pos hp]
  · show b_X4_isOnStage_2 y l (nI k) σ = _
    rw [hb k hk, hp, if_neg (by decide)]
  · show b_X4_isOnStage_2 y l (nI (cn (aR A) 2)) σ = _
    unfold b_X4_isOnStage_2
    rw [fd_ar, hc.2.2.1, hi.2.2.1.1, if_neg (nI_nlt (Nat.le_refl _) (by omega))]
theorem onS_m (hI : Inv A) (y l : Int32) : anyN (fun p => decide (aR A (14 + 5 * p) = y) && decide (onQ (aR A) (nI p) l l (-1) ≠ 0)) (cn (aR A) 1) = onS (aR A) y l := by
  unfold onS
  rw [Bool.eq_iff_iff, anyN_t, anyN_t]
  constructor
  · rintro ⟨p, hp, h⟩
    obtain ⟨h1, h2⟩ := Bool.and_eq_true_iff.mp h
    have h2 := of_decide_eq_true h2
    rw [Ne, onQ_cov hI.1 l hp] at h2
    have h3 : anyN (fun e => cov (aR A) l e && decide (cn (aR A) (60 + 4 * e) = p)) (cn (aR A) 2) = true := by cases e : anyN _ _ <;> first | rfl | exact absurd e h2
    obtain ⟨e, he, h4⟩ := anyN_t.mp h3
    obtain ⟨h5, h6⟩ := Bool.and_eq_true_iff.mp h4
    refine ⟨e, he, ?_⟩
    rw [of_decide_eq_true h6, h1, h5]
    rfl
  · rintro ⟨e, he, h⟩
    obtain ⟨h1, h2⟩ := Bool.and_eq_true_iff.mp h
    have hw := (hI.1.2.2.1 e he).1.2
    refine ⟨cn (aR A) (60 + 4 * e), hw, ?_⟩
    rw [h1, Bool.true_and]
    refine decide_eq_true ?_
    rw [Ne, onQ_cov hI.1 l hw]
    intro h3
    have := anyN_f.mp h3 e he
    rw [h2, decide_eq_true rfl] at this
    exact absurd this (by decide)
theorem op_busy (x : Int32) (hI : Inv A) (hC : CR A σ) (hM : MR A σ) : Opn A σ (f_X11_busy x) (f_X12_busy x) := by
  have hi := hI.1.1
  have b0 := hi.1.2.2
  have b1 := hi.2.1.2
  have b3 := hi.2.2.2.1.2
  have hc := hC.1.1
  rcases wi_cases x (n := cn (aR A) 3) (by omega) with h0 | ⟨h1, y, hy, rfl⟩
  · refine Opn.err 1 (by decide) hI hC hM ?_ (fun σ hm => ?_)
    · unfold f_X11_busy; rw [e_hasPlayer _ hi hc, bd_so, h0, if_pos rfl]; exact bd2_id _
    · unfold f_X12_busy; rw [m_isPlayer _ hi hm.1, bd_so, h0, if_pos rfl]; exact bd2_id _
  refine Opn.q (lp (fun l s => if onS (aR A) (nI y) (nI l) = true then s + 1 else s) (cn (aR A) 0) 0) hI hC hM ?_ (fun σ hm => ?_)
  · unfold f_X11_busy f_X11_busy_21
    rw [e_hasPlayer _ hi hc, bd_so, h1, if_neg (by decide)]
    refine (it_lp (fun k (s : Int32) => (s, nI k)) (fun l s => if onS (aR A) (nI y) (nI l) = true then s + 1 else s) (cn (aR A) 0) 0 (fun k s hk => ?_)).trans (it_r ?_)
    · show b_X11_busy_21 (nI y) s (nI k) σ = _
      unfold b_X11_busy_21 f_X11_busy_47
      rw [fd_ar, hc.1, hi.1.1, if_pos (nI_lt hk (by omega)), e_isOnStage _ _ hI hC, bd_so, nI_1]
      cases onS (aR A) (nI y) (nI k) <;> rfl
    · show b_X11_busy_21 (nI y) _ (nI (cn (aR A) 0)) σ = _
      unfold b_X11_busy_21
      rw [fd_ar, hc.1, hi.1.1, if_neg (nI_nlt (Nat.le_refl _) (by omega))]
  · have m0 : rd σ 84 0 = nI (cn (aR A) 0) := by rw [← hi.1.1, ← hm.1]; rfl
    have m1 : rd σ 84 1 = nI (cn (aR A) 1) := by rw [← hi.2.1.1, ← hm.1]; rfl
    unfold f_X12_busy f_X12_busy_18
    rw [m_isPlayer _ hi hm.1, bd_so, h1, if_neg (by decide)]
    refine (it_lp (fun k (s : Int32) => (s, nI k)) (fun l s => if onS (aR A) (nI y) (nI l) = true then s + 1 else s) (cn (aR A) 0) 0 (fun k s hk => ?_)).trans (it_r ?_)
    · show b_X12_busy_18 (nI y) s (nI k) σ = _
      unfold b_X12_busy_18 f_X12_busy_34
      rw [chk_t (by decide), m0, if_pos (nI_lt hk (by omega)), ← onS_m hI]
      have e := it_lp (f := fun z : Int32 × Int32 => b_X12_busy_34 (nI y) s (nI k) z.1 z.2 σ) (S := Unit) (fun j _ => ((if anyN (fun p => decide (aR A (14 + 5 * p) = nI y) && decide (onQ (aR A) (nI p) (nI k) (nI k) (-1) ≠ 0)) j = true then 1 else 0), nI j)) (fun _ _ => ()) (cn (aR A) 1) () (fun j _ hj => by
        show b_X12_busy_34 (nI y) s (nI k) _ (nI j) σ = _
        unfold b_X12_busy_34 f_X12_busy_77 f_X12_busy_73 f_X12_busy_78
        rw [chk_t (by decide), m1, if_pos (nI_lt hj (by omega)), m_it4 (by omega) hm.1, bd_so, m_isOn _ _ _ _ hi hm.1, bd_so, nI_1]
        show _ = some (Sum.inl ((if (anyN _ j || (decide (aR A (14 + 5 * j) = nI y) && decide (onQ (aR A) (nI j) (nI k) (nI k) (-1) ≠ 0))) = true then 1 else 0), nI (j + 1)))
        cases anyN (fun p => decide (aR A (14 + 5 * p) = nI y) && decide (onQ (aR A) (nI p) (nI k) (nI k) (-1) ≠ 0)) j <;> by_cases q1 : aR A (14 + 5 * j) = nI y <;> by_cases q2 : onQ (aR A) (nI j) (nI k) (nI k) (-1) = 0 <;> simp [q1, q2])
      refine (show it (fun z : Int32 × Int32 => b_X12_busy_34 (nI y) s (nI k) z.1 z.2 σ) (0, 0) = _ from e).trans (it_k ?_)
      show b_X12_busy_34 (nI y) s (nI k) _ (nI (cn (aR A) 1)) σ = _
      unfold b_X12_busy_34 f_X12_busy_86 f_X12_busy_97
      rw [chk_t (by decide), m1, if_neg (nI_nlt (Nat.le_refl _) (by omega)), nI_1]
      congr 1
      cases anyN (fun p => decide (aR A (14 + 5 * p) = nI y) && decide (onQ (aR A) (nI p) (nI k) (nI k) (-1) ≠ 0)) (cn (aR A) 1)
      · simp
      · rfl
    · show b_X12_busy_18 (nI y) _ (nI (cn (aR A) 0)) σ = _
      unfold b_X12_busy_18
      rw [chk_t (by decide), m0, if_neg (nI_nlt (Nat.le_refl _) (by omega))]
end O11
