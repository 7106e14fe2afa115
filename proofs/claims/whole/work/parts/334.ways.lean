/-! how many castings -/
def sN (f : Nat → Nat) : Nat → Nat
  | 0 => 0
  | n + 1 => sN f n + f n
theorem sN_cg {f g : Nat → Nat} : ∀ {n : Nat}, (∀ t, t < n → f t = g t) → sN f n = sN g n
  | 0, _ => rfl
  | n + 1, h => by
    show sN f n + f n = sN g n + g n
    rw [sN_cg (fun t ht => h t (by omega)), h n (by omega)]
theorem sN_le {f g : Nat → Nat} : ∀ {n : Nat}, (∀ t, t < n → f t ≤ g t) → sN f n ≤ sN g n
  | 0, _ => Nat.le_refl _
  | n + 1, h => by
    show sN f n + f n ≤ sN g n + g n
    exact Nat.add_le_add (sN_le (fun t ht => h t (by omega))) (h n (by omega))
theorem sN_hi {f : Nat → Nat} {n : Nat} : ∀ {m : Nat}, n ≤ m → (∀ t, n ≤ t → t < m → f t = 0) → sN f m = sN f n
  | 0, h, _ => by rw [show n = 0 by omega]
  | m + 1, h, hz => by
    by_cases q : n = m + 1
    · rw [q]
    · show sN f m + f m = _
      rw [sN_hi (show n ≤ m by omega) (fun t h1 h2 => hz t h1 (by omega)), hz m (by omega) (by omega), Nat.add_zero]
theorem sN_one {f g : Nat → Nat} {x v : Nat} (hx : g x = f x + v) (ho : ∀ t, t ≠ x → g t = f t) : ∀ {n : Nat}, x < n → sN g n = sN f n + v
  | 0, h => absurd h (Nat.not_lt_zero x)
  | n + 1, h => by
    show sN g n + g n = sN f n + f n + v
    by_cases q : x = n
    · subst q
      rw [hx, sN_cg (f := g) (g := f) (fun t ht => ho t (by omega))]
      omega
    · rw [sN_one hx ho (show x < n by omega), ho n (fun e => q e.symm)]
      omega
theorem sN_mul (k : Nat) (f : Nat → Nat) : ∀ n, sN (fun t => f t * k) n = sN f n * k
  | 0 => by simp [sN]
  | n + 1 => by
    show sN (fun t => f t * k) n + f n * k = (sN f n + f n) * k
    rw [sN_mul k f n, Nat.add_mul]
theorem sN_add (f : Nat → Nat) (n : Nat) : ∀ m, sN f (n + m) = sN f n + sN (fun t => f (n + t)) m
  | 0 => rfl
  | m + 1 => by
    show sN f (n + m) + f (n + m) = sN f n + (sN (fun t => f (n + t)) m + f (n + m))
    rw [sN_add f n m]; omega
def sbB (t s : Nat) : Bool := decide (t &&& s = t)
theorem sbB_t {t s : Nat} : sbB t s = true ↔ Sub t s := ⟨fun h => sub_of_and (of_decide_eq_true h), fun h => decide_eq_true h.and_l⟩
def wg (r : Nat → Int32) (y : Nat) (c : Nat → Nat) (s t : Nat) : Nat := if (sbB t s && may r y t) = true then c (s ^^^ t) else 0
def wy (r : Nat → Int32) : List Nat → Nat → Nat
  | [], s => if s = 0 then 1 else 0
  | y :: L, s => sN (wg r y (wy r L) s) (s + 1)
theorem wg_hi {r : Nat → Int32} {y : Nat} {c : Nat → Nat} {s t : Nat} (h : s < t) : wg r y c s t = 0 := by
  unfold wg
  rw [if_neg]
  intro e
  have := (sbB_t.mp (Bool.and_eq_true_iff.mp e).1).le
  omega
theorem wy_n {r : Nat → Int32} {y : Nat} {L : List Nat} {s n : Nat} (h : s < n) : sN (wg r y (wy r L) s) n = wy r (y :: L) s := sN_hi (by omega) (fun t h1 _ => wg_hi (by omega))
theorem wy_0 {r : Nat → Int32} : ∀ L, wy r L 0 = 1
  | [] => rfl
  | y :: L => by
    show sN (wg r y (wy r L) 0) 0 + wg r y (wy r L) 0 0 = 1
    unfold wg
    rw [may_0, if_pos (by rw [Bool.and_true]; exact sbB_t.mpr (Sub.rf 0)), Nat.xor_self, wy_0 L]
    rfl
/-! at most 6 to the 10th -/
def pB (s k : Nat) : Nat → Nat
  | 0 => 1
  | n + 1 => pB s k n * (if s.testBit n = true then k else 1)
def pT (s t k : Nat) : Nat → Nat
  | 0 => 1
  | n + 1 => pT s t k n * (if s.testBit n = true then (if t.testBit n = true then 1 else k) else 1)
theorem pT_cg {s t t' k : Nat} : ∀ {n : Nat}, (∀ i, i < n → t.testBit i = t'.testBit i) → pT s t k n = pT s t' k n
  | 0, _ => rfl
  | n + 1, h => by
    show pT s t k n * _ = pT s t' k n * _
    rw [pT_cg (fun i hi => h i (by omega)), h n (by omega)]
theorem sub_sum (s k : Nat) : ∀ n, sN (fun t => if (∀ i, i < n → t.testBit i = true → s.testBit i = true) ∧ True then pT s t k n else 0) (2 ^ n) ≤ pB s (k + 1) n := fun n => by
  have H : ∀ n, sN (fun t => if sbB t (s % 2 ^ n) = true then pT s t k n else 0) (2 ^ n) = pB s (k + 1) n := by
    intro n
    induction n with
    | zero =>
      show 0 + (if sbB 0 (s % 2 ^ 0) = true then 1 else 0) = 1
      rw [if_pos (sbB_t.mpr (Sub.z _))]
    | succ n ih =>
      have hlo : ∀ t, t < 2 ^ n → (sbB t (s % 2 ^ (n + 1)) = sbB t (s % 2 ^ n)) := by
        intro t ht
        rw [Bool.eq_iff_iff, sbB_t, sbB_t]
        constructor
        · intro h i hi
          have h1 := h i hi
          rw [Nat.testBit_mod_two_pow] at h1 ⊢
          have hin := set_hi ht i hi
          rw [decide_eq_true hin]
          rw [decide_eq_true (by omega : i < n + 1)] at h1
          exact h1
        · intro h i hi
          have h1 := h i hi
          rw [Nat.testBit_mod_two_pow] at h1 ⊢
          have hin := set_hi ht i hi
          rw [decide_eq_true (by omega : i < n + 1)]
          rw [decide_eq_true hin] at h1
          exact h1
      have hbt : ∀ t, t < 2 ^ n → t.testBit n = false := fun t ht => Nat.testBit_lt_two_pow ht
      rw [show 2 ^ (n + 1) = 2 ^ n + 2 ^ n by rw [Nat.pow_succ]; omega, sN_add]
      have e1 : sN (fun t => if sbB t (s % (2 ^ n + 2 ^ n)) = true then pT s t k (n + 1) else 0) (2 ^ n) = pB s (k + 1) n * (if s.testBit n = true then k else 1) := by
        rw [← ih, ← sN_mul]
        refine sN_cg (fun t ht => ?_)
        rw [show 2 ^ n + 2 ^ n = 2 ^ (n + 1) by rw [Nat.pow_succ]; omega, hlo t ht]
        split
        · show pT s t k n * _ = _
          rw [hbt t ht]
          rfl
        · rw [Nat.zero_mul]
      have e2 : sN (fun t => if sbB (2 ^ n + t) (s % (2 ^ n + 2 ^ n)) = true then pT s (2 ^ n + t) k (n + 1) else 0) (2 ^ n) = pB s (k + 1) n * (if s.testBit n = true then 1 else 0) := by
        rw [← ih, ← sN_mul]
        refine sN_cg (fun t ht => ?_)
        rw [show 2 ^ n + 2 ^ n = 2 ^ (n + 1) by rw [Nat.pow_succ]; omega, ← tp_add ht]
        have hor : ∀ i, i < n → (t ||| 2 ^ n).testBit i = t.testBit i := fun i hi => by
          rw [Nat.testBit_or, Nat.testBit_two_pow, decide_eq_false (by omega), Bool.or_false]
        have hsb : (sbB (t ||| 2 ^ n) (s % 2 ^ (n + 1)) = true) ↔ (sbB t (s % 2 ^ n) = true ∧ s.testBit n = true) := by
          rw [← hlo t ht, sbB_t, sbB_t]
          constructor
          · intro h
            refine ⟨fun i hi => h i (by rw [Nat.testBit_or, hi]; rfl), ?_⟩
            have := h n (tb_top.mpr (Or.inr rfl))
            rw [Nat.testBit_mod_two_pow, decide_eq_true (by omega : n < n + 1)] at this
            exact this
          · rintro ⟨h1, h2⟩ i hi
            rcases tb_top.mp hi with h3 | h3
            · exact h1 i h3
            · rw [h3, Nat.testBit_mod_two_pow, decide_eq_true (by omega : n < n + 1)]; exact h2
        by_cases q : s.testBit n = true
        · rw [if_pos q, Nat.mul_one]
          by_cases q2 : sbB t (s % 2 ^ n) = true
          · rw [if_pos (hsb.mpr ⟨q2, q⟩), if_pos q2]
            show pT s (t ||| 2 ^ n) k n * _ = _
            rw [if_pos q, if_pos (tb_top.mpr (Or.inr rfl)), Nat.mul_one, pT_cg hor]
          · rw [if_neg (fun h => q2 (hsb.mp h).1), if_neg q2]
        · rw [if_neg q, if_neg (fun h => q (hsb.mp h).2), Nat.mul_zero]
      rw [e1, e2, ← Nat.mul_add]
      show _ = pB s (k + 1) n * (if s.testBit n = true then k + 1 else 1)
      by_cases q : s.testBit n = true
      · rw [if_pos q, if_pos q, if_pos q]
      · rw [if_neg q, if_neg q, if_neg q]
  rw [← H n]
  refine sN_le (fun t ht => ?_)
  split
  · rename_i h
    rw [if_pos]
    · exact Nat.le_refl _
    · refine sbB_t.mpr (fun i hi => ?_)
      have hin := set_hi ht i hi
      rw [Nat.testBit_mod_two_pow, decide_eq_true hin]
      exact h.1 i hin hi
  · exact Nat.zero_le _
theorem pB_mono {s k : Nat} (hk : k ≤ 6) : ∀ n, pB s k n ≤ 6 ^ n
  | 0 => Nat.le_refl _
  | n + 1 => by
    show pB s k n * _ ≤ 6 ^ (n + 1)
    rw [Nat.pow_succ]
    refine Nat.mul_le_mul (pB_mono hk n) ?_
    split <;> omega
theorem pB_xs {s t k : Nat} (h : Sub t s) : ∀ n, pB (s ^^^ t) k n = pT s t k n
  | 0 => rfl
  | n + 1 => by
    show pB (s ^^^ t) k n * _ = pT s t k n * _
    rw [pB_xs h n]
    congr 1
    by_cases q : s.testBit n = true
    · rw [if_pos q]
      by_cases q2 : t.testBit n = true
      · rw [if_pos q2, if_neg (fun e => by rw [((tb_xs h).mp e).2] at q2; exact absurd q2 (by decide))]
      · rw [if_neg q2, if_pos ((tb_xs h).mpr ⟨q, by cases e : t.testBit n <;> first | rfl | exact absurd e q2⟩)]
    · rw [if_neg q, if_neg (fun e => q ((tb_xs h).mp e).1)]
theorem wy_le {r : Nat → Int32} {n : Nat} : ∀ {L : List Nat} {s : Nat}, s < 2 ^ n → wy r L s ≤ pB s L.length n
  | [], s, hs => by
    show (if s = 0 then 1 else 0) ≤ pB s 0 n
    by_cases q : s = 0
    · rw [if_pos q, q]
      have : ∀ n, pB 0 0 n = 1 := fun n => by
        induction n with
        | zero => rfl
        | succ n ih => show pB 0 0 n * _ = 1; rw [ih, Nat.zero_testBit]; rfl
      rw [this n]; exact Nat.le_refl _
    · rw [if_neg q]; exact Nat.zero_le _
  | y :: L, s, hs => by
    rw [← wy_n (n := 2 ^ n) hs]
    refine Nat.le_trans ?_ (sub_sum s L.length n)
    refine sN_le (fun t ht => ?_)
    unfold wg
    split
    · rename_i h
      have hsub := sbB_t.mp (Bool.and_eq_true_iff.mp h).1
      rw [if_pos ⟨fun i _ hi => hsub i hi, trivial⟩, ← pB_xs hsub]
      exact wy_le (Nat.xor_lt_two_pow hs ht)
    · exact Nat.zero_le _
theorem wy_31 {r : Nat → Int32} {L : List Nat} {s n : Nat} (hs : s < 2 ^ n) (hn : n ≤ 10) (hl : L.length ≤ 6) : wy r L s < 2 ^ 31 := by
  have h1 := wy_le (r := r) (L := L) hs
  have h2 := pB_mono (s := s) hl n
  have h3 : 6 ^ n ≤ 6 ^ 10 := Nat.pow_le_pow_right (by decide) hn
  have h4 : 6 ^ 10 < 2 ^ 31 := by decide
  omega
/-! the class -/
section CW
variable {A : AS}
def InvW (r : Nat → Int32) (y : Nat) (L : List Nat) (k : Nat) (D : Nat → Bool) (row : Nat → Int32) : Prop := ∀ s, s < 2 ^ cn r 1 → row s = nI (sN (wg r y (wy r L) s) k + (if (sbB k s && D (s ^^^ k)) = true then wy r L (s ^^^ k) else 0))
theorem InvW.cg {r : Nat → Int32} {y : Nat} {L : List Nat} {k : Nat} {D D' : Nat → Bool} {row : Nat → Int32} (h : InvW r y L k D row) (e : ∀ s, s < 2 ^ cn r 1 → sbB k s = true → D (s ^^^ k) = D' (s ^^^ k)) : InvW r y L k D' row := fun s hs => by
  rw [h s hs]
  cases eb : sbB k s with
  | false => rfl
  | true => rw [e s hs eb]
def CrC (r : Nat → Int32) (L : List Nat) (row : Nat → Int32) : Prop := ∀ s, s < 2 ^ cn r 1 → row s = nI (wy r L s)
theorem e_cw_in {y : Nat} {L : List Nat} {k c0 c1 : Nat} {u : St} (hI : IR (aR A)) (hk : k < 2 ^ cn (aR A) 1) (hmk : may (aR A) y k = true) (h49 : rc u 4 9 = c0) (hc0 : isLeast c0 = true) (hc1 : isLeast c1 = true) (h01 : c0 ≠ c1) (hcr : CrC (aR A) L (ar u c0)) (hinv : InvW (aR A) y L k (fun _ => false) (ar u c1)) : ∃ u', f_X8_countWithOneMore_36 c1 (nI (2 ^ cn (aR A) 1 - 1)) (nI k) (nI ((2 ^ cn (aR A) 1 - 1) ^^^ k)) (nI ((2 ^ cn (aR A) 1 - 1) ^^^ k)) u = some (.inl (nI (k + 1), u')) ∧ F1 c1 u u' ∧ InvW (aR A) y L (k + 1) (fun _ => false) (ar u' c1) := by
  have b1 := hI.1.2.1.2
  have n10 := p10 b1
  have hpos := Nat.two_pow_pos (cn (aR A) 1)
  have hka : Sub k (2 ^ cn (aR A) 1 - 1) := lt_all hk
  have hoa : (2 ^ cn (aR A) 1 - 1) ^^^ k ≤ 2 ^ cn (aR A) 1 - 1 := (sub_xs hka).le
  have l0 := of_decide_eq_true hc0
  have l1 := of_decide_eq_true hc1
  have hsubo : ∀ s, s < 2 ^ cn (aR A) 1 → sbB k s = true → Sub (s ^^^ k) ((2 ^ cn (aR A) 1 - 1) ^^^ k) := fun s hs hb i hi => by
    have h3 := (tb_xs (sbB_t.mp hb)).mp hi
    exact (tb_xs hka).mpr ⟨lt_all hs i h3.1, h3.2⟩
  unfold f_X8_countWithOneMore_36
  have H : ∀ x v, Sub x ((2 ^ cn (aR A) 1 - 1) ^^^ k) → F1 c1 u v → InvW (aR A) y L k (fun q => decide (x < q)) (ar v c1) → ∃ u', it (fun z : Int32 × St => b_X8_countWithOneMore_36 c1 (nI (2 ^ cn (aR A) 1 - 1)) (nI k) (nI ((2 ^ cn (aR A) 1 - 1) ^^^ k)) z.1 z.2) (nI x, v) = some (.inl (nI (k + 1), u')) ∧ F1 c1 u u' ∧ InvW (aR A) y L k (fun _ => true) (ar u' c1) := by
    intro x
    induction x using Nat.strongRecOn with
    | ind x ih =>
      intro v hx hv hi
      have hxo := hx.le
      have hxn : x < 2 ^ cn (aR A) 1 := by omega
      have hdis : ∀ i, x.testBit i = true → k.testBit i = false := fun i hi => ((tb_xs hka).mp (hx i hi)).2
      have hkx : (k ||| x) ^^^ k = x := Nat.eq_of_testBit_eq fun i => by
        rw [Nat.testBit_xor, Nat.testBit_or]
        cases e1 : x.testBit i with
        | true => rw [hdis i e1]; rfl
        | false => cases k.testBit i <;> rfl
      have hksb : sbB k (k ||| x) = true := sbB_t.mpr (fun i hi => by rw [Nat.testBit_or, hi]; rfl)
      have hkxn : k ||| x < 2 ^ cn (aR A) 1 := Nat.or_lt_two_pow hk hxn
      obtain ⟨v', hv'⟩ : ∃ s, s = fw v c1 (k ||| x) (ar v c1 (k ||| x) + nI (wy (aR A) L x)) := ⟨_, rfl⟩
      have hst : b_X8_countWithOneMore_36 c1 (nI (2 ^ cn (aR A) 1 - 1)) (nI k) (nI ((2 ^ cn (aR A) 1 - 1) ^^^ k)) (nI x) v = some (.inl ((if x = 0 then -1 else nI ((x - 1) &&& ((2 ^ cn (aR A) 1 - 1) ^^^ k))), v')) := by
        have e49 : rc v 4 9 = c0 := by rw [rc_ar, hv.1 4 (by omega), ← rc_ar]; exact h49
        have ec0 : ar v c0 x = nI (wy (aR A) L x) := by rw [hv.1 c0 h01]; exact hcr x hxn
        unfold b_X8_countWithOneMore_36 f_X8_countWithOneMore_73
        rw [if_neg (nI_pos (by omega)), nI_or, inb_nI (show k ||| x < 1024 by omega) (by decide), chk_so, e49, hc0, chk_so, inb_nI (show x < 1024 by omega) (by decide), chk_so, nm_so, wr_nI _ (by omega), rd_ar (by omega), rd_ar (by omega), ec0, ← hv']
        by_cases q : x = 0
        · rw [if_pos (by rw [q]; rfl), if_pos q]
        · rw [if_neg (nI_ne0 (by omega) (by omega)), if_neg q]
          have e1 : nI x - 1 = nI (x - 1) := by
            have := nI_pred (x - 1)
            rw [show x - 1 + 1 = x by omega] at this
            exact this
          rw [e1, nI_and]
      have fv' : F1 c1 u v' := by rw [hv']; exact ⟨fun c h => by rw [ar_fw_ne h]; exact hv.1 c h, hv.2.1, hv.2.2⟩
      have hinv' : InvW (aR A) y L k (fun q => decide (x ≤ q)) (ar v' c1) := by
        intro s hs
        rw [hv', ar_fw_eq]
        by_cases qs : s = k ||| x
        · subst qs
          rw [upd_eq, hi _ hkxn]
          show nI (_ + (if (sbB k (k ||| x) && decide (x < (k ||| x) ^^^ k)) = true then _ else 0)) + _ = nI (_ + (if (sbB k (k ||| x) && decide (x ≤ (k ||| x) ^^^ k)) = true then wy (aR A) L ((k ||| x) ^^^ k) else 0))
          rw [hkx, hksb, decide_eq_false (Nat.lt_irrefl x), decide_eq_true (Nat.le_refl x), if_neg (by decide), if_pos (by decide), nI_add, Nat.add_zero]
        · rw [upd_ne qs, hi s hs]
          show nI (_ + (if (sbB k s && decide (x < s ^^^ k)) = true then _ else 0)) = nI (_ + (if (sbB k s && decide (x ≤ s ^^^ k)) = true then _ else 0))
          cases eb : sbB k s with
          | false => rfl
          | true =>
            have hne : s ^^^ k ≠ x := fun e => qs (by rw [← or_xs (sbB_t.mp eb), e])
            rw [Bool.true_and, Bool.true_and, show decide (x < s ^^^ k) = decide (x ≤ s ^^^ k) from by rw [decide_eq_decide]; omega]
      by_cases q0 : x = 0
      · rw [if_pos q0] at hst
        refine ⟨v', (it_l hst).trans (it_r ?_), fv', hinv'.cg (fun s hs _ => ?_)⟩
        · show b_X8_countWithOneMore_36 c1 _ (nI k) _ (-1) v' = _
          unfold b_X8_countWithOneMore_36 f_X8_countWithOneMore_78
          rw [if_pos (by decide), nI_1]
          rfl
        · show decide (x ≤ s ^^^ k) = true
          rw [q0]; exact decide_eq_true (Nat.zero_le _)
      · rw [if_neg q0] at hst
        have hlt := sub_pr (t := x) (s := (2 ^ cn (aR A) 1 - 1) ^^^ k) (by omega)
        obtain ⟨u', t1, t2, t3⟩ := ih _ hlt v' (sub_an _ _) fv' (hinv'.cg (fun s hs eb => by
          have hso := hsubo s hs eb
          show decide (x ≤ s ^^^ k) = decide (((x - 1) &&& ((2 ^ cn (aR A) 1 - 1) ^^^ k)) < s ^^^ k)
          rw [decide_eq_decide]
          constructor
          · intro h; omega
          · intro h
            rcases Nat.lt_or_ge (s ^^^ k) x with h3 | h3
            · have := sub_next x _ (s ^^^ k) hx (by omega) hso h3
              omega
            · exact h3))
        exact ⟨u', (it_l hst).trans t1, t2, t3⟩
  obtain ⟨u', t1, t2, t3⟩ := H _ u (Sub.rf _) (F1.rfl' u) (hinv.cg (fun s hs eb => by
    have := (hsubo s hs eb).le
    exact (decide_eq_false (by omega)).symm))
  refine ⟨u', t1, t2, fun s hs => ?_⟩
  rw [t3 s hs]
  show nI _ = nI (sN (wg (aR A) y (wy (aR A) L) s) k + wg (aR A) y (wy (aR A) L) s k + (if (sbB (k + 1) s && false) = true then wy (aR A) L (s ^^^ (k + 1)) else 0))
  rw [Bool.and_false, Bool.and_true, if_neg (show ¬ false = true by decide), Nat.add_zero]
  unfold wg
  rw [hmk, Bool.and_true]
theorem e_cw {σ : St} {y : Nat} {L : List Nat} {c0 c1 : Nat} (hI : IR (aR A)) (hy : y < cn (aR A) 3) (h37 : CostC (aR A) 3 y (ar σ 37)) (h49 : rc σ 4 9 = c0) (hc0 : isLeast c0 = true) (hc1 : isLeast c1 = true) (h01 : c0 ≠ c1) (hcr : CrC (aR A) L (ar σ c0)) : ∃ τ, f_X8_countWithOneMore c1 (nI (2 ^ cn (aR A) 1 - 1)) σ = some τ ∧ (∀ c, c ≠ c1 → c ≠ 4 → ar τ c = ar σ c) ∧ (∀ j, j ≠ 9 → ar τ 4 j = ar σ 4 j) ∧ (τ.1 = σ.1 ∧ τ.2.2 = σ.2.2) ∧ rc τ 4 9 = c1 ∧ CrC (aR A) (y :: L) (ar τ c1) := by
  have b1 := hI.1.2.1.2
  have n10 := p10 b1
  have hpos := Nat.two_pow_pos (cn (aR A) 1)
  have l0 := of_decide_eq_true hc0
  have l1 := of_decide_eq_true hc1
  obtain ⟨j1, hj1⟩ : ∃ j, c1 = 46 + j := ⟨c1 - 46, by omega⟩
  have hal := al46 (j := j1) (by omega)
  rw [← hj1] at hal
  unfold f_X8_countWithOneMore
  rw [hc1, chk_so, all1, e_fill2 hal.1 hal.2 n10, bd_so]
  obtain ⟨σ3, h3⟩ : ∃ s, s = stF σ c1 0 (2 ^ cn (aR A) 1) (fun _ => (0 : Int32)) := ⟨_, rfl⟩
  rw [← h3]
  have f3 : F1 c1 σ σ3 := by rw [h3]; exact ⟨fun c h => ar_stF_ne h, rfl, rfl⟩
  unfold f_X8_countWithOneMore_11
  obtain ⟨v, g1, g2, g3⟩ := it_ex (f := fun z : Int32 × St => b_X8_countWithOneMore_11 c1 (nI (2 ^ cn (aR A) 1 - 1)) z.1 z.2) (V := St) (fun k v => (nI k, v)) (fun k v => F1 c1 σ v ∧ InvW (aR A) y L k (fun _ => false) (ar v c1)) 0 (2 ^ cn (aR A) 1) (Nat.zero_le _) (v := σ3) ⟨f3, fun s hs => by
      rw [h3, ar_stF_eq, fil_in (Nat.zero_le _) (by omega), Bool.and_false]; rfl⟩ (fun k v _ hk hv => by
    obtain ⟨v1, v2⟩ := hv
    have e37 : ar v 37 k = enC (aR A) 3 y k := by rw [v1.1 37 (by omega)]; exact h37 k hk
    have hhead : b_X8_countWithOneMore_11 c1 (nI (2 ^ cn (aR A) 1 - 1)) (nI k) v = if may (aR A) y k = true then f_X8_countWithOneMore_36 c1 (nI (2 ^ cn (aR A) 1 - 1)) (nI k) (nI ((2 ^ cn (aR A) 1 - 1) ^^^ k)) (nI ((2 ^ cn (aR A) 1 - 1) ^^^ k)) v else some (.inl (nI (k + 1), v)) := by
      unfold b_X8_countWithOneMore_11 f_X8_countWithOneMore_78
      rw [if_neg (nI_nlt (by omega) (by omega)), inb_nI (show k < 1024 by omega) (by decide), chk_so, rd_ar (by omega), e37, nI_xor, nI_1]
      by_cases q : may (aR A) y k = true
      · rw [if_pos ((enC_lt hI hy k).mpr q), if_pos q]
      · rw [if_neg (fun h => q ((enC_lt hI hy k).mp h)), if_neg q]
    by_cases q : may (aR A) y k = true
    · rw [if_pos q] at hhead
      obtain ⟨u', x1, x2, x3⟩ := e_cw_in (y := y) (L := L) hI hk q (by rw [rc_ar, v1.1 4 (by omega), ← rc_ar]; exact h49) hc0 hc1 h01 (by rw [v1.1 c0 h01]; exact hcr) v2
      exact ⟨u', hhead.trans x1, v1.tr x2, x3⟩
    · rw [if_neg q] at hhead
      refine ⟨v, hhead, v1, fun s hs => ?_⟩
      rw [v2 s hs]
      show nI _ = nI (sN (wg (aR A) y (wy (aR A) L) s) k + wg (aR A) y (wy (aR A) L) s k + (if (sbB (k + 1) s && false) = true then wy (aR A) L (s ^^^ (k + 1)) else 0))
      have : wg (aR A) y (wy (aR A) L) s k = 0 := by
        unfold wg
        rw [if_neg]
        intro e; exact q (Bool.and_eq_true_iff.mp e).2
      rw [this, Nat.add_zero]
      simp)
  refine ⟨fw v 4 9 (nI c1), g1.trans (it_r ?_), fun c z1 z2 => by rw [ar_fw_ne z2]; exact g2.1 c z1, fun j hj => by rw [ar_fw_eq, upd_ne hj, g2.1 4 (by omega)], ⟨g2.2.1, g2.2.2⟩, ?_, fun s hs => ?_⟩
  · show b_X8_countWithOneMore_11 c1 _ (nI (2 ^ cn (aR A) 1)) v = _
    unfold b_X8_countWithOneMore_11 f_X8_countWithOneMore_84
    rw [if_pos (nI_lt (by omega) (by omega)), chk_t (decide_eq_true (by omega)), nm_so]
    rfl
  · rw [rc_ar, ar_fw_eq, upd_eq, nI_clamp (by omega)]
  · rw [ar_fw_ne (by omega), g3 s hs, Bool.and_false, if_neg (by decide), Nat.add_zero, wy_n hs]
theorem take_rev {ts : List Nat} {j : Nat} (h : j < ts.length) : (ts.take (j + 1)).reverse = ts.getD j 0 :: (ts.take j).reverse := by
  rw [List.take_succ, List.getElem?_eq_getElem h, List.reverse_append, List.getD_eq_getElem?_getD, List.getElem?_eq_getElem h]
  rfl
/-- what the class counts -/
theorem e_count {σ : St} {set : Nat} (hI : Inv A) (hC : CR A σ) (hset : set < 2 ^ cn (aR A) 3) : ∃ τ c, f_X8_countCastings (nI set) σ = some τ ∧ FrS σ τ ∧ rc τ 4 9 = c ∧ isLeast c = true ∧ CrC (aR A) (pls set (cn (aR A) 3)).reverse (ar τ c) ∧ ∀ p, p < cn (aR A) 1 → Brd (aR A) p (ar τ 32 p) := by
  have b1 := hI.1.1.2.1.2
  have b3 := hI.1.1.2.2.2.1.2
  have n10 := p10 b1
  have hpos := Nat.two_pow_pos (cn (aR A) 1)
  have hs64 : set < 64 := Nat.lt_of_lt_of_le hset (p64 b3)
  obtain ⟨ts, hts⟩ : ∃ ts, ts = pls set (cn (aR A) 3) := ⟨_, rfl⟩
  have hall : f_X4_allParts σ = some (nI (2 ^ cn (aR A) 1 - 1)) := by
    unfold f_X4_allParts
    rw [show fd σ 1 1 = nI (cn (aR A) 1) from hC.1.1.2.1.trans hI.1.1.2.1.1, allP b1]
  obtain ⟨σ6, g1, g2, g3⟩ := e_gather (w := 3) hI hC (by decide) hs64
  rw [← hts] at g3 ⊢
  have htm : ∀ y, y ∈ ts → y < cn (aR A) 3 := fun y hy => by rw [hts] at hy; exact (pls_m hy).1
  have htl : ts.length ≤ 6 := by have := pls_len set (cn (aR A) 3); rw [hts]; omega
  have hC6 := hC.frs g2.frs
  obtain ⟨σ9, h1, h2, h3⟩ := e_barred hI hC6
  have f9 := g2.frs.tr h2.frs
  have hC9 := hC.frs f9
  obtain ⟨σ16, h16⟩ : ∃ s, s = fw (stF (fw σ9 4 9 (nI 46)) 46 0 (2 ^ cn (aR A) 1) (fun _ => (0 : Int32))) 46 0 1 := ⟨_, rfl⟩
  have e10 : rc (fw σ9 4 9 (nI 46)) 4 9 = 46 := by rw [rc_ar, ar_fw_eq, upd_eq]; rfl
  have e14 : rc (stF (fw σ9 4 9 (nI 46)) 46 0 (2 ^ cn (aR A) 1) (fun _ => (0 : Int32))) 4 9 = 46 := by rw [rc_ar, ar_stF_ne (by omega), ← rc_ar]; exact e10
  have hhead : f_X8_countCastings (nI set) σ = f_X8_countCastings_52 (nI (2 ^ cn (aR A) 1 - 1)) 0 σ16 := by
    unfold f_X8_countCastings
    rw [hall, bd_so, show f_X8_gather (nI set) 3 σ = some σ6 from g1, bd_so, h1, bd_so, nm_so, e10, chk_t (by decide), all1, e_fill2 (by decide) (by decide) n10, bd_so, e14, chk_t (by decide), chk_t (by decide), nm_so, h16]
    rfl
  have u16 : ∀ c, c ≠ 4 → c ≠ 46 → ar σ16 c = ar σ9 c := fun c z1 z2 => by rw [h16, ar_fw_ne z2, ar_stF_ne z2, ar_fw_ne z1]
  have v16 : ∀ j, j ≠ 9 → ar σ16 4 j = ar σ9 4 j := fun j hj => by rw [h16, ar_fw_ne (by omega), ar_stF_ne (by omega), ar_fw_eq, upd_ne hj]
  have c16 : CrC (aR A) (ts.take 0).reverse (ar σ16 46) := fun s hs => by
    rw [h16, ar_fw_eq]
    show _ = nI (if s = 0 then 1 else 0)
    by_cases q : s = 0
    · rw [q, upd_eq]; rfl
    · rw [upd_ne q, ar_stF_eq, fil_in (Nat.zero_le _) (by omega), if_neg q]; rfl
  have f16 : FrS σ9 σ16 := by
    refine ⟨fun c hc => u16 c (fun e => hc (by unfold SC; omega)) (fun e => hc (by unfold SC; omega)), by rw [h16]; rfl, by rw [h16]; rfl, fun _ => ?_, ?_⟩
    · have : rc σ16 4 9 = 46 := by rw [h16, rc_ar, ar_fw_ne (by omega), ← rc_ar]; exact e14
      rw [this]; decide
    · rw [rc_ar, rc_ar, u16 5 (by omega) (by omega)]; exact id
  have hm2 : ∀ j, j < 7 → isLeast (46 + j % 2) = true ∧ 46 + j % 2 ≠ 46 + (j + 1) % 2 := by decide
  rw [hhead]
  unfold f_X8_countCastings_52
  obtain ⟨v, k1, k2, k3, k4, k5, k6⟩ := it_ex (f := fun z : Int32 × St => b_X8_countCastings_52 (nI (2 ^ cn (aR A) 1 - 1)) z.1 z.2) (V := St) (fun k v => (nI k, v)) (fun j v => (∀ c, c ≠ 4 → c ≠ 37 → c ≠ 46 → c ≠ 47 → ar v c = ar σ9 c) ∧ (∀ i, i ≠ 9 → ar v 4 i = ar σ9 4 i) ∧ (v.1 = σ9.1 ∧ v.2.2 = σ9.2.2) ∧ rc v 4 9 = 46 + j % 2 ∧ CrC (aR A) (ts.take j).reverse (ar v (46 + j % 2))) 0 ts.length (Nat.zero_le _) (v := σ16) ⟨fun c z1 _ z3 _ => u16 c z1 z3, v16, ⟨by rw [h16]; rfl, by rw [h16]; rfl⟩, by rw [h16, rc_ar, ar_fw_ne (by omega), ← rc_ar]; exact e14, c16⟩ (fun j v _ hj hv => by
    obtain ⟨u1, u2, u3, u4, u5⟩ := hv
    obtain ⟨y, hy⟩ : ∃ y, y = ts.getD j 0 := ⟨_, rfl⟩
    have hmem : y ∈ ts := by
      have : y ∈ ts.drop j := by rw [getD_drop hj, ← hy]; exact List.mem_cons_self ..
      exact List.mem_of_mem_drop this
    have hyn := htm y hmem
    have e45 : fd v 4 5 = nI ts.length := by
      rw [fd_ar, u2 5 (by omega), h2.1 4 (by omega) (by omega) (by omega) (by omega)]; exact g3.1
    have e35 : rd v 35 (nI j) = nI y := by
      rw [rd_ar (by omega), u1 35 (by omega) (by omega) (by omega) (by omega), h2.1 35 (by omega) (by omega) (by omega) (by omega), g3.2.1 j hj, hy]
    have hcv : CSt (aR A) v := ⟨by rw [fd_ar, u1 1 (by omega) (by omega) (by omega) (by omega)]; exact hC9.1.1.2.1.trans hI.1.1.2.1.1, by rw [u1 32 (by omega) (by omega) (by omega) (by omega)]; exact h3⟩
    obtain ⟨a, q1, q2, q3⟩ := e_price (w := 3) hI.1 hyn hcv (by rw [u1 (40 + y) (by omega) (by omega) (by omega) (by omega), h2.1 (40 + y) (by omega) (by omega) (by omega) (by omega)]; exact g3.2.2 y hmem)
    obtain ⟨m1, m2⟩ := hm2 j (by omega)
    obtain ⟨m3, _⟩ := hm2 (j + 1) (by omega)
    obtain ⟨b, r1, r2, r3, r4, r5, r6⟩ := e_cw (y := y) (L := (ts.take j).reverse) (c0 := 46 + j % 2) (c1 := 46 + (j + 1) % 2) (σ := a) hI.1 hyn q3 (by rw [rc_ar, q2.1 4 (by omega), ← rc_ar]; exact u4) m1 m3 m2 (by rw [q2.1 (46 + j % 2) (by omega)]; exact u5)
    refine ⟨b, ?_, fun c z1 z2 z3 z4 => by rw [r2 c (by omega) z1, q2.1 c z2]; exact u1 c z1 z2 z3 z4, fun i hi => by rw [r3 i hi, q2.1 4 (by omega)]; exact u2 i hi, ⟨by rw [r4.1, q2.2.1]; exact u3.1, by rw [r4.2, q2.2.2]; exact u3.2⟩, r5, by rw [take_rev hj, ← hy]; exact r6⟩
    show b_X8_countCastings_52 _ (nI j) v = _
    unfold b_X8_countCastings_52
    rw [e45, if_pos (nI_lt hj (by omega)), inb_nI (show j < 6 by omega) (by decide), chk_so, e35, q1, bd_so, nI_1, show nI (j + 1) - nI (j + 1) / 2 * 2 = nI ((j + 1) % 2) from pk_rem (a := j + 1) (d := 2) (by omega) (by decide) (by decide), inb_nI (show (j + 1) % 2 < 6 by omega) (by decide), chk_so, nI_clamp (by omega), r1, bd_so])
  obtain ⟨m1, _⟩ := hm2 ts.length (by omega)
  refine ⟨v, 46 + ts.length % 2, k1.trans (it_r ?_), f9.tr ⟨fun c hc => k2 c (fun e => hc (by unfold SC; omega)) (fun e => hc (by unfold SC; omega)) (fun e => hc (by unfold SC; omega)) (fun e => hc (by unfold SC; omega)), k4.1, k4.2, fun _ => by rw [k5]; exact m1, by rw [rc_ar, rc_ar, k2 5 (by omega) (by omega) (by omega) (by omega)]; exact id⟩, k5, m1, by rw [List.take_length] at k6; exact k6, by rw [k2 32 (by omega) (by omega) (by omega) (by omega)]; exact h3⟩
  show b_X8_countCastings_52 _ (nI ts.length) v = _
  unfold b_X8_countCastings_52
  rw [show fd v 4 5 = nI ts.length by rw [fd_ar, k3 5 (by omega), h2.1 4 (by omega) (by omega) (by omega) (by omega)]; exact g3.1, if_neg (nI_nlt (Nat.le_refl _) (by omega))]
end CW
