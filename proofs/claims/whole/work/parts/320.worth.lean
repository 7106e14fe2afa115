/-! what a text comes to -/
def Sk (R : Nat → Int32) : List Int32 → Prop
  | [] => True
  | a :: t => R t.length = a ∧ Sk R t
theorem Sk.up {R : Nat → Int32} {i : Nat} {v : Int32} : ∀ {st : List Int32}, st.length ≤ i → Sk R st → Sk (upd R i v) st
  | [], _, _ => trivial
  | a :: t, h, hs => by
    have h' : t.length + 1 ≤ i := h
    exact ⟨by rw [upd_ne (by omega)]; exact hs.1, Sk.up (by omega) hs.2⟩
theorem Sk.push {R : Nat → Int32} {i : Nat} {v : Int32} {st : List Int32} (h : st.length = i) (hs : Sk R st) : Sk (upd R i v) (v :: st) := ⟨by rw [h, upd_eq], hs.up (by omega)⟩
def opr (u : Nat) (v : Int32) : Prop := (∃ n : Nat, n < 10000 ∧ v = nI n) ∨ (∃ n : Nat, n < (if u = 2 then 6 else 5) ∧ v = -1 - nI n) ∨ v = -133 ∨ (∃ c, sgn c ∧ v = -100 - c)
theorem evs_n (nm : Nat → Int32) (st : List Int32) {n : Nat} (h : n < 10000) : evs nm (nI n) st = nI n :: st := by
  unfold evs; rw [if_pos (nI_pos' (by omega))]
theorem nmv : ∀ n, n < 6 → (¬ (0 : Int32) ≤ -1 - nI n) ∧ ((-100 : Int32) < -1 - nI n) ∧ (-1 - (-1 - nI n)).toNatClampNeg = n ∧ ((-1 : Int32) - nI n < 0) ∧ inb (-1 - (-1 - nI n)) 6 = true := by decide
theorem sgn_f {c : Int32} (h : sgn c) : (¬ (0 : Int32) ≤ -100 - c) ∧ (¬ (-100 : Int32) < -100 - c) ∧ (¬ -100 - c = -133) ∧ (-100 - (-100 - c) = c) ∧ c < 256 ∧ ¬ c = 33 ∧ (c < 97 ∨ (¬ c < 97 ∧ 122 < c)) := by
  rcases h with rfl | rfl | rfl | rfl | rfl | rfl | rfl | rfl | rfl | rfl <;> decide
theorem qlt {u n : Nat} (h : n < (if u = 2 then 6 else 5)) : n < 6 := by split at h <;> omega
theorem evs_m (nm : Nat → Int32) (st : List Int32) {n : Nat} (h : n < 6) : evs nm (-1 - nI n) st = nm n :: st := by
  obtain ⟨h1, h2, h3, _⟩ := nmv n h
  unfold evs; rw [if_neg h1, if_pos h2, h3]
theorem evs_d (nm : Nat → Int32) (st : List Int32) : evs nm (-133) st = ev1 st := by
  unfold evs; rw [if_neg (by decide), if_neg (by decide), if_pos rfl]
theorem evs_s (nm : Nat → Int32) (st : List Int32) {c : Int32} (h : sgn c) : evs nm (-100 - c) st = ev2 c st := by
  obtain ⟨h1, h2, h3, h4, _⟩ := sgn_f h
  unfold evs; rw [if_neg h1, if_neg h2, if_neg h3, h4]
theorem pfx_len {u : Nat} {nm f : Nat → Int32} : ∀ {k m : Nat}, pfx u f k m → (ev nm f k).length = m
  | 0, m, h => h.symm
  | k + 1, m, h => by
    show (evs nm (f k) (ev nm f k)).length = m
    rcases h with ⟨v, hv, e, j, hj, hp⟩ | ⟨n, hn, e, j, hj, hp⟩ | ⟨e, hm, hp⟩ | ⟨c, hc, e, hm, hp⟩
    · rw [e, evs_n _ _ hv, hj, ← pfx_len hp]; rfl
    · rw [e, evs_m _ _ (qlt hn), hj, ← pfx_len hp]; rfl
    · rw [e, evs_d]
      have := pfx_len (nm := nm) hp
      cases e2 : ev nm f k with
      | nil => rw [e2] at this; exact this
      | cons a t => rw [e2] at this; exact this
    · rw [e, evs_s _ _ hc]
      have := pfx_len (nm := nm) hp
      cases e2 : ev nm f k with
      | nil => rw [e2] at this; simp at this
      | cons b t =>
        cases t with
        | nil => rw [e2] at this; simp at this; omega
        | cons a t => rw [e2] at this; simp at this; show t.length + 1 = m; omega
theorem pfx_le {u : Nat} {f : Nat → Int32} : ∀ {k m : Nat}, pfx u f k m → m ≤ k
  | 0, m, h => Nat.le_of_eq h
  | k + 1, m, h => by
    rcases h with ⟨v, hv, e, j, hj, hp⟩ | ⟨n, hn, e, j, hj, hp⟩ | ⟨e, hm, hp⟩ | ⟨c, hc, e, hm, hp⟩
    · have := pfx_le hp; omega
    · have := pfx_le hp; omega
    · have := pfx_le hp; omega
    · have := pfx_le hp; omega
theorem len_2 {st : List Int32} {m : Nat} (h : st.length = m + 1) (hm : 1 ≤ m) : ∃ b a t, st = b :: a :: t ∧ t.length + 1 = m := by
  cases st with
  | nil => simp at h
  | cons b s =>
    cases s with
    | nil => simp at h; omega
    | cons a t => simp at h; exact ⟨b, a, t, rfl, by omega⟩
theorem len_1 {st : List Int32} {m : Nat} (h : st.length = m) (hm : 1 ≤ m) : ∃ a t, st = a :: t ∧ t.length + 1 = m := by
  cases st with
  | nil => simp at h; omega
  | cons a t => simp at h; exact ⟨a, t, rfl, by omega⟩
theorem e_jn (c a b : Int32) : f_X10_joined c a b = some (jn c a b) := by
  unfold f_X10_joined f_X10_joined_92 jn
  repeat' split
  all_goals rfl
theorem or_0 (a b : Int32) : a ||| b = 0 ↔ a = 0 ∧ b = 0 := by
  constructor
  · intro h
    have hb : ∀ i, i < 32 → (bt a i || bt b i) = false := fun i hi => by rw [← b_or, h, b_0]
    refine ⟨b_ext (fun i hi => ?_), b_ext (fun i hi => ?_)⟩
    · rw [b_0]; exact (Bool.or_eq_false_iff.mp (hb i hi)).1
    · rw [b_0]; exact (Bool.or_eq_false_iff.mp (hb i hi)).2
  · rintro ⟨rfl, rfl⟩; rfl
theorem m_jn (c a b : Int32) : f_X12_done c a b = some (jn c a b) := by
  rw [← e_jn]
  unfold f_X12_done f_X10_joined f_X10_joined_92
  by_cases q : c = 124
  · subst q
    simp only [or_0]
    by_cases q1 : a = 0
    · by_cases q2 : b = 0
      · simp [q1, q2]
      · simp [q1, q2]
    · simp [q1]
  · simp only [if_neg q]
def F31 (σ σ' : St) : Prop := (∀ c, c ≠ 30 → c ≠ 31 → ar σ' c = ar σ c) ∧ σ'.1 = σ.1 ∧ σ'.2.2 = σ.2.2
theorem F31.tr {a b c : St} (h : F31 a b) (h2 : F31 b c) : F31 a c := ⟨fun k p q => (h2.1 k p q).trans (h.1 k p q), h2.2.1.trans h.2.1, h2.2.2.trans h.2.2⟩
theorem F31.rfl' (σ : St) : F31 σ σ := ⟨fun _ _ _ => rfl, rfl, rfl⟩
theorem F31.frs {σ σ' : St} (h : F31 σ σ') : FrS σ σ' := by
  refine ⟨fun k hk => h.1 k (fun e => hk (by unfold SC; omega)) (fun e => hk (by unfold SC; omega)), h.2.1, h.2.2, ?_, ?_⟩
  · rw [rc_ar, rc_ar, h.1 4 (by omega) (by omega)]; exact id
  · rw [rc_ar, rc_ar, h.1 5 (by omega) (by omega)]; exact id
theorem F31.n {σ : St} {j : Nat} {v : Int32} : F31 σ (fw σ 30 j v) := ⟨fun c h _ => ar_fw_ne h, rfl, rfl⟩
theorem ltr_f {u : Nat} (hu : u < 3) : ∀ q, q < (if u = 2 then 6 else 5) → ltr u q < 256 ∧ ¬ ltr u q < 97 ∧ ¬ 122 < ltr u q ∧ inb (ltr u q - 97) 26 = true := by
  have h : u = 0 ∨ u = 1 ∨ u = 2 := by omega
  rcases h with rfl | rfl | rfl <;> decide
theorem e_worth {σ : St} {u c1 n : Nat} {f na : Nat → Int32} (hu : u < 3) (hc : c1 = 56 + 2 * u) (hn : n ≤ 50) (hs : ar σ c1 1 = nI n) (hf : ∀ i, i < n → ar σ (c1 + 1) i = cdr u (f i)) (hp : pfx u f n 1) (hN : ∀ q, q < (if u = 2 then 6 else 5) → ar σ 30 (ltr u q - 97).toNatClampNeg = na q) : ∃ σ', f_X10_worthOf c1 σ = some ((ev na f n).headD 0, σ') ∧ (∀ c, c ≠ 31 → ar σ' c = ar σ c) ∧ σ'.1 = σ.1 ∧ σ'.2.2 = σ.2.2 := by
  have hal : alen (c1 + 1) = 50 := by
    subst hc
    have h : u = 0 ∨ u = 1 ∨ u = 2 := by omega
    rcases h with rfl | rfl | rfl <;> rfl
  have H : ∀ k, k ≤ n → ∀ m, pfx u f k m → ∃ τ, it (fun z : Int32 × Int32 × St => b_X10_worthOf_4 c1 z.1 z.2.1 z.2.2) (0, 0, σ) = it (fun z : Int32 × Int32 × St => b_X10_worthOf_4 c1 z.1 z.2.1 z.2.2) (nI m, nI k, τ) ∧ (∀ c, c ≠ 31 → ar τ c = ar σ c) ∧ τ.1 = σ.1 ∧ τ.2.2 = σ.2.2 ∧ Sk (ar τ 31) (ev na f k) := by
    intro k
    induction k with
    | zero =>
      intro _ m hm
      have hm' : m = 0 := hm
      subst hm'
      exact ⟨σ, rfl, fun _ _ => rfl, rfl, rfl, trivial⟩
    | succ k ih =>
      intro hk m hm
      have stp : ∀ j τ τ' (m' : Nat), pfx u f k j → b_X10_worthOf_4 c1 (nI j) (nI k) τ = some (.inl (nI m', nI (k + 1), τ')) → it (fun z : Int32 × Int32 × St => b_X10_worthOf_4 c1 z.1 z.2.1 z.2.2) (nI j, nI k, τ) = it (fun z : Int32 × Int32 × St => b_X10_worthOf_4 c1 z.1 z.2.1 z.2.2) (nI m', nI (k + 1), τ') := fun j τ τ' m' _ e => it_l e
      have hd : ∀ j τ, (∀ c, c ≠ 31 → ar τ c = ar σ c) → ∀ v, cdr u (f k) = v → b_X10_worthOf_4 c1 (nI j) (nI k) τ = (if v < 256 then (if v < 97 then (f_X10_worthOf_82 c1 (nI j) (nI k) v τ) else (if 122 < v then (f_X10_worthOf_82 c1 (nI j) (nI k) v τ) else (chk (inb (v - 97) 26) <| chk (inb (nI j) 50) <| nm (wr τ 31 (nI j) (rd τ 30 (v - 97))) fun σ8 => f_X10_worthOf_156 c1 (nI j + 1) (nI k) σ8))) else (chk (inb (nI j) 50) <| nm (wr τ 31 (nI j) (v - 256)) fun σ10 => f_X10_worthOf_156 c1 (nI j + 1) (nI k) σ10)) := by
        intro j τ hτ v hv
        have e1 : ar τ (c1 + 1) k = v := by rw [hτ _ (by omega), hf k (by omega), hv]
        unfold b_X10_worthOf_4
        rw [fd_ar, hτ c1 (by omega), hs, if_pos (nI_lt (by omega) (by omega)), hal, inb_nI (show k < 50 by omega) (by decide), chk_so, rd_ar (by omega), e1]
      rcases hm with ⟨v, hv, e, j, rfl, hp⟩ | ⟨q, hq, e, j, rfl, hp⟩ | ⟨e, hm, hp⟩ | ⟨c, hc2, e, hm, hp⟩
      · obtain ⟨τ, e1, e2, e3, e4, e5⟩ := ih (by omega) j hp
        have hj := pfx_le hp
        refine ⟨fw τ 31 j (nI v), e1.trans (stp j τ _ _ hp ?_), fun c h => by rw [ar_fw_ne h, e2 c h], e3, e4, ?_⟩
        · rw [hd j τ e2 (nI (256 + v)) (by rw [e]; unfold cdr; rw [if_pos (nI_pos' (by omega)), ← nI_add]; rfl), if_neg (show ¬ nI (256 + v) < 256 from nI_nlt (a := 256 + v) (b := 256) (by omega) (by omega)), inb_nI (by omega) (by decide), chk_so, nm_so, wr_nI _ (by omega), show nI (256 + v) - 256 = nI v from (pk_sub (a := 256 + v) (b := 256) (by omega)).trans (by rw [Nat.add_sub_cancel_left])]
          unfold f_X10_worthOf_156
          rw [nI_1, nI_1]
        · show Sk _ (evs na (f k) (ev na f k))
          rw [e, evs_n _ _ hv, ar_fw_eq]
          exact e5.push (pfx_len hp)
      · obtain ⟨τ, e1, e2, e3, e4, e5⟩ := ih (by omega) j hp
        have hj := pfx_le hp
        obtain ⟨l1, l2, l3, l4⟩ := ltr_f hu q hq
        obtain ⟨q1, q2, q3, _⟩ := nmv q (qlt hq)
        refine ⟨fw τ 31 j (na q), e1.trans (stp j τ _ _ hp ?_), fun c h => by rw [ar_fw_ne h, e2 c h], e3, e4, ?_⟩
        · rw [hd j τ e2 (ltr u q) (by rw [e]; unfold cdr; rw [if_neg q1, if_pos q2, q3]), if_pos l1, if_neg l2, if_neg l3, l4, chk_so, inb_nI (by omega) (by decide), chk_so, nm_so, wr_nI _ (by omega), rd_cl, e2 30 (by omega), hN q hq]
          unfold f_X10_worthOf_156
          rw [nI_1, nI_1]
        · show Sk _ (evs na (f k) (ev na f k))
          rw [e, evs_m _ _ (qlt hq), ar_fw_eq]
          exact e5.push (pfx_len hp)
      · obtain ⟨τ, e1, e2, e3, e4, e5⟩ := ih (by omega) m hp
        have hj := pfx_le hp
        obtain ⟨a, t, ea, et⟩ := len_1 (pfx_len (nm := na) hp) hm
        rw [ea] at e5
        have ej : nI m - 1 = nI (m - 1) := by
          have := nI_pred (m - 1)
          rw [show m - 1 + 1 = m by omega] at this
          exact this
        have ra : ar τ 31 (m - 1) = a := by rw [show m - 1 = t.length by omega]; exact e5.1
        refine ⟨fw τ 31 (m - 1) (if a = 0 then 1 else 0), e1.trans (stp m τ _ _ hp ?_), fun c h => by rw [ar_fw_ne h, e2 c h], e3, e4, ?_⟩
        · rw [hd m τ e2 33 (by rw [e]; unfold cdr; rw [if_neg (by decide), if_neg (by decide)]; decide), if_pos (by decide), if_pos (by decide)]
          unfold f_X10_worthOf_82
          rw [if_pos rfl, if_neg (show ¬ nI m < 1 from nI_nlt (by omega) (by omega)), ej, inb_nI (by omega) (by decide), chk_so, rd_ar (by omega), ra]
          unfold f_X10_worthOf_117 f_X10_worthOf_156
          rw [inb_nI (show m - 1 < 50 by omega) (by decide), chk_so, chk_so, nm_so, nm_so, wr_nI _ (by omega), wr_nI _ (by omega), nI_1]
          split <;> rfl
        · show Sk _ (evs na (f k) (ev na f k))
          rw [e, evs_d, ea, ar_fw_eq]
          exact Sk.push (by omega) e5.2
      · obtain ⟨τ, e1, e2, e3, e4, e5⟩ := ih (by omega) (m + 1) hp
        have hj := pfx_le hp
        obtain ⟨b, a, t, ea, et⟩ := len_2 (pfx_len (nm := na) hp) hm
        rw [ea] at e5
        obtain ⟨s1, s2, s3, s4, s5, s6, s7⟩ := sgn_f hc2
        have ej : nI (m + 1) + (-1) = nI m := pk_m1 m
        have ej2 : nI m - 1 = nI (m - 1) := by
          have := nI_pred (m - 1)
          rw [show m - 1 + 1 = m by omega] at this
          exact this
        have rb : ar τ 31 m = b := by rw [show m = (a :: t).length by show m = t.length + 1; omega]; exact e5.1
        have ra : ar τ 31 (m - 1) = a := by rw [show m - 1 = t.length by omega]; exact e5.2.1
        refine ⟨fw τ 31 (m - 1) (jn c a b), e1.trans (stp (m + 1) τ _ _ hp ?_), fun c h => by rw [ar_fw_ne h, e2 c h], e3, e4, ?_⟩
        · have h82 : f_X10_worthOf_82 c1 (nI (m + 1)) (nI k) c τ = some (.inl (nI m, nI (k + 1), fw τ 31 (m - 1) (jn c a b))) := by
            unfold f_X10_worthOf_82 f_X10_worthOf_121
            rw [if_neg s6, if_neg (show ¬ nI (m + 1) < 2 from nI_nlt (a := m + 1) (b := 2) (by omega) (by omega)), ej, ej2, inb_nI (show m - 1 < 50 by omega) (by decide), chk_so, inb_nI (show m < 50 by omega) (by decide), chk_so, rd_ar (by omega), rd_ar (by omega), ra, rb, e_jn, bd_so, nm_so, wr_nI _ (by omega)]
            unfold f_X10_worthOf_156
            rw [nI_1]
          rw [hd (m + 1) τ e2 c (by rw [e]; unfold cdr; rw [if_neg s1, if_neg s2, s4]), if_pos s5, h82]
          rcases s7 with h | ⟨h, h'⟩
          · rw [if_pos h]
          · rw [if_neg h, if_pos h']
        · show Sk _ (evs na (f k) (ev na f k))
          rw [e, evs_s _ _ hc2, ea, ar_fw_eq]
          exact Sk.push (by omega) e5.2.2
  obtain ⟨τ, e1, e2, e3, e4, e5⟩ := H n (Nat.le_refl n) 1 hp
  refine ⟨τ, ?_, e2, e3, e4⟩
  unfold f_X10_worthOf f_X10_worthOf_4
  rw [chk_t (show isRow c1 = true from decide_eq_true (by omega))]
  refine e1.trans (it_k ?_)
  show b_X10_worthOf_4 c1 (nI 1) (nI n) τ = _
  obtain ⟨a, t, ea, et⟩ := len_1 (pfx_len (nm := na) hp) (Nat.le_refl 1)
  rw [ea] at e5
  have et0 : t.length = 0 := by omega
  have ra : rd τ 31 0 = a := by
    have := e5.1
    rw [et0] at this
    exact this
  unfold b_X10_worthOf_4 f_X10_worthOf_162
  rw [fd_ar, e2 c1 (by omega), hs, if_neg (nI_nlt (Nat.le_refl _) (by omega)), chk_t (by decide), ra, ea]
  rfl
def F93 (σ σ' : St) : Prop := (∀ c, c ≠ 90 → c ≠ 93 → ar σ' c = ar σ c) ∧ σ'.1 = σ.1 ∧ σ'.2.2 = σ.2.2
theorem F93.tr {a b c : St} (h : F93 a b) (h2 : F93 b c) : F93 a c := ⟨fun k p q => (h2.1 k p q).trans (h.1 k p q), h2.2.1.trans h.2.1, h2.2.2.trans h.2.2⟩
theorem F93.rfl' (σ : St) : F93 σ σ := ⟨fun _ _ _ => rfl, rfl, rfl⟩
theorem F93.n {σ : St} {j : Nat} {v : Int32} : F93 σ (fw σ 90 j v) := ⟨fun c h _ => ar_fw_ne h, rfl, rfl⟩
theorem F93.frq {σ σ' : St} (h : F93 σ σ') : FrQ σ σ' := by
  have h6 := h.1 6 (by omega) (by omega)
  exact ⟨⟨fun k hk _ => h.1 k (by omega) (by omega), h.2.1⟩, fun k hk => h.1 k (by omega) (by omega), by rw [h6], by rw [h6], by rw [h6]⟩
theorem m_comes {σ : St} {u n : Nat} {r na : Nat → Int32} (hu : u < 3) (hm : ar σ 84 = r) (hn : n ≤ 50) (hs : r (310 + 52 * u) = nI n) (hp : pfx u (fun i => r (311 + 52 * u + i)) n 1) (hN : ∀ q, q < (if u = 2 then 6 else 5) → ar σ 90 q = na q) : ∃ σ', f_X12_comesTo (nI u) σ = some ((ev na (fun i => r (311 + 52 * u + i)) n).headD 0, σ') ∧ (∀ c, c ≠ 93 → ar σ' c = ar σ c) ∧ σ'.1 = σ.1 ∧ σ'.2.2 = σ.2.2 := by
  obtain ⟨f, hf⟩ : ∃ f, f = fun i => r (311 + 52 * u + i) := ⟨_, rfl⟩
  rw [← hf] at hp ⊢
  have eat : (310 + (52 * nI u) : Int32) = nI (310 + 52 * u) := by rw [show (310 : Int32) = nI 310 from rfl, show (52 : Int32) = nI 52 from rfl, pk_mul, nI_add]
  have H : ∀ k, k ≤ n → ∀ m, pfx u f k m → ∃ τ, it (fun z : Int32 × Int32 × St => b_X12_comesTo_14 (nI (310 + 52 * u)) z.1 z.2.1 z.2.2) (0, 1, σ) = it (fun z : Int32 × Int32 × St => b_X12_comesTo_14 (nI (310 + 52 * u)) z.1 z.2.1 z.2.2) (nI m, nI (k + 1), τ) ∧ (∀ c, c ≠ 93 → ar τ c = ar σ c) ∧ τ.1 = σ.1 ∧ τ.2.2 = σ.2.2 ∧ Sk (ar τ 93) (ev na f k) := by
    intro k
    induction k with
    | zero =>
      intro _ m hm
      have hm' : m = 0 := hm
      subst hm'
      exact ⟨σ, rfl, fun _ _ => rfl, rfl, rfl, trivial⟩
    | succ k ih =>
      intro hk m hm'
      have stp : ∀ j τ τ' (m' : Nat), b_X12_comesTo_14 (nI (310 + 52 * u)) (nI j) (nI (k + 1)) τ = some (.inl (nI m', nI (k + 1 + 1), τ')) → it (fun z : Int32 × Int32 × St => b_X12_comesTo_14 (nI (310 + 52 * u)) z.1 z.2.1 z.2.2) (nI j, nI (k + 1), τ) = it (fun z : Int32 × Int32 × St => b_X12_comesTo_14 (nI (310 + 52 * u)) z.1 z.2.1 z.2.2) (nI m', nI (k + 1 + 1), τ') := fun j τ τ' m' e => it_l e
      have hd : ∀ j τ, (∀ c, c ≠ 93 → ar τ c = ar σ c) → ∀ v, f k = v → b_X12_comesTo_14 (nI (310 + 52 * u)) (nI j) (nI (k + 1)) τ = (if (-100) < v then (if v < 0 then (chk (inb ((-1) - v) 6) <| f_X12_comesTo_67 (nI (310 + 52 * u)) (nI j) (nI (k + 1)) (rd τ 90 ((-1) - v)) (nI j) τ) else (f_X12_comesTo_67 (nI (310 + 52 * u)) (nI j) (nI (k + 1)) v (nI j) τ)) else (if v = (-133) then (chk (inb (nI j - 1) 52) <| if (rd τ 93 (nI j - 1)) = 0 then (f_X12_comesTo_105 (nI (310 + 52 * u)) (nI j) (nI (k + 1)) 1 (nI j - 1) τ) else (f_X12_comesTo_105 (nI (310 + 52 * u)) (nI j) (nI (k + 1)) 0 (nI j - 1) τ)) else (chk (inb ((nI j + (-1)) - 1) 52) <| chk (inb (nI j + (-1)) 52) <| bd (f_X12_done ((-100) - v) (rd τ 93 ((nI j + (-1)) - 1)) (rd τ 93 (nI j + (-1)))) fun r9 => nm (wr τ 93 ((nI j + (-1)) - 1) r9) fun σ12 => f_X12_comesTo_142 (nI (310 + 52 * u)) (nI j + (-1)) (nI (k + 1)) σ12))) := by
        intro j τ hτ v hv
        have e1 : rd τ 84 (nI (310 + 52 * u) + nI (k + 1)) = v := by
          rw [nI_add, rd_ar (by omega), hτ 84 (by omega), hm, ← hv, hf]
          show r (310 + 52 * u + (k + 1)) = r (311 + 52 * u + k)
          rw [show 310 + 52 * u + (k + 1) = 311 + 52 * u + k by omega]
        have e2 : rd τ 84 (nI (310 + 52 * u)) = nI n := by rw [rd_ar (by omega), hτ 84 (by omega), hm, hs]
        unfold b_X12_comesTo_14
        rw [inb_nI (by omega) (by decide), chk_so, e2, if_neg (nI_nlt (by omega) (by omega)), e1, nI_add, inb_nI (by omega) (by decide), chk_so]
      rcases hm' with ⟨v, hv, e, j, rfl, hp⟩ | ⟨q, hq, e, j, rfl, hp⟩ | ⟨e, hm1, hp⟩ | ⟨c, hc2, e, hm1, hp⟩
      · obtain ⟨τ, e1, e2, e3, e4, e5⟩ := ih (by omega) j hp
        have hj := pfx_le hp
        refine ⟨fw τ 93 j (nI v), e1.trans (stp j τ _ _ ?_), fun c h => by rw [ar_fw_ne h, e2 c h], e3, e4, ?_⟩
        · have h100 : (-100 : Int32) < nI v := by
            rw [Int32.lt_iff_toInt_lt, nI_toInt (by omega), show (-100 : Int32).toInt = -100 by decide]; omega
          rw [hd j τ e2 _ e, if_pos h100, if_neg (nI_pos (by omega))]
          unfold f_X12_comesTo_67 f_X12_comesTo_142
          rw [inb_nI (by omega) (by decide), chk_so, nm_so, wr_nI _ (by omega), nI_1, nI_1]
        · show Sk _ (evs na (f k) (ev na f k))
          rw [e, evs_n _ _ hv, ar_fw_eq]
          exact e5.push (pfx_len hp)
      · obtain ⟨τ, e1, e2, e3, e4, e5⟩ := ih (by omega) j hp
        have hj := pfx_le hp
        obtain ⟨q1, q2, q3, q4, q5⟩ := nmv q (qlt hq)
        refine ⟨fw τ 93 j (na q), e1.trans (stp j τ _ _ ?_), fun c h => by rw [ar_fw_ne h, e2 c h], e3, e4, ?_⟩
        · rw [hd j τ e2 _ e, if_pos q2, if_pos q4, q5, chk_so, rd_cl, q3, e2 90 (by omega), hN q hq]
          unfold f_X12_comesTo_67 f_X12_comesTo_142
          rw [inb_nI (by omega) (by decide), chk_so, nm_so, wr_nI _ (by omega), nI_1, nI_1]
        · show Sk _ (evs na (f k) (ev na f k))
          rw [e, evs_m _ _ (qlt hq), ar_fw_eq]
          exact e5.push (pfx_len hp)
      · obtain ⟨τ, e1, e2, e3, e4, e5⟩ := ih (by omega) m hp
        have hj := pfx_le hp
        obtain ⟨a, t, ea, et⟩ := len_1 (pfx_len (nm := na) hp) hm1
        rw [ea] at e5
        have ej : nI m - 1 = nI (m - 1) := by
          have := nI_pred (m - 1)
          rw [show m - 1 + 1 = m by omega] at this
          exact this
        have ra : ar τ 93 (m - 1) = a := by rw [show m - 1 = t.length by omega]; exact e5.1
        refine ⟨fw τ 93 (m - 1) (if a = 0 then 1 else 0), e1.trans (stp m τ _ _ ?_), fun c h => by rw [ar_fw_ne h, e2 c h], e3, e4, ?_⟩
        · rw [hd m τ e2 _ e, if_neg (by decide), if_pos rfl, ej, inb_nI (by omega) (by decide), chk_so, rd_ar (by omega), ra]
          unfold f_X12_comesTo_105 f_X12_comesTo_142
          rw [inb_nI (show m - 1 < 52 by omega) (by decide), chk_so, chk_so, nm_so, nm_so, wr_nI _ (by omega), wr_nI _ (by omega), nI_1]
          split <;> rfl
        · show Sk _ (evs na (f k) (ev na f k))
          rw [e, evs_d, ea, ar_fw_eq]
          exact Sk.push (by omega) e5.2
      · obtain ⟨τ, e1, e2, e3, e4, e5⟩ := ih (by omega) (m + 1) hp
        have hj := pfx_le hp
        obtain ⟨b, a, t, ea, et⟩ := len_2 (pfx_len (nm := na) hp) hm1
        rw [ea] at e5
        obtain ⟨s1, s2, s3, s4, s5, s6, s7⟩ := sgn_f hc2
        have ej : nI (m + 1) + (-1) = nI m := pk_m1 m
        have ej2 : nI m - 1 = nI (m - 1) := by
          have := nI_pred (m - 1)
          rw [show m - 1 + 1 = m by omega] at this
          exact this
        have rb : ar τ 93 m = b := by rw [show m = (a :: t).length by show m = t.length + 1; omega]; exact e5.1
        have ra : ar τ 93 (m - 1) = a := by rw [show m - 1 = t.length by omega]; exact e5.2.1
        refine ⟨fw τ 93 (m - 1) (jn c a b), e1.trans (stp (m + 1) τ _ _ ?_), fun c h => by rw [ar_fw_ne h, e2 c h], e3, e4, ?_⟩
        · rw [hd (m + 1) τ e2 _ e, if_neg s2, if_neg s3, ej, ej2, inb_nI (show m - 1 < 52 by omega) (by decide), chk_so, inb_nI (show m < 52 by omega) (by decide), chk_so, s4, rd_ar (by omega), rd_ar (by omega), ra, rb, m_jn, bd_so, nm_so, wr_nI _ (by omega)]
          unfold f_X12_comesTo_142
          rw [nI_1]
        · show Sk _ (evs na (f k) (ev na f k))
          rw [e, evs_s _ _ hc2, ea, ar_fw_eq]
          exact Sk.push (by omega) e5.2.2
  obtain ⟨τ, e1, e2, e3, e4, e5⟩ := H n (Nat.le_refl n) 1 hp
  refine ⟨τ, ?_, e2, e3, e4⟩
  unfold f_X12_comesTo f_X12_comesTo_14
  rw [eat]
  refine e1.trans (it_k ?_)
  show b_X12_comesTo_14 (nI (310 + 52 * u)) (nI 1) (nI (n + 1)) τ = _
  obtain ⟨a, t, ea, et⟩ := len_1 (pfx_len (nm := na) hp) (Nat.le_refl 1)
  rw [ea] at e5
  have et0 : t.length = 0 := by omega
  have ra : rd τ 93 0 = a := by
    have := e5.1
    rw [et0] at this
    exact this
  have e2' : rd τ 84 (nI (310 + 52 * u)) = nI n := by rw [rd_ar (by omega), e2 84 (by omega), hm, hs]
  unfold b_X12_comesTo_14 f_X12_comesTo_148
  rw [inb_nI (by omega) (by decide), chk_so, e2', if_pos (nI_lt (by omega) (by omega)), chk_t (by decide), ra, ea]
  rfl
