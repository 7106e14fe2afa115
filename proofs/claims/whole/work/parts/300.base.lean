/-! the pure part: loops, memory, numbers -/
def ar (σ : St) (k : Nat) : Nat → Int32 := σ.2.1 k
def cn (r : Nat → Int32) (k : Nat) : Nat := (r k).toNatClampNeg
theorem it_inv {S T : Type} {f : S → Option (S ⊕ T)} (I : S → Prop) (Q : T → Prop) (m : S → Nat) (h : ∀ s, I s → (∃ s', f s = some (.inl s') ∧ I s' ∧ m s' < m s) ∨ (∃ t, f s = some (.inr t) ∧ Q t)) : ∀ (n : Nat) (s : S), m s < n → I s → ∃ t, it f s = some t ∧ Q t
  | 0, s, hm, _ => absurd hm (Nat.not_lt_zero _)
  | n + 1, s, hm, hI => by
    rcases h s hI with ⟨s', e, hI', hl⟩ | ⟨t, e, hq⟩
    · obtain ⟨t, e2, hq⟩ := it_inv I Q m h n s' (by omega) hI'
      exact ⟨t, (it_l e).trans e2, hq⟩
    · exact ⟨t, it_r e, hq⟩
def lp {S : Type} (g : Nat → S → S) : Nat → S → S
  | 0, s => s
  | n + 1, s => g n (lp g n s)
theorem lp_cong {S : Type} {g g' : Nat → S → S} {s : S} : ∀ {n : Nat}, (∀ k, k < n → ∀ s, g k s = g' k s) → lp g n s = lp g' n s
  | 0, _ => rfl
  | n + 1, h => by
    show g n (lp g n s) = g' n (lp g' n s)
    rw [lp_cong (fun k hk => h k (Nat.lt_succ_of_lt hk)), h n (Nat.lt_succ_self n)]
theorem lp_inv {S : Type} {g : Nat → S → S} {P : Nat → S → Prop} {s : S} (h0 : P 0 s) : ∀ {n : Nat}, (∀ k, k < n → ∀ s, P k s → P (k + 1) (g k s)) → P n (lp g n s)
  | 0, _ => h0
  | n + 1, h => h n (Nat.lt_succ_self n) _ (lp_inv h0 (fun k hk => h k (Nat.lt_succ_of_lt hk)))
theorem it_lpI {Z T S : Type} {f : Z → Option (Z ⊕ T)} (emb : Nat → S → Z) (g : Nat → S → S) (P : Nat → S → Prop) (n : Nat) {s : S} (h0 : P 0 s) (h : ∀ k s, k < n → P k s → f (emb k s) = some (.inl (emb (k + 1) (g k s))) ∧ P (k + 1) (g k s)) : it f (emb 0 s) = it f (emb n (lp g n s)) ∧ P n (lp g n s) := by
  have H : ∀ j, j ≤ n → it f (emb 0 s) = it f (emb j (lp g j s)) ∧ P j (lp g j s) := by
    intro j
    induction j with
    | zero => exact fun _ => ⟨rfl, h0⟩
    | succ j ih =>
      intro hj
      obtain ⟨e, hp⟩ := ih (by omega)
      obtain ⟨e2, hp2⟩ := h j _ (by omega) hp
      exact ⟨e.trans (it_l e2), hp2⟩
  exact H n (Nat.le_refl n)
theorem it_lp {Z T S : Type} {f : Z → Option (Z ⊕ T)} (emb : Nat → S → Z) (g : Nat → S → S) (n : Nat) (s : S) (h : ∀ k s, k < n → f (emb k s) = some (.inl (emb (k + 1) (g k s)))) : it f (emb 0 s) = it f (emb n (lp g n s)) :=
  (it_lpI emb g (fun _ _ => True) n trivial (fun k s hk _ => ⟨h k s hk, trivial⟩)).1
/-! the first of some numbers with a property -/
def ff (p : Nat → Bool) : Nat → Nat → Nat
  | 0, i => i
  | n + 1, i => if p i = true then i else ff p n (i + 1)
def anyN (p : Nat → Bool) : Nat → Bool
  | 0 => false
  | n + 1 => anyN p n || p n
theorem anyN_t {p : Nat → Bool} : ∀ {n : Nat}, anyN p n = true ↔ ∃ k, k < n ∧ p k = true
  | 0 => ⟨fun h => (Bool.false_ne_true h).elim, fun ⟨k, hk, _⟩ => absurd hk (Nat.not_lt_zero k)⟩
  | n + 1 => by
    show (anyN p n || p n) = true ↔ _
    rw [Bool.or_eq_true, anyN_t]
    constructor
    · rintro (⟨k, hk, h⟩ | h)
      · exact ⟨k, by omega, h⟩
      · exact ⟨n, by omega, h⟩
    · rintro ⟨k, hk, h⟩
      by_cases q : k = n
      · exact Or.inr (q ▸ h)
      · exact Or.inl ⟨k, by omega, h⟩
theorem anyN_f {p : Nat → Bool} {n : Nat} : anyN p n = false ↔ ∀ k, k < n → p k = false := by
  constructor
  · intro h k hk
    cases e : p k
    · rfl
    · have := anyN_t.mpr ⟨k, hk, e⟩
      rw [h] at this
      exact absurd this Bool.false_ne_true
  · intro h
    cases e : anyN p n
    · rfl
    · obtain ⟨k, hk, e2⟩ := anyN_t.mp e
      rw [h k hk] at e2
      exact absurd e2 Bool.false_ne_true
theorem anyN_cong {p q : Nat → Bool} : ∀ {n : Nat}, (∀ k, k < n → p k = q k) → anyN p n = anyN q n
  | 0, _ => rfl
  | n + 1, h => by
    show (anyN p n || p n) = (anyN q n || q n)
    rw [anyN_cong (fun k hk => h k (Nat.lt_succ_of_lt hk)), h n (Nat.lt_succ_self n)]
theorem it_any {Z T : Type} {f : Z → Option (Z ⊕ T)} (emb : Nat → Z) (p : Nat → Bool) (n : Nat) (yes no : T) (h1 : ∀ k, k < n → p k = true → f (emb k) = some (.inr yes)) (h2 : ∀ k, k < n → p k = false → f (emb k) = some (.inl (emb (k + 1)))) (h3 : f (emb n) = some (.inr no)) : it f (emb 0) = some (if anyN p n = true then yes else no) := by
  have H : ∀ j, j ≤ n → (∀ k, k < j → p k = false) → it f (emb 0) = it f (emb j) := by
    intro j
    induction j with
    | zero => exact fun _ _ => rfl
    | succ j ih => exact fun hj hp => (ih (by omega) (fun k hk => hp k (by omega))).trans (it_l (h2 j (by omega) (hp j (by omega))))
  by_cases q : anyN p n = true
  · rw [if_pos q]
    have H2 : ∀ m, (∃ k, k < m ∧ p k = true) → ∃ k, k < m ∧ p k = true ∧ ∀ j, j < k → p j = false := by
      intro m
      induction m with
      | zero => exact fun ⟨k, hk, _⟩ => absurd hk (Nat.not_lt_zero k)
      | succ m ih =>
        rintro ⟨k, hk, e⟩
        by_cases q : ∃ k, k < m ∧ p k = true
        · obtain ⟨k, hk, e, hj⟩ := ih q
          exact ⟨k, by omega, e, hj⟩
        · refine ⟨k, hk, e, fun j hj => ?_⟩
          cases e2 : p j
          · rfl
          · exact absurd ⟨j, by omega, e2⟩ q
    obtain ⟨k, hk, e, hj⟩ := H2 n (anyN_t.mp q)
    exact (H k (by omega) hj).trans (it_r (h1 k hk e))
  · rw [if_neg q]
    exact (H n (Nat.le_refl n) (anyN_f.mp (by cases e : anyN p n <;> first | rfl | exact absurd e q))).trans (it_r h3)
/-! memory -/
theorem upd_eq (f : Nat → Int32) (i : Nat) (v : Int32) : upd f i v i = v := if_pos rfl
theorem upd_ne {f : Nat → Int32} {i j : Nat} {v : Int32} (h : j ≠ i) : upd f i v j = f j := if_neg h
theorem fd_ar (σ : St) (k j : Nat) : fd σ k j = ar σ k j := rfl
theorem rc_ar (σ : St) (k j : Nat) : rc σ k j = (ar σ k j).toNatClampNeg := rfl
theorem rd_ar {σ : St} {k i : Nat} (h : i < 2 ^ 31) : rd σ k (nI i) = ar σ k i := by unfold rd ar; rw [nI_clamp h]
theorem rd_0 (σ : St) (k : Nat) : rd σ k 0 = ar σ k 0 := rfl
theorem rd_cl (σ : St) (k : Nat) (i : Int32) : rd σ k i = ar σ k i.toNatClampNeg := rfl
theorem wr_nI {σ : St} {k i : Nat} (v : Int32) (h : i < 2 ^ 31) : wr σ k (nI i) v = fw σ k i v := by unfold wr; rw [nI_clamp h]
theorem ar_fw_eq (σ : St) (k j : Nat) (v : Int32) : ar (fw σ k j v) k = upd (ar σ k) j v := by unfold ar fw; exact va_up_self _ _ _
theorem ar_fw_ne {σ : St} {k k' j : Nat} {v : Int32} (h : k' ≠ k) : ar (fw σ k j v) k' = ar σ k' := by unfold ar fw; exact va_up_ne _ _ h
theorem fw_1 (σ : St) (k j : Nat) (v : Int32) : (fw σ k j v).1 = σ.1 := rfl
theorem fw_2 (σ : St) (k j : Nat) (v : Int32) : (fw σ k j v).2.2 = σ.2.2 := rfl
theorem ar_cpy_eq (σ : St) (k0 k1 : Nat) (sp dp n : Int32) : ar (cpy σ k0 sp k1 dp n) k1 = va_cpy (ar σ k0) (ar σ k1) sp.toNatClampNeg dp.toNatClampNeg n.toNatClampNeg := by unfold ar cpy; exact va_up_self _ _ _
theorem ar_cpy_ne {σ : St} {k0 k1 k' : Nat} {sp dp n : Int32} (h : k' ≠ k1) : ar (cpy σ k0 sp k1 dp n) k' = ar σ k' := by unfold ar cpy; exact va_up_ne _ _ h
theorem bd_so {α β : Type} (a : α) (k : α → Option β) : bd (some a) k = k a := rfl
theorem bd2_so {α β γ : Type} (a : α) (b : β) (k : α → β → Option γ) : bd2 (some (a, b)) k = k a b := rfl
theorem nm_so {α β : Type} (x : α) (k : α → Option β) : nm x k = k x := rfl
theorem chk_so {α : Type} (k : Option α) : chk true k = k := rfl
theorem inb_nI {i n : Nat} (h : i < n) (hn : n < 2 ^ 31) : inb (nI i) n = true := by
  unfold inb
  rw [nI_toInt (by omega)]
  exact decide_eq_true (by omega)
theorem cn_nI {r : Nat → Int32} {k n : Nat} (h : r k = nI n) (hn : n < 2 ^ 31) : cn r k = n := by unfold cn; rw [h, nI_clamp hn]
/-! is it within -/
def wi (x : Int32) (n : Nat) : Int32 := if x < 0 then 0 else if x < nI n then 1 else 0
theorem wi_cases (x : Int32) {n : Nat} (hn : n < 2 ^ 31) : (wi x n = 0) ∨ (wi x n = 1 ∧ ∃ j : Nat, j < n ∧ x = nI j) := by
  unfold wi
  rcases pk_ix x hn with h | h | ⟨j, hj, rfl⟩
  · rw [if_pos h]; exact Or.inl rfl
  · by_cases q : x < 0
    · rw [if_pos q]; exact Or.inl rfl
    · rw [if_neg q, if_neg (Int32.not_lt.mpr h)]; exact Or.inl rfl
  · rw [if_neg (nI_pos (by omega)), if_pos (nI_lt hj hn)]
    exact Or.inr ⟨rfl, j, hj, rfl⟩
theorem wi_nI {j n : Nat} (h : j < n) (hn : n < 2 ^ 31) : wi (nI j) n = 1 := by
  unfold wi
  rw [if_neg (nI_pos (by omega)), if_pos (nI_lt h hn)]
theorem isB_wi (x : Int32) (n : Nat) : isB (wi x n) = true := by
  unfold wi isB
  split
  · decide
  · split <;> decide
theorem e_isWithin (x : Int32) (n : Nat) : f_X11_isWithin x (nI n) = some (wi x n) := by
  unfold f_X11_isWithin wi
  split
  · rfl
  · split <;> rfl
theorem e_in (x : Int32) {n : Nat} (hn : n < 2 ^ 31) : f_X12_in x 0 (nI n - 1) = some (wi x n) := by
  unfold f_X12_in wi
  by_cases q : x < 0
  · rw [if_pos q, if_pos q]
  · rw [if_neg q, if_neg q]
    obtain ⟨j, hj, rfl⟩ := nI_of q
    cases n with
    | zero =>
      rw [if_neg (show ¬ nI j < nI 0 from nI_nlt (Nat.zero_le _) hj)]
      rw [if_pos]
      show (-1 : Int32) < nI j
      rw [Int32.lt_iff_toInt_lt, nI_toInt hj]
      have : (-1 : Int32).toInt = -1 := by decide
      omega
    | succ m =>
      rw [nI_pred]
      by_cases q2 : j < m + 1
      · rw [if_neg (nI_nlt (by omega) (by omega)), if_pos (nI_lt q2 hn)]
      · rw [if_pos (nI_lt (by omega) hj), if_neg (nI_nlt (by omega) hj)]
