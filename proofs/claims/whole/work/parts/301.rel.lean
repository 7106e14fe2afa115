/-! what class and model hold -/
abbrev AS : Type := (Nat → Int32) × (Nat → Int32) × Int32 × (Nat → Int32) × (Int32 × (Nat → Int32)) × (Nat → Int32) × (Nat → Int32) × (Nat → Int32)
abbrev aR (A : AS) : Nat → Int32 := A.1
abbrev aK (A : AS) : Nat → Int32 := A.2.1
abbrev aI (A : AS) : Int32 := A.2.2.1
abbrev aE (A : AS) : Nat → Int32 := A.2.2.2.1
abbrev aTn (A : AS) : Int32 := A.2.2.2.2.1.1
abbrev aT (A : AS) : Nat → Int32 := A.2.2.2.2.1.2
abbrev aB (A : AS) : Nat → Int32 := A.2.2.2.2.2.1
abbrev aZ (A : AS) : Nat → Int32 := A.2.2.2.2.2.2.1
abbrev aS (A : AS) : Nat → Int32 := A.2.2.2.2.2.2.2
def sR (A : AS) (r : Nat → Int32) : AS := (r, A.2)
def sE (A : AS) (k : Nat) : AS := (A.1, A.2.1, A.2.2.1, upd A.2.2.2.1 k (A.2.2.2.1 k + 1), A.2.2.2.2)
/-- the number of a class of roles, by its kind -/
def tg (k : Int32) : Nat := if k = 1 then 9 else if k = 2 then 2 else if k = 3 then 3 else if k = 4 then 1 else if k = 5 then 0 else 6
/-- a letter of a use -/
def ltr (u n : Nat) : Int32 := ((if u = 1 then [119, 118, 107, 113, 115] else [103, 97, 110, 121, 107, 108]) : List Int32).getD n 0
/-- the class's code of what the model lays -/
def cdr (u : Nat) (v : Int32) : Int32 := if 0 ≤ v then 256 + v else if -100 < v then ltr u (-1 - v).toNatClampNeg else -100 - v
def sgn (c : Int32) : Prop := c = 37 ∨ c = 38 ∨ c = 42 ∨ c = 43 ∨ c = 45 ∨ c = 47 ∨ c = 60 ∨ c = 61 ∨ c = 62 ∨ c = 124
/-- from n numbers on, n codes come to m numbers -/
def pfx (u : Nat) (f : Nat → Int32) : Nat → Nat → Prop
  | 0, m => m = 0
  | k + 1, m => (∃ v : Nat, v < 10000 ∧ f k = nI v ∧ ∃ j, m = j + 1 ∧ pfx u f k j) ∨ (∃ n : Nat, n < (if u = 2 then 6 else 5) ∧ f k = -1 - nI n ∧ ∃ j, m = j + 1 ∧ pfx u f k j) ∨ (f k = -133 ∧ 1 ≤ m ∧ pfx u f k m) ∨ (∃ c, sgn c ∧ f k = -100 - c ∧ 1 ≤ m ∧ pfx u f k (m + 1))
def IPt (r : Nat → Int32) : Prop := ∀ p, p < cn r 1 → (r (10 + 5 * p) = nI (cn r (10 + 5 * p)) ∧ cn r (10 + 5 * p) < 6) ∧ (r (11 + 5 * p) = nI (cn r (11 + 5 * p)) ∧ cn r (11 + 5 * p) < 10) ∧ (r (12 + 5 * p) = nI (cn r (12 + 5 * p)) ∧ cn r (12 + 5 * p) < 100) ∧ (r (13 + 5 * p) = nI (cn r (13 + 5 * p)) ∧ cn r (13 + 5 * p) < 10) ∧ (r (14 + 5 * p) = -1 ∨ (r (14 + 5 * p) = nI (cn r (14 + 5 * p)) ∧ cn r (14 + 5 * p) < cn r 3))
def IEn (r : Nat → Int32) : Prop := ∀ e, e < cn r 2 → (r (60 + 4 * e) = nI (cn r (60 + 4 * e)) ∧ cn r (60 + 4 * e) < cn r 1) ∧ (r (61 + 4 * e) = nI (cn r (61 + 4 * e)) ∧ cn r (61 + 4 * e) ≤ cn r (62 + 4 * e)) ∧ (r (62 + 4 * e) = nI (cn r (62 + 4 * e)) ∧ cn r (62 + 4 * e) < cn r 0) ∧ (r (63 + 4 * e) = nI (cn r (63 + 4 * e)) ∧ cn r (63 + 4 * e) < 4)
def IDs (r : Nat → Int32) : Prop := ∀ e f, e < cn r 2 → f < cn r 2 → e ≠ f → cn r (60 + 4 * e) = cn r (60 + 4 * f) → cn r (62 + 4 * e) < cn r (61 + 4 * f) ∨ cn r (62 + 4 * f) < cn r (61 + 4 * e)
def IPl (r : Nat → Int32) : Prop := ∀ y, y < cn r 3 → (r (220 + 3 * y) = nI (cn r (220 + 3 * y)) ∧ cn r (220 + 3 * y) < 10) ∧ (r (221 + 3 * y) = nI (cn r (221 + 3 * y)) ∧ cn r (221 + 3 * y) < 100)
def ITp (r : Nat → Int32) : Prop := ∀ i, i < cn r 4 → r (240 + i) = nI (cn r (240 + i)) ∧ cn r (240 + i) < 256
def ITx (r : Nat → Int32) : Prop := ∀ u, u < 3 → r (310 + 52 * u) = nI (cn r (310 + 52 * u)) ∧ cn r (310 + 52 * u) ≤ 50 ∧ (cn r (310 + 52 * u) = 0 ∨ pfx u (fun i => r (311 + 52 * u + i)) (cn r (310 + 52 * u)) 1)
def ICn (r : Nat → Int32) : Prop := (r 0 = nI (cn r 0) ∧ 10 ≤ cn r 0 ∧ cn r 0 ≤ 200) ∧ (r 1 = nI (cn r 1) ∧ cn r 1 ≤ 10) ∧ (r 2 = nI (cn r 2) ∧ cn r 2 ≤ 40) ∧ (r 3 = nI (cn r 3) ∧ cn r 3 ≤ 6) ∧ (r 4 = nI (cn r 4) ∧ cn r 4 ≤ 50) ∧ (r 5 = nI (cn r 5) ∧ cn r 5 ≤ 20)
def IR (r : Nat → Int32) : Prop := ICn r ∧ IPt r ∧ IEn r ∧ IDs r ∧ IPl r ∧ ITp r ∧ ITx r
def ISh (A : AS) : Prop := ∀ s, s < 4 → (aB A s = 0 ∨ aB A s = 8 ∨ aB A s = 16 ∨ aB A s = 32) ∧ aZ A s = nI (cn (aZ A) s) ∧ cn (aZ A) s ≤ 24
def Inv (A : AS) : Prop := IR (aR A) ∧ (aI A ≠ 0 → IR (aK A)) ∧ (∃ n : Nat, n ≤ 40 ∧ aTn A = nI n) ∧ ISh A
/-! the class -/
def RoleIs (σ : St) (k p : Nat) (r : Nat → Int32) : Prop := isRole σ k = true ∧ ar σ k 0 = nI p ∧ ar σ k 1 = r (10 + 5 * p) ∧ ar σ k 2 = r (11 + 5 * p) ∧ ar σ k 3 = r (12 + 5 * p) ∧ ar σ k 4 = r (13 + 5 * p) ∧ rc σ k 5 = tg (r (10 + 5 * p))
def CSc (c : Nat) (r : Nat → Int32) (σ : St) : Prop := ar σ c 0 = r 0 ∧ ar σ c 1 = r 1 ∧ ar σ c 2 = r 2 ∧ ar σ c 3 = r 3
def CTp (t : Nat) (r : Nat → Int32) (σ : St) : Prop := ar σ t 1 = r 4 ∧ ∀ i, i < cn r 4 → ar σ (t + 1) i = r (240 + i)
def CWt (t : Nat) (r : Nat → Int32) (σ : St) : Prop := ar σ (t + 2) 1 = r 5 ∧ ∀ i, i < cn r 5 → ar σ (t + 3) i = r (290 + i)
def CTx (t : Nat) (r : Nat → Int32) (σ : St) : Prop := ∀ u, u < 3 → ar σ (t + 4 + 2 * u) 1 = r (310 + 52 * u) ∧ ∀ i, i < cn r (310 + 52 * u) → ar σ (t + 5 + 2 * u) i = cdr u (r (311 + 52 * u + i))
def CTo (a : Nat) (r : Nat → Int32) (σ : St) : Prop := ∀ p, p < cn r 1 → ar σ (a + 1) p = r (14 + 5 * p)
def CRo (a : Nat) (r : Nat → Int32) (σ : St) : Prop := ∀ p, p < cn r 1 → RoleIs σ (rc σ a p) p r
def CEn (a : Nat) (r : Nat → Int32) (σ : St) : Prop := ∀ e, e < cn r 2 → ar σ (a + 2) e = r (60 + 4 * e) ∧ ar σ (a + 3) e = r (61 + 4 * e) ∧ ar σ (a + 4) e = r (62 + 4 * e) ∧ ar σ (a + 5) e = r (63 + 4 * e)
def CPl (a : Nat) (r : Nat → Int32) (σ : St) : Prop := ∀ y, y < cn r 3 → ar σ (a + 6) y = r (220 + 3 * y) ∧ ar σ (a + 7) y = r (221 + 3 * y) ∧ ar σ (a + 8) y = r (222 + 3 * y)
def CP (c a t : Nat) (r : Nat → Int32) (σ : St) : Prop := CSc c r σ ∧ CTp t r σ ∧ CWt t r σ ∧ CTx t r σ ∧ CTo a r σ ∧ CRo a r σ ∧ CEn a r σ ∧ CPl a r σ
def CSh (A : AS) (σ : St) : Prop := ∀ s, s < 4 → ar σ 8 s = aB A s ∧ ar σ (76 + 2 * s) 1 = aZ A s ∧ ∀ i, i < 24 → ar σ (77 + 2 * s) i = aS A (24 * s + i)
def CTr (A : AS) (σ : St) : Prop := ar σ 74 1 = aTn A ∧ ∀ i, i < (aTn A).toNatClampNeg → ar σ 75 i = aT A i
def CSl (σ : St) : Prop := (∀ j, j < 10 → rc σ 10 j < 110 + σ.1 ∧ rc σ 20 j < 110 + σ.1) ∧ isLeast (rc σ 4 9) = true ∧ isRow (rc σ 5 1) = true
def CR (A : AS) (σ : St) : Prop := CP 1 10 52 (aR A) σ ∧ (aI A ≠ 0 → CP 2 20 62 (aK A) σ) ∧ ar σ 0 9 = aI A ∧ (∀ k, k < 6 → ar σ 9 k = aE A k) ∧ CTr A σ ∧ CSh A σ ∧ CSl σ
/-! frames -/
def FrC (σ σ1 : St) : Prop := (∀ k, 84 ≤ k → k < 110 → ar σ1 k = ar σ k) ∧ ar σ1 6 = ar σ 6 ∧ σ1.2.2 = σ.2.2
def FrM (σ σ1 : St) : Prop := (∀ k, k < 84 ∨ 110 ≤ k → k ≠ 6 → ar σ1 k = ar σ k) ∧ σ1.1 = σ.1
theorem FrC.rfl' (σ : St) : FrC σ σ := ⟨fun _ _ _ => rfl, rfl, rfl⟩
theorem FrM.rfl' (σ : St) : FrM σ σ := ⟨fun _ _ _ => rfl, rfl⟩
theorem FrC.tr {a b c : St} (h : FrC a b) (h2 : FrC b c) : FrC a c := ⟨fun k p q => (h2.1 k p q).trans (h.1 k p q), h2.2.1.trans h.2.1, h2.2.2.trans h.2.2⟩
theorem FrM.tr {a b c : St} (h : FrM a b) (h2 : FrM b c) : FrM a c := ⟨fun k p q => (h2.1 k p q).trans (h.1 k p q), h2.2.trans h.2⟩
theorem FrC.fw {σ : St} {k j : Nat} {v : Int32} (h : (k < 84 ∨ 110 ≤ k) ∧ k ≠ 6) : FrC σ (fw σ k j v) := ⟨fun q h1 h2 => ar_fw_ne (by omega), ar_fw_ne (fun e => h.2 e.symm), rfl⟩
theorem FrM.fw {σ : St} {k j : Nat} {v : Int32} (h : (84 ≤ k ∧ k < 110) ∨ k = 6) : FrM σ (fw σ k j v) := ⟨fun q h1 h2 => ar_fw_ne (by omega), rfl⟩
/-- the same, but for some cells: what a play is -/
theorem RoleIs.ag {σ σ1 : St} {k p : Nat} {r : Nat → Int32} (h : RoleIs σ k p r) (hr : ∀ k, 110 ≤ k → k < 110 + σ.1 → ar σ1 k = ar σ k) (hn : σ.1 ≤ σ1.1) : RoleIs σ1 k p r := by
  have h1 := of_decide_eq_true h.1
  have e := hr k h1.1 h1.2.1
  have e5 : rc σ1 k 5 = rc σ k 5 := by rw [rc_ar, rc_ar, e]
  refine ⟨decide_eq_true ⟨h1.1, by omega, by rw [e5]; exact h1.2.2⟩, ?_⟩
  rw [e, e5]
  exact h.2
theorem CP.ag {σ σ1 : St} {c a t : Nat} {r : Nat → Int32} (h : CP c a t r σ) (hc : ar σ1 c = ar σ c) (ha : ∀ k, a ≤ k → k ≤ a + 8 → ar σ1 k = ar σ k) (ht : ∀ k, t ≤ k → k ≤ t + 9 → ar σ1 k = ar σ k) (hr : ∀ k, 110 ≤ k → k < 110 + σ.1 → ar σ1 k = ar σ k) (hn : σ.1 ≤ σ1.1) : CP c a t r σ1 := by
  obtain ⟨h1, h2, h3, h4, h5, h6, h7, h8⟩ := h
  refine ⟨?_, ?_, ?_, ?_, ?_, ?_, ?_, ?_⟩
  · unfold CSc; rw [hc]; exact h1
  · unfold CTp; rw [ht t (by omega) (by omega), ht (t + 1) (by omega) (by omega)]; exact h2
  · unfold CWt; rw [ht (t + 2) (by omega) (by omega), ht (t + 3) (by omega) (by omega)]; exact h3
  · intro u hu; rw [ht (t + 4 + 2 * u) (by omega) (by omega), ht (t + 5 + 2 * u) (by omega) (by omega)]; exact h4 u hu
  · intro p hp; rw [ha (a + 1) (by omega) (by omega)]; exact h5 p hp
  · intro p hp
    have e : rc σ1 a p = rc σ a p := by rw [rc_ar, rc_ar, ha a (by omega) (by omega)]
    rw [e]
    exact (h6 p hp).ag hr hn
  · intro e he; rw [ha (a + 2) (by omega) (by omega), ha (a + 3) (by omega) (by omega), ha (a + 4) (by omega) (by omega), ha (a + 5) (by omega) (by omega)]; exact h7 e he
  · intro e he; rw [ha (a + 6) (by omega) (by omega), ha (a + 7) (by omega) (by omega), ha (a + 8) (by omega) (by omega)]; exact h8 e he
theorem CP.fr {σ σ1 : St} {c a t : Nat} {r : Nat → Int32} (h : CP c a t r σ) (hf : FrM σ σ1) (h0 : c ≠ 6 ∧ c < 84 ∧ 7 ≤ a ∧ a + 8 < 84 ∧ 7 ≤ t ∧ t + 9 < 84) : CP c a t r σ1 :=
  h.ag (hf.1 c (by omega) h0.1) (fun k p q => hf.1 k (by omega) (by omega)) (fun k p q => hf.1 k (by omega) (by omega)) (fun k p q => hf.1 k (by omega) (by omega)) (by rw [hf.2]; exact Nat.le_refl _)
theorem CR.fr {A : AS} {σ σ1 : St} (h : CR A σ) (hf : FrM σ σ1) : CR A σ1 := by
  obtain ⟨h1, h2, h3, h4, h5, h6, h7⟩ := h
  refine ⟨h1.fr hf (by decide), fun q => (h2 q).fr hf (by decide), ?_, ?_, ?_, ?_, ?_⟩
  · rw [hf.1 0 (by omega) (by omega)]; exact h3
  · rw [hf.1 9 (by omega) (by omega)]; exact h4
  · unfold CTr; rw [hf.1 74 (by omega) (by omega), hf.1 75 (by omega) (by omega)]; exact h5
  · intro s hs; rw [hf.1 8 (by omega) (by omega), hf.1 (76 + 2 * s) (by omega) (by omega), hf.1 (77 + 2 * s) (by omega) (by omega)]; exact h6 s hs
  · unfold CSl
    simp only [rc_ar]
    rw [hf.1 10 (by omega) (by omega), hf.1 20 (by omega) (by omega), hf.1 4 (by omega) (by omega), hf.1 5 (by omega) (by omega), hf.2]
    exact h7
