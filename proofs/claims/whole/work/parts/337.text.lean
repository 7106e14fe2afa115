/-! the reader: lists behind the rows, and what both sides' small parts answer -/
section TX
def rk (c : Int32) : Nat := if c = 37 then 5 else if c = 38 then 2 else if c = 42 then 5 else if c = 43 then 4 else if c = 45 then 4 else if c = 47 then 5 else if c = 60 then 3 else if c = 61 then 3 else if c = 62 then 3 else if c = 124 then 1 else 0
theorem rk_m (c : Int32) : f_X12_rankOf c = some (nI (rk c)) := by
  unfold f_X12_rankOf rk
  repeat' split
  all_goals rfl
theorem rk_e (c : Int32) : f_X5_levelOf c = some (nI (rk c) - 1) := by
  unfold f_X5_levelOf rk
  repeat' split
  all_goals rfl
theorem rk_le (c : Int32) : rk c ≤ 5 := by
  unfold rk
  repeat' split
  all_goals decide
theorem rk_sgn {c : Int32} (h : rk c ≠ 0) : sgn c := by
  unfold rk at h
  unfold sgn
  by_cases h1 : c = 37
  · exact Or.inl h1
  by_cases h2 : c = 38
  · exact Or.inr (Or.inl h2)
  by_cases h3 : c = 42
  · exact Or.inr (Or.inr (Or.inl h3))
  by_cases h4 : c = 43
  · exact Or.inr (Or.inr (Or.inr (Or.inl h4)))
  by_cases h5 : c = 45
  · exact Or.inr (Or.inr (Or.inr (Or.inr (Or.inl h5))))
  by_cases h6 : c = 47
  · exact Or.inr (Or.inr (Or.inr (Or.inr (Or.inr (Or.inl h6)))))
  by_cases h7 : c = 60
  · exact Or.inr (Or.inr (Or.inr (Or.inr (Or.inr (Or.inr (Or.inl h7))))))
  by_cases h8 : c = 61
  · exact Or.inr (Or.inr (Or.inr (Or.inr (Or.inr (Or.inr (Or.inr (Or.inl h8)))))))
  by_cases h9 : c = 62
  · exact Or.inr (Or.inr (Or.inr (Or.inr (Or.inr (Or.inr (Or.inr (Or.inr (Or.inl h9))))))))
  by_cases h10 : c = 124
  · exact Or.inr (Or.inr (Or.inr (Or.inr (Or.inr (Or.inr (Or.inr (Or.inr (Or.inr h10))))))))
  rw [if_neg h1, if_neg h2, if_neg h3, if_neg h4, if_neg h5, if_neg h6, if_neg h7, if_neg h8, if_neg h9, if_neg h10] at h
  exact absurd rfl h
/-- a row holds a list, newest first -/
def PR (g : Int32 → Int32) (row : Nat → Int32) : List Int32 → Prop
  | [] => True
  | c :: P => row P.length = g c ∧ PR g row P
theorem PR.cg {g : Int32 → Int32} {row row' : Nat → Int32} : ∀ {P : List Int32}, PR g row P → (∀ k, k < P.length → row' k = row k) → PR g row' P
  | [], _, _ => trivial
  | c :: P, h, e => ⟨by rw [e P.length (by simp)]; exact h.1, h.2.cg (fun k hk => e k (by simp; omega))⟩
theorem PR.push {g : Int32 → Int32} {row : Nat → Int32} {P : List Int32} {v c : Int32} (h : PR g row P) (hv : v = g c) : PR g (upd row P.length v) (c :: P) := ⟨by rw [upd_eq]; exact hv, h.cg (fun k hk => upd_ne (by omega))⟩
def opn : List Int32 → Nat
  | [] => 0
  | c :: P => opn P + (if c = 33 ∨ c = 40 then 1 else 0)
theorem opn_rk {c : Int32} {P : List Int32} (h : rk c ≠ 0) : opn (c :: P) = opn P := by
  show opn P + _ = _
  rw [if_neg (fun e => by rcases e with rfl | rfl <;> exact h rfl)]; rfl
/-- the lists of codes that come to m numbers -/
def PF (u : Nat) : List Int32 → Nat → Prop
  | [], m => m = 0
  | c :: R, m => (∃ v : Nat, v < 10000 ∧ c = nI v ∧ ∃ j, m = j + 1 ∧ PF u R j) ∨ (∃ n : Nat, n < (if u = 2 then 6 else 5) ∧ c = -1 - nI n ∧ ∃ j, m = j + 1 ∧ PF u R j) ∨ (c = -133 ∧ 1 ≤ m ∧ PF u R m) ∨ (∃ s, sgn s ∧ c = -100 - s ∧ 1 ≤ m ∧ PF u R (m + 1))
theorem PF.pfx {u : Nat} {f : Nat → Int32} : ∀ {R : List Int32} {m : Nat}, PF u R m → PR id f R → pfx u f R.length m
  | [], m, h, _ => h
  | c :: R, m, h, ⟨hc, hr⟩ => by
    have hc' : f R.length = c := hc
    rcases h with ⟨v, h1, h2, j, h3, h4⟩ | ⟨n, h1, h2, j, h3, h4⟩ | ⟨h1, h2, h3⟩ | ⟨s, h1, h2, h3, h4⟩
    · exact Or.inl ⟨v, h1, hc'.trans h2, j, h3, h4.pfx hr⟩
    · exact Or.inr (Or.inl ⟨n, h1, hc'.trans h2, j, h3, h4.pfx hr⟩)
    · exact Or.inr (Or.inr (Or.inl ⟨hc'.trans h1, h2, h3.pfx hr⟩))
    · exact Or.inr (Or.inr (Or.inr ⟨s, h1, hc'.trans h2, h3, h4.pfx hr⟩))
def setQ : List Int32 → List Int32 → List Int32
  | [], R => R
  | q :: Q, R => setQ Q ((-100 - q) :: R)
theorem setQ_sn (c : Int32) : ∀ (Q R : List Int32), setQ (Q ++ [c]) R = (-100 - c) :: setQ Q R
  | [], _ => rfl
  | q :: Q, R => setQ_sn c Q ((-100 - q) :: R)
theorem setQ_len : ∀ (Q R : List Int32), (setQ Q R).length = Q.length + R.length
  | [], _ => by simp [setQ]
  | q :: Q, R => by
    show (setQ Q ((-100 - q) :: R)).length = _
    rw [setQ_len Q]; simp; omega
/-! names -/
def nLs (u : Nat) : List Nat := if u = 1 then [119, 118, 107, 113, 115] else if u = 2 then [103, 97, 110, 121, 107, 108] else [103, 97, 110, 121, 107]
def nix (u v : Nat) : Nat := (nLs u).idxOf v
def nLen (u : Nat) : Nat := if u = 2 then 6 else 5
def σz : St := (0, fun _ _ => 0, fun _ => 0)
theorem nm_all : ∀ u, u < 3 → ∀ v, v < 256 → (match itn (fun z : Int32 => b_J1_indexOfChar_4cfef_7 (u + 1) (nI (nLen u)) (nI v).toInt8.toInt32 z σz) 8 0 with | some z => decide (z < 0) == decide (¬ nix u v < nLen u) | none => false) = true ∧ f_X12_nameOf (nI u) (nI v) = some (if nix u v < nLen u then nI (nix u v) else -1) ∧ (nix u v < nLen u → nI v = ltr u (nix u v)) ∧ slen (u + 1) = nLen u := by decide +kernel
variable {A : AS}
theorem e_index {u v : Nat} {σ : St} (hu : u < 3) (hv : v < 256) : ∃ z : Int32, f_J0_indexOf_0f7a4 (u + 1) (((nI v).toUInt32 % 65536).toInt32) σ = some z ∧ (z < 0 ↔ ¬ nix u v < nLen u) := by
  obtain ⟨h1, _, _, h4⟩ := nm_all u hu v hv
  have e1 : ∀ v, v < 256 → ((nI v).toUInt32 % 65536).toInt32 = nI v ∧ f_J1_canEncode_9a6ad (nI v) = some 1 := by decide +kernel
  have h5 : ∀ u, u < 3 → isStr (u + 1) = true ∧ (Int32.ofNat (nLen u)) >>> ((0 : Int32) &&& 31) = nI (nLen u) ∧ (0 : Int32) < nI (nLen u) := by decide
  obtain ⟨k1, k2, k3⟩ := h5 u hu
  cases hi : itn (fun z : Int32 => b_J1_indexOfChar_4cfef_7 (u + 1) (nI (nLen u)) (nI v).toInt8.toInt32 z σz) 8 0 with
  | none => rw [hi] at h1; cases h1
  | some z =>
    rw [hi] at h1
    have h1' : decide (z < 0) = decide (¬ nix u v < nLen u) := eq_of_beq h1
    refine ⟨z, ?_, by rw [decide_eq_decide] at h1'; exact h1'⟩
    have hit : f_J1_indexOfChar_4cfef_7 (u + 1) (nI (nLen u)) (nI v).toInt8.toInt32 0 σ = some z := it_of hi
    unfold f_J0_indexOf_0f7a4 f_J0_indexOf_7cf53 f_J0_isLatin1_aae02 f_J0_length_8abf5 f_J0_coder_7d493 f_J1_indexOf_4cfef f_J1_indexOfChar_4cfef
    rw [(e1 v hv).1, k1, chk_so, chk_so, chk_so, if_neg (by decide), if_pos rfl, bd_so, if_neg (by decide), chk_so, chk_so, if_neg (by decide), bd_so, bd_so, chk_so, (e1 v hv).2, bd_so, if_neg (by decide), h4, k2, nm_so]
    rw [show (if (0 : Int32) < 0 then (0 : Int32) else 0) = 0 from if_neg (by decide), show (if Int32.ofNat (nLen u) < nI (nLen u) then Int32.ofNat (nLen u) else nI (nLen u)) = nI (nLen u) from ite_self _, if_pos k3, chk_so, hit]
    rfl
theorem m_name {u v : Nat} (hu : u < 3) (hv : v < 256) : f_X12_nameOf (nI u) (nI v) = some (if nix u v < nLen u then nI (nix u v) else -1) := (nm_all u hu v hv).2.1
theorem nix_l {u v : Nat} (hu : u < 3) (hv : v < 256) (h : nix u v < nLen u) : nI v = ltr u (nix u v) := (nm_all u hu v hv).2.2.1 h
/-! bytes -/
def bAt (r : Nat → Int32) (i : Nat) : Int32 := if i < cn r 4 then r (240 + i) else -1
theorem bAt_v {r : Nat → Int32} {i : Nat} (hI : IR r) (h : i < cn r 4) : ∃ v, v < 256 ∧ bAt r i = nI v := by
  have := hI.2.2.2.2.2.1 i h
  exact ⟨_, this.2, by unfold bAt; rw [if_pos h]; exact this.1⟩
theorem bAt_e {r : Nat → Int32} {i : Nat} (h : ¬ i < cn r 4) : bAt r i = -1 := if_neg h
theorem bAt_lt {r : Nat → Int32} {i : Nat} (h : bAt r i ≠ -1) : i < cn r 4 := Classical.byContradiction fun q => h (bAt_e q)
theorem e_next {τ : St} {i : Nat} (hI : Inv A) (hC : CR A τ) (h1 : ar τ 5 1 = nI 52) (h3 : ar τ 5 3 = nI i) (hi : i ≤ cn (aR A) 4) : f_X5_next τ = some (bAt (aR A) i) := by
  have b4 := hI.1.1.2.2.2.2.1
  have e1 : rc τ 5 1 = 52 := by rw [rc_ar, h1]; rfl
  unfold f_X5_next bAt
  rw [e1, chk_t (by decide), fd_ar, h3, fd_ar, hC.1.2.1.1, b4.1]
  by_cases q : i < cn (aR A) 4
  · rw [if_pos (nI_lt q (by omega)), if_pos q, inb_nI (show i < alen (52 + 1) from (show i < 50 by omega)) (by decide), chk_so, rd_ar (by omega)]
    exact congrArg some (hC.1.2.1.2 i q)
  · rw [if_neg (nI_nlt (by omega) (by omega)), if_neg q]
theorem m_byte {σ : St} {i : Nat} (hI : Inv A) (hM : MR A σ) (hi : i ≤ cn (aR A) 4) : f_X12_byteAt (nI i) σ = some (bAt (aR A) i) := by
  have b4 := hI.1.1.2.2.2.2.1
  unfold f_X12_byteAt bAt
  rw [chk_t (by decide), show rd σ 84 4 = nI (cn (aR A) 4) by rw [← b4.1, ← hM.1]; rfl]
  by_cases q : i < cn (aR A) 4
  · rw [if_pos (nI_lt q (by omega)), if_pos q, show (240 : Int32) + nI i = nI (240 + i) by rw [← nI_add]; rfl, inb_nI (show 240 + i < 466 by omega) (by decide), chk_so, rd_ar (by omega), hM.1]
  · rw [if_neg (nI_nlt (by omega) (by omega)), if_neg q]
def dig (c : Int32) : Bool := decide (48 ≤ c ∧ c ≤ 57)
theorem dig_e (c : Int32) : f_X5_isDigit c = some (if dig c = true then 1 else 0) := by
  unfold f_X5_isDigit dig
  by_cases h1 : c < 48
  · rw [if_pos h1, if_neg (by rw [decide_eq_false (fun h => absurd h1 (Int32.not_lt.mpr h.1))]; decide)]
  · rw [if_neg h1]
    by_cases h2 : 57 < c
    · rw [if_pos h2, if_neg (by rw [decide_eq_false (fun h => absurd h2 (Int32.not_lt.mpr h.2))]; decide)]
    · rw [if_neg h2, if_pos (decide_eq_true ⟨Int32.not_lt.mp h1, Int32.not_lt.mp h2⟩)]
theorem dig_m (c : Int32) : f_X12_isDigit c = some (if dig c = true then 1 else 0) := by
  have h : f_X12_in c 48 57 = f_X5_isDigit c := rfl
  unfold f_X12_isDigit
  rw [h, dig_e, bd_so, chk_t (by split <;> decide)]
theorem dig_v {c : Int32} (h : dig c = true) : ∃ k, k < 10 ∧ c = nI (48 + k) := by
  have := of_decide_eq_true h
  rw [Int32.le_iff_toInt_le, Int32.le_iff_toInt_le, show (48 : Int32).toInt = 48 by decide, show (57 : Int32).toInt = 57 by decide] at this
  refine ⟨c.toInt.toNat - 48, by omega, ?_⟩
  apply Int32.toInt_inj.mp
  rw [nI_toInt (by omega)]; omega
/-! the class's side -/
def CB (u : Nat) (σ0 τ : St) : Prop := FrS σ0 τ ∧ ar τ 5 1 = nI 52 ∧ ar τ 5 2 = nI (u + 1)
def CT (u : Nat) (σ0 τ : St) (i : Nat) (R : List Int32) : Prop := CB u σ0 τ ∧ ar τ 5 3 = nI i ∧ ar τ 5 4 = 0 ∧ ar τ 72 1 = nI R.length ∧ PR (cdr u) (ar τ 73) R
def CF (u : Nat) (σ0 τ : St) (i : Nat) : Prop := CB u σ0 τ ∧ ar τ 5 3 = nI i ∧ ar τ 5 4 = 1 ∧ ∃ n, n ≤ 50 ∧ ar τ 72 1 = nI n
theorem CB.w {u : Nat} {σ0 τ : St} {k j : Nat} {v : Int32} (h : CB u σ0 τ) (hk : SC k) (h4 : ¬ (k = 4 ∧ j = 9)) (h5 : ¬ (k = 5 ∧ (j = 1 ∨ j = 2))) : CB u σ0 (fw τ k j v) := by
  refine ⟨h.1.tr (FrS.w hk h4 (by omega)), ?_, ?_⟩
  · by_cases q : k = 5
    · subst q; rw [ar_fw_eq, upd_ne (by omega)]; exact h.2.1
    · rw [ar_fw_ne (fun e => q e.symm)]; exact h.2.1
  · by_cases q : k = 5
    · subst q; rw [ar_fw_eq, upd_ne (by omega)]; exact h.2.2
    · rw [ar_fw_ne (fun e => q e.symm)]; exact h.2.2
theorem CT.mv {u : Nat} {σ0 τ : St} {i : Nat} {R : List Int32} (h : CT u σ0 τ i R) : fw τ 5 3 (fd τ 5 3 + 1) = fw τ 5 3 (nI (i + 1)) ∧ CT u σ0 (fw τ 5 3 (nI (i + 1))) (i + 1) R := by
  obtain ⟨h0, h1, h2, h3, h4⟩ := h
  refine ⟨by rw [fd_ar, h1, nI_1], h0.w (by unfold SC; omega) (by omega) (by omega), by rw [ar_fw_eq, upd_eq], by rw [ar_fw_eq, upd_ne (by omega)]; exact h2, by rw [ar_fw_ne (by omega)]; exact h3, by rw [ar_fw_ne (by omega)]; exact h4⟩
theorem CT.flt {u : Nat} {σ0 τ : St} {i : Nat} {R : List Int32} (h : CT u σ0 τ i R) (hl : R.length ≤ 50) : CF u σ0 (fw τ 5 4 1) i := by
  obtain ⟨h0, h1, h2, h3, h4⟩ := h
  exact ⟨h0.w (by unfold SC; omega) (by omega) (by omega), by rw [ar_fw_eq, upd_ne (by omega)]; exact h1, by rw [ar_fw_eq, upd_eq], R.length, hl, by rw [ar_fw_ne (by omega)]; exact h3⟩
theorem CF.flt {u : Nat} {σ0 τ : St} {i : Nat} (h : CF u σ0 τ i) : CF u σ0 (fw τ 5 4 1) i := by
  obtain ⟨h0, h1, h2, n, hn, h3⟩ := h
  exact ⟨h0.w (by unfold SC; omega) (by omega) (by omega), by rw [ar_fw_eq, upd_ne (by omega)]; exact h1, by rw [ar_fw_eq, upd_eq], n, hn, by rw [ar_fw_ne (by omega)]; exact h3⟩
theorem CT.add {u : Nat} {σ0 τ : St} {i : Nat} {R : List Int32} {v c : Int32} (h : CT u σ0 τ i R) (hl : R.length < 50) (hv : v = cdr u c) : ∃ τ', f_X7_add 72 v τ = some τ' ∧ CT u σ0 τ' i (c :: R) ∧ ar τ' 5 = ar τ 5 := by
  obtain ⟨h0, h1, h2, h3, h4⟩ := h
  refine ⟨_, e_add (by decide) h3 (show R.length < alen (72 + 1) from hl) (by decide), ⟨(h0.w (by unfold SC; omega) (by omega) (by omega)).w (by unfold SC; omega) (by omega) (by omega), ?_, ?_, ?_, ?_⟩, ?_⟩
  · rw [ar_fw_ne (by omega), ar_fw_ne (by omega)]; exact h1
  · rw [ar_fw_ne (by omega), ar_fw_ne (by omega)]; exact h2
  · rw [ar_fw_eq, upd_eq]; rfl
  · rw [ar_fw_ne (by omega), ar_fw_eq]; exact h4.push hv
  · rw [ar_fw_ne (by omega), ar_fw_ne (by omega)]
theorem CF.add {u : Nat} {σ0 τ : St} {i : Nat} {v : Int32} (h : CF u σ0 τ i) : ∃ τ', f_X7_add 72 v τ = some τ' ∧ CF u σ0 τ' i := by
  obtain ⟨h0, h1, h2, n, hn, h3⟩ := h
  by_cases q : n < 50
  · refine ⟨_, e_add (by decide) h3 (show n < alen (72 + 1) from q) (by decide), (h0.w (by unfold SC; omega) (by omega) (by omega)).w (by unfold SC; omega) (by omega) (by omega), ?_, ?_, n + 1, by omega, ?_⟩
    · rw [ar_fw_ne (by omega), ar_fw_ne (by omega)]; exact h1
    · rw [ar_fw_ne (by omega), ar_fw_ne (by omega)]; exact h2
    · rw [ar_fw_eq, upd_eq]
  · exact ⟨τ, e_addF (by decide) h3 (show ¬ n < alen (72 + 1) from q) (by omega), h0, h1, h2, n, hn, h3⟩
/-! the model's side -/
def MT (σ0 σ : St) (P R : List Int32) (i : Nat) : Prop := FrQ σ0 σ ∧ ar σ 6 13 = nI i ∧ ar σ 6 12 = nI P.length ∧ ar σ 6 10 = nI R.length ∧ PR id (ar σ 92) P ∧ PR id (ar σ 91) R
theorem MT.mv {σ0 σ : St} {P R : List Int32} {i : Nat} (h : MT σ0 σ P R i) : fw σ 6 13 (fd σ 6 13 + 1) = fw σ 6 13 (nI (i + 1)) ∧ MT σ0 (fw σ 6 13 (nI (i + 1))) P R (i + 1) := by
  obtain ⟨h0, h1, h2, h3, h4, h5⟩ := h
  refine ⟨by rw [fd_ar, h1, nI_1], h0.tr (FrQ.w6 (by omega)), by rw [ar_fw_eq, upd_eq], by rw [ar_fw_eq, upd_ne (by omega)]; exact h2, by rw [ar_fw_eq, upd_ne (by omega)]; exact h3, by rw [ar_fw_ne (by omega)]; exact h4, by rw [ar_fw_ne (by omega)]; exact h5⟩
theorem MT.lay {σ0 σ : St} {P R : List Int32} {i : Nat} (x : Int32) (h : MT σ0 σ P R i) (hl : R.length < 52) : ∃ σ', f_X12_lays x σ = some σ' ∧ MT σ0 σ' P (x :: R) i := by
  obtain ⟨h0, h1, h2, h3, h4, h5⟩ := h
  refine ⟨fw (fw σ 91 R.length x) 6 10 (nI (R.length + 1)), ?_, (h0.tr (FrQ.w (by omega))).tr (FrQ.w6 (by omega)), ?_, ?_, ?_, ?_, ?_⟩
  · unfold f_X12_lays
    rw [fd_ar, h3, inb_nI hl (by decide), chk_so, nm_so, wr_nI _ (by omega), nm_so, fd_ar, ar_fw_ne (by omega), h3, nI_1]
  · rw [ar_fw_eq, upd_ne (by omega), ar_fw_ne (by omega)]; exact h1
  · rw [ar_fw_eq, upd_ne (by omega), ar_fw_ne (by omega)]; exact h2
  · rw [ar_fw_eq, upd_eq]; rfl
  · rw [ar_fw_ne (by omega), ar_fw_ne (by omega)]; exact h4
  · rw [ar_fw_ne (by omega), ar_fw_eq]; exact h5.push rfl
theorem MT.psh {σ0 σ : St} {P R : List Int32} {i : Nat} (x : Int32) (h : MT σ0 σ P R i) (hl : P.length < 52) : MT σ0 (fw (fw (fw σ 92 P.length x) 6 12 (nI (P.length + 1))) 6 13 (nI (i + 1))) (x :: P) R (i + 1) := by
  obtain ⟨h0, h1, h2, h3, h4, h5⟩ := h
  refine ⟨((h0.tr (FrQ.w (by omega))).tr (FrQ.w6 (by omega))).tr (FrQ.w6 (by omega)), ?_, ?_, ?_, ?_, ?_⟩
  · rw [ar_fw_eq, upd_eq]
  · rw [ar_fw_eq, upd_ne (by omega), ar_fw_eq, upd_eq]; rfl
  · rw [ar_fw_eq, upd_ne (by omega), ar_fw_eq, upd_ne (by omega), ar_fw_ne (by omega)]; exact h3
  · rw [ar_fw_ne (by omega), ar_fw_ne (by omega), ar_fw_eq]; exact h4.push rfl
  · rw [ar_fw_ne (by omega), ar_fw_ne (by omega), ar_fw_ne (by omega)]; exact h5
theorem MT.pop {σ0 σ : St} {P R : List Int32} {i : Nat} {c : Int32} (h : MT σ0 σ (c :: P) R i) (hl : P.length < 52) : MT σ0 (fw σ 6 12 (nI P.length)) P R i := by
  obtain ⟨h0, h1, h2, h3, h4, h5⟩ := h
  exact ⟨h0.tr (FrQ.w6 (by omega)), by rw [ar_fw_eq, upd_ne (by omega)]; exact h1, by rw [ar_fw_eq, upd_eq], by rw [ar_fw_eq, upd_ne (by omega)]; exact h3, by rw [ar_fw_ne (by omega)]; exact h4.2, by rw [ar_fw_ne (by omega)]; exact h5⟩
theorem MT.top {σ0 σ : St} {P R : List Int32} {i : Nat} {c : Int32} (h : MT σ0 σ (c :: P) R i) (hl : P.length < 52) : fd σ 6 12 - 1 = nI P.length ∧ (0 : Int32) < fd σ 6 12 ∧ rd σ 92 (nI P.length) = c ∧ inb (nI P.length) 52 = true := by
  have h2 : ar σ 6 12 = nI (P.length + 1) := h.2.2.1
  refine ⟨by rw [fd_ar, h2, show (1 : Int32) = nI 1 from rfl, pk_sub (by omega), Nat.add_sub_cancel], by rw [fd_ar, h2]; exact nI_lt (a := 0) (by omega) (by omega), by rw [rd_ar (by omega)]; exact h.2.2.2.2.1.1, inb_nI hl (by decide)⟩
theorem MT.emp {σ0 σ : St} {R : List Int32} {i : Nat} (h : MT σ0 σ [] R i) : ¬ (0 : Int32) < fd σ 6 12 := by
  rw [fd_ar, h.2.2.1]; decide
end TX
