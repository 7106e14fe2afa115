/-! what acts may spoil: the stage's, the solver's, the reader's own cells; the model's own -/
def SC (k : Nat) : Prop := k = 3 ∨ k = 4 ∨ k = 5 ∨ (30 ≤ k ∧ k ≤ 51) ∨ k = 72 ∨ k = 73
def FrS (σ σ1 : St) : Prop := (∀ k, ¬ SC k → ar σ1 k = ar σ k) ∧ σ1.1 = σ.1 ∧ σ1.2.2 = σ.2.2 ∧ (isLeast (rc σ 4 9) = true → isLeast (rc σ1 4 9) = true) ∧ (isRow (rc σ 5 1) = true → isRow (rc σ1 5 1) = true)
theorem FrS.rfl' (σ : St) : FrS σ σ := ⟨fun _ _ => rfl, rfl, rfl, id, id⟩
theorem FrS.tr {a b c : St} (h : FrS a b) (h2 : FrS b c) : FrS a c := ⟨fun k q => (h2.1 k q).trans (h.1 k q), h2.2.1.trans h.2.1, h2.2.2.1.trans h.2.2.1, fun q => h2.2.2.2.1 (h.2.2.2.1 q), fun q => h2.2.2.2.2 (h.2.2.2.2 q)⟩
theorem FrS.frc {a b : St} (h : FrS a b) : FrC a b := ⟨fun k p q => h.1 k (by unfold SC; omega), h.1 6 (by unfold SC; omega), h.2.2.1⟩
theorem FrS.w {σ : St} {k j : Nat} {v : Int32} (h : SC k) (h4 : ¬ (k = 4 ∧ j = 9)) (h5 : ¬ (k = 5 ∧ j = 1)) : FrS σ (fw σ k j v) := by
  have e4 : ar (fw σ k j v) 4 9 = ar σ 4 9 := by
    by_cases q : 4 = k
    · subst q; rw [ar_fw_eq, upd_ne (fun e => h4 ⟨rfl, e.symm⟩)]
    · rw [ar_fw_ne q]
  have e5 : ar (fw σ k j v) 5 1 = ar σ 5 1 := by
    by_cases q : 5 = k
    · subst q; rw [ar_fw_eq, upd_ne (fun e => h5 ⟨rfl, e.symm⟩)]
    · rw [ar_fw_ne q]
  refine ⟨fun q hq => ar_fw_ne (fun e => hq (e ▸ h)), rfl, rfl, ?_, ?_⟩
  · rw [rc_ar, rc_ar, e4]; exact id
  · rw [rc_ar, rc_ar, e5]; exact id
theorem FrS.of {σ σ1 : St} {c : Nat} (h : SC c) (hc : c ≠ 4 ∧ c ≠ 5) (hu : ∀ k, k ≠ c → ar σ1 k = ar σ k) (h1 : σ1.1 = σ.1) (h2 : σ1.2.2 = σ.2.2) : FrS σ σ1 := by
  refine ⟨fun q hq => hu q (fun e => hq (e ▸ h)), h1, h2, ?_, ?_⟩
  · rw [rc_ar, rc_ar, hu 4 (fun e => hc.1 e.symm)]; exact id
  · rw [rc_ar, rc_ar, hu 5 (fun e => hc.2 e.symm)]; exact id
theorem FrS.tF {σ : St} {c o n : Nat} {g : Nat → Int32} (h : SC c) (hc : c ≠ 4 ∧ c ≠ 5) : FrS σ (stF σ c o n g) := FrS.of h hc (fun k hk => ar_stF_ne hk) rfl rfl
theorem CR.frs {A : AS} {σ σ1 : St} (h : CR A σ) (hf : FrS σ σ1) : CR A σ1 := by
  obtain ⟨h1, h2, h3, h4, h5, h6, h7⟩ := h
  have hu := hf.1
  have hn : σ.1 ≤ σ1.1 := by rw [hf.2.1]; exact Nat.le_refl _
  refine ⟨h1.ag (hu 1 (by unfold SC; omega)) (fun k _ _ => hu k (by unfold SC; omega)) (fun k _ _ => hu k (by unfold SC; omega)) (fun k _ _ => hu k (by unfold SC; omega)) hn, fun q => (h2 q).ag (hu 2 (by unfold SC; omega)) (fun k _ _ => hu k (by unfold SC; omega)) (fun k _ _ => hu k (by unfold SC; omega)) (fun k _ _ => hu k (by unfold SC; omega)) hn, ?_, ?_, ?_, ?_, ?_⟩
  · rw [hu 0 (by unfold SC; omega)]; exact h3
  · rw [hu 9 (by unfold SC; omega)]; exact h4
  · unfold CTr; rw [hu 74 (by unfold SC; omega), hu 75 (by unfold SC; omega)]; exact h5
  · intro s hs; rw [hu 8 (by unfold SC; omega), hu (76 + 2 * s) (by unfold SC; omega), hu (77 + 2 * s) (by unfold SC; omega)]; exact h6 s hs
  · refine ⟨fun j hj => ?_, hf.2.2.2.1 h7.2.1, hf.2.2.2.2 h7.2.2⟩
    rw [rc_ar, rc_ar, hu 10 (by unfold SC; omega), hu 20 (by unfold SC; omega), hf.2.1]
    exact h7.1 j hj
/-- the model's own cells alone -/
def FrQ (σ σ1 : St) : Prop := FrM σ σ1 ∧ (∀ k, (84 ≤ k ∧ k ≤ 89) ∨ (105 ≤ k ∧ k ≤ 108) → ar σ1 k = ar σ k) ∧ ar σ1 6 2 = ar σ 6 2 ∧ ar σ1 6 4 = ar σ 6 4 ∧ ar σ1 6 27 = ar σ 6 27
theorem FrQ.rfl' (σ : St) : FrQ σ σ := ⟨FrM.rfl' σ, fun _ _ => rfl, rfl, rfl, rfl⟩
theorem FrQ.tr {a b c : St} (h : FrQ a b) (h2 : FrQ b c) : FrQ a c := ⟨h.1.tr h2.1, fun k q => (h2.2.1 k q).trans (h.2.1 k q), h2.2.2.1.trans h.2.2.1, h2.2.2.2.1.trans h.2.2.2.1, h2.2.2.2.2.trans h.2.2.2.2⟩
theorem FrQ.of {σ σ1 : St} {c : Nat} (h : (90 ≤ c ∧ c ≤ 104) ∨ c = 109) (hu : ∀ k, k ≠ c → ar σ1 k = ar σ k) (h1 : σ1.1 = σ.1) : FrQ σ σ1 := by
  have h6 : ar σ1 6 = ar σ 6 := hu 6 (by omega)
  exact ⟨⟨fun k hk _ => hu k (by omega), h1⟩, fun k hk => hu k (by omega), by rw [h6], by rw [h6], by rw [h6]⟩
theorem FrQ.w {σ : St} {k j : Nat} {v : Int32} (h : (90 ≤ k ∧ k ≤ 104) ∨ k = 109) : FrQ σ (fw σ k j v) := FrQ.of h (fun q hq => ar_fw_ne hq) rfl
theorem FrQ.tF {σ : St} {c o n : Nat} {g : Nat → Int32} (h : (90 ≤ c ∧ c ≤ 104) ∨ c = 109) : FrQ σ (stF σ c o n g) := FrQ.of h (fun k hk => ar_stF_ne hk) rfl
theorem FrQ.w6 {σ : St} {j : Nat} {v : Int32} (h : j ≠ 2 ∧ j ≠ 4 ∧ j ≠ 27) : FrQ σ (fw σ 6 j v) := by
  refine ⟨⟨fun k hk h6 => ar_fw_ne h6, rfl⟩, fun k hk => ar_fw_ne (by omega), ?_, ?_, ?_⟩
  · rw [ar_fw_eq, upd_ne (fun e => h.1 e.symm)]
  · rw [ar_fw_eq, upd_ne (fun e => h.2.1 e.symm)]
  · rw [ar_fw_eq, upd_ne (fun e => h.2.2 e.symm)]
theorem FrQ.wL {σ : St} {i : Int32} {v : Int64} : FrQ σ (wrL σ i v) := ⟨⟨fun _ _ _ => rfl, rfl⟩, fun _ _ => rfl, rfl, rfl, rfl⟩
theorem MR.frq {A : AS} {σ σ1 : St} (h : MR A σ) (hf : FrQ σ σ1) : MR A σ1 := by
  obtain ⟨_, hu, h2, h4, h27⟩ := hf
  unfold MR
  rw [hu 84 (by omega), hu 85 (by omega), hu 86 (by omega), hu 87 (by omega), hu 88 (by omega), hu 89 (by omega), hu 105 (by omega), hu 106 (by omega), hu 107 (by omega), hu 108 (by omega), h2, h4, h27]
  exact h
/-- both answer, and only what is their own changes -/
theorem Opn.s {A : AS} {σ : St} {f11 f12 : St → Option (Int32 × St)} (x : Int32) (σ1 : St) (hI : Inv A) (hC : CR A σ) (hM : MR A σ) (h11 : f11 σ = some (x, σ1)) (hf : FrS σ σ1) (h12 : ∀ σ1, MR A σ1 → ∃ σ2, f12 σ1 = some (x, σ2) ∧ MR A σ2 ∧ FrM σ1 σ2) : Opn A σ f11 f12 :=
  Opn.mk' x A σ1 h11 (hC.frs hf) hf.frc (by rw [hf.2.1]; exact Nat.le_succ _) hI hM h12
theorem Opn.errS {A : AS} {σ : St} {f11 f12 : St → Option (Int32 × St)} (k : Nat) (hk : k < 6) (σ1 : St) (hI : Inv A) (hC : CR A σ) (hM : MR A σ) (h11 : f11 σ = f_X11_error (nI k) σ1) (hf : FrS σ σ1) (h12 : ∀ σ1, MR A σ1 → ∃ σ2, f12 σ1 = f_X12_finds (nI k) σ2 ∧ MR A σ2 ∧ FrM σ1 σ2) : Opn A σ f11 f12 := by
  have hb : inb (nI k) 6 = true := inb_nI hk (by decide)
  refine Opn.mk' _ (sE A k) _ (h11.trans (e_error hb)) ?_ ?_ ?_ (hI.err k) hM (fun σ1 hm => ?_)
  · rw [nI_clamp (by omega)]; exact (hC.frs hf).err hk
  · rw [nI_clamp (by omega)]; exact hf.frc.tr (FrC.fw (by omega))
  · rw [fw_1, hf.2.1]; exact Nat.le_succ _
  · obtain ⟨σ2, e, hm2, hfm⟩ := h12 σ1 hm
    refine ⟨_, e.trans (e_finds hb), ?_, ?_⟩
    · rw [nI_clamp (by omega)]; exact hm2.err k
    · rw [nI_clamp (by omega)]; exact hfm.tr (FrM.fw (by omega))
/-! a row set as a whole -/
def stG (σ : St) (c : Nat) (f : Nat → Int32) : St := (σ.1, va_up σ.2.1 c f, σ.2.2)
theorem ar_stG_eq (σ : St) (c : Nat) (f : Nat → Int32) : ar (stG σ c f) c = f := by unfold ar stG; exact va_up_self _ _ _
theorem ar_stG_ne {σ : St} {c k : Nat} {f : Nat → Int32} (h : k ≠ c) : ar (stG σ c f) k = ar σ k := by unfold ar stG; exact va_up_ne _ _ h
theorem stG_id (σ : St) (c : Nat) : stG σ c (ar σ c) = σ := by
  unfold stG ar
  have e2 : va_up σ.2.1 c (σ.2.1 c) = σ.2.1 := funext fun k => by
    unfold va_up
    split
    · subst_vars; rfl
    · rfl
  rw [e2]
theorem va_up_up {m : Nat → Nat → Int32} {c : Nat} {f g : Nat → Int32} : va_up (va_up m c f) c g = va_up m c g := funext fun q => by
  unfold va_up
  split <;> rfl
theorem fw_stG (σ : St) (c i : Nat) (f : Nat → Int32) (v : Int32) : fw (stG σ c f) c i v = stG σ c (upd f i v) := by
  unfold fw stG
  show (σ.1, va_up (va_up σ.2.1 c f) c (upd (va_up σ.2.1 c f c) i v), σ.2.2) = _
  rw [va_up_up, va_up_self]
theorem fw_same {σ : St} {c i : Nat} {v : Int32} (h : ar σ c i = v) : fw σ c i v = σ := by
  have e : upd (ar σ c) i v = ar σ c := funext fun j => by
    unfold upd
    split
    · subst_vars; rfl
    · rfl
  have := stG_id σ c
  rw [← e] at this
  exact this
theorem FrM.stG {σ : St} {c : Nat} {f : Nat → Int32} (h : (84 ≤ c ∧ c < 110) ∨ c = 6) : FrM σ (stG σ c f) := ⟨fun q h1 h2 => ar_stG_ne (by omega), rfl⟩
theorem FrC.stG {σ : St} {c : Nat} {f : Nat → Int32} (h : (c < 84 ∨ 110 ≤ c) ∧ c ≠ 6) : FrC σ (stG σ c f) := ⟨fun q h1 h2 => ar_stG_ne (by omega), ar_stG_ne (fun e => h.2 e.symm), rfl⟩
theorem it_row {T : Type} {f : (Int32 × St) → Option ((Int32 × St) ⊕ T)} {σ : St} (c n : Nat) (F : Nat → Nat → Int32) (h0 : F 0 = ar σ c) (h : ∀ k, k < n → f (nI k, stG σ c (F k)) = some (.inl (nI (k + 1), stG σ c (F (k + 1))))) : it f (0, σ) = it f (nI n, stG σ c (F n)) := by
  have e := it_lp (f := f) (S := Unit) (fun k _ => (nI k, stG σ c (F k))) (fun _ _ => ()) n () (fun k _ hk => h k hk)
  have e0 : (nI 0, stG σ c (F 0)) = ((0 : Int32), σ) := by rw [h0, stG_id]; rfl
  rw [← e0]
  exact e
theorem it_anyK {Z T : Type} {f : Z → Option (Z ⊕ T)} (emb : Nat → Z) (p : Nat → Bool) (n : Nat) (yes no : Option T) (h1 : ∀ k, k < n → p k = true → f (emb k) = yes.map .inr) (h2 : ∀ k, k < n → p k = false → f (emb k) = some (.inl (emb (k + 1)))) (h3 : f (emb n) = no.map .inr) : it f (emb 0) = if anyN p n = true then yes else no := by
  have H : ∀ j, j ≤ n → (∀ k, k < j → p k = false) → it f (emb 0) = it f (emb j) := by
    intro j
    induction j with
    | zero => exact fun _ _ => rfl
    | succ j ih => exact fun hj hp => (ih (by omega) (fun k hk => hp k (by omega))).trans (it_l (h2 j (by omega) (hp j (by omega))))
  by_cases q : anyN p n = true
  · rw [if_pos q]
    obtain ⟨k, ⟨hk, e⟩, hj⟩ := pk_least (fun k => k < n ∧ p k = true) (anyN_t.mp q)
    refine (H k (by omega) (fun j hjk => ?_)).trans (it_k (h1 k hk e))
    cases e2 : p j
    · rfl
    · exact absurd ⟨by omega, e2⟩ (hj j hjk)
  · rw [if_neg q]
    exact (H n (Nat.le_refl n) (anyN_f.mp (by cases e : anyN p n <;> first | rfl | exact absurd e q))).trans (it_k h3)
theorem fw3 {σ : St} {c d i j : Nat} {f : Nat → Int32} {u v v' : Int32} (h : c ≠ d) : fw (fw (fw (stG σ c f) d i v) c j u) d i v' = fw (stG σ c (upd f j u)) d i v' := by
  unfold fw stG
  refine Prod.ext rfl (Prod.ext (funext fun a => funext fun b => ?_) rfl)
  show va_up (va_up (va_up (va_up σ.2.1 c f) d _) c (upd (va_up (va_up σ.2.1 c f) d _ c) j u)) d (upd (va_up (va_up (va_up σ.2.1 c f) d _) c _ d) i v') a b = va_up (va_up σ.2.1 c (upd f j u)) d (upd (va_up σ.2.1 c (upd f j u) d) i v') a b
  by_cases q : a = d
  · subst q
    rw [va_up_self, va_up_self, va_up_ne _ _ (fun e => h e.symm), va_up_self, va_up_ne _ _ (fun e => h e.symm)]
    show upd (upd (va_up σ.2.1 c f a) i v) i v' b = _
    rw [va_up_ne _ _ (fun e => h e.symm)]
    unfold upd
    split <;> rfl
  · rw [va_up_ne _ _ q, va_up_ne _ _ q]
    by_cases q2 : a = c
    · subst q2
      rw [va_up_self, va_up_self, va_up_ne _ _ h, va_up_self]
    · rw [va_up_ne _ _ q2, va_up_ne _ _ q2, va_up_ne _ _ q, va_up_ne _ _ q2]
theorem fil_s (f g : Nat → Int32) (o k : Nat) : upd (fil f o k g) (o + k) (g k) = fil f o (k + 1) g := funext fun j => by
  unfold upd
  split
  · rename_i h; subst h; rw [fil_in (by omega) (by omega), Nat.add_sub_cancel_left]
  · by_cases q : o ≤ j ∧ j < o + k
    · rw [fil_in q.1 q.2, fil_in q.1 (by omega)]
    · rw [fil_out q, fil_out (by omega)]
/-! move -/
theorem cpokN {i j m l0 l1 : Nat} (h0 : i + m ≤ l0) (h1 : j + m ≤ l1) (hi : i < 2 ^ 31) (hj : j < 2 ^ 31) (hm : m < 2 ^ 31) : cpok (nI i) (nI j) (nI m) l0 l1 = true := by
  refine decide_eq_true ?_
  rw [nI_toInt hi, nI_toInt hj, nI_toInt hm]
  omega
def hlq (z : Nat) (x n : Int32) : Int32 := if x < 0 then 0 else if n < 0 then 0 else if nI z - x < n then 0 else 1
theorem hlq_l {z i m : Nat} (hz : z ≤ 24) (hi : i < 2 ^ 31) (hm : m < 2 ^ 31) : (nI z - nI i < nI m) ↔ z < i + m := by
  rw [Int32.lt_iff_toInt_lt, Int32.toInt_sub, nI_toInt (by omega), nI_toInt hi, nI_toInt hm, Int.bmod_eq_of_le (by omega) (by omega)]
  omega
theorem e_holds {c z : Nat} {x n : Int32} {σ : St} (hr : isRow c = true) (hs : ar σ c 1 = nI z) (hz : z ≤ 24) : f_X7_holds c x n σ = some (hlq z x n) := by
  unfold f_X7_holds hlq
  rw [hr, chk_so, fd_ar, hs]
  by_cases q1 : x < 0
  · rw [if_pos q1, if_pos q1]
  rw [if_neg q1, if_neg q1]
  by_cases q2 : n < 0
  · rw [if_pos q2, if_pos q2]
  rw [if_neg q2, if_neg q2]
  obtain ⟨i, hi, rfl⟩ := nI_of q1
  obtain ⟨m, hm, rfl⟩ := nI_of q2
  have e1 : (0 < lg_cmp ((nI i).toInt64 + (nI m).toInt64) ((nI z).toInt64)) ↔ z < i + m := by
    rw [lg_cmp_gt, Int64.lt_iff_toInt_lt, i64_add i hi, Int32.toInt_toInt64, nI_toInt (by omega), nI_toInt hm]; omega
  by_cases q3 : z < i + m
  · rw [if_pos (e1.mpr q3), if_pos ((hlq_l hz hi hm).mpr q3)]
  · rw [if_neg (fun h => q3 (e1.mp h)), if_neg (fun h => q3 ((hlq_l hz hi hm).mp h))]
theorem hlq_c {z : Nat} {x n : Int32} (hz : z ≤ 24) : hlq z x n = 0 ∨ (hlq z x n = 1 ∧ ∃ i m : Nat, x = nI i ∧ n = nI m ∧ i + m ≤ z) := by
  unfold hlq
  by_cases q1 : x < 0
  · rw [if_pos q1]; exact Or.inl rfl
  rw [if_neg q1]
  by_cases q2 : n < 0
  · rw [if_pos q2]; exact Or.inl rfl
  rw [if_neg q2]
  obtain ⟨i, hi, rfl⟩ := nI_of q1
  obtain ⟨m, hm, rfl⟩ := nI_of q2
  by_cases q3 : nI z - nI i < nI m
  · rw [if_pos q3]; exact Or.inl rfl
  · rw [if_neg q3]
    refine Or.inr ⟨rfl, i, m, rfl, rfl, ?_⟩
    rw [hlq_l hz hi hm] at q3
    omega
theorem mv_neg {α : Type} (E R : α) (z w : Nat) (x y n : Int32) : (if n < 0 then E else if x < 0 then E else if y < 0 then E else if nI z - x < n then E else if nI w - y < n then E else R) = if hlq z x n = 0 then E else if hlq w y n = 0 then E else R := by
  unfold hlq
  by_cases q5 : n < 0 <;> by_cases q2 : x < 0 <;> by_cases q4 : y < 0 <;> by_cases q1 : nI z - x < n <;> by_cases q3 : nI w - y < n <;> simp [q5, q2, q4, q1, q3]
section O8
variable {A : AS} {σ : St}
theorem op_move (x y z w v : Int32) (hI : Inv A) (hC : CR A σ) (hM : MR A σ) : Opn A σ (f_X11_move x y z w v) (f_X12_move x y z w v) := by
  rcases wi_cases x (n := 4) (by omega) with h0 | ⟨h1, s, hs, rfl⟩
  · refine Opn.err 1 (by decide) hI hC hM ?_ (fun σ hm => ?_)
    · unfold f_X11_move f_X11_move_16; rw [w_4, bd_so, h0, if_pos rfl]; exact bd2_id _
    · unfold f_X12_move f_X12_move_14; rw [m_isSheet, bd_so, h0, if_pos rfl]; exact bd2_id _
  rcases wi_cases z (n := 4) (by omega) with g0 | ⟨g1, t, ht, rfl⟩
  · refine Opn.err 1 (by decide) hI hC hM ?_ (fun σ hm => ?_)
    · unfold f_X11_move f_X11_move_16; rw [w_4, bd_so, h1, if_neg (by decide), w_4, bd_so, g0, if_pos rfl]; exact bd2_id _
    · unfold f_X12_move f_X12_move_14; rw [m_isSheet, bd_so, h1, if_neg (by decide), m_isSheet, bd_so, g0, if_pos rfl]; exact bd2_id _
  obtain ⟨ds1, ds2, ds3⟩ := hC.2.2.2.2.2.1 s hs
  obtain ⟨dt1, dt2, dt3⟩ := hC.2.2.2.2.2.1 t ht
  obtain ⟨js1, js2, js3⟩ := hI.2.2.2 s hs
  obtain ⟨jt1, jt2, jt3⟩ := hI.2.2.2 t ht
  have m106 : ∀ {σ1 : St} {j : Nat}, MR A σ1 → j < 4 → rd σ1 106 (nI j) = aB A j := fun hm hj => by rw [rd_ar (by omega), hm.2.2.2.2.2.2.1]
  have m107 : ∀ {σ1 : St} {j : Nat}, MR A σ1 → j < 4 → rd σ1 107 (nI j) = aZ A j := fun hm hj => by rw [rd_ar (by omega), hm.2.2.2.2.2.2.2.1]
  by_cases q1 : aB A s = 0
  · refine Opn.err 2 (by decide) hI hC hM ?_ (fun σ hm => ?_)
    · unfold f_X11_move f_X11_move_38; rw [w_4, bd_so, h1, if_neg (by decide), w_4, bd_so, g1, if_neg (by decide), e_isMissing hC hs, if_pos q1, bd_so, if_neg (by decide)]; exact bd2_id _
    · unfold f_X12_move f_X12_move_38; rw [m_isSheet, bd_so, h1, if_neg (by decide), m_isSheet, bd_so, g1, if_neg (by decide), inb_nI hs (by decide), chk_so, m106 hm hs, if_pos q1]; exact bd2_id _
  by_cases q2 : aB A t = 0
  · refine Opn.err 2 (by decide) hI hC hM ?_ (fun σ hm => ?_)
    · unfold f_X11_move f_X11_move_38; rw [w_4, bd_so, h1, if_neg (by decide), w_4, bd_so, g1, if_neg (by decide), e_isMissing hC hs, if_neg q1, bd_so, if_pos rfl, e_isMissing hC ht, if_pos q2, bd_so, if_neg (by decide)]; exact bd2_id _
    · unfold f_X12_move f_X12_move_38; rw [m_isSheet, bd_so, h1, if_neg (by decide), m_isSheet, bd_so, g1, if_neg (by decide), inb_nI hs (by decide), chk_so, m106 hm hs, if_neg q1, inb_nI ht (by decide), chk_so, m106 hm ht, if_pos q2]; exact bd2_id _
  have s11 : ∀ (R : Option (Int32 × St)), (if aB A s = aB A t then (bd (f_X7_holds (76 + 2 * s) y v σ) fun r21 => if r21 = 0 then f_X11_move_96 σ else (bd (f_X7_holds (76 + 2 * t) w v σ) fun r26 => if r26 = 0 then f_X11_move_96 σ else (chk (cpok y w v (alen ((76 + 2 * s) + 1)) (alen ((76 + 2 * t) + 1))) <| nm (cpy σ ((76 + 2 * s) + 1) y ((76 + 2 * t) + 1) w v) fun σ33 => some (v, σ33)))) else (bd2 (f_X11_error 5 σ) fun r34 σ36 => some (r34, σ36))) = R → f_X11_move (nI s) y (nI t) w v σ = R := by
    intro R hR
    rw [← hR]
    unfold f_X11_move
    rw [w_4, bd_so, h1, if_neg (by decide), w_4, bd_so, g1, if_neg (by decide), e_isMissing hC hs, if_neg q1, bd_so, if_pos rfl, e_isMissing hC ht, if_neg q2, bd_so, if_pos rfl, inb_nI hs (by decide), chk_so, inb_nI ht (by decide), chk_so, rd_ar (by omega), rd_ar (by omega), ds1, dt1, nI_clamp (by omega), nI_clamp (by omega)]
  have s12 : ∀ {σ1 : St} (R : Option (Int32 × St)), MR A σ1 → (if aB A s = aB A t then (if v < 0 then f_X12_move_106 σ1 else if y < 0 then f_X12_move_106 σ1 else if w < 0 then f_X12_move_106 σ1 else if nI (cn (aZ A) s) - y < v then f_X12_move_106 σ1 else if nI (cn (aZ A) t) - w < v then f_X12_move_106 σ1 else f_X12_move_115 (nI s) y (nI t) w v 0 σ1) else (bd2 (f_X12_finds 5 σ1) fun r19 σ21 => some (r19, σ21))) = R → f_X12_move (nI s) y (nI t) w v σ1 = R := by
    intro σ1 R hm hR
    rw [← hR]
    unfold f_X12_move
    rw [m_isSheet, bd_so, h1, if_neg (by decide), m_isSheet, bd_so, g1, if_neg (by decide), inb_nI hs (by decide), chk_so, m106 hm hs, if_neg q1, inb_nI ht (by decide), chk_so, m106 hm ht, if_neg q2, m107 hm hs, m107 hm ht, ← js2, ← jt2]
  by_cases q3 : ¬ aB A s = aB A t
  · refine Opn.err 5 (by decide) hI hC hM (s11 _ ?_) (fun σ hm => s12 _ hm ?_)
    · rw [if_neg q3]; exact bd2_id _
    · rw [if_neg q3]; exact bd2_id _
  have q3 := Classical.not_not.mp q3
  have k11 := e_holds (c := 76 + 2 * s) (x := y) (n := v) (decide_eq_true (by omega)) (ds2.trans js2) js3
  have k12 := e_holds (c := 76 + 2 * t) (x := w) (n := v) (decide_eq_true (by omega)) (dt2.trans jt2) jt3
  rcases hlq_c (x := y) (n := v) js3 with p1 | ⟨p1, i, m, rfl, rfl, him⟩
  · refine Opn.err 1 (by decide) hI hC hM (s11 _ ?_) (fun σ hm => s12 _ hm ?_)
    · unfold f_X11_move_96; rw [if_pos q3, k11, bd_so, p1, if_pos rfl]; exact bd2_id _
    · unfold f_X12_move_106; rw [if_pos q3, mv_neg, p1, if_pos rfl]; exact bd2_id _
  rcases hlq_c (x := w) (n := nI m) jt3 with p2 | ⟨p2, j, m2, rfl, hm2, hjm⟩
  · refine Opn.err 1 (by decide) hI hC hM (s11 _ ?_) (fun σ hm => s12 _ hm ?_)
    · unfold f_X11_move_96; rw [if_pos q3, k11, bd_so, p1, if_neg (by decide), k12, bd_so, p2, if_pos rfl]; exact bd2_id _
    · unfold f_X12_move_106; rw [if_pos q3, mv_neg, p1, if_neg (by decide), p2, if_pos rfl]; exact bd2_id _
  have hm2' : m = m2 := by
    have h := congrArg Int32.toNatClampNeg hm2
    have e1 := hlq_l (z := 0) (i := 0) (m := 0) (by decide) (by decide) (by decide)
    by_cases c2 : m2 < 2 ^ 31
    · rw [nI_clamp (by omega), nI_clamp c2] at h; exact h
    · omega
  subst hm2'
  refine Opn.mk' (nI m) (sSh A (aB A) (aZ A) (fil (aS A) (24 * t + j) m (fun k => aS A (24 * s + i + k)))) (stF σ (77 + 2 * t) j m (fun k => ar σ (77 + 2 * s) (i + k))) (s11 _ ?_) ?_ (FrC.stF (by omega)) (Nat.le_succ _) (hI.she hI.2.2.2) hM (fun σ1 hm => ⟨stF (stF σ1 109 0 m (fun k => ar σ1 108 (24 * s + i + k))) 108 (24 * t + j) m (fun k => ar σ1 108 (24 * s + i + k)), s12 _ hm ?_, ?_, (FrM.stF (by omega)).tr (FrM.stF (by omega))⟩)
  · rw [if_pos q3, k11, bd_so, p1, if_neg (by decide), k12, bd_so, p2, if_neg (by decide), show 76 + 2 * s + 1 = 77 + 2 * s by omega, show 76 + 2 * t + 1 = 77 + 2 * t by omega, alen_sh hs, alen_sh ht, cpokN (by omega) (by omega) (by omega) (by omega) (by omega), chk_so, nm_so, cpy_stF (by omega) (by omega) (by omega)]
  · refine hC.she (fun s2 hs2 => ?_) (fun k _ _ => ar_stF_ne (by omega)) rfl
    obtain ⟨d1, d2, d3⟩ := hC.2.2.2.2.2.1 s2 hs2
    refine ⟨?_, ?_, fun k hk => ?_⟩
    · rw [ar_stF_ne (by omega)]; exact d1
    · rw [ar_stF_ne (by omega)]; exact d2
    · show _ = fil (aS A) (24 * t + j) m (fun k => aS A (24 * s + i + k)) (24 * s2 + k)
      by_cases q2 : s2 = t
      · subst q2
        rw [ar_stF_eq]
        by_cases q4 : j ≤ k ∧ k < j + m
        · rw [fil_in q4.1 q4.2, fil_in (by omega) (by omega), ds3 _ (by omega), show 24 * s2 + k - (24 * s2 + j) = k - j by omega, show 24 * s + (i + (k - j)) = 24 * s + i + (k - j) by omega]
        · rw [fil_out q4, fil_out (by omega)]; exact d3 k hk
      · rw [ar_stF_ne (by omega), fil_out (by omega)]; exact d3 k hk
  · rw [if_pos q3, mv_neg, p1, if_neg (by decide), p2, if_neg (by decide)]
    unfold f_X12_move_115
    have e1 : ∀ a b k : Nat, ((24 * nI a) + nI b) + nI k = nI (24 * a + b + k) := fun a b k => by rw [show (24 : Int32) = nI 24 from rfl, pk_mul, nI_add, nI_add]
    refine (it_fil 109 0 m (fun k => ar σ1 108 (24 * s + i + k)) (fun k hk => ?_)).trans (it_k ?_)
    · show b_X12_move_115 (nI s) (nI i) (nI t) (nI j) (nI m) (nI k) _ = _
      unfold b_X12_move_115
      rw [if_pos (nI_lt hk (by omega)), e1, inb_nI (by omega) (by decide), chk_so, inb_nI (by omega) (by decide), chk_so, nm_so, wr_nI _ (by omega), nI_1, rd_ar (by omega), ar_stF_ne (by omega), Nat.zero_add]
    · show b_X12_move_115 (nI s) (nI i) (nI t) (nI j) (nI m) (nI m) _ = _
      unfold b_X12_move_115
      rw [if_neg (nI_nlt (Nat.le_refl _) (by omega))]
      congr 1
      unfold f_X12_move_149 f_X12_move_152
      refine (it_fil 108 (24 * t + j) m (fun k => ar σ1 108 (24 * s + i + k)) (fun k hk => ?_)).trans (it_r ?_)
      · show b_X12_move_152 (nI t) (nI j) (nI m) (nI k) _ = _
        unfold b_X12_move_152
        rw [if_pos (nI_lt hk (by omega)), e1, inb_nI (show k < 24 by omega) (by decide), chk_so, inb_nI (by omega) (by decide), chk_so, nm_so, wr_nI _ (by omega), nI_1, rd_ar (by omega), ar_stF_ne (by omega), ar_stF_eq, fil_in (by omega) (by omega), Nat.sub_zero]
      · show b_X12_move_152 (nI t) (nI j) (nI m) (nI m) _ = _
        unfold b_X12_move_152
        rw [if_neg (nI_nlt (Nat.le_refl _) (by omega))]
  · refine hm.she ?_ ?_ ?_ (fun k hk => by rw [ar_stF_ne (by omega), ar_stF_ne (by omega)])
    · rw [ar_stF_ne (by omega), ar_stF_ne (by omega), hm.2.2.2.2.2.2.1]
    · rw [ar_stF_ne (by omega), ar_stF_ne (by omega), hm.2.2.2.2.2.2.2.1]
    · rw [ar_stF_eq, ar_stF_ne (by omega), hm.2.2.2.2.2.2.2.2.1]
end O8
