/-! image, restore -/
theorem pfx_cong {u : Nat} {f g : Nat → Int32} : ∀ {n m : Nat}, (∀ k, k < n → f k = g k) → pfx u f n m → pfx u g n m
  | 0, _, _, h => h
  | n + 1, m, e, h => by
    have e1 := e n (Nat.lt_succ_self n)
    have e2 : ∀ k, k < n → f k = g k := fun k hk => e k (Nat.lt_succ_of_lt hk)
    show (∃ v : Nat, v < 10000 ∧ g n = nI v ∧ ∃ j, m = j + 1 ∧ pfx u g n j) ∨ (∃ k : Nat, k < (if u = 2 then 6 else 5) ∧ g n = -1 - nI k ∧ ∃ j, m = j + 1 ∧ pfx u g n j) ∨ (g n = -133 ∧ 1 ≤ m ∧ pfx u g n m) ∨ (∃ c, sgn c ∧ g n = -100 - c ∧ 1 ≤ m ∧ pfx u g n (m + 1))
    rw [← e1]
    rcases h with ⟨v, hv, ev, j, hj, hp⟩ | ⟨v, hv, ev, j, hj, hp⟩ | ⟨ev, hj, hp⟩ | ⟨c, hc, ev, hj, hp⟩
    · exact Or.inl ⟨v, hv, ev, j, hj, pfx_cong e2 hp⟩
    · exact Or.inr (Or.inl ⟨v, hv, ev, j, hj, pfx_cong e2 hp⟩)
    · exact Or.inr (Or.inr (Or.inl ⟨ev, hj, pfx_cong e2 hp⟩))
    · exact Or.inr (Or.inr (Or.inr ⟨c, hc, ev, hj, pfx_cong e2 hp⟩))
theorem IR.bnd {r r' : Nat → Int32} (h : IR r) (e : ∀ k, k < 466 → r' k = r k) : IR r' := by
  obtain ⟨i1, i2, i3, i4, i5, i6, i7⟩ := h
  have b1 := i1.2.1.2
  have b2 := i1.2.2.1.2
  have b3 := i1.2.2.2.1.2
  have b4 := i1.2.2.2.2.1.2
  refine ⟨ICn.of ((e 0 (by omega)).trans i1.1.1) i1.1.2 ((e 1 (by omega)).trans i1.2.1.1) i1.2.1.2 ((e 2 (by omega)).trans i1.2.2.1.1) i1.2.2.1.2 ((e 3 (by omega)).trans i1.2.2.2.1.1) i1.2.2.2.1.2 ((e 4 (by omega)).trans i1.2.2.2.2.1.1) i1.2.2.2.2.1.2 ((e 5 (by omega)).trans i1.2.2.2.2.2.1) i1.2.2.2.2.2.2, i2.cg (e 1 (by omega)) (e 3 (by omega)) (fun k _ _ => e k (by omega)), i3.cg (e 0 (by omega)) (e 1 (by omega)) (e 2 (by omega)) (fun k _ _ => e k (by omega)), i4.cg (e 2 (by omega)) (fun k _ _ => e k (by omega)), i5.cg (e 3 (by omega)) (fun k _ _ => e k (by omega)), i6.cg (e 4 (by omega)) (fun k _ _ => e k (by omega)), fun u hu => ?_⟩
  obtain ⟨h1, h2, h3⟩ := i7 u hu
  rw [cn_cong (e (310 + 52 * u) (by omega)), e (310 + 52 * u) (by omega)]
  exact ⟨h1, h2, h3.imp id (pfx_cong (fun k hk => (e (311 + 52 * u + k) (by omega)).symm))⟩
theorem CP.bnd {r r' : Nat → Int32} {σ : St} {c a t : Nat} (hI : IR r) (h : CP c a t r σ) (e : ∀ k, k < 466 → r' k = r k) : CP c a t r' σ := by
  obtain ⟨c1, c2, c3, c4, c5, c6, c7, c8⟩ := h
  have b1 := hI.1.2.1.2
  have b2 := hI.1.2.2.1.2
  have b3 := hI.1.2.2.2.1.2
  have b4 := hI.1.2.2.2.2.1.2
  have b5 := hI.1.2.2.2.2.2.2
  refine ⟨c1.cg rfl (fun k _ => e k (by omega)), c2.cg ⟨rfl, rfl⟩ (e 4 (by omega)) (fun k _ _ => e k (by omega)), c3.cg ⟨rfl, rfl⟩ (e 5 (by omega)) (fun k _ _ => e k (by omega)), fun u hu => ?_, c5.cg rfl (e 1 (by omega)) (fun k _ _ => e k (by omega)), c6.cg rfl (fun _ _ _ => rfl) (Nat.le_refl _) (e 1 (by omega)) (fun p _ k _ _ => e k (by omega)), c7.cg (fun _ _ _ => rfl) (e 2 (by omega)) (fun k _ _ => e k (by omega)), c8.cg (fun _ _ _ => rfl) (e 3 (by omega)) (fun k _ _ => e k (by omega))⟩
  have hx := (hI.2.2.2.2.2.2 u hu).2.1
  rw [cn_cong (e (310 + 52 * u) (by omega)), e (310 + 52 * u) (by omega)]
  refine ⟨(c4 u hu).1, fun i hi => ?_⟩
  rw [e (311 + 52 * u + i) (by omega)]
  exact (c4 u hu).2 i hi
def Ends (o : Option St) (P : St → Prop) : Prop := ∃ s, o = some s ∧ P s
theorem cpy0 {τ : St} {k0 k1 n : Nat} (hb : n < 2 ^ 31) : cpy τ k0 0 k1 0 (nI n) = stF τ k1 0 n (ar τ k0) := by
  have h := cpy_stF (σ := τ) (k0 := k0) (k1 := k1) (sp := 0) (dp := 0) (n := n) (by decide) (by decide) hb
  simp only [Nat.zero_add] at h
  exact h
theorem cpok0 {n l0 l1 : Nat} (h0 : n ≤ l0) (h1 : n ≤ l1) (hb : n < 2 ^ 31) : cpok 0 0 (nI n) l0 l1 = true := by
  refine decide_eq_true ?_
  rw [nI_toInt hb, show (0 : Int32).toInt = 0 by decide]
  omega
theorem En.cp {τ : St} {k0 k1 n l0 l1 : Nat} {x : Int32} {K : St → Option St} {P : St → Prop} (hx : x = nI n) (h0 : n ≤ l0) (h1 : n ≤ l1) (hb : n < 2 ^ 31) (h : ∀ τ', (∀ k, k ≠ k1 → ar τ' k = ar τ k) → ar τ' k1 = fil (ar τ k1) 0 n (ar τ k0) → τ'.1 = τ.1 → τ'.2.2 = τ.2.2 → Ends (K τ') P) : Ends (chk (cpok 0 0 x l0 l1) (nm (cpy τ k0 0 k1 0 x) K)) P := by
  subst hx
  rw [cpok0 h0 h1 hb, chk_so, nm_so, cpy0 hb]
  exact h _ (fun k hk => ar_stF_ne hk) (ar_stF_eq _ _ _ _ _) rfl rfl
theorem En.bec {τ : St} {c0 c1 n : Nat} {K : St → Option St} {P : St → Prop} (hr0 : isRow c0 = true) (hr1 : isRow c1 = true) (hx : ar τ c1 1 = nI n) (h0 : n ≤ alen (c1 + 1)) (h1 : n ≤ alen (c0 + 1)) (hb : n < 2 ^ 31) (h : ∀ τ', (∀ k, k ≠ c0 → k ≠ c0 + 1 → ar τ' k = ar τ k) → ar τ' (c0 + 1) = fil (ar τ (c0 + 1)) 0 n (ar τ (c1 + 1)) → ar τ' c0 1 = nI n → τ'.1 = τ.1 → τ'.2.2 = τ.2.2 → Ends (K τ') P) : Ends (bd (f_X7_become c0 c1 τ) K) P := by
  have p0 := of_decide_eq_true hr0
  have p1 := of_decide_eq_true hr1
  unfold f_X7_become
  rw [hr1, chk_so, hr0, chk_so, fd_ar, hx, cpok0 h0 h1 hb, chk_so, nm_so, cpy0 hb, nm_so, bd_so, fd_ar, ar_stF_ne (show c1 ≠ c0 + 1 by omega), hx]
  refine h _ (fun k h1 h2 => by rw [ar_fw_ne h1, ar_stF_ne h2]) ?_ ?_ rfl rfl
  · rw [ar_fw_ne (by omega), ar_stF_eq]
  · rw [ar_fw_eq, upd_eq]
theorem clamp_lt (x : Int32) : x.toNatClampNeg < 2 ^ 31 := by
  have h1 := Int32.toInt_lt x
  show x.toInt.toNat < 2 ^ 31
  omega
def PK (k : Nat) : Prop := k = 2 ∨ (20 ≤ k ∧ k ≤ 28) ∨ (62 ≤ k ∧ k ≤ 71)
theorem e_become_1 {r : Nat → Int32} {σ : St} (hI : IR r) (hp : CP 2 20 62 r σ) : Ends (f_X4_become_1 σ) (fun τ => (∀ k, ¬ PC k → ar τ k = ar σ k) ∧ τ.1 = σ.1 ∧ τ.2.2 = σ.2.2 ∧ CP 1 10 52 r τ ∧ ∀ j, j < 10 → rc τ 10 j = rc σ 10 j ∨ rc τ 10 j = rc σ 20 j) := by
  obtain ⟨i1, i2, i3, i4, i5, i6, i7⟩ := hI
  obtain ⟨c1, c2, c3, c4, c5, c6, c7, c8⟩ := hp
  have b1 := i1.2.1.2
  have b2 := i1.2.2.1.2
  have b3 := i1.2.2.2.1.2
  have b4 := i1.2.2.2.2.1.2
  have b5 := i1.2.2.2.2.2.2
  have x0 := (i7 0 (by decide)).2.1
  have x1 := (i7 1 (by decide)).2.1
  have x2 := (i7 2 (by decide)).2.1
  unfold f_X4_become_1
  rw [nm_so, nm_so, nm_so, nm_so]
  obtain ⟨τ0, h0⟩ : ∃ s, s = fw (fw (fw (fw σ 1 0 (ar σ 2 0)) 1 1 (ar σ 2 1)) 1 2 (ar σ 2 2)) 1 3 (ar σ 2 3) := ⟨_, rfl⟩
  have e0 : fw (fw (fw (fw σ 1 0 (fd σ 2 0)) 1 1 (fd (fw σ 1 0 (fd σ 2 0)) 2 1)) 1 2 (fd (fw (fw σ 1 0 (fd σ 2 0)) 1 1 (fd (fw σ 1 0 (fd σ 2 0)) 2 1)) 2 2)) 1 3 (fd (fw (fw (fw σ 1 0 (fd σ 2 0)) 1 1 (fd (fw σ 1 0 (fd σ 2 0)) 2 1)) 1 2 (fd (fw (fw σ 1 0 (fd σ 2 0)) 1 1 (fd (fw σ 1 0 (fd σ 2 0)) 2 1)) 2 2)) 2 3) = τ0 := by
    rw [h0]; rfl
  rw [e0]
  have u0 : ∀ k, k ≠ 1 → ar τ0 k = ar σ k := fun k hk => by rw [h0, ar_fw_ne hk, ar_fw_ne hk, ar_fw_ne hk, ar_fw_ne hk]
  have v00 : ar τ0 1 0 = r 0 := by rw [h0, ar_fw_eq, upd_ne (by omega), ar_fw_eq, upd_ne (by omega), ar_fw_eq, upd_ne (by omega), ar_fw_eq, upd_eq]; exact c1.1
  have v01 : ar τ0 1 1 = r 1 := by rw [h0, ar_fw_eq, upd_ne (by omega), ar_fw_eq, upd_ne (by omega), ar_fw_eq, upd_eq]; exact c1.2.1
  have v02 : ar τ0 1 2 = r 2 := by rw [h0, ar_fw_eq, upd_ne (by omega), ar_fw_eq, upd_eq]; exact c1.2.2.1
  have v03 : ar τ0 1 3 = r 3 := by rw [h0, ar_fw_eq, upd_eq]; exact c1.2.2.2
  have n0 : τ0.1 = σ.1 := by rw [h0]; rfl
  have l0 : τ0.2.2 = σ.2.2 := by rw [h0]; rfl
  clear e0 h0
  unfold f_X4_become_1_34
  have lp1 : it (fun z : Int32 × St => b_X4_become_1_34 z.1 z.2) (0, τ0) = f_X4_become_1_60 (stF τ0 10 0 (cn r 1) (fun j => nI (rc σ 20 j))) := by
    refine (it_fil 10 0 (cn r 1) (fun j => nI (rc σ 20 j)) (fun k hk => ?_)).trans (it_k ?_)
    · show b_X4_become_1_34 (nI k) _ = _
      obtain ⟨g0, _⟩ := c6 k hk
      have g := of_decide_eq_true g0
      have er : ∀ j, rc (stF τ0 10 0 k (fun j => nI (rc σ 20 j))) 20 j = rc σ 20 j := fun j => by rw [rc_ar, rc_ar, ar_stF_ne (by omega), u0 20 (by omega)]
      have ek : (rd (stF τ0 10 0 k (fun j => nI (rc σ 20 j))) 20 (nI k)).toNatClampNeg = rc σ 20 k := by rw [rd_ar (by omega)]; exact er k
      have e5 : ∀ K, 110 ≤ K → rc (stF τ0 10 0 k (fun j => nI (rc σ 20 j))) K 5 = rc σ K 5 := fun K hK => by rw [rc_ar, rc_ar, ar_stF_ne (by omega), u0 _ (by omega)]
      have n1 : (stF τ0 10 0 k (fun j => nI (rc σ 20 j))).1 = σ.1 := n0
      unfold b_X4_become_1_34
      rw [fd_ar, ar_stF_ne (by omega), v01, i1.2.1.1, if_pos (nI_lt hk (by omega)), inb_nI (show k < 10 by omega) (by decide), chk_so, ek, chk_t (show isRole (stF τ0 10 0 k (fun j => nI (rc σ 20 j))) (rc σ 20 k) = true from decide_eq_true (by rw [e5 _ g.1, n1]; exact g)), chk_t (decide_eq_true (show rc σ 20 k < 2 ^ 31 from clamp_lt _)), nm_so, wr_nI _ (by omega), nI_1, Nat.zero_add]
    · show b_X4_become_1_34 (nI (cn r 1)) _ = _
      unfold b_X4_become_1_34
      rw [fd_ar, ar_stF_ne (by omega), v01, i1.2.1.1, if_neg (nI_nlt (Nat.le_refl _) (by omega))]
  rw [lp1]
  obtain ⟨τ1, h1⟩ : ∃ s, s = stF τ0 10 0 (cn r 1) (fun j => nI (rc σ 20 j)) := ⟨_, rfl⟩
  rw [← h1]
  have u1 : ∀ k, k ≠ 10 → ar τ1 k = ar τ0 k := fun k hk => by rw [h1, ar_stF_ne hk]
  have v1 : ar τ1 10 = fil (ar τ0 10) 0 (cn r 1) (fun j => nI (rc σ 20 j)) := by rw [h1, ar_stF_eq]
  have n1 : τ1.1 = τ0.1 := by rw [h1]; rfl
  have l1 : τ1.2.2 = τ0.2.2 := by rw [h1]; rfl
  clear h1 lp1
  unfold f_X4_become_1_60
  refine En.cp (n := cn r 1) (by rw [fd_ar, (u1 1 (by decide)), v01]; exact i1.2.1.1) b1 b1 (by omega) (fun τ2 u2 v2 n2 l2 => ?_)
  refine En.cp (n := cn r 2) (by rw [fd_ar, ((u2 1 (by decide)).trans (u1 1 (by decide))), v02]; exact i1.2.2.1.1) b2 b2 (by omega) (fun τ3 u3 v3 n3 l3 => ?_)
  refine En.cp (n := cn r 2) (by rw [fd_ar, ((u3 1 (by decide)).trans ((u2 1 (by decide)).trans (u1 1 (by decide)))), v02]; exact i1.2.2.1.1) b2 b2 (by omega) (fun τ4 u4 v4 n4 l4 => ?_)
  refine En.cp (n := cn r 2) (by rw [fd_ar, ((u4 1 (by decide)).trans ((u3 1 (by decide)).trans ((u2 1 (by decide)).trans (u1 1 (by decide))))), v02]; exact i1.2.2.1.1) b2 b2 (by omega) (fun τ5 u5 v5 n5 l5 => ?_)
  refine En.cp (n := cn r 2) (by rw [fd_ar, ((u5 1 (by decide)).trans ((u4 1 (by decide)).trans ((u3 1 (by decide)).trans ((u2 1 (by decide)).trans (u1 1 (by decide)))))), v02]; exact i1.2.2.1.1) b2 b2 (by omega) (fun τ6 u6 v6 n6 l6 => ?_)
  refine En.cp (n := cn r 3) (by rw [fd_ar, ((u6 1 (by decide)).trans ((u5 1 (by decide)).trans ((u4 1 (by decide)).trans ((u3 1 (by decide)).trans ((u2 1 (by decide)).trans (u1 1 (by decide))))))), v03]; exact i1.2.2.2.1.1) b3 b3 (by omega) (fun τ7 u7 v7 n7 l7 => ?_)
  refine En.cp (n := cn r 3) (by rw [fd_ar, ((u7 1 (by decide)).trans ((u6 1 (by decide)).trans ((u5 1 (by decide)).trans ((u4 1 (by decide)).trans ((u3 1 (by decide)).trans ((u2 1 (by decide)).trans (u1 1 (by decide)))))))), v03]; exact i1.2.2.2.1.1) b3 b3 (by omega) (fun τ8 u8 v8 n8 l8 => ?_)
  refine En.cp (n := cn r 3) (by rw [fd_ar, ((u8 1 (by decide)).trans ((u7 1 (by decide)).trans ((u6 1 (by decide)).trans ((u5 1 (by decide)).trans ((u4 1 (by decide)).trans ((u3 1 (by decide)).trans ((u2 1 (by decide)).trans (u1 1 (by decide))))))))), v03]; exact i1.2.2.2.1.1) b3 b3 (by omega) (fun τ9 u9 v9 n9 l9 => ?_)
  refine En.bec (n := cn r 4) (by decide) (by decide) (by rw [((u9 62 (by decide)).trans ((u8 62 (by decide)).trans ((u7 62 (by decide)).trans ((u6 62 (by decide)).trans ((u5 62 (by decide)).trans ((u4 62 (by decide)).trans ((u3 62 (by decide)).trans ((u2 62 (by decide)).trans ((u1 62 (by decide)).trans (u0 62 (by decide)))))))))))]; exact c2.1.trans i1.2.2.2.2.1.1) (show cn r 4 ≤ 50 from b4) (show cn r 4 ≤ 50 from b4) (by omega) (fun τ10 u10 v10 w10 n10 l10 => ?_)
  refine En.bec (n := cn r 5) (by decide) (by decide) (by rw [((u10 64 (by decide) (by decide)).trans ((u9 64 (by decide)).trans ((u8 64 (by decide)).trans ((u7 64 (by decide)).trans ((u6 64 (by decide)).trans ((u5 64 (by decide)).trans ((u4 64 (by decide)).trans ((u3 64 (by decide)).trans ((u2 64 (by decide)).trans ((u1 64 (by decide)).trans (u0 64 (by decide))))))))))))]; exact c3.1.trans i1.2.2.2.2.2.1) (show cn r 5 ≤ 20 from b5) (show cn r 5 ≤ 20 from b5) (by omega) (fun τ11 u11 v11 w11 n11 l11 => ?_)
  have stp : ∀ (u : Nat) (τ : St), u < 3 → it (fun z : Int32 × St => b_X4_become_1_220 z.1 z.2) (nI u, τ) = bd (f_X7_become (56 + 2 * u) (66 + 2 * u) τ) (fun s => it (fun z : Int32 × St => b_X4_become_1_220 z.1 z.2) (nI (u + 1), s)) := by
    intro u τ hu
    have e : b_X4_become_1_220 (nI u) τ = bd (f_X7_become (56 + 2 * u) (66 + 2 * u) τ) fun s => some (.inl (nI (u + 1), s)) := by
      unfold b_X4_become_1_220
      rw [if_pos (show nI u < 3 from nI_lt hu (by decide)), inb_nI hu (by decide), chk_so, nI_clamp (by omega), nI_1]
    cases e2 : f_X7_become (56 + 2 * u) (66 + 2 * u) τ with
    | none =>
      rw [e2] at e
      exact it_k (k := none) e
    | some s =>
      rw [e2] at e
      exact it_l e
  unfold f_X4_become_1_220
  rw [show ((0 : Int32), τ11) = (nI 0, τ11) from rfl, stp 0 _ (by decide)]
  refine En.bec (n := cn r (310 + 52 * 0)) (by decide) (by decide) (by show ar τ11 66 1 = _; rw [((u11 66 (by decide) (by decide)).trans ((u10 66 (by decide) (by decide)).trans ((u9 66 (by decide)).trans ((u8 66 (by decide)).trans ((u7 66 (by decide)).trans ((u6 66 (by decide)).trans ((u5 66 (by decide)).trans ((u4 66 (by decide)).trans ((u3 66 (by decide)).trans ((u2 66 (by decide)).trans ((u1 66 (by decide)).trans (u0 66 (by decide)))))))))))))]; exact (c4 0 (by decide)).1.trans (i7 0 (by decide)).1) (show cn r (310 + 52 * 0) ≤ 50 from x0) (show cn r (310 + 52 * 0) ≤ 50 from x0) (by omega) (fun τ12 u12 v12 w12 n12 l12 => ?_)
  rw [stp 1 _ (by decide)]
  refine En.bec (n := cn r (310 + 52 * 1)) (by decide) (by decide) (by show ar τ12 68 1 = _; rw [((u12 68 (by decide) (by decide)).trans ((u11 68 (by decide) (by decide)).trans ((u10 68 (by decide) (by decide)).trans ((u9 68 (by decide)).trans ((u8 68 (by decide)).trans ((u7 68 (by decide)).trans ((u6 68 (by decide)).trans ((u5 68 (by decide)).trans ((u4 68 (by decide)).trans ((u3 68 (by decide)).trans ((u2 68 (by decide)).trans ((u1 68 (by decide)).trans (u0 68 (by decide))))))))))))))]; exact (c4 1 (by decide)).1.trans (i7 1 (by decide)).1) (show cn r (310 + 52 * 1) ≤ 50 from x1) (show cn r (310 + 52 * 1) ≤ 50 from x1) (by omega) (fun τ13 u13 v13 w13 n13 l13 => ?_)
  rw [stp 2 _ (by decide)]
  refine En.bec (n := cn r (310 + 52 * 2)) (by decide) (by decide) (by show ar τ13 70 1 = _; rw [((u13 70 (by decide) (by decide)).trans ((u12 70 (by decide) (by decide)).trans ((u11 70 (by decide) (by decide)).trans ((u10 70 (by decide) (by decide)).trans ((u9 70 (by decide)).trans ((u8 70 (by decide)).trans ((u7 70 (by decide)).trans ((u6 70 (by decide)).trans ((u5 70 (by decide)).trans ((u4 70 (by decide)).trans ((u3 70 (by decide)).trans ((u2 70 (by decide)).trans ((u1 70 (by decide)).trans (u0 70 (by decide)))))))))))))))]; exact (c4 2 (by decide)).1.trans (i7 2 (by decide)).1) (show cn r (310 + 52 * 2) ≤ 50 from x2) (show cn r (310 + 52 * 2) ≤ 50 from x2) (by omega) (fun τ14 u14 v14 w14 n14 l14 => ?_)
  have efin : it (fun z : Int32 × St => b_X4_become_1_220 z.1 z.2) (nI (2 + 1), τ14) = some τ14 := it_r rfl
  refine ⟨τ14, efin, ?_, n14.trans (n13.trans (n12.trans (n11.trans (n10.trans (n9.trans (n8.trans (n7.trans (n6.trans (n5.trans (n4.trans (n3.trans (n2.trans (n1.trans (n0)))))))))))))), l14.trans (l13.trans (l12.trans (l11.trans (l10.trans (l9.trans (l8.trans (l7.trans (l6.trans (l5.trans (l4.trans (l3.trans (l2.trans (l1.trans (l0)))))))))))))), ?_, ?_⟩
  · intro k hk
    unfold PC at hk
    rw [u14 k (by omega) (by omega), u13 k (by omega) (by omega), u12 k (by omega) (by omega), u11 k (by omega) (by omega), u10 k (by omega) (by omega), u9 k (by omega), u8 k (by omega), u7 k (by omega), u6 k (by omega), u5 k (by omega), u4 k (by omega), u3 k (by omega), u2 k (by omega), u1 k (by omega), u0 k (by omega)]
  · have z10 : ∀ k, 110 ≤ k → ar τ14 k = ar σ k := fun k hk => by rw [u14 k (by omega) (by omega), u13 k (by omega) (by omega), u12 k (by omega) (by omega), u11 k (by omega) (by omega), u10 k (by omega) (by omega), u9 k (by omega), u8 k (by omega), u7 k (by omega), u6 k (by omega), u5 k (by omega), u4 k (by omega), u3 k (by omega), u2 k (by omega), u1 k (by omega), u0 k (by omega)]
    have nF : τ14.1 = σ.1 := n14.trans (n13.trans (n12.trans (n11.trans (n10.trans (n9.trans (n8.trans (n7.trans (n6.trans (n5.trans (n4.trans (n3.trans (n2.trans (n1.trans (n0))))))))))))))
    refine ⟨⟨?_, ?_, ?_, ?_⟩, ⟨?_, fun j hj => ?_⟩, ⟨?_, fun j hj => ?_⟩, fun u hu => ?_, fun p hp => ?_, fun p hp => ?_, fun e he => ⟨?_, ?_, ?_, ?_⟩, fun y hy => ⟨?_, ?_, ?_⟩⟩
    · rw [((u14 1 (by decide) (by decide)).trans ((u13 1 (by decide) (by decide)).trans ((u12 1 (by decide) (by decide)).trans ((u11 1 (by decide) (by decide)).trans ((u10 1 (by decide) (by decide)).trans ((u9 1 (by decide)).trans ((u8 1 (by decide)).trans ((u7 1 (by decide)).trans ((u6 1 (by decide)).trans ((u5 1 (by decide)).trans ((u4 1 (by decide)).trans ((u3 1 (by decide)).trans ((u2 1 (by decide)).trans (u1 1 (by decide))))))))))))))), v00]
    · rw [((u14 1 (by decide) (by decide)).trans ((u13 1 (by decide) (by decide)).trans ((u12 1 (by decide) (by decide)).trans ((u11 1 (by decide) (by decide)).trans ((u10 1 (by decide) (by decide)).trans ((u9 1 (by decide)).trans ((u8 1 (by decide)).trans ((u7 1 (by decide)).trans ((u6 1 (by decide)).trans ((u5 1 (by decide)).trans ((u4 1 (by decide)).trans ((u3 1 (by decide)).trans ((u2 1 (by decide)).trans (u1 1 (by decide))))))))))))))), v01]
    · rw [((u14 1 (by decide) (by decide)).trans ((u13 1 (by decide) (by decide)).trans ((u12 1 (by decide) (by decide)).trans ((u11 1 (by decide) (by decide)).trans ((u10 1 (by decide) (by decide)).trans ((u9 1 (by decide)).trans ((u8 1 (by decide)).trans ((u7 1 (by decide)).trans ((u6 1 (by decide)).trans ((u5 1 (by decide)).trans ((u4 1 (by decide)).trans ((u3 1 (by decide)).trans ((u2 1 (by decide)).trans (u1 1 (by decide))))))))))))))), v02]
    · rw [((u14 1 (by decide) (by decide)).trans ((u13 1 (by decide) (by decide)).trans ((u12 1 (by decide) (by decide)).trans ((u11 1 (by decide) (by decide)).trans ((u10 1 (by decide) (by decide)).trans ((u9 1 (by decide)).trans ((u8 1 (by decide)).trans ((u7 1 (by decide)).trans ((u6 1 (by decide)).trans ((u5 1 (by decide)).trans ((u4 1 (by decide)).trans ((u3 1 (by decide)).trans ((u2 1 (by decide)).trans (u1 1 (by decide))))))))))))))), v03]
    · rw [((u14 52 (by decide) (by decide)).trans ((u13 52 (by decide) (by decide)).trans ((u12 52 (by decide) (by decide)).trans (u11 52 (by decide) (by decide))))), w10]; exact i1.2.2.2.2.1.1.symm
    · show ar τ14 53 j = _; rw [((u14 53 (by decide) (by decide)).trans ((u13 53 (by decide) (by decide)).trans ((u12 53 (by decide) (by decide)).trans (u11 53 (by decide) (by decide))))), v10, fil_in (Nat.zero_le _) (by omega), Nat.sub_zero]; show ar τ9 63 j = _; rw [((u9 63 (by decide)).trans ((u8 63 (by decide)).trans ((u7 63 (by decide)).trans ((u6 63 (by decide)).trans ((u5 63 (by decide)).trans ((u4 63 (by decide)).trans ((u3 63 (by decide)).trans ((u2 63 (by decide)).trans ((u1 63 (by decide)).trans (u0 63 (by decide)))))))))))]; exact c2.2 j hj
    · show ar τ14 54 1 = _; rw [((u14 54 (by decide) (by decide)).trans ((u13 54 (by decide) (by decide)).trans (u12 54 (by decide) (by decide)))), w11]; exact i1.2.2.2.2.2.1.symm
    · show ar τ14 55 j = _; rw [((u14 55 (by decide) (by decide)).trans ((u13 55 (by decide) (by decide)).trans (u12 55 (by decide) (by decide)))), v11, fil_in (Nat.zero_le _) (by omega), Nat.sub_zero]; show ar τ10 65 j = _; rw [((u10 65 (by decide) (by decide)).trans ((u9 65 (by decide)).trans ((u8 65 (by decide)).trans ((u7 65 (by decide)).trans ((u6 65 (by decide)).trans ((u5 65 (by decide)).trans ((u4 65 (by decide)).trans ((u3 65 (by decide)).trans ((u2 65 (by decide)).trans ((u1 65 (by decide)).trans (u0 65 (by decide))))))))))))]; exact c3.2 j hj
    · have hu3 : u = 0 ∨ u = 1 ∨ u = 2 := by omega
      rcases hu3 with rfl | rfl | rfl
      · refine ⟨?_, fun i hi => ?_⟩
        · show ar τ14 56 1 = _; rw [((u14 56 (by decide) (by decide)).trans (u13 56 (by decide) (by decide))), show ar τ12 56 1 = _ from w12]; exact (i7 0 (by decide)).1.symm
        · show ar τ14 57 i = _; rw [((u14 57 (by decide) (by decide)).trans (u13 57 (by decide) (by decide))), show ar τ12 57 = _ from v12, fil_in (Nat.zero_le _) (by omega), Nat.sub_zero]; show ar τ11 67 i = _; rw [((u11 67 (by decide) (by decide)).trans ((u10 67 (by decide) (by decide)).trans ((u9 67 (by decide)).trans ((u8 67 (by decide)).trans ((u7 67 (by decide)).trans ((u6 67 (by decide)).trans ((u5 67 (by decide)).trans ((u4 67 (by decide)).trans ((u3 67 (by decide)).trans ((u2 67 (by decide)).trans ((u1 67 (by decide)).trans (u0 67 (by decide)))))))))))))]; exact (c4 0 (by decide)).2 i hi
      · refine ⟨?_, fun i hi => ?_⟩
        · show ar τ14 58 1 = _; rw [(u14 58 (by decide) (by decide)), show ar τ13 58 1 = _ from w13]; exact (i7 1 (by decide)).1.symm
        · show ar τ14 59 i = _; rw [(u14 59 (by decide) (by decide)), show ar τ13 59 = _ from v13, fil_in (Nat.zero_le _) (by omega), Nat.sub_zero]; show ar τ12 69 i = _; rw [((u12 69 (by decide) (by decide)).trans ((u11 69 (by decide) (by decide)).trans ((u10 69 (by decide) (by decide)).trans ((u9 69 (by decide)).trans ((u8 69 (by decide)).trans ((u7 69 (by decide)).trans ((u6 69 (by decide)).trans ((u5 69 (by decide)).trans ((u4 69 (by decide)).trans ((u3 69 (by decide)).trans ((u2 69 (by decide)).trans ((u1 69 (by decide)).trans (u0 69 (by decide))))))))))))))]; exact (c4 1 (by decide)).2 i hi
      · refine ⟨?_, fun i hi => ?_⟩
        · show ar τ14 60 1 = _; rw [show ar τ14 60 1 = _ from w14]; exact (i7 2 (by decide)).1.symm
        · show ar τ14 61 i = _; rw [show ar τ14 61 = _ from v14, fil_in (Nat.zero_le _) (by omega), Nat.sub_zero]; show ar τ13 71 i = _; rw [((u13 71 (by decide) (by decide)).trans ((u12 71 (by decide) (by decide)).trans ((u11 71 (by decide) (by decide)).trans ((u10 71 (by decide) (by decide)).trans ((u9 71 (by decide)).trans ((u8 71 (by decide)).trans ((u7 71 (by decide)).trans ((u6 71 (by decide)).trans ((u5 71 (by decide)).trans ((u4 71 (by decide)).trans ((u3 71 (by decide)).trans ((u2 71 (by decide)).trans ((u1 71 (by decide)).trans (u0 71 (by decide)))))))))))))))]; exact (c4 2 (by decide)).2 i hi
    · show ar τ14 11 p = _; rw [((u14 11 (by decide) (by decide)).trans ((u13 11 (by decide) (by decide)).trans ((u12 11 (by decide) (by decide)).trans ((u11 11 (by decide) (by decide)).trans ((u10 11 (by decide) (by decide)).trans ((u9 11 (by decide)).trans ((u8 11 (by decide)).trans ((u7 11 (by decide)).trans ((u6 11 (by decide)).trans ((u5 11 (by decide)).trans ((u4 11 (by decide)).trans (u3 11 (by decide))))))))))))), v2, fil_in (Nat.zero_le _) (by omega), Nat.sub_zero]; show ar τ1 21 p = _; rw [((u1 21 (by decide)).trans (u0 21 (by decide)))]; exact c5 p hp
    · have ea : rc τ14 10 p = rc σ 20 p := by rw [rc_ar, ((u14 10 (by decide) (by decide)).trans ((u13 10 (by decide) (by decide)).trans ((u12 10 (by decide) (by decide)).trans ((u11 10 (by decide) (by decide)).trans ((u10 10 (by decide) (by decide)).trans ((u9 10 (by decide)).trans ((u8 10 (by decide)).trans ((u7 10 (by decide)).trans ((u6 10 (by decide)).trans ((u5 10 (by decide)).trans ((u4 10 (by decide)).trans ((u3 10 (by decide)).trans (u2 10 (by decide)))))))))))))), v1, fil_in (Nat.zero_le _) (by omega), Nat.sub_zero]; exact nI_clamp (clamp_lt _)
      rw [ea]
      exact (c6 p hp).ag (fun k hk _ => z10 k hk) (by rw [nF]; exact Nat.le_refl _)
    · show ar τ14 12 e = _; rw [((u14 12 (by decide) (by decide)).trans ((u13 12 (by decide) (by decide)).trans ((u12 12 (by decide) (by decide)).trans ((u11 12 (by decide) (by decide)).trans ((u10 12 (by decide) (by decide)).trans ((u9 12 (by decide)).trans ((u8 12 (by decide)).trans ((u7 12 (by decide)).trans ((u6 12 (by decide)).trans ((u5 12 (by decide)).trans (u4 12 (by decide)))))))))))), v3, fil_in (Nat.zero_le _) (by omega), Nat.sub_zero]; show ar τ2 22 e = _; rw [((u2 22 (by decide)).trans ((u1 22 (by decide)).trans (u0 22 (by decide))))]; exact (c7 e he).1
    · show ar τ14 13 e = _; rw [((u14 13 (by decide) (by decide)).trans ((u13 13 (by decide) (by decide)).trans ((u12 13 (by decide) (by decide)).trans ((u11 13 (by decide) (by decide)).trans ((u10 13 (by decide) (by decide)).trans ((u9 13 (by decide)).trans ((u8 13 (by decide)).trans ((u7 13 (by decide)).trans ((u6 13 (by decide)).trans (u5 13 (by decide))))))))))), v4, fil_in (Nat.zero_le _) (by omega), Nat.sub_zero]; show ar τ3 23 e = _; rw [((u3 23 (by decide)).trans ((u2 23 (by decide)).trans ((u1 23 (by decide)).trans (u0 23 (by decide)))))]; exact (c7 e he).2.1
    · show ar τ14 14 e = _; rw [((u14 14 (by decide) (by decide)).trans ((u13 14 (by decide) (by decide)).trans ((u12 14 (by decide) (by decide)).trans ((u11 14 (by decide) (by decide)).trans ((u10 14 (by decide) (by decide)).trans ((u9 14 (by decide)).trans ((u8 14 (by decide)).trans ((u7 14 (by decide)).trans (u6 14 (by decide)))))))))), v5, fil_in (Nat.zero_le _) (by omega), Nat.sub_zero]; show ar τ4 24 e = _; rw [((u4 24 (by decide)).trans ((u3 24 (by decide)).trans ((u2 24 (by decide)).trans ((u1 24 (by decide)).trans (u0 24 (by decide))))))]; exact (c7 e he).2.2.1
    · show ar τ14 15 e = _; rw [((u14 15 (by decide) (by decide)).trans ((u13 15 (by decide) (by decide)).trans ((u12 15 (by decide) (by decide)).trans ((u11 15 (by decide) (by decide)).trans ((u10 15 (by decide) (by decide)).trans ((u9 15 (by decide)).trans ((u8 15 (by decide)).trans (u7 15 (by decide))))))))), v6, fil_in (Nat.zero_le _) (by omega), Nat.sub_zero]; show ar τ5 25 e = _; rw [((u5 25 (by decide)).trans ((u4 25 (by decide)).trans ((u3 25 (by decide)).trans ((u2 25 (by decide)).trans ((u1 25 (by decide)).trans (u0 25 (by decide)))))))]; exact (c7 e he).2.2.2
    · show ar τ14 16 y = _; rw [((u14 16 (by decide) (by decide)).trans ((u13 16 (by decide) (by decide)).trans ((u12 16 (by decide) (by decide)).trans ((u11 16 (by decide) (by decide)).trans ((u10 16 (by decide) (by decide)).trans ((u9 16 (by decide)).trans (u8 16 (by decide)))))))), v7, fil_in (Nat.zero_le _) (by omega), Nat.sub_zero]; show ar τ6 26 y = _; rw [((u6 26 (by decide)).trans ((u5 26 (by decide)).trans ((u4 26 (by decide)).trans ((u3 26 (by decide)).trans ((u2 26 (by decide)).trans ((u1 26 (by decide)).trans (u0 26 (by decide))))))))]; exact (c8 y hy).1
    · show ar τ14 17 y = _; rw [((u14 17 (by decide) (by decide)).trans ((u13 17 (by decide) (by decide)).trans ((u12 17 (by decide) (by decide)).trans ((u11 17 (by decide) (by decide)).trans ((u10 17 (by decide) (by decide)).trans (u9 17 (by decide))))))), v8, fil_in (Nat.zero_le _) (by omega), Nat.sub_zero]; show ar τ7 27 y = _; rw [((u7 27 (by decide)).trans ((u6 27 (by decide)).trans ((u5 27 (by decide)).trans ((u4 27 (by decide)).trans ((u3 27 (by decide)).trans ((u2 27 (by decide)).trans ((u1 27 (by decide)).trans (u0 27 (by decide)))))))))]; exact (c8 y hy).2.1
    · show ar τ14 18 y = _; rw [((u14 18 (by decide) (by decide)).trans ((u13 18 (by decide) (by decide)).trans ((u12 18 (by decide) (by decide)).trans ((u11 18 (by decide) (by decide)).trans (u10 18 (by decide) (by decide)))))), v9, fil_in (Nat.zero_le _) (by omega), Nat.sub_zero]; show ar τ8 28 y = _; rw [((u8 28 (by decide)).trans ((u7 28 (by decide)).trans ((u6 28 (by decide)).trans ((u5 28 (by decide)).trans ((u4 28 (by decide)).trans ((u3 28 (by decide)).trans ((u2 28 (by decide)).trans ((u1 28 (by decide)).trans (u0 28 (by decide))))))))))]; exact (c8 y hy).2.2
  · intro j hj
    rw [rc_ar, ((u14 10 (by decide) (by decide)).trans ((u13 10 (by decide) (by decide)).trans ((u12 10 (by decide) (by decide)).trans ((u11 10 (by decide) (by decide)).trans ((u10 10 (by decide) (by decide)).trans ((u9 10 (by decide)).trans ((u8 10 (by decide)).trans ((u7 10 (by decide)).trans ((u6 10 (by decide)).trans ((u5 10 (by decide)).trans ((u4 10 (by decide)).trans ((u3 10 (by decide)).trans (u2 10 (by decide)))))))))))))), v1]
    by_cases q : j < cn r 1
    · rw [fil_in (Nat.zero_le _) (by omega), Nat.sub_zero]
      exact Or.inr (nI_clamp (clamp_lt _))
    · rw [fil_out (by omega), u0 10 (by decide)]
      exact Or.inl rfl
theorem e_become_2 {r : Nat → Int32} {σ : St} (hI : IR r) (hp : CP 1 10 52 r σ) : Ends (f_X4_become_2 σ) (fun τ => (∀ k, ¬ PK k → ar τ k = ar σ k) ∧ τ.1 = σ.1 ∧ τ.2.2 = σ.2.2 ∧ CP 2 20 62 r τ ∧ ∀ j, j < 10 → rc τ 20 j = rc σ 20 j ∨ rc τ 20 j = rc σ 10 j) := by
  obtain ⟨i1, i2, i3, i4, i5, i6, i7⟩ := hI
  obtain ⟨c1, c2, c3, c4, c5, c6, c7, c8⟩ := hp
  have b1 := i1.2.1.2
  have b2 := i1.2.2.1.2
  have b3 := i1.2.2.2.1.2
  have b4 := i1.2.2.2.2.1.2
  have b5 := i1.2.2.2.2.2.2
  have x0 := (i7 0 (by decide)).2.1
  have x1 := (i7 1 (by decide)).2.1
  have x2 := (i7 2 (by decide)).2.1
  unfold f_X4_become_2
  rw [nm_so, nm_so, nm_so, nm_so]
  obtain ⟨τ0, h0⟩ : ∃ s, s = fw (fw (fw (fw σ 2 0 (ar σ 1 0)) 2 1 (ar σ 1 1)) 2 2 (ar σ 1 2)) 2 3 (ar σ 1 3) := ⟨_, rfl⟩
  have e0 : fw (fw (fw (fw σ 2 0 (fd σ 1 0)) 2 1 (fd (fw σ 2 0 (fd σ 1 0)) 1 1)) 2 2 (fd (fw (fw σ 2 0 (fd σ 1 0)) 2 1 (fd (fw σ 2 0 (fd σ 1 0)) 1 1)) 1 2)) 2 3 (fd (fw (fw (fw σ 2 0 (fd σ 1 0)) 2 1 (fd (fw σ 2 0 (fd σ 1 0)) 1 1)) 2 2 (fd (fw (fw σ 2 0 (fd σ 1 0)) 2 1 (fd (fw σ 2 0 (fd σ 1 0)) 1 1)) 1 2)) 1 3) = τ0 := by
    rw [h0]; rfl
  rw [e0]
  have u0 : ∀ k, k ≠ 2 → ar τ0 k = ar σ k := fun k hk => by rw [h0, ar_fw_ne hk, ar_fw_ne hk, ar_fw_ne hk, ar_fw_ne hk]
  have v00 : ar τ0 2 0 = r 0 := by rw [h0, ar_fw_eq, upd_ne (by omega), ar_fw_eq, upd_ne (by omega), ar_fw_eq, upd_ne (by omega), ar_fw_eq, upd_eq]; exact c1.1
  have v01 : ar τ0 2 1 = r 1 := by rw [h0, ar_fw_eq, upd_ne (by omega), ar_fw_eq, upd_ne (by omega), ar_fw_eq, upd_eq]; exact c1.2.1
  have v02 : ar τ0 2 2 = r 2 := by rw [h0, ar_fw_eq, upd_ne (by omega), ar_fw_eq, upd_eq]; exact c1.2.2.1
  have v03 : ar τ0 2 3 = r 3 := by rw [h0, ar_fw_eq, upd_eq]; exact c1.2.2.2
  have n0 : τ0.1 = σ.1 := by rw [h0]; rfl
  have l0 : τ0.2.2 = σ.2.2 := by rw [h0]; rfl
  clear e0 h0
  unfold f_X4_become_2_34
  have lp1 : it (fun z : Int32 × St => b_X4_become_2_34 z.1 z.2) (0, τ0) = f_X4_become_2_60 (stF τ0 20 0 (cn r 1) (fun j => nI (rc σ 10 j))) := by
    refine (it_fil 20 0 (cn r 1) (fun j => nI (rc σ 10 j)) (fun k hk => ?_)).trans (it_k ?_)
    · show b_X4_become_2_34 (nI k) _ = _
      obtain ⟨g0, _⟩ := c6 k hk
      have g := of_decide_eq_true g0
      have er : ∀ j, rc (stF τ0 20 0 k (fun j => nI (rc σ 10 j))) 10 j = rc σ 10 j := fun j => by rw [rc_ar, rc_ar, ar_stF_ne (by omega), u0 10 (by omega)]
      have ek : (rd (stF τ0 20 0 k (fun j => nI (rc σ 10 j))) 10 (nI k)).toNatClampNeg = rc σ 10 k := by rw [rd_ar (by omega)]; exact er k
      have e5 : ∀ K, 110 ≤ K → rc (stF τ0 20 0 k (fun j => nI (rc σ 10 j))) K 5 = rc σ K 5 := fun K hK => by rw [rc_ar, rc_ar, ar_stF_ne (by omega), u0 _ (by omega)]
      have n1 : (stF τ0 20 0 k (fun j => nI (rc σ 10 j))).1 = σ.1 := n0
      unfold b_X4_become_2_34
      rw [fd_ar, ar_stF_ne (by omega), v01, i1.2.1.1, if_pos (nI_lt hk (by omega)), inb_nI (show k < 10 by omega) (by decide), chk_so, ek, chk_t (show isRole (stF τ0 20 0 k (fun j => nI (rc σ 10 j))) (rc σ 10 k) = true from decide_eq_true (by rw [e5 _ g.1, n1]; exact g)), chk_t (decide_eq_true (show rc σ 10 k < 2 ^ 31 from clamp_lt _)), nm_so, wr_nI _ (by omega), nI_1, Nat.zero_add]
    · show b_X4_become_2_34 (nI (cn r 1)) _ = _
      unfold b_X4_become_2_34
      rw [fd_ar, ar_stF_ne (by omega), v01, i1.2.1.1, if_neg (nI_nlt (Nat.le_refl _) (by omega))]
  rw [lp1]
  obtain ⟨τ1, h1⟩ : ∃ s, s = stF τ0 20 0 (cn r 1) (fun j => nI (rc σ 10 j)) := ⟨_, rfl⟩
  rw [← h1]
  have u1 : ∀ k, k ≠ 20 → ar τ1 k = ar τ0 k := fun k hk => by rw [h1, ar_stF_ne hk]
  have v1 : ar τ1 20 = fil (ar τ0 20) 0 (cn r 1) (fun j => nI (rc σ 10 j)) := by rw [h1, ar_stF_eq]
  have n1 : τ1.1 = τ0.1 := by rw [h1]; rfl
  have l1 : τ1.2.2 = τ0.2.2 := by rw [h1]; rfl
  clear h1 lp1
  unfold f_X4_become_2_60
  refine En.cp (n := cn r 1) (by rw [fd_ar, (u1 2 (by decide)), v01]; exact i1.2.1.1) b1 b1 (by omega) (fun τ2 u2 v2 n2 l2 => ?_)
  refine En.cp (n := cn r 2) (by rw [fd_ar, ((u2 2 (by decide)).trans (u1 2 (by decide))), v02]; exact i1.2.2.1.1) b2 b2 (by omega) (fun τ3 u3 v3 n3 l3 => ?_)
  refine En.cp (n := cn r 2) (by rw [fd_ar, ((u3 2 (by decide)).trans ((u2 2 (by decide)).trans (u1 2 (by decide)))), v02]; exact i1.2.2.1.1) b2 b2 (by omega) (fun τ4 u4 v4 n4 l4 => ?_)
  refine En.cp (n := cn r 2) (by rw [fd_ar, ((u4 2 (by decide)).trans ((u3 2 (by decide)).trans ((u2 2 (by decide)).trans (u1 2 (by decide))))), v02]; exact i1.2.2.1.1) b2 b2 (by omega) (fun τ5 u5 v5 n5 l5 => ?_)
  refine En.cp (n := cn r 2) (by rw [fd_ar, ((u5 2 (by decide)).trans ((u4 2 (by decide)).trans ((u3 2 (by decide)).trans ((u2 2 (by decide)).trans (u1 2 (by decide)))))), v02]; exact i1.2.2.1.1) b2 b2 (by omega) (fun τ6 u6 v6 n6 l6 => ?_)
  refine En.cp (n := cn r 3) (by rw [fd_ar, ((u6 2 (by decide)).trans ((u5 2 (by decide)).trans ((u4 2 (by decide)).trans ((u3 2 (by decide)).trans ((u2 2 (by decide)).trans (u1 2 (by decide))))))), v03]; exact i1.2.2.2.1.1) b3 b3 (by omega) (fun τ7 u7 v7 n7 l7 => ?_)
  refine En.cp (n := cn r 3) (by rw [fd_ar, ((u7 2 (by decide)).trans ((u6 2 (by decide)).trans ((u5 2 (by decide)).trans ((u4 2 (by decide)).trans ((u3 2 (by decide)).trans ((u2 2 (by decide)).trans (u1 2 (by decide)))))))), v03]; exact i1.2.2.2.1.1) b3 b3 (by omega) (fun τ8 u8 v8 n8 l8 => ?_)
  refine En.cp (n := cn r 3) (by rw [fd_ar, ((u8 2 (by decide)).trans ((u7 2 (by decide)).trans ((u6 2 (by decide)).trans ((u5 2 (by decide)).trans ((u4 2 (by decide)).trans ((u3 2 (by decide)).trans ((u2 2 (by decide)).trans (u1 2 (by decide))))))))), v03]; exact i1.2.2.2.1.1) b3 b3 (by omega) (fun τ9 u9 v9 n9 l9 => ?_)
  refine En.bec (n := cn r 4) (by decide) (by decide) (by rw [((u9 52 (by decide)).trans ((u8 52 (by decide)).trans ((u7 52 (by decide)).trans ((u6 52 (by decide)).trans ((u5 52 (by decide)).trans ((u4 52 (by decide)).trans ((u3 52 (by decide)).trans ((u2 52 (by decide)).trans ((u1 52 (by decide)).trans (u0 52 (by decide)))))))))))]; exact c2.1.trans i1.2.2.2.2.1.1) (show cn r 4 ≤ 50 from b4) (show cn r 4 ≤ 50 from b4) (by omega) (fun τ10 u10 v10 w10 n10 l10 => ?_)
  refine En.bec (n := cn r 5) (by decide) (by decide) (by rw [((u10 54 (by decide) (by decide)).trans ((u9 54 (by decide)).trans ((u8 54 (by decide)).trans ((u7 54 (by decide)).trans ((u6 54 (by decide)).trans ((u5 54 (by decide)).trans ((u4 54 (by decide)).trans ((u3 54 (by decide)).trans ((u2 54 (by decide)).trans ((u1 54 (by decide)).trans (u0 54 (by decide))))))))))))]; exact c3.1.trans i1.2.2.2.2.2.1) (show cn r 5 ≤ 20 from b5) (show cn r 5 ≤ 20 from b5) (by omega) (fun τ11 u11 v11 w11 n11 l11 => ?_)
  have stp : ∀ (u : Nat) (τ : St), u < 3 → it (fun z : Int32 × St => b_X4_become_2_220 z.1 z.2) (nI u, τ) = bd (f_X7_become (66 + 2 * u) (56 + 2 * u) τ) (fun s => it (fun z : Int32 × St => b_X4_become_2_220 z.1 z.2) (nI (u + 1), s)) := by
    intro u τ hu
    have e : b_X4_become_2_220 (nI u) τ = bd (f_X7_become (66 + 2 * u) (56 + 2 * u) τ) fun s => some (.inl (nI (u + 1), s)) := by
      unfold b_X4_become_2_220
      rw [if_pos (show nI u < 3 from nI_lt hu (by decide)), inb_nI hu (by decide), chk_so, nI_clamp (by omega), nI_1]
    cases e2 : f_X7_become (66 + 2 * u) (56 + 2 * u) τ with
    | none =>
      rw [e2] at e
      exact it_k (k := none) e
    | some s =>
      rw [e2] at e
      exact it_l e
  unfold f_X4_become_2_220
  rw [show ((0 : Int32), τ11) = (nI 0, τ11) from rfl, stp 0 _ (by decide)]
  refine En.bec (n := cn r (310 + 52 * 0)) (by decide) (by decide) (by show ar τ11 56 1 = _; rw [((u11 56 (by decide) (by decide)).trans ((u10 56 (by decide) (by decide)).trans ((u9 56 (by decide)).trans ((u8 56 (by decide)).trans ((u7 56 (by decide)).trans ((u6 56 (by decide)).trans ((u5 56 (by decide)).trans ((u4 56 (by decide)).trans ((u3 56 (by decide)).trans ((u2 56 (by decide)).trans ((u1 56 (by decide)).trans (u0 56 (by decide)))))))))))))]; exact (c4 0 (by decide)).1.trans (i7 0 (by decide)).1) (show cn r (310 + 52 * 0) ≤ 50 from x0) (show cn r (310 + 52 * 0) ≤ 50 from x0) (by omega) (fun τ12 u12 v12 w12 n12 l12 => ?_)
  rw [stp 1 _ (by decide)]
  refine En.bec (n := cn r (310 + 52 * 1)) (by decide) (by decide) (by show ar τ12 58 1 = _; rw [((u12 58 (by decide) (by decide)).trans ((u11 58 (by decide) (by decide)).trans ((u10 58 (by decide) (by decide)).trans ((u9 58 (by decide)).trans ((u8 58 (by decide)).trans ((u7 58 (by decide)).trans ((u6 58 (by decide)).trans ((u5 58 (by decide)).trans ((u4 58 (by decide)).trans ((u3 58 (by decide)).trans ((u2 58 (by decide)).trans ((u1 58 (by decide)).trans (u0 58 (by decide))))))))))))))]; exact (c4 1 (by decide)).1.trans (i7 1 (by decide)).1) (show cn r (310 + 52 * 1) ≤ 50 from x1) (show cn r (310 + 52 * 1) ≤ 50 from x1) (by omega) (fun τ13 u13 v13 w13 n13 l13 => ?_)
  rw [stp 2 _ (by decide)]
  refine En.bec (n := cn r (310 + 52 * 2)) (by decide) (by decide) (by show ar τ13 60 1 = _; rw [((u13 60 (by decide) (by decide)).trans ((u12 60 (by decide) (by decide)).trans ((u11 60 (by decide) (by decide)).trans ((u10 60 (by decide) (by decide)).trans ((u9 60 (by decide)).trans ((u8 60 (by decide)).trans ((u7 60 (by decide)).trans ((u6 60 (by decide)).trans ((u5 60 (by decide)).trans ((u4 60 (by decide)).trans ((u3 60 (by decide)).trans ((u2 60 (by decide)).trans ((u1 60 (by decide)).trans (u0 60 (by decide)))))))))))))))]; exact (c4 2 (by decide)).1.trans (i7 2 (by decide)).1) (show cn r (310 + 52 * 2) ≤ 50 from x2) (show cn r (310 + 52 * 2) ≤ 50 from x2) (by omega) (fun τ14 u14 v14 w14 n14 l14 => ?_)
  have efin : it (fun z : Int32 × St => b_X4_become_2_220 z.1 z.2) (nI (2 + 1), τ14) = some τ14 := it_r rfl
  refine ⟨τ14, efin, ?_, n14.trans (n13.trans (n12.trans (n11.trans (n10.trans (n9.trans (n8.trans (n7.trans (n6.trans (n5.trans (n4.trans (n3.trans (n2.trans (n1.trans (n0)))))))))))))), l14.trans (l13.trans (l12.trans (l11.trans (l10.trans (l9.trans (l8.trans (l7.trans (l6.trans (l5.trans (l4.trans (l3.trans (l2.trans (l1.trans (l0)))))))))))))), ?_, ?_⟩
  · intro k hk
    unfold PK at hk
    rw [u14 k (by omega) (by omega), u13 k (by omega) (by omega), u12 k (by omega) (by omega), u11 k (by omega) (by omega), u10 k (by omega) (by omega), u9 k (by omega), u8 k (by omega), u7 k (by omega), u6 k (by omega), u5 k (by omega), u4 k (by omega), u3 k (by omega), u2 k (by omega), u1 k (by omega), u0 k (by omega)]
  · have z10 : ∀ k, 110 ≤ k → ar τ14 k = ar σ k := fun k hk => by rw [u14 k (by omega) (by omega), u13 k (by omega) (by omega), u12 k (by omega) (by omega), u11 k (by omega) (by omega), u10 k (by omega) (by omega), u9 k (by omega), u8 k (by omega), u7 k (by omega), u6 k (by omega), u5 k (by omega), u4 k (by omega), u3 k (by omega), u2 k (by omega), u1 k (by omega), u0 k (by omega)]
    have nF : τ14.1 = σ.1 := n14.trans (n13.trans (n12.trans (n11.trans (n10.trans (n9.trans (n8.trans (n7.trans (n6.trans (n5.trans (n4.trans (n3.trans (n2.trans (n1.trans (n0))))))))))))))
    refine ⟨⟨?_, ?_, ?_, ?_⟩, ⟨?_, fun j hj => ?_⟩, ⟨?_, fun j hj => ?_⟩, fun u hu => ?_, fun p hp => ?_, fun p hp => ?_, fun e he => ⟨?_, ?_, ?_, ?_⟩, fun y hy => ⟨?_, ?_, ?_⟩⟩
    · rw [((u14 2 (by decide) (by decide)).trans ((u13 2 (by decide) (by decide)).trans ((u12 2 (by decide) (by decide)).trans ((u11 2 (by decide) (by decide)).trans ((u10 2 (by decide) (by decide)).trans ((u9 2 (by decide)).trans ((u8 2 (by decide)).trans ((u7 2 (by decide)).trans ((u6 2 (by decide)).trans ((u5 2 (by decide)).trans ((u4 2 (by decide)).trans ((u3 2 (by decide)).trans ((u2 2 (by decide)).trans (u1 2 (by decide))))))))))))))), v00]
    · rw [((u14 2 (by decide) (by decide)).trans ((u13 2 (by decide) (by decide)).trans ((u12 2 (by decide) (by decide)).trans ((u11 2 (by decide) (by decide)).trans ((u10 2 (by decide) (by decide)).trans ((u9 2 (by decide)).trans ((u8 2 (by decide)).trans ((u7 2 (by decide)).trans ((u6 2 (by decide)).trans ((u5 2 (by decide)).trans ((u4 2 (by decide)).trans ((u3 2 (by decide)).trans ((u2 2 (by decide)).trans (u1 2 (by decide))))))))))))))), v01]
    · rw [((u14 2 (by decide) (by decide)).trans ((u13 2 (by decide) (by decide)).trans ((u12 2 (by decide) (by decide)).trans ((u11 2 (by decide) (by decide)).trans ((u10 2 (by decide) (by decide)).trans ((u9 2 (by decide)).trans ((u8 2 (by decide)).trans ((u7 2 (by decide)).trans ((u6 2 (by decide)).trans ((u5 2 (by decide)).trans ((u4 2 (by decide)).trans ((u3 2 (by decide)).trans ((u2 2 (by decide)).trans (u1 2 (by decide))))))))))))))), v02]
    · rw [((u14 2 (by decide) (by decide)).trans ((u13 2 (by decide) (by decide)).trans ((u12 2 (by decide) (by decide)).trans ((u11 2 (by decide) (by decide)).trans ((u10 2 (by decide) (by decide)).trans ((u9 2 (by decide)).trans ((u8 2 (by decide)).trans ((u7 2 (by decide)).trans ((u6 2 (by decide)).trans ((u5 2 (by decide)).trans ((u4 2 (by decide)).trans ((u3 2 (by decide)).trans ((u2 2 (by decide)).trans (u1 2 (by decide))))))))))))))), v03]
    · rw [((u14 62 (by decide) (by decide)).trans ((u13 62 (by decide) (by decide)).trans ((u12 62 (by decide) (by decide)).trans (u11 62 (by decide) (by decide))))), w10]; exact i1.2.2.2.2.1.1.symm
    · show ar τ14 63 j = _; rw [((u14 63 (by decide) (by decide)).trans ((u13 63 (by decide) (by decide)).trans ((u12 63 (by decide) (by decide)).trans (u11 63 (by decide) (by decide))))), v10, fil_in (Nat.zero_le _) (by omega), Nat.sub_zero]; show ar τ9 53 j = _; rw [((u9 53 (by decide)).trans ((u8 53 (by decide)).trans ((u7 53 (by decide)).trans ((u6 53 (by decide)).trans ((u5 53 (by decide)).trans ((u4 53 (by decide)).trans ((u3 53 (by decide)).trans ((u2 53 (by decide)).trans ((u1 53 (by decide)).trans (u0 53 (by decide)))))))))))]; exact c2.2 j hj
    · show ar τ14 64 1 = _; rw [((u14 64 (by decide) (by decide)).trans ((u13 64 (by decide) (by decide)).trans (u12 64 (by decide) (by decide)))), w11]; exact i1.2.2.2.2.2.1.symm
    · show ar τ14 65 j = _; rw [((u14 65 (by decide) (by decide)).trans ((u13 65 (by decide) (by decide)).trans (u12 65 (by decide) (by decide)))), v11, fil_in (Nat.zero_le _) (by omega), Nat.sub_zero]; show ar τ10 55 j = _; rw [((u10 55 (by decide) (by decide)).trans ((u9 55 (by decide)).trans ((u8 55 (by decide)).trans ((u7 55 (by decide)).trans ((u6 55 (by decide)).trans ((u5 55 (by decide)).trans ((u4 55 (by decide)).trans ((u3 55 (by decide)).trans ((u2 55 (by decide)).trans ((u1 55 (by decide)).trans (u0 55 (by decide))))))))))))]; exact c3.2 j hj
    · have hu3 : u = 0 ∨ u = 1 ∨ u = 2 := by omega
      rcases hu3 with rfl | rfl | rfl
      · refine ⟨?_, fun i hi => ?_⟩
        · show ar τ14 66 1 = _; rw [((u14 66 (by decide) (by decide)).trans (u13 66 (by decide) (by decide))), show ar τ12 66 1 = _ from w12]; exact (i7 0 (by decide)).1.symm
        · show ar τ14 67 i = _; rw [((u14 67 (by decide) (by decide)).trans (u13 67 (by decide) (by decide))), show ar τ12 67 = _ from v12, fil_in (Nat.zero_le _) (by omega), Nat.sub_zero]; show ar τ11 57 i = _; rw [((u11 57 (by decide) (by decide)).trans ((u10 57 (by decide) (by decide)).trans ((u9 57 (by decide)).trans ((u8 57 (by decide)).trans ((u7 57 (by decide)).trans ((u6 57 (by decide)).trans ((u5 57 (by decide)).trans ((u4 57 (by decide)).trans ((u3 57 (by decide)).trans ((u2 57 (by decide)).trans ((u1 57 (by decide)).trans (u0 57 (by decide)))))))))))))]; exact (c4 0 (by decide)).2 i hi
      · refine ⟨?_, fun i hi => ?_⟩
        · show ar τ14 68 1 = _; rw [(u14 68 (by decide) (by decide)), show ar τ13 68 1 = _ from w13]; exact (i7 1 (by decide)).1.symm
        · show ar τ14 69 i = _; rw [(u14 69 (by decide) (by decide)), show ar τ13 69 = _ from v13, fil_in (Nat.zero_le _) (by omega), Nat.sub_zero]; show ar τ12 59 i = _; rw [((u12 59 (by decide) (by decide)).trans ((u11 59 (by decide) (by decide)).trans ((u10 59 (by decide) (by decide)).trans ((u9 59 (by decide)).trans ((u8 59 (by decide)).trans ((u7 59 (by decide)).trans ((u6 59 (by decide)).trans ((u5 59 (by decide)).trans ((u4 59 (by decide)).trans ((u3 59 (by decide)).trans ((u2 59 (by decide)).trans ((u1 59 (by decide)).trans (u0 59 (by decide))))))))))))))]; exact (c4 1 (by decide)).2 i hi
      · refine ⟨?_, fun i hi => ?_⟩
        · show ar τ14 70 1 = _; rw [show ar τ14 70 1 = _ from w14]; exact (i7 2 (by decide)).1.symm
        · show ar τ14 71 i = _; rw [show ar τ14 71 = _ from v14, fil_in (Nat.zero_le _) (by omega), Nat.sub_zero]; show ar τ13 61 i = _; rw [((u13 61 (by decide) (by decide)).trans ((u12 61 (by decide) (by decide)).trans ((u11 61 (by decide) (by decide)).trans ((u10 61 (by decide) (by decide)).trans ((u9 61 (by decide)).trans ((u8 61 (by decide)).trans ((u7 61 (by decide)).trans ((u6 61 (by decide)).trans ((u5 61 (by decide)).trans ((u4 61 (by decide)).trans ((u3 61 (by decide)).trans ((u2 61 (by decide)).trans ((u1 61 (by decide)).trans (u0 61 (by decide)))))))))))))))]; exact (c4 2 (by decide)).2 i hi
    · show ar τ14 21 p = _; rw [((u14 21 (by decide) (by decide)).trans ((u13 21 (by decide) (by decide)).trans ((u12 21 (by decide) (by decide)).trans ((u11 21 (by decide) (by decide)).trans ((u10 21 (by decide) (by decide)).trans ((u9 21 (by decide)).trans ((u8 21 (by decide)).trans ((u7 21 (by decide)).trans ((u6 21 (by decide)).trans ((u5 21 (by decide)).trans ((u4 21 (by decide)).trans (u3 21 (by decide))))))))))))), v2, fil_in (Nat.zero_le _) (by omega), Nat.sub_zero]; show ar τ1 11 p = _; rw [((u1 11 (by decide)).trans (u0 11 (by decide)))]; exact c5 p hp
    · have ea : rc τ14 20 p = rc σ 10 p := by rw [rc_ar, ((u14 20 (by decide) (by decide)).trans ((u13 20 (by decide) (by decide)).trans ((u12 20 (by decide) (by decide)).trans ((u11 20 (by decide) (by decide)).trans ((u10 20 (by decide) (by decide)).trans ((u9 20 (by decide)).trans ((u8 20 (by decide)).trans ((u7 20 (by decide)).trans ((u6 20 (by decide)).trans ((u5 20 (by decide)).trans ((u4 20 (by decide)).trans ((u3 20 (by decide)).trans (u2 20 (by decide)))))))))))))), v1, fil_in (Nat.zero_le _) (by omega), Nat.sub_zero]; exact nI_clamp (clamp_lt _)
      rw [ea]
      exact (c6 p hp).ag (fun k hk _ => z10 k hk) (by rw [nF]; exact Nat.le_refl _)
    · show ar τ14 22 e = _; rw [((u14 22 (by decide) (by decide)).trans ((u13 22 (by decide) (by decide)).trans ((u12 22 (by decide) (by decide)).trans ((u11 22 (by decide) (by decide)).trans ((u10 22 (by decide) (by decide)).trans ((u9 22 (by decide)).trans ((u8 22 (by decide)).trans ((u7 22 (by decide)).trans ((u6 22 (by decide)).trans ((u5 22 (by decide)).trans (u4 22 (by decide)))))))))))), v3, fil_in (Nat.zero_le _) (by omega), Nat.sub_zero]; show ar τ2 12 e = _; rw [((u2 12 (by decide)).trans ((u1 12 (by decide)).trans (u0 12 (by decide))))]; exact (c7 e he).1
    · show ar τ14 23 e = _; rw [((u14 23 (by decide) (by decide)).trans ((u13 23 (by decide) (by decide)).trans ((u12 23 (by decide) (by decide)).trans ((u11 23 (by decide) (by decide)).trans ((u10 23 (by decide) (by decide)).trans ((u9 23 (by decide)).trans ((u8 23 (by decide)).trans ((u7 23 (by decide)).trans ((u6 23 (by decide)).trans (u5 23 (by decide))))))))))), v4, fil_in (Nat.zero_le _) (by omega), Nat.sub_zero]; show ar τ3 13 e = _; rw [((u3 13 (by decide)).trans ((u2 13 (by decide)).trans ((u1 13 (by decide)).trans (u0 13 (by decide)))))]; exact (c7 e he).2.1
    · show ar τ14 24 e = _; rw [((u14 24 (by decide) (by decide)).trans ((u13 24 (by decide) (by decide)).trans ((u12 24 (by decide) (by decide)).trans ((u11 24 (by decide) (by decide)).trans ((u10 24 (by decide) (by decide)).trans ((u9 24 (by decide)).trans ((u8 24 (by decide)).trans ((u7 24 (by decide)).trans (u6 24 (by decide)))))))))), v5, fil_in (Nat.zero_le _) (by omega), Nat.sub_zero]; show ar τ4 14 e = _; rw [((u4 14 (by decide)).trans ((u3 14 (by decide)).trans ((u2 14 (by decide)).trans ((u1 14 (by decide)).trans (u0 14 (by decide))))))]; exact (c7 e he).2.2.1
    · show ar τ14 25 e = _; rw [((u14 25 (by decide) (by decide)).trans ((u13 25 (by decide) (by decide)).trans ((u12 25 (by decide) (by decide)).trans ((u11 25 (by decide) (by decide)).trans ((u10 25 (by decide) (by decide)).trans ((u9 25 (by decide)).trans ((u8 25 (by decide)).trans (u7 25 (by decide))))))))), v6, fil_in (Nat.zero_le _) (by omega), Nat.sub_zero]; show ar τ5 15 e = _; rw [((u5 15 (by decide)).trans ((u4 15 (by decide)).trans ((u3 15 (by decide)).trans ((u2 15 (by decide)).trans ((u1 15 (by decide)).trans (u0 15 (by decide)))))))]; exact (c7 e he).2.2.2
    · show ar τ14 26 y = _; rw [((u14 26 (by decide) (by decide)).trans ((u13 26 (by decide) (by decide)).trans ((u12 26 (by decide) (by decide)).trans ((u11 26 (by decide) (by decide)).trans ((u10 26 (by decide) (by decide)).trans ((u9 26 (by decide)).trans (u8 26 (by decide)))))))), v7, fil_in (Nat.zero_le _) (by omega), Nat.sub_zero]; show ar τ6 16 y = _; rw [((u6 16 (by decide)).trans ((u5 16 (by decide)).trans ((u4 16 (by decide)).trans ((u3 16 (by decide)).trans ((u2 16 (by decide)).trans ((u1 16 (by decide)).trans (u0 16 (by decide))))))))]; exact (c8 y hy).1
    · show ar τ14 27 y = _; rw [((u14 27 (by decide) (by decide)).trans ((u13 27 (by decide) (by decide)).trans ((u12 27 (by decide) (by decide)).trans ((u11 27 (by decide) (by decide)).trans ((u10 27 (by decide) (by decide)).trans (u9 27 (by decide))))))), v8, fil_in (Nat.zero_le _) (by omega), Nat.sub_zero]; show ar τ7 17 y = _; rw [((u7 17 (by decide)).trans ((u6 17 (by decide)).trans ((u5 17 (by decide)).trans ((u4 17 (by decide)).trans ((u3 17 (by decide)).trans ((u2 17 (by decide)).trans ((u1 17 (by decide)).trans (u0 17 (by decide)))))))))]; exact (c8 y hy).2.1
    · show ar τ14 28 y = _; rw [((u14 28 (by decide) (by decide)).trans ((u13 28 (by decide) (by decide)).trans ((u12 28 (by decide) (by decide)).trans ((u11 28 (by decide) (by decide)).trans (u10 28 (by decide) (by decide)))))), v9, fil_in (Nat.zero_le _) (by omega), Nat.sub_zero]; show ar τ8 18 y = _; rw [((u8 18 (by decide)).trans ((u7 18 (by decide)).trans ((u6 18 (by decide)).trans ((u5 18 (by decide)).trans ((u4 18 (by decide)).trans ((u3 18 (by decide)).trans ((u2 18 (by decide)).trans ((u1 18 (by decide)).trans (u0 18 (by decide))))))))))]; exact (c8 y hy).2.2
  · intro j hj
    rw [rc_ar, ((u14 20 (by decide) (by decide)).trans ((u13 20 (by decide) (by decide)).trans ((u12 20 (by decide) (by decide)).trans ((u11 20 (by decide) (by decide)).trans ((u10 20 (by decide) (by decide)).trans ((u9 20 (by decide)).trans ((u8 20 (by decide)).trans ((u7 20 (by decide)).trans ((u6 20 (by decide)).trans ((u5 20 (by decide)).trans ((u4 20 (by decide)).trans ((u3 20 (by decide)).trans (u2 20 (by decide)))))))))))))), v1]
    by_cases q : j < cn r 1
    · rw [fil_in (Nat.zero_le _) (by omega), Nat.sub_zero]
      exact Or.inr (nI_clamp (clamp_lt _))
    · rw [fil_out (by omega), u0 20 (by decide)]
      exact Or.inl rfl
section IM
variable {A : AS} {σ : St}
theorem op_restore (hI : Inv A) (hC : CR A σ) (hM : MR A σ) : Opn A σ f_X11_restore f_X12_restore := by
  by_cases q : aI A = 0
  · refine Opn.err 2 (by decide) hI hC hM ?_ (fun σ hm => ?_)
    · unfold f_X11_restore; rw [fd_ar, hC.2.2.1, if_pos q]; exact bd2_id _
    · unfold f_X12_restore; rw [fd_ar, hm.2.2.1, if_pos q]; exact bd2_id _
  have hK := hI.2.1 q
  obtain ⟨τ, e, hu, h1, h2, hp, hj⟩ := e_become_1 hK (hC.2.1 q)
  have ef : ∀ k, k < 466 → fil (aR A) 0 466 (aK A) k = aK A k := fun k hk => by rw [fil_in (Nat.zero_le _) (by omega), Nat.sub_zero]
  refine Opn.mk' (aK A 1) (sR A (fil (aR A) 0 466 (aK A))) τ ?_ ?_ ⟨fun k p q => hu k (by unfold PC; omega), hu 6 (by unfold PC; omega), h2⟩ (by rw [h1]; exact Nat.le_succ _) (hI.row (hK.bnd ef)) hM (fun σ1 hm => ⟨fw (stF σ1 84 0 466 (aK A)) 6 4 0, ?_, ?_, (FrM.stF (by omega)).tr (FrM.fw (by omega))⟩)
  · unfold f_X11_restore
    rw [fd_ar, hC.2.2.1, if_neg q, e, bd_so, fd_ar, hp.1.2.1]
  · refine hC.row (CP.bnd hK hp ef) (fun k hk _ => hu k hk) (by rw [h1]; exact Nat.le_refl _) (fun j hj10 => ?_)
    rw [h1]
    rcases hj j hj10 with e2 | e2
    · rw [e2]; exact (hC.2.2.2.2.2.2.1 j hj10).1
    · rw [e2]; exact (hC.2.2.2.2.2.2.1 j hj10).2
  · unfold f_X12_restore f_X12_restore_15
    rw [fd_ar, hm.2.2.1, if_neg q]
    refine (it_fil 84 0 466 (aK A) (fun k hk => ?_)).trans (it_k ?_)
    · show b_X12_restore_15 (nI k) _ = _
      unfold b_X12_restore_15
      rw [if_pos (show nI k < 466 from nI_lt hk (by decide)), inb_nI hk (by decide), chk_so, nm_so, wr_nI _ (by omega), nI_1, rd_ar (by omega), ar_stF_ne (by omega), hm.2.1, Nat.zero_add]
    · show b_X12_restore_15 (nI 466) _ = _
      unfold b_X12_restore_15 f_X12_restore_40
      rw [if_neg (by decide), nm_so, chk_t (by decide)]
      show some (Sum.inr (ar (fw (stF σ1 84 0 466 (aK A)) 6 4 0) 84 1, fw (stF σ1 84 0 466 (aK A)) 6 4 0)) = _
      rw [ar_fw_ne (by omega), ar_stF_eq, fil_in (by omega) (by omega)]
      rfl
  · refine hm.row ?_ (fun k hk => by rw [ar_fw_ne (by omega), ar_stF_ne (by omega)]) ?_ ?_ (Or.inl ?_)
    · rw [ar_fw_ne (by omega), ar_stF_eq, hm.1]
    · rw [ar_fw_eq, upd_ne (by omega), ar_stF_ne (by omega)]
    · rw [ar_fw_eq, upd_ne (by omega), ar_stF_ne (by omega)]
    · rw [ar_fw_eq, upd_eq]
def sK (A : AS) (r : Nat → Int32) (n : Int32) : AS := (A.1, r, n, A.2.2.2)
theorem op_image (hI : Inv A) (hC : CR A σ) (hM : MR A σ) : Opn A σ f_X11_image f_X12_image := by
  obtain ⟨τ, e, hu, h1, h2, hp, hj⟩ := e_become_2 hI.1 hC.1
  have ef : ∀ k, k < 466 → fil (aK A) 0 466 (aR A) k = aR A k := fun k hk => by rw [fil_in (Nat.zero_le _) (by omega), Nat.sub_zero]
  have hn : σ.1 ≤ τ.1 := by rw [h1]; exact Nat.le_refl _
  have e9 : ar τ 0 9 = aI A := by rw [hu 0 (by unfold PK; omega)]; exact hC.2.2.1
  have hu2 : ∀ k, k ≠ 0 → ¬ PK k → ar (fw τ 0 9 (aI A + 1)) k = ar σ k := fun k h0 hk => by rw [ar_fw_ne h0, hu k hk]
  refine Opn.mk' (aI A + 1) (sK A (fil (aK A) 0 466 (aR A)) (aI A + 1)) (fw τ 0 9 (aI A + 1)) ?_ ?_ ⟨fun k p q => hu2 k (by omega) (by unfold PK; omega), hu2 6 (by omega) (by unfold PK; omega), h2⟩ (by rw [fw_1, h1]; exact Nat.le_succ _) ⟨hI.1, fun _ => hI.1.bnd ef, hI.2.2.1, hI.2.2.2⟩ hM (fun σ1 hm => ⟨fw (stF σ1 85 0 466 (aR A)) 6 2 (aI A + 1), ?_, ?_, (FrM.stF (by omega)).tr (FrM.fw (by omega))⟩)
  · unfold f_X11_image
    rw [e, bd_so, nm_so, show fd τ 0 9 = aI A from e9, fd_ar, ar_fw_eq, upd_eq]
  · obtain ⟨g1, g2, g3, g4, g5, g6, g7⟩ := hC
    have hp2 : CP 2 20 62 (fil (aK A) 0 466 (aR A)) (fw τ 0 9 (aI A + 1)) := (CP.bnd hI.1 hp ef).ag (ar_fw_ne (by omega)) (fun k _ _ => ar_fw_ne (by omega)) (fun k _ _ => ar_fw_ne (by omega)) (fun k _ _ => ar_fw_ne (by omega)) (Nat.le_refl _)
    refine ⟨g1.ag (hu2 1 (by omega) (by unfold PK; omega)) (fun k _ _ => hu2 k (by omega) (by unfold PK; omega)) (fun k _ _ => hu2 k (by omega) (by unfold PK; omega)) (fun k _ _ => hu2 k (by omega) (by unfold PK; omega)) hn, fun _ => hp2, ?_, ?_, ?_, ?_, ?_⟩
    · rw [ar_fw_eq, upd_eq]; rfl
    · rw [hu2 9 (by omega) (by unfold PK; omega)]; exact g4
    · unfold CTr; rw [hu2 74 (by omega) (by unfold PK; omega), hu2 75 (by omega) (by unfold PK; omega)]; exact g5
    · intro s hs; rw [hu2 8 (by omega) (by unfold PK; omega), hu2 (76 + 2 * s) (by omega) (by unfold PK; omega), hu2 (77 + 2 * s) (by omega) (by unfold PK; omega)]; exact g6 s hs
    · unfold CSl
      refine ⟨fun j hj10 => ?_, ?_⟩
      · have en : (fw τ 0 9 (aI A + 1)).1 = σ.1 := h1
        have e20 : rc (fw τ 0 9 (aI A + 1)) 20 j = rc τ 20 j := by rw [rc_ar, rc_ar, ar_fw_ne (by omega)]
        rw [en, e20, rc_ar, hu2 10 (by omega) (by unfold PK; omega)]
        refine ⟨(g7.1 j hj10).1, ?_⟩
        rcases hj j hj10 with e2 | e2
        · rw [e2]; exact (g7.1 j hj10).2
        · rw [e2]; exact (g7.1 j hj10).1
      · rw [rc_ar, rc_ar, hu2 4 (by omega) (by unfold PK; omega), hu2 5 (by omega) (by unfold PK; omega)]
        exact g7.2
  · unfold f_X12_image f_X12_image_2
    refine (it_fil 85 0 466 (aR A) (fun k hk => ?_)).trans (it_k ?_)
    · show b_X12_image_2 (nI k) _ = _
      unfold b_X12_image_2
      rw [if_pos (show nI k < 466 from nI_lt hk (by decide)), inb_nI hk (by decide), chk_so, nm_so, wr_nI _ (by omega), nI_1, rd_ar (by omega), ar_stF_ne (by omega), hm.1, Nat.zero_add]
    · show b_X12_image_2 (nI 466) _ = _
      unfold b_X12_image_2 f_X12_image_27
      rw [if_neg (by decide), nm_so, show fd (stF σ1 85 0 466 (aR A)) 6 2 = aI A from by rw [fd_ar, ar_stF_ne (by omega)]; exact hm.2.2.1, fd_ar, ar_fw_eq, upd_eq]
  · obtain ⟨g1, g2, g3, g4, g5, g6, g7, g8, g9, g10⟩ := hm
    have hv : ∀ k, k ≠ 6 → k ≠ 85 → ar (fw (stF σ1 85 0 466 (aR A)) 6 2 (aI A + 1)) k = ar σ1 k := fun k h1 h2 => by rw [ar_fw_ne h1, ar_stF_ne h2]
    have h6 : ∀ j, j ≠ 2 → ar (fw (stF σ1 85 0 466 (aR A)) 6 2 (aI A + 1)) 6 j = ar σ1 6 j := fun j hj => by rw [ar_fw_eq, upd_ne hj, ar_stF_ne (by omega)]
    unfold MR
    rw [hv 84 (by omega) (by omega), hv 86 (by omega) (by omega), hv 87 (by omega) (by omega), hv 88 (by omega) (by omega), hv 89 (by omega) (by omega), hv 105 (by omega) (by omega), hv 106 (by omega) (by omega), hv 107 (by omega) (by omega), hv 108 (by omega) (by omega), h6 4 (by omega), h6 27 (by omega)]
    refine ⟨g1, ?_, ?_, g4, g5, g6, g7, g8, g9, g10⟩
    · rw [ar_fw_ne (by omega), ar_stF_eq, g2]; rfl
    · rw [ar_fw_eq, upd_eq]; rfl
end IM
