/-! part -/
theorem ar_nrole_eq (σ : St) (t : Nat) : ar (nrole σ t) (110 + σ.1) = fun j => if j = 5 then nI t else 0 := by unfold ar nrole; exact va_up_self _ _ _
theorem ar_nrole_ne {σ : St} {t k : Nat} (h : k ≠ 110 + σ.1) : ar (nrole σ t) k = ar σ k := by unfold ar nrole; exact va_up_ne _ _ h
theorem isRole_of {σ : St} {c : Nat} (h1 : 110 ≤ c) (h2 : c < 110 + σ.1) {k : Nat} (hk : k < 6) (h5 : rc σ c 5 = tg (nI k)) : isRole σ c = true := by
  refine decide_eq_true ⟨h1, h2, ?_⟩
  rw [h5]
  have H : ∀ k, k < 6 → tg (nI k) = 0 ∨ tg (nI k) = 1 ∨ tg (nI k) = 2 ∨ tg (nI k) = 3 ∨ tg (nI k) = 6 ∨ tg (nI k) = 9 := by decide +kernel
  exact H k hk
/-- the memory with a new role -/
def nwr (σ : St) (n k l : Nat) : St := fw (fw (fw (fw (fw (nrole σ (tg (nI k))) (110 + σ.1) 0 (nI n)) (110 + σ.1) 1 (nI k)) (110 + σ.1) 2 (nI (l / 1000))) (110 + σ.1) 3 (nI (l / 10 % 100))) (110 + σ.1) 4 (nI (l % 10))
theorem nwr_ne {σ : St} {n k l c : Nat} (h : c ≠ 110 + σ.1) : ar (nwr σ n k l) c = ar σ c := by
  unfold nwr
  rw [ar_fw_ne h, ar_fw_ne h, ar_fw_ne h, ar_fw_ne h, ar_fw_ne h, ar_nrole_ne h]
theorem nwr_eq (σ : St) (n k l : Nat) : ar (nwr σ n k l) (110 + σ.1) 0 = nI n ∧ ar (nwr σ n k l) (110 + σ.1) 1 = nI k ∧ ar (nwr σ n k l) (110 + σ.1) 2 = nI (l / 1000) ∧ ar (nwr σ n k l) (110 + σ.1) 3 = nI (l / 10 % 100) ∧ ar (nwr σ n k l) (110 + σ.1) 4 = nI (l % 10) ∧ ar (nwr σ n k l) (110 + σ.1) 5 = nI (tg (nI k)) := by
  unfold nwr
  rw [ar_fw_eq, ar_fw_eq, ar_fw_eq, ar_fw_eq, ar_fw_eq, ar_nrole_eq]
  exact ⟨rfl, rfl, rfl, rfl, rfl, rfl⟩
theorem tg_lt : ∀ k, k < 6 → tg (nI k) < 10 := by decide +kernel
theorem e_newRole {σ : St} {n k l : Nat} (hs : CSl σ) (h1 : ar σ 1 1 = nI n) (hk : k < 6) (hl : l < 10000) : f_X11_newRole (nI k) (nI l) σ = some (nwr σ n k l) := by
  have hok : okR σ = true := by
    unfold okR
    have hl := of_decide_eq_true hs.2.1
    have hr := of_decide_eq_true hs.2.2
    rw [decide_eq_true ⟨by omega, by omega⟩, Bool.true_and]
    exact List.all_eq_true.mpr (fun j hj => decide_eq_true (hs.1 j (List.mem_range.mp hj)))
  have ht := tg_lt k hk
  have hR : ∀ σ' : St, σ'.1 = σ.1 + 1 → ar σ' (110 + σ.1) 5 = nI (tg (nI k)) → isRole σ' (110 + σ.1) = true := fun σ' e1 e5 => isRole_of (by omega) (by omega) hk (by rw [rc_ar, e5, nI_clamp (by omega)])
  have e5 : ar (nrole σ (tg (nI k))) (110 + σ.1) 5 = nI (tg (nI k)) := by rw [ar_nrole_eq]; rfl
  unfold f_X11_newRole
  rw [hok, chk_so]
  show f_X6_init (110 + σ.1) (fd σ 1 1) (nI k) (nI l) (nrole σ (tg (nI k))) = _
  unfold f_X6_init
  rw [hR _ rfl e5, chk_so, nm_so, hR _ rfl (by rw [ar_fw_eq, upd_ne (by omega)]; exact e5), chk_so, nm_so, hR _ rfl (by rw [ar_fw_eq, upd_ne (by omega), ar_fw_eq, upd_ne (by omega)]; exact e5), chk_so, nm_so, hR _ rfl (by rw [ar_fw_eq, upd_ne (by omega), ar_fw_eq, upd_ne (by omega), ar_fw_eq, upd_ne (by omega)]; exact e5), chk_so, nm_so, hR _ rfl (by rw [ar_fw_eq, upd_ne (by omega), ar_fw_eq, upd_ne (by omega), ar_fw_eq, upd_ne (by omega), ar_fw_eq, upd_ne (by omega)]; exact e5), chk_so, nm_so, fd_ar, h1, show (1000 : Int32) = nI 1000 from rfl, show (100 : Int32) = nI 100 from rfl, show (10 : Int32) = nI 10 from rfl, pk_rem (by omega) (by decide) (by decide), pk_div (by omega) (by decide) (by decide), pk_div (by omega) (by decide) (by decide), pk_rem (by omega) (by decide) (by decide)]
  rfl
theorem op_part {A : AS} {σ : St} (x y : Int32) (hN : σ.1 < 2 ^ 30) (hI : Inv A) (hC : CR A σ) (hM : MR A σ) : Opn A σ (f_X11_part x y) (f_X12_part x y) := by
  have hi := hI.1.1
  have b0 := hi.1.2.2
  have b1 := hi.2.1.2
  have b2 := hi.2.2.1.2
  have b3 := hi.2.2.2.1.2
  have b4 := hi.2.2.2.2.1.2
  have b5 := hi.2.2.2.2.2.2
  have b6 : cn (aR A) 362 ≤ 50 := (hI.1.2.2.2.2.2.2 1 (by decide)).2.1
  have hc := hC.1.1
  obtain ⟨c1, c2, c3, c4, c5, c6, c7, c8⟩ := hC.1
  obtain ⟨i1, i2, i3, i4, i5, i6, i7⟩ := hI.1
  rcases wi_cases x (n := 6) (by omega) with h0 | ⟨h1, k, hk, rfl⟩
  · refine Opn.err 1 (by decide) hI hC hM ?_ (fun σ hm => ?_)
    · unfold f_X11_part; rw [w_6, bd_so, h0, if_pos rfl]; rfl
    · unfold f_X12_part f_X12_part_20; rw [m_in6, bd_so, h0, if_pos rfl]; exact bd2_id _
  rcases wi_cases y (n := 10000) (by omega) with g0 | ⟨g1, l, hl, rfl⟩
  · refine Opn.err 1 (by decide) hI hC hM ?_ (fun σ hm => ?_)
    · unfold f_X11_part; rw [w_6, bd_so, h1, if_neg (by decide), w_10000, bd_so, g0, if_pos rfl]; rfl
    · unfold f_X12_part f_X12_part_20; rw [m_in6, bd_so, h1, if_neg (by decide), m_in10000, bd_so, g0, if_pos rfl]; exact bd2_id _
  obtain ⟨n, hn⟩ : ∃ n, n = cn (aR A) 1 := ⟨_, rfl⟩
  have er : aR A 1 = nI n := by rw [hn]; exact hi.2.1.1
  have ec : ar σ 1 1 = nI n := hc.2.1.trans er
  by_cases q : ¬ n < 10
  · have e10 : n = 10 := by omega
    subst e10
    refine Opn.err 4 (by decide) hI hC hM ?_ (fun σ hm => ?_)
    · unfold f_X11_part
      rw [w_6, bd_so, h1, if_neg (by decide), w_10000, bd_so, g1, if_neg (by decide), fd_ar, ec, if_neg (by decide)]; rfl
    · unfold f_X12_part
      rw [m_in6, bd_so, h1, if_neg (by decide), m_in10000, bd_so, g1, if_neg (by decide), chk_t (by decide), show rd σ 84 1 = nI 10 from by rw [← er, ← hm.1]; rfl, if_pos (by decide)]; exact bd2_id _
  have q := Classical.not_not.mp q
  have hw5 := nwr_eq σ n k l
  have hwn : ∀ c, c ≠ 110 + σ.1 → ar (nwr σ n k l) c = ar σ c := fun c h => nwr_ne h
  have hw1 : (nwr σ n k l).1 = σ.1 + 1 := rfl
  have hw2 : (nwr σ n k l).2.2 = σ.2.2 := rfl
  have hnr := e_newRole (n := n) (k := k) (l := l) hC.2.2.2.2.2.2 ec hk hl
  obtain ⟨W, hW⟩ : ∃ W, W = nwr σ n k l := ⟨_, rfl⟩
  rw [← hW] at hw5 hwn hw1 hw2 hnr
  have hRW : ∀ σ' : St, σ'.1 = W.1 → ar σ' (110 + σ.1) = ar W (110 + σ.1) → isRole σ' (110 + σ.1) = true := fun σ' e1 e2 => isRole_of (by omega) (by rw [e1, hw1]; omega) hk (by rw [rc_ar, e2, hw5.2.2.2.2.2, nI_clamp (by have := tg_lt k hk; omega)])
  have e0 : (upd (upd (upd (upd (upd (upd (aR A) (10 + 5 * n) (nI k)) (11 + 5 * n) (nI (l / 1000))) (12 + 5 * n) (nI (l / 10 % 100))) (13 + 5 * n) (nI (l % 10))) (14 + 5 * n) (-1)) 1 (nI (n + 1))) (10 + 5 * n) = nI k := by rw [upd_ne (by omega), upd_ne (by omega), upd_ne (by omega), upd_ne (by omega), upd_ne (by omega), upd_eq]
  have e1 : (upd (upd (upd (upd (upd (upd (aR A) (10 + 5 * n) (nI k)) (11 + 5 * n) (nI (l / 1000))) (12 + 5 * n) (nI (l / 10 % 100))) (13 + 5 * n) (nI (l % 10))) (14 + 5 * n) (-1)) 1 (nI (n + 1))) (11 + 5 * n) = nI (l / 1000) := by rw [upd_ne (by omega), upd_ne (by omega), upd_ne (by omega), upd_ne (by omega), upd_eq]
  have e2 : (upd (upd (upd (upd (upd (upd (aR A) (10 + 5 * n) (nI k)) (11 + 5 * n) (nI (l / 1000))) (12 + 5 * n) (nI (l / 10 % 100))) (13 + 5 * n) (nI (l % 10))) (14 + 5 * n) (-1)) 1 (nI (n + 1))) (12 + 5 * n) = nI (l / 10 % 100) := by rw [upd_ne (by omega), upd_ne (by omega), upd_ne (by omega), upd_eq]
  have e3 : (upd (upd (upd (upd (upd (upd (aR A) (10 + 5 * n) (nI k)) (11 + 5 * n) (nI (l / 1000))) (12 + 5 * n) (nI (l / 10 % 100))) (13 + 5 * n) (nI (l % 10))) (14 + 5 * n) (-1)) 1 (nI (n + 1))) (13 + 5 * n) = nI (l % 10) := by rw [upd_ne (by omega), upd_ne (by omega), upd_eq]
  have e4 : (upd (upd (upd (upd (upd (upd (aR A) (10 + 5 * n) (nI k)) (11 + 5 * n) (nI (l / 1000))) (12 + 5 * n) (nI (l / 10 % 100))) (13 + 5 * n) (nI (l % 10))) (14 + 5 * n) (-1)) 1 (nI (n + 1))) (14 + 5 * n) = -1 := by rw [upd_ne (by omega), upd_eq]
  have e9 : ∀ k', k' ≠ 1 → k' < 10 + 5 * n ∨ 15 + 5 * n ≤ k' → (upd (upd (upd (upd (upd (upd (aR A) (10 + 5 * n) (nI k)) (11 + 5 * n) (nI (l / 1000))) (12 + 5 * n) (nI (l / 10 % 100))) (13 + 5 * n) (nI (l % 10))) (14 + 5 * n) (-1)) 1 (nI (n + 1))) k' = aR A k' := fun k' h1 h2 => by rw [upd_ne (by omega), upd_ne (by omega), upd_ne (by omega), upd_ne (by omega), upd_ne (by omega), upd_ne (by omega)]
  have e11 : (upd (upd (upd (upd (upd (upd (aR A) (10 + 5 * n) (nI k)) (11 + 5 * n) (nI (l / 1000))) (12 + 5 * n) (nI (l / 10 % 100))) (13 + 5 * n) (nI (l % 10))) (14 + 5 * n) (-1)) 1 (nI (n + 1))) 1 = nI (n + 1) := upd_eq _ _ _
  obtain ⟨R, hR⟩ : ∃ R, R = (upd (upd (upd (upd (upd (upd (aR A) (10 + 5 * n) (nI k)) (11 + 5 * n) (nI (l / 1000))) (12 + 5 * n) (nI (l / 10 % 100))) (13 + 5 * n) (nI (l % 10))) (14 + 5 * n) (-1)) 1 (nI (n + 1))) := ⟨_, rfl⟩
  have hm12 : ∀ σ1, MR A σ1 → f_X12_part (nI k) (nI l) σ1 = some (nI n, fw (fw (fw (fw (fw (fw (fw σ1 84 (10 + 5 * n) (nI k)) 84 (11 + 5 * n) (nI (l / 1000))) 84 (12 + 5 * n) (nI (l / 10 % 100))) 84 (13 + 5 * n) (nI (l % 10))) 84 (14 + 5 * n) (-1)) 84 1 (nI (n + 1))) 6 4 0) := by
    intro σ1 hm
    have m2 : rd σ1 84 (nI 1) = nI n := by rw [← er, ← hm.1]; rfl
    have x0 : (nI 10 + (nI 5 * nI n) : Int32) = nI (10 + 5 * n) := by rw [← nI_add, ← pk_mul]
    have m3 : rd (fw (fw (fw (fw (fw σ1 84 (10 + 5 * n) (nI k)) 84 (11 + 5 * n) (nI (l / 1000))) 84 (12 + 5 * n) (nI (l / 10 % 100))) 84 (13 + 5 * n) (nI (l % 10))) 84 (14 + 5 * n) (-nI 1)) 84 (nI 1) = nI n := by rw [rd_ar (by omega), ar_fw_eq, upd_ne (by omega), ar_fw_eq, upd_ne (by omega), ar_fw_eq, upd_ne (by omega), ar_fw_eq, upd_ne (by omega), ar_fw_eq, upd_ne (by omega)]; exact m2
    unfold f_X12_part
    rw [m_in6, bd_so, h1, if_neg (by decide), m_in10000, bd_so, g1, if_neg (by decide), chk_t (by decide), show (1 : Int32) = nI 1 from rfl, m2, if_neg (fun h => by have := (nI_eq (a := n) (b := 10) (by omega) (by decide)).mp h; omega), show (1000 : Int32) = nI 1000 from rfl, show (100 : Int32) = nI 100 from rfl, show (10 : Int32) = nI 10 from rfl, show (5 : Int32) = nI 5 from rfl, show (2 : Int32) = nI 2 from rfl, show (3 : Int32) = nI 3 from rfl, show (4 : Int32) = nI 4 from rfl, x0, nI_add, nI_add, nI_add, nI_add, inb_nI (show 10 + 5 * n < 466 by omega) (by decide), chk_so, nm_so, inb_nI (show 10 + 5 * n + 1 < 466 by omega) (by decide), chk_so, nm_so, inb_nI (show 10 + 5 * n + 2 < 466 by omega) (by decide), chk_so, nm_so, inb_nI (show 10 + 5 * n + 3 < 466 by omega) (by decide), chk_so, nm_so, inb_nI (show 10 + 5 * n + 4 < 466 by omega) (by decide), chk_so, nm_so, nm_so, nm_so, pk_rem (by omega) (by decide) (by decide), pk_div (by omega) (by decide) (by decide), pk_div (by omega) (by decide) (by decide), pk_rem (by omega) (by decide) (by decide), wr_nI _ (show 10 + 5 * n < 2 ^ 31 by omega), wr_nI _ (show 10 + 5 * n + 1 < 2 ^ 31 by omega), wr_nI _ (show 10 + 5 * n + 2 < 2 ^ 31 by omega), wr_nI _ (show 10 + 5 * n + 3 < 2 ^ 31 by omega), wr_nI _ (show 10 + 5 * n + 4 < 2 ^ 31 by omega), wr_nI _ (show 1 < 2 ^ 31 by omega), show 10 + 5 * n + 1 = 11 + 5 * n by omega, show 10 + 5 * n + 2 = 12 + 5 * n by omega, show 10 + 5 * n + 3 = 13 + 5 * n by omega, show 10 + 5 * n + 4 = 14 + 5 * n by omega, m3, nI_add, rd_ar (by omega), ar_fw_ne (by omega), ar_fw_eq, upd_eq, pk_sub (by omega), Nat.add_sub_cancel]
  rw [← hR] at e0 e1 e2 e3 e4 e9 e11
  refine Opn.mk' (nI n) (sR A R) (fw (fw (fw W 10 n (nI (110 + σ.1))) 11 n (-1)) 1 1 (nI (n + 1))) ?_ ?_ ?_ ?_ ?_ hM (fun σ1 hm => ?_)
  · unfold f_X11_part
    rw [w_6, bd_so, h1, if_neg (by decide), w_10000, bd_so, g1, if_neg (by decide), fd_ar, ec, if_pos (show nI n < 10 from nI_lt q (by decide)), hnr, bd_so]
    have ec2 : ar W 1 1 = nI n := by rw [hwn 1 (by omega)]; exact ec
    have h31 : n < 2147483648 := by omega
    unfold f_X4_addPart
    rw [hRW W rfl rfl, decide_eq_true (show 110 + σ.1 < 2 ^ 31 by omega)]
    simp only [nm_so, chk_so, bd2_so, wr_nI, h31, fd_ar, ar_fw_eq, ar_fw_ne, upd_eq, ec2, inb_nI q (show 10 < 2 ^ 31 by decide), nI_1, nI_pred, ne_eq, Nat.reduceEqDiff, not_false_eq_true, Nat.reducePow]
  · refine hC.row ?_ (fun c hc hcl => ?_) (by show σ.1 ≤ W.1; omega) (fun j hj => ?_)
    · have u : ∀ c, c ≠ 1 → c ≠ 10 → c ≠ 11 → c ≠ 110 + σ.1 → ar (fw (fw (fw W 10 n (nI (110 + σ.1))) 11 n (-1)) 1 1 (nI (n + 1))) c = ar σ c := fun c a1 a2 a3 a4 => by rw [ar_fw_ne a1, ar_fw_ne a3, ar_fw_ne a2, hwn c a4]
      refine ⟨⟨?_, ?_, ?_, ?_⟩, c2.cg ⟨u _ (by omega) (by omega) (by omega) (by omega), u _ (by omega) (by omega) (by omega) (by omega)⟩ (e9 4 (by omega) (by omega)) (fun c _ _ => e9 c (by omega) (by omega)), c3.cg ⟨u _ (by omega) (by omega) (by omega) (by omega), u _ (by omega) (by omega) (by omega) (by omega)⟩ (e9 5 (by omega) (by omega)) (fun c _ _ => e9 c (by omega) (by omega)), c4.cg (fun c _ _ => u _ (by omega) (by omega) (by omega) (by omega)) (fun c _ => e9 c (by omega) (by omega)), ?_, ?_, c7.cg (fun c _ _ => u _ (by omega) (by omega) (by omega) (by omega)) (e9 2 (by omega) (by omega)) (fun c _ _ => e9 c (by omega) (by omega)), c8.cg (fun c _ _ => u _ (by omega) (by omega) (by omega) (by omega)) (e9 3 (by omega) (by omega)) (fun c _ _ => e9 c (by omega) (by omega))⟩
      · rw [ar_fw_eq, upd_ne (by omega), ar_fw_ne (by omega), ar_fw_ne (by omega), hwn 1 (by omega), e9 0 (by omega) (by omega)]; exact c1.1
      · rw [ar_fw_eq, upd_eq, e11]
      · rw [ar_fw_eq, upd_ne (by omega), ar_fw_ne (by omega), ar_fw_ne (by omega), hwn 1 (by omega), e9 2 (by omega) (by omega)]; exact c1.2.2.1
      · rw [ar_fw_eq, upd_ne (by omega), ar_fw_ne (by omega), ar_fw_ne (by omega), hwn 1 (by omega), e9 3 (by omega) (by omega)]; exact c1.2.2.2
      · intro p hp
        rw [cn_nI e11 (by omega)] at hp
        show ar _ 11 p = _
        rw [ar_fw_ne (by omega), ar_fw_eq]
        by_cases qp : p = n
        · subst qp; rw [upd_eq, e4]
        · rw [upd_ne qp, ar_fw_ne (by omega), hwn 11 (by omega), e9 (14 + 5 * p) (by omega) (by omega)]
          exact c5 p (by omega)
      · intro p hp
        rw [cn_nI e11 (by omega)] at hp
        have e10 : rc (fw (fw (fw W 10 n (nI (110 + σ.1))) 11 n (-1)) 1 1 (nI (n + 1))) 10 p = (upd (ar σ 10) n (nI (110 + σ.1)) p).toNatClampNeg := by rw [rc_ar, ar_fw_ne (by omega), ar_fw_ne (by omega), ar_fw_eq, hwn 10 (by omega)]
        rw [e10]
        have urole : ∀ c, 110 ≤ c → ar (fw (fw (fw W 10 n (nI (110 + σ.1))) 11 n (-1)) 1 1 (nI (n + 1))) c = ar W c := fun c hc => by rw [ar_fw_ne (by omega), ar_fw_ne (by omega), ar_fw_ne (by omega)]
        by_cases qp : p = n
        · subst qp
          rw [upd_eq, nI_clamp (by omega)]
          refine ⟨hRW _ rfl (urole _ (by omega)), ?_⟩
          rw [rc_ar, urole _ (by omega), e0, e1, e2, e3, hw5.1, hw5.2.1, hw5.2.2.1, hw5.2.2.2.1, hw5.2.2.2.2.1, hw5.2.2.2.2.2, nI_clamp (by have := tg_lt k hk; omega)]
          exact ⟨rfl, rfl, rfl, rfl, rfl, rfl⟩
        · rw [upd_ne qp]
          exact (c6 p (by omega)).cg (fun c hc1 hc2 => by rw [urole c hc1, hwn c (by omega)]) (by show σ.1 ≤ W.1; omega) (fun j hj1 hj2 => e9 j (by omega) (by omega))
    · unfold PC at hc
      rw [ar_fw_ne (by omega), ar_fw_ne (by omega), ar_fw_ne (by omega), hwn c (by omega)]
    · rw [rc_ar, ar_fw_ne (by omega), ar_fw_ne (by omega), ar_fw_eq, hwn 10 (by omega)]
      show _ < 110 + W.1
      by_cases qj : j = n
      · subst qj; rw [upd_eq, nI_clamp (by omega)]; omega
      · rw [upd_ne qj]
        have := (hC.2.2.2.2.2.2.1 j hj).1
        rw [rc_ar] at this
        omega
  · refine ⟨fun c a b => ?_, ?_, ?_⟩
    · rw [ar_fw_ne (by omega), ar_fw_ne (by omega), ar_fw_ne (by omega), hwn c (by omega)]
    · rw [ar_fw_ne (by omega), ar_fw_ne (by omega), ar_fw_ne (by omega), hwn 6 (by omega)]
    · show W.2.2 = _
      exact hw2
  · show W.1 ≤ _
    omega
  · refine hI.row ⟨ICn.of ((e9 0 (by omega) (by omega)).trans hi.1.1) hi.1.2 e11 (by omega) ((e9 2 (by omega) (by omega)).trans hi.2.2.1.1) hi.2.2.1.2 ((e9 3 (by omega) (by omega)).trans hi.2.2.2.1.1) hi.2.2.2.1.2 ((e9 4 (by omega) (by omega)).trans hi.2.2.2.2.1.1) hi.2.2.2.2.1.2 ((e9 5 (by omega) (by omega)).trans hi.2.2.2.2.2.1) hi.2.2.2.2.2.2, ?_, ?_, i4.cg (e9 2 (by omega) (by omega)) (fun c _ _ => e9 c (by omega) (by omega)), i5.cg (e9 3 (by omega) (by omega)) (fun c _ _ => e9 c (by omega) (by omega)), i6.cg (e9 4 (by omega) (by omega)) (fun c _ _ => e9 c (by omega) (by omega)), i7.cg (fun c _ => e9 c (by omega) (by omega))⟩
    · intro p hp
      rw [cn_nI e11 (by omega)] at hp
      by_cases qp : p = n
      · subst qp
        rw [cn_nI e0 (by omega), cn_nI e1 (by omega), cn_nI e2 (by omega), cn_nI e3 (by omega), e0, e1, e2, e3, e4]
        exact ⟨⟨rfl, hk⟩, ⟨rfl, by omega⟩, ⟨rfl, by omega⟩, ⟨rfl, by omega⟩, Or.inl rfl⟩
      · have a0 := e9 (10 + 5 * p) (by omega) (by omega)
        have a1 := e9 (11 + 5 * p) (by omega) (by omega)
        have a2 := e9 (12 + 5 * p) (by omega) (by omega)
        have a3 := e9 (13 + 5 * p) (by omega) (by omega)
        have a4 := e9 (14 + 5 * p) (by omega) (by omega)
        rw [cn_cong a0, cn_cong a1, cn_cong a2, cn_cong a3, cn_cong a4, a0, a1, a2, a3, a4, cn_cong (e9 3 (by omega) (by omega))]
        exact i2 p (by omega)
    · intro e he
      rw [cn_cong (e9 2 (by omega) (by omega))] at he
      have a0 := e9 (60 + 4 * e) (by omega) (by omega)
      have a1 := e9 (61 + 4 * e) (by omega) (by omega)
      have a2 := e9 (62 + 4 * e) (by omega) (by omega)
      have a3 := e9 (63 + 4 * e) (by omega) (by omega)
      have j := i3 e he
      rw [cn_cong a0, cn_cong a1, cn_cong a2, cn_cong a3, a0, a1, a2, a3, cn_nI e11 (by omega), cn_cong (e9 0 (by omega) (by omega))]
      exact ⟨⟨j.1.1, by have := j.1.2; omega⟩, j.2⟩
  · refine ⟨_, hm12 σ1 hm, ?_, ((((((FrM.fw (by omega)).tr (FrM.fw (by omega))).tr (FrM.fw (by omega))).tr (FrM.fw (by omega))).tr (FrM.fw (by omega))).tr (FrM.fw (by omega))).tr (FrM.fw (by omega))⟩
    refine hm.row ?_ (fun k hk => by rw [ar_fw_ne (by omega), ar_fw_ne (by omega), ar_fw_ne (by omega), ar_fw_ne (by omega), ar_fw_ne (by omega), ar_fw_ne (by omega), ar_fw_ne (by omega)]) ?_ ?_ (Or.inl ?_)
    · rw [ar_fw_ne (by omega), ar_fw_eq, ar_fw_eq, ar_fw_eq, ar_fw_eq, ar_fw_eq, ar_fw_eq, hm.1, hR]
    · rw [ar_fw_eq, upd_ne (by omega), ar_fw_ne (by omega), ar_fw_ne (by omega), ar_fw_ne (by omega), ar_fw_ne (by omega), ar_fw_ne (by omega), ar_fw_ne (by omega)]
    · rw [ar_fw_eq, upd_ne (by omega), ar_fw_ne (by omega), ar_fw_ne (by omega), ar_fw_ne (by omega), ar_fw_ne (by omega), ar_fw_ne (by omega), ar_fw_ne (by omega)]
    · rw [ar_fw_eq, upd_eq]
