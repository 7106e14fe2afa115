/-! can, wish, change -/
theorem e_name {l v : Int32} {σ : St} (i : Nat) (h : inb (l - 97) 26 = true) (hi : (l - 97).toNatClampNeg = i) : f_X10_name l v σ = some (fw σ 30 i v) := by
  unfold f_X10_name wr
  rw [h, chk_so, nm_so, hi]
theorem e_held (v m : Int32) (hm : 0 ≤ m) : f_X10_held v m = some (hld v m) := by
  unfold f_X10_held hld
  congr 1
  have z0 : (0 : Int32).toInt = 0 := by decide
  rw [Int32.le_iff_toInt_le, z0] at hm
  by_cases q1 : v < 0
  · rw [if_pos q1]
    rw [Int32.lt_iff_toInt_lt, z0] at q1
    rw [if_pos (show v < m from Int32.lt_iff_toInt_lt.mpr (by omega)), if_neg]
    rw [Int32.lt_iff_toInt_lt, z0]; omega
  · rw [if_neg q1]
    by_cases q2 : m < v
    · rw [if_pos q2]
      have q2' := Int32.lt_iff_toInt_lt.mp q2
      rw [if_neg (show ¬ v < m from fun h => by have := Int32.lt_iff_toInt_lt.mp h; omega)]
      by_cases q3 : 0 < m
      · rw [if_pos q3]
      · rw [if_neg q3]
        rw [Int32.lt_iff_toInt_lt, z0] at q3
        exact Int32.toInt_inj.mp (by rw [z0]; omega)
    · rw [if_neg q2]
      rw [Int32.lt_iff_toInt_lt] at q1 q2
      rw [z0] at q1
      by_cases q3 : v < m
      · rw [if_pos q3]
        by_cases q4 : 0 < v
        · rw [if_pos q4]
        · rw [if_neg q4]
          rw [Int32.lt_iff_toInt_lt, z0] at q4
          exact Int32.toInt_inj.mp (by rw [z0]; omega)
      · rw [if_neg q3]
        have e : v = m := by
          rw [Int32.lt_iff_toInt_lt] at q3
          exact Int32.toInt_inj.mp (by omega)
        rw [e]
        by_cases q4 : 0 < m
        · rw [if_pos q4]
        · rw [if_neg q4]
          rw [Int32.lt_iff_toInt_lt, z0] at q4
          exact Int32.toInt_inj.mp (by rw [z0]; omega)
theorem m_held (v m : Int32) : f_X12_held v m = some (hld v m) := by
  unfold f_X12_held hld
  split
  · rfl
  · split <;> rfl
theorem isRole_fw30 {σ : St} {j c : Nat} {v : Int32} (h : 110 ≤ c) : isRole (fw σ 30 j v) c = isRole σ c := by
  unfold isRole
  rw [rc_ar, rc_ar, ar_fw_ne (by omega)]
  rfl
section TX
variable {A : AS} {σ : St} {y p : Nat}
theorem e_roleOf (hI : Inv A) (hC : CR A σ) (hp : p < cn (aR A) 1) : (rd σ 10 (nI p)).toNatClampNeg = rc σ 10 p ∧ RoleIs σ (rc σ 10 p) p (aR A) ∧ 110 ≤ rc σ 10 p ∧ inb (nI p) 10 = true := by
  have b1 := hI.1.1.2.1.2
  have hr := hC.1.2.2.2.2.2.1 p hp
  exact ⟨by rw [rd_ar (by omega)]; rfl, hr, (of_decide_eq_true hr.1).1, inb_nI (by omega) (by decide)⟩
def nst (σ : St) (r : Nat → Int32) (y p : Nat) : St := fw (fw (fw (fw (fw σ 30 6 (r (220 + 3 * y))) 30 0 (r (221 + 3 * y))) 30 13 (r (11 + 5 * p))) 30 24 (r (12 + 5 * p))) 30 10 (r (10 + 5 * p))
theorem nst_f (r : Nat → Int32) : F31 σ (nst σ r y p) := (((F31.n.tr F31.n).tr F31.n).tr F31.n).tr F31.n
theorem e_nPP (hI : Inv A) (hC : CR A σ) (hy : y < cn (aR A) 3) (hp : p < cn (aR A) 1) : f_X10_namePlayerAndPart (nI y) (nI p) σ = some (nst σ (aR A) y p) := by
  have b3 := hI.1.1.2.2.2.1.2
  obtain ⟨ek, hr, h110, hin⟩ := e_roleOf hI hC hp
  obtain ⟨r0, r1, r2, r3, r4, r5, r6⟩ := hr
  have hpl := hC.1.2.2.2.2.2.2.2 y hy
  unfold f_X10_namePlayerAndPart nst
  rw [hin, chk_so, ek, r0, chk_so, inb_nI (show y < 6 by omega) (by decide), chk_so, rd_ar (by omega), show ar σ 16 y = _ from hpl.1, e_name 6 (by decide) (by decide), bd_so, rd_ar (by omega), ar_fw_ne (by omega), show ar σ 17 y = _ from hpl.2.1, e_name 0 (by decide) (by decide), bd_so]
  simp only [isRole_fw30 h110, r0, chk_so, fd_ar]
  rw [ar_fw_ne (by omega), ar_fw_ne (by omega), r3, e_name 13 (by decide) (by decide), bd_so]
  simp only [isRole_fw30 h110, r0, chk_so, fd_ar]
  rw [ar_fw_ne (by omega), ar_fw_ne (by omega), ar_fw_ne (by omega), r4, e_name 24 (by decide) (by decide), bd_so]
  simp only [isRole_fw30 h110, r0, chk_so, fd_ar]
  rw [ar_fw_ne (by omega), ar_fw_ne (by omega), ar_fw_ne (by omega), ar_fw_ne (by omega), r2, e_name 10 (by decide) (by decide), bd_so]
theorem nst_30 (r : Nat → Int32) : ar (nst σ r y p) 30 6 = nmP r y p 0 ∧ ar (nst σ r y p) 30 0 = nmP r y p 1 ∧ ar (nst σ r y p) 30 13 = nmP r y p 2 ∧ ar (nst σ r y p) 30 24 = nmP r y p 3 ∧ ar (nst σ r y p) 30 10 = nmP r y p 4 := by
  unfold nst
  refine ⟨?_, ?_, ?_, ?_, ?_⟩
  · rw [ar_fw_eq, upd_ne (by omega), ar_fw_eq, upd_ne (by omega), ar_fw_eq, upd_ne (by omega), ar_fw_eq, upd_ne (by omega), ar_fw_eq, upd_eq]; rfl
  · rw [ar_fw_eq, upd_ne (by omega), ar_fw_eq, upd_ne (by omega), ar_fw_eq, upd_ne (by omega), ar_fw_eq, upd_eq]; rfl
  · rw [ar_fw_eq, upd_ne (by omega), ar_fw_eq, upd_ne (by omega), ar_fw_eq, upd_eq]; rfl
  · rw [ar_fw_eq, upd_ne (by omega), ar_fw_eq, upd_eq]; rfl
  · rw [ar_fw_eq, upd_eq]; rfl
theorem tx_c {τ : St} (hI : Inv A) (hC : CR A τ) {u : Nat} (hu : u < 3) {nm : Nat → Int32} (hx : aR A (310 + 52 * u) ≠ 0) (hN : ∀ q, q < (if u = 2 then 6 else 5) → ar τ 30 (ltr u q - 97).toNatClampNeg = nm q) : ∃ σ', f_X10_worthOf (56 + 2 * u) τ = some (txv (aR A) u nm, σ') ∧ F31 τ σ' := by
  obtain ⟨x1, x2, x3⟩ := hI.1.2.2.2.2.2.2 u hu
  obtain ⟨d1, d2⟩ := hC.1.2.2.2.1 u hu
  have x3' : pfx u (fun i => aR A (311 + 52 * u + i)) (cn (aR A) (310 + 52 * u)) 1 := x3.resolve_left (fun h => hx (by rw [x1, h]; rfl))
  obtain ⟨σ', e1, e2, e3, e4⟩ := e_worth (σ := τ) (u := u) (c1 := 56 + 2 * u) (n := cn (aR A) (310 + 52 * u)) (f := fun i => aR A (311 + 52 * u + i)) (na := nm) hu rfl x2 (by rw [show 56 + 2 * u = 52 + 4 + 2 * u by omega, d1]; exact x1) (fun i hi => by rw [show 56 + 2 * u + 1 = 52 + 5 + 2 * u by omega]; exact d2 i hi) x3' hN
  exact ⟨σ', e1, fun c _ h => e2 c h, e3, e4⟩
theorem tx_m {τ : St} (hI : Inv A) (hm : ar τ 84 = aR A) {u : Nat} (hu : u < 3) {nm : Nat → Int32} (hx : aR A (310 + 52 * u) ≠ 0) (hN : ∀ q, q < (if u = 2 then 6 else 5) → ar τ 90 q = nm q) : ∃ σ', f_X12_comesTo (nI u) τ = some (txv (aR A) u nm, σ') ∧ F93 τ σ' := by
  obtain ⟨x1, x2, x3⟩ := hI.1.2.2.2.2.2.2 u hu
  have x3' : pfx u (fun i => aR A (311 + 52 * u + i)) (cn (aR A) (310 + 52 * u)) 1 := x3.resolve_left (fun h => hx (by rw [x1, h]; rfl))
  obtain ⟨σ', e1, e2, e3, e4⟩ := m_comes (σ := τ) (u := u) (n := cn (aR A) (310 + 52 * u)) (r := aR A) (na := nm) hu hm x2 x1 x3' hN
  exact ⟨σ', e1, fun c _ h => e2 c h, e3, e4⟩
theorem e_isAble (hI : Inv A) (hC : CR A σ) (hy : y < cn (aR A) 3) (hp : p < cn (aR A) 1) : ∃ σ', f_X10_isAble (nI y) (nI p) σ = some (abl (aR A) y p, σ') ∧ F31 σ σ' := by
  have b3 := hI.1.1.2.2.2.1.2
  have e56 : ar σ 56 1 = aR A 310 := (hC.1.2.2.2.1 0 (by decide)).1
  unfold f_X10_isAble abl
  rw [fd_ar, e56]
  by_cases q : aR A 310 = 0
  · obtain ⟨ek, hr, h110, hin⟩ := e_roleOf hI hC hp
    refine ⟨σ, ?_, F31.rfl' σ⟩
    rw [if_pos q, if_pos q, inb_nI (show y < 6 by omega) (by decide), chk_so, hin, chk_so, ek, hr.1, chk_so, rd_ar (by omega), show ar σ 16 y = _ from (hC.1.2.2.2.2.2.2.2 y hy).1, fd_ar, hr.2.2.2.1]
    split <;> rfl
  · rw [if_neg q, if_neg q, e_nPP hI hC hy hp, bd_so]
    obtain ⟨n0, n1, n2, n3, n4⟩ := nst_30 (σ := σ) (y := y) (p := p) (aR A)
    obtain ⟨σ', e1, e2⟩ := tx_c (τ := nst σ (aR A) y p) hI (hC.frs (nst_f _).frs) (u := 0) (by decide) (nm := nmP (aR A) y p) q (fun k hk => by
      have h5 : k = 0 ∨ k = 1 ∨ k = 2 ∨ k = 3 ∨ k = 4 := by
        have : k < 5 := hk
        omega
      rcases h5 with rfl | rfl | rfl | rfl | rfl
      · exact n0
      · exact n1
      · exact n2
      · exact n3
      · exact n4)
    refine ⟨σ', ?_, (nst_f _).tr e2⟩
    rw [show f_X10_worthOf 56 (nst σ (aR A) y p) = _ from e1, bd2_so]
    split <;> rfl
theorem e_wishOf (hI : Inv A) (hC : CR A σ) (hy : y < cn (aR A) 3) (hp : p < cn (aR A) 1) : ∃ σ', f_X10_wishOf (nI y) (nI p) σ = some (wsh (aR A) y p, σ') ∧ F31 σ σ' := by
  have b3 := hI.1.1.2.2.2.1.2
  have e60 : ar σ 60 1 = aR A 414 := (hC.1.2.2.2.1 2 (by decide)).1
  unfold f_X10_wishOf wsh
  rw [fd_ar, e60]
  by_cases q : aR A 414 = 0
  · refine ⟨σ, ?_, F31.rfl' σ⟩
    rw [if_pos q, if_pos q, inb_nI (show y < 6 by omega) (by decide), chk_so, rd_ar (by omega), show ar σ 16 y = _ from (hC.1.2.2.2.2.2.2.2 y hy).1]
  · have hC2 := hC.frs (nst_f (σ := σ) (y := y) (p := p) (aR A)).frs
    rw [if_neg q, if_neg q, e_nPP hI hC hy hp, bd_so, e_weight _ hI.1.1 hC2.1.1 hC2.1.2.2.2.2.2.2.1, bd_so, e_name 11 (by decide) (by decide), bd_so]
    obtain ⟨n0, n1, n2, n3, n4⟩ := nst_30 (σ := σ) (y := y) (p := p) (aR A)
    have hf : F31 σ (fw (nst σ (aR A) y p) 30 11 (wt (aR A) (nI p))) := (nst_f _).tr F31.n
    have ex : ∀ j, j ≠ 11 → ar (fw (nst σ (aR A) y p) 30 11 (wt (aR A) (nI p))) 30 j = ar (nst σ (aR A) y p) 30 j := fun j hj => by rw [ar_fw_eq, upd_ne hj]
    obtain ⟨σ', e1, e2⟩ := tx_c (τ := fw (nst σ (aR A) y p) 30 11 (wt (aR A) (nI p))) hI (hC.frs hf.frs) (u := 2) (by decide) (nm := nmP (aR A) y p) q (fun k hk => by
      have h5 : k = 0 ∨ k = 1 ∨ k = 2 ∨ k = 3 ∨ k = 4 ∨ k = 5 := by
        have : k < 6 := hk
        omega
      rcases h5 with rfl | rfl | rfl | rfl | rfl | rfl
      · exact (ex 6 (by decide)).trans n0
      · exact (ex 0 (by decide)).trans n1
      · exact (ex 13 (by decide)).trans n2
      · exact (ex 24 (by decide)).trans n3
      · exact (ex 10 (by decide)).trans n4
      · show ar (fw (nst σ (aR A) y p) 30 11 (wt (aR A) (nI p))) 30 11 = wt (aR A) (nI p)
        rw [ar_fw_eq, upd_eq])
    refine ⟨σ', ?_, hf.tr e2⟩
    rw [show f_X10_worthOf 60 _ = _ from e1, bd2_so, e_held _ _ (by decide), bd_so]
theorem e_changeOf {a b : Nat} (s : Int32) (hI : Inv A) (hC : CR A σ) (ha : a < cn (aR A) 1) (hb : b < cn (aR A) 1) : ∃ σ', f_X10_changeOf (nI a) (nI b) s σ = some (chg (aR A) a b s, σ') ∧ F31 σ σ' := by
  obtain ⟨eka, hra, h110a, hina⟩ := e_roleOf hI hC ha
  obtain ⟨ekb, hrb, h110b, hinb⟩ := e_roleOf hI hC hb
  have e58 : ar σ 58 1 = aR A 362 := (hC.1.2.2.2.1 1 (by decide)).1
  unfold f_X10_changeOf chg
  have fa4 : fd σ (rc σ 10 a) 4 = aR A (13 + 5 * a) := hra.2.2.2.2.2.1
  have fb4 : fd σ (rc σ 10 b) 4 = aR A (13 + 5 * b) := hrb.2.2.2.2.2.1
  rw [hina, chk_so, eka, hra.1, chk_so, hinb, chk_so, ekb, hrb.1, chk_so, show fd σ 58 1 = aR A 362 from e58, fa4, fb4]
  by_cases q : aR A 362 = 0
  · refine ⟨σ, ?_, F31.rfl' σ⟩
    rw [if_pos q, if_pos q]
    unfold abi
    by_cases q2 : aR A (13 + 5 * a) - aR A (13 + 5 * b) < 0
    · rw [if_neg (Int32.not_le.mpr q2), if_pos q2, Int32.zero_sub]
    · rw [if_pos (Int32.not_lt.mp q2), if_neg q2]
  · rw [if_neg q, if_neg q, e_name 22 (by decide) (by decide), bd_so]
    simp only [isRole_fw30 h110b, isRole_fw30 h110a, hrb.1, hra.1, chk_so]
    rw [show fd (fw σ 30 22 (aR A (13 + 5 * a))) (rc σ 10 b) 4 = aR A (13 + 5 * b) from by rw [fd_ar, ar_fw_ne (by omega)]; exact hrb.2.2.2.2.2.1, e_name 21 (by decide) (by decide), bd_so]
    simp only [isRole_fw30 h110b, isRole_fw30 h110a, hrb.1, hra.1, chk_so]
    rw [show fd (fw (fw σ 30 22 (aR A (13 + 5 * a))) 30 21 (aR A (13 + 5 * b))) (rc σ 10 a) 1 = aR A (10 + 5 * a) from by rw [fd_ar, ar_fw_ne (by omega), ar_fw_ne (by omega)]; exact hra.2.2.1, e_name 10 (by decide) (by decide), bd_so]
    simp only [isRole_fw30 h110b, isRole_fw30 h110a, hrb.1, hra.1, chk_so]
    rw [show fd (fw (fw (fw σ 30 22 (aR A (13 + 5 * a))) 30 21 (aR A (13 + 5 * b))) 30 10 (aR A (10 + 5 * a))) (rc σ 10 b) 1 = aR A (10 + 5 * b) from by rw [fd_ar, ar_fw_ne (by omega), ar_fw_ne (by omega), ar_fw_ne (by omega)]; exact hrb.2.2.1, e_name 16 (by decide) (by decide), bd_so, e_name 18 (by decide) (by decide), bd_so]
    obtain ⟨τ, hτ⟩ : ∃ τ, τ = fw (fw (fw (fw (fw σ 30 22 (aR A (13 + 5 * a))) 30 21 (aR A (13 + 5 * b))) 30 10 (aR A (10 + 5 * a))) 30 16 (aR A (10 + 5 * b))) 30 18 s := ⟨_, rfl⟩
    have hf : F31 σ τ := by rw [hτ]; exact (((F31.n.tr F31.n).tr F31.n).tr F31.n).tr F31.n
    rw [← hτ]
    obtain ⟨σ', e1, e2⟩ := tx_c (τ := τ) hI (hC.frs hf.frs) (u := 1) (by decide) (nm := nmC (aR A) a b s) q (fun k hk => by
      have h5 : k = 0 ∨ k = 1 ∨ k = 2 ∨ k = 3 ∨ k = 4 := by
        have : k < 5 := hk
        omega
      rw [hτ]
      rcases h5 with rfl | rfl | rfl | rfl | rfl
      · show ar _ 30 22 = aR A (13 + 5 * a)
        rw [ar_fw_eq, upd_ne (by omega), ar_fw_eq, upd_ne (by omega), ar_fw_eq, upd_ne (by omega), ar_fw_eq, upd_ne (by omega), ar_fw_eq, upd_eq]
      · show ar _ 30 21 = aR A (13 + 5 * b)
        rw [ar_fw_eq, upd_ne (by omega), ar_fw_eq, upd_ne (by omega), ar_fw_eq, upd_ne (by omega), ar_fw_eq, upd_eq]
      · show ar _ 30 10 = aR A (10 + 5 * a)
        rw [ar_fw_eq, upd_ne (by omega), ar_fw_eq, upd_ne (by omega), ar_fw_eq, upd_eq]
      · show ar _ 30 16 = aR A (10 + 5 * b)
        rw [ar_fw_eq, upd_ne (by omega), ar_fw_eq, upd_eq]
      · show ar _ 30 18 = s
        rw [ar_fw_eq, upd_eq])
    refine ⟨σ', ?_, hf.tr e2⟩
    rw [show f_X10_worthOf 58 _ = _ from e1, bd2_so, e_held _ _ (by decide), bd_so]
/-! the model -/
def mst5 (σ : St) (v0 v1 v2 v3 v4 : Int32) : St := fw (fw (fw (fw (fw σ 90 0 v0) 90 1 v1) 90 2 v2) 90 3 v3) 90 4 v4
theorem mst5_f {v0 v1 v2 v3 v4 : Int32} : F93 σ (mst5 σ v0 v1 v2 v3 v4) := (((F93.n.tr F93.n).tr F93.n).tr F93.n).tr F93.n
theorem mst5_v {v0 v1 v2 v3 v4 : Int32} : ar (mst5 σ v0 v1 v2 v3 v4) 90 0 = v0 ∧ ar (mst5 σ v0 v1 v2 v3 v4) 90 1 = v1 ∧ ar (mst5 σ v0 v1 v2 v3 v4) 90 2 = v2 ∧ ar (mst5 σ v0 v1 v2 v3 v4) 90 3 = v3 ∧ ar (mst5 σ v0 v1 v2 v3 v4) 90 4 = v4 := by
  unfold mst5
  refine ⟨?_, ?_, ?_, ?_, ?_⟩
  · rw [ar_fw_eq, upd_ne (by omega), ar_fw_eq, upd_ne (by omega), ar_fw_eq, upd_ne (by omega), ar_fw_eq, upd_ne (by omega), ar_fw_eq, upd_eq]
  · rw [ar_fw_eq, upd_ne (by omega), ar_fw_eq, upd_ne (by omega), ar_fw_eq, upd_ne (by omega), ar_fw_eq, upd_eq]
  · rw [ar_fw_eq, upd_ne (by omega), ar_fw_eq, upd_ne (by omega), ar_fw_eq, upd_eq]
  · rw [ar_fw_eq, upd_ne (by omega), ar_fw_eq, upd_eq]
  · rw [ar_fw_eq, upd_eq]
theorem m_names {r : Nat → Int32} (hm : ar σ 84 = r) (hy : y < 6) (hp : p < 10) : f_X12_names (nI y) (nI p) σ = some (mst5 σ (r (220 + 3 * y)) (r (221 + 3 * y)) (r (11 + 5 * p)) (r (12 + 5 * p)) (r (10 + 5 * p))) := by
  have h84 : ∀ {τ : St} {j : Nat} {v : Int32}, ar τ 84 = r → ar (fw τ 90 j v) 84 = r := fun h => by rw [ar_fw_ne (by omega)]; exact h
  unfold f_X12_names
  rw [m_po0 hy hm, bd_so, chk_t (by decide), nm_so, show (0 : Int32) = nI 0 from rfl, wr_nI _ (by decide), show nI 0 = (0 : Int32) from rfl, m_po1 hy (h84 hm), bd_so, chk_t (by decide), nm_so, show wr (fw σ 90 0 (r (220 + 3 * y))) 90 1 (r (221 + 3 * y)) = fw (fw σ 90 0 (r (220 + 3 * y))) 90 1 (r (221 + 3 * y)) from rfl, m_it1 hp (h84 (h84 hm)), bd_so, chk_t (by decide), nm_so, show ∀ τ v, wr τ 90 2 v = fw τ 90 2 v from fun _ _ => rfl, m_it2 hp (h84 (h84 (h84 hm))), bd_so, chk_t (by decide), nm_so, show ∀ τ v, wr τ 90 3 v = fw τ 90 3 v from fun _ _ => rfl, m_it0 hp (h84 (h84 (h84 (h84 hm)))), bd_so, chk_t (by decide), nm_so, show ∀ τ v, wr τ 90 4 v = fw τ 90 4 v from fun _ _ => rfl]
  rfl
theorem m_isAble (hI : Inv A) (hm : MR A σ) (hy : y < cn (aR A) 3) (hp : p < cn (aR A) 1) : ∃ σ', f_X12_isAble (nI y) (nI p) σ = some (abl (aR A) y p, σ') ∧ F93 σ σ' := by
  have b1 := hI.1.1.2.1.2
  have b3 := hI.1.1.2.2.2.1.2
  have e310 : rd σ 84 310 = aR A 310 := by rw [← hm.1]; rfl
  unfold f_X12_isAble abl
  rw [chk_t (by decide), e310]
  by_cases q : aR A 310 = 0
  · refine ⟨σ, ?_, F93.rfl' σ⟩
    rw [if_pos q, if_pos q, m_po0 (by omega) hm.1, bd_so, m_it1 (by omega) hm.1, bd_so]
    split <;> rfl
  · rw [if_neg q, if_neg q, m_names hm.1 (by omega) (by omega), bd_so]
    obtain ⟨n0, n1, n2, n3, n4⟩ := mst5_v (σ := σ) (v0 := aR A (220 + 3 * y)) (v1 := aR A (221 + 3 * y)) (v2 := aR A (11 + 5 * p)) (v3 := aR A (12 + 5 * p)) (v4 := aR A (10 + 5 * p))
    have hf := mst5_f (σ := σ) (v0 := aR A (220 + 3 * y)) (v1 := aR A (221 + 3 * y)) (v2 := aR A (11 + 5 * p)) (v3 := aR A (12 + 5 * p)) (v4 := aR A (10 + 5 * p))
    obtain ⟨σ', e1, e2⟩ := tx_m hI (by rw [hf.1 84 (by omega) (by omega)]; exact hm.1) (u := 0) (by decide) (nm := nmP (aR A) y p) q (fun k hk => by
      have h5 : k = 0 ∨ k = 1 ∨ k = 2 ∨ k = 3 ∨ k = 4 := by
        have : k < 5 := hk
        omega
      rcases h5 with rfl | rfl | rfl | rfl | rfl
      · exact n0
      · exact n1
      · exact n2
      · exact n3
      · exact n4)
    refine ⟨σ', ?_, hf.tr e2⟩
    rw [show f_X12_comesTo 0 _ = _ from e1, bd2_so]
    split <;> rfl
theorem m_wishOf (hI : Inv A) (hm : MR A σ) (hy : y < cn (aR A) 3) (hp : p < cn (aR A) 1) : ∃ σ', f_X12_wishOf (nI y) (nI p) σ = some (wsh (aR A) y p, σ') ∧ F93 σ σ' := by
  have b1 := hI.1.1.2.1.2
  have b3 := hI.1.1.2.2.2.1.2
  have e414 : rd σ 84 414 = aR A 414 := by rw [← hm.1]; rfl
  unfold f_X12_wishOf wsh
  rw [chk_t (by decide), e414]
  by_cases q : aR A 414 = 0
  · refine ⟨σ, ?_, F93.rfl' σ⟩
    rw [if_pos q, if_pos q, m_po0 (by omega) hm.1, bd_so]
  · obtain ⟨n0, n1, n2, n3, n4⟩ := mst5_v (σ := σ) (v0 := aR A (220 + 3 * y)) (v1 := aR A (221 + 3 * y)) (v2 := aR A (11 + 5 * p)) (v3 := aR A (12 + 5 * p)) (v4 := aR A (10 + 5 * p))
    have hf := mst5_f (σ := σ) (v0 := aR A (220 + 3 * y)) (v1 := aR A (221 + 3 * y)) (v2 := aR A (11 + 5 * p)) (v3 := aR A (12 + 5 * p)) (v4 := aR A (10 + 5 * p))
    rw [if_neg q, if_neg q, m_names hm.1 (by omega) (by omega), bd_so, m_weight _ hI.1.1 (by rw [hf.1 84 (by omega) (by omega)]; exact hm.1), bd_so, chk_t (by decide), nm_so, show ∀ τ v, wr τ 90 5 v = fw τ 90 5 v from fun _ _ => rfl]
    obtain ⟨τ, hτ⟩ : ∃ τ, τ = mst5 σ (aR A (220 + 3 * y)) (aR A (221 + 3 * y)) (aR A (11 + 5 * p)) (aR A (12 + 5 * p)) (aR A (10 + 5 * p)) := ⟨_, rfl⟩
    rw [← hτ] at n0 n1 n2 n3 n4 hf ⊢
    have hf2 : F93 σ (fw τ 90 5 (wt (aR A) (nI p))) := hf.tr F93.n
    have ex : ∀ j, j ≠ 5 → ar (fw τ 90 5 (wt (aR A) (nI p))) 90 j = ar τ 90 j := fun j hj => by rw [ar_fw_eq, upd_ne hj]
    obtain ⟨σ', e1, e2⟩ := tx_m hI (τ := fw τ 90 5 (wt (aR A) (nI p))) (by rw [hf2.1 84 (by omega) (by omega)]; exact hm.1) (u := 2) (by decide) (nm := nmP (aR A) y p) q (fun k hk => by
      have h5 : k = 0 ∨ k = 1 ∨ k = 2 ∨ k = 3 ∨ k = 4 ∨ k = 5 := by
        have : k < 6 := hk
        omega
      rcases h5 with rfl | rfl | rfl | rfl | rfl | rfl
      · exact (ex 0 (by decide)).trans n0
      · exact (ex 1 (by decide)).trans n1
      · exact (ex 2 (by decide)).trans n2
      · exact (ex 3 (by decide)).trans n3
      · exact (ex 4 (by decide)).trans n4
      · rw [ar_fw_eq, upd_eq]; rfl)
    refine ⟨σ', ?_, hf2.tr e2⟩
    rw [show f_X12_comesTo 2 _ = _ from e1, bd2_so, m_held, bd_so]
theorem m_changeOf {r : Nat → Int32} {a b : Nat} (s : Int32) (hI : Inv A) (hr : r = aR A) (hm : ar σ 84 = r) (ha : a < cn r 1) (hb : b < cn r 1) : ∃ σ', f_X12_changeOf (nI a) (nI b) s σ = some (chg r a b s, σ') ∧ F93 σ σ' := by
  subst hr
  have b1 := hI.1.1.2.1.2
  have e362 : rd σ 84 362 = aR A 362 := by rw [← hm]; rfl
  have h84 : ∀ {τ : St} {j : Nat} {v : Int32}, ar τ 84 = aR A → ar (fw τ 90 j v) 84 = aR A := fun h => by rw [ar_fw_ne (by omega)]; exact h
  unfold f_X12_changeOf chg
  rw [m_it3 (by omega) hm, bd_so, m_it3 (by omega) hm, bd_so, chk_t (by decide), e362]
  by_cases q : aR A 362 = 0
  · refine ⟨σ, ?_, F93.rfl' σ⟩
    rw [if_pos q, if_pos q]
    unfold abi
    split <;> rfl
  · obtain ⟨n0, n1, n2, n3, n4⟩ := mst5_v (σ := σ) (v0 := aR A (13 + 5 * a)) (v1 := aR A (13 + 5 * b)) (v2 := aR A (10 + 5 * a)) (v3 := aR A (10 + 5 * b)) (v4 := s)
    have hf := mst5_f (σ := σ) (v0 := aR A (13 + 5 * a)) (v1 := aR A (13 + 5 * b)) (v2 := aR A (10 + 5 * a)) (v3 := aR A (10 + 5 * b)) (v4 := s)
    rw [if_neg q, if_neg q, bd_so, chk_t (by decide), nm_so, show ∀ τ v, wr τ 90 0 v = fw τ 90 0 v from fun _ _ => rfl, m_it3 (by omega) (h84 hm), bd_so, chk_t (by decide), nm_so, show ∀ τ v, wr τ 90 1 v = fw τ 90 1 v from fun _ _ => rfl, m_it0 (by omega) (h84 (h84 hm)), bd_so, chk_t (by decide), nm_so, show ∀ τ v, wr τ 90 2 v = fw τ 90 2 v from fun _ _ => rfl, m_it0 (by omega) (h84 (h84 (h84 hm))), bd_so, chk_t (by decide), nm_so, show ∀ τ v, wr τ 90 3 v = fw τ 90 3 v from fun _ _ => rfl, chk_t (by decide), nm_so, show ∀ τ v, wr τ 90 4 v = fw τ 90 4 v from fun _ _ => rfl]
    show ∃ σ', (bd2 (f_X12_comesTo 1 (mst5 σ (aR A (13 + 5 * a)) (aR A (13 + 5 * b)) (aR A (10 + 5 * a)) (aR A (10 + 5 * b)) s)) fun r31 σ33 => bd (f_X12_held r31 99) fun r34 => some (r34, σ33)) = _ ∧ _
    obtain ⟨σ', e1, e2⟩ := tx_m hI (τ := mst5 σ (aR A (13 + 5 * a)) (aR A (13 + 5 * b)) (aR A (10 + 5 * a)) (aR A (10 + 5 * b)) s) (by rw [hf.1 84 (by omega) (by omega)]; exact hm) (u := 1) (by decide) (nm := nmC (aR A) a b s) q (fun k hk => by
      have h5 : k = 0 ∨ k = 1 ∨ k = 2 ∨ k = 3 ∨ k = 4 := by
        have : k < 5 := hk
        omega
      rcases h5 with rfl | rfl | rfl | rfl | rfl
      · exact n0
      · exact n1
      · exact n2
      · exact n3
      · exact n4)
    refine ⟨σ', ?_, hf.tr e2⟩
    rw [show f_X12_comesTo 1 _ = _ from e1, bd2_so, m_held, bd_so]
/-! the acts -/
theorem op_can (x z : Int32) (hI : Inv A) (hC : CR A σ) (hM : MR A σ) : Opn A σ (f_X11_can x z) (f_X12_can x z) := by
  have hi := hI.1.1
  have b1 := hi.2.1.2
  have b3 := hi.2.2.2.1.2
  have hc := hC.1.1
  rcases wi_cases x (n := cn (aR A) 3) (by omega) with h0 | ⟨h1, y, hy, rfl⟩
  · refine Opn.err 1 (by decide) hI hC hM ?_ (fun σ hm => ?_)
    · unfold f_X11_can f_X11_can_22; rw [e_hasPlayer _ hi hc, bd_so, h0, if_pos rfl]; exact bd2_id _
    · unfold f_X12_can f_X12_can_16; rw [m_isPlayer _ hi hm.1, bd_so, h0, if_pos rfl]; exact bd2_id _
  rcases wi_cases z (n := cn (aR A) 1) (by omega) with g0 | ⟨g1, p, hp, rfl⟩
  · refine Opn.err 1 (by decide) hI hC hM ?_ (fun σ hm => ?_)
    · unfold f_X11_can f_X11_can_22; rw [e_hasPlayer _ hi hc, bd_so, h1, if_neg (by decide), e_hasPart _ hi hc, bd_so, g0, if_pos rfl]; exact bd2_id _
    · unfold f_X12_can f_X12_can_16; rw [m_isPlayer _ hi hm.1, bd_so, h1, if_neg (by decide), m_isPart _ hi hm.1, bd_so, g0, if_pos rfl]; exact bd2_id _
  obtain ⟨σ1, e1, f1⟩ := e_isAble hI hC hy hp
  have h01 : abl (aR A) y p = 0 ∨ abl (aR A) y p = 1 := by
    unfold abl
    split
    · split
      · exact Or.inl rfl
      · exact Or.inr rfl
    · split
      · exact Or.inl rfl
      · exact Or.inr rfl
  refine Opn.s (abl (aR A) y p) σ1 hI hC hM ?_ f1.frs (fun τ hm => ?_)
  · unfold f_X11_can
    rw [e_hasPlayer _ hi hc, bd_so, h1, if_neg (by decide), e_hasPart _ hi hc, bd_so, g1, if_neg (by decide), e1, bd2_so]
    rcases h01 with h | h <;> rw [h] <;> rfl
  · obtain ⟨σ2, e2, f2⟩ := m_isAble hI hm hy hp
    refine ⟨σ2, ?_, hm.frq f2.frq, f2.frq.1⟩
    unfold f_X12_can
    rw [m_isPlayer _ hi hm.1, bd_so, h1, if_neg (by decide), m_isPart _ hi hm.1, bd_so, g1, if_neg (by decide), e2, bd2_so]
    rcases h01 with h | h <;> rw [h] <;> rfl
theorem op_wish (x z : Int32) (hI : Inv A) (hC : CR A σ) (hM : MR A σ) : Opn A σ (f_X11_wish x z) (f_X12_wish x z) := by
  have hi := hI.1.1
  have b1 := hi.2.1.2
  have b3 := hi.2.2.2.1.2
  have hc := hC.1.1
  rcases wi_cases x (n := cn (aR A) 3) (by omega) with h0 | ⟨h1, y, hy, rfl⟩
  · refine Opn.err 1 (by decide) hI hC hM ?_ (fun σ hm => ?_)
    · unfold f_X11_wish f_X11_wish_22; rw [e_hasPlayer _ hi hc, bd_so, h0, if_pos rfl]; exact bd2_id _
    · unfold f_X12_wish f_X12_wish_25; rw [m_isPlayer _ hi hm.1, bd_so, h0, if_pos rfl]; exact bd2_id _
  rcases wi_cases z (n := cn (aR A) 1) (by omega) with g0 | ⟨g1, p, hp, rfl⟩
  · refine Opn.err 1 (by decide) hI hC hM ?_ (fun σ hm => ?_)
    · unfold f_X11_wish f_X11_wish_22; rw [e_hasPlayer _ hi hc, bd_so, h1, if_neg (by decide), e_hasPart _ hi hc, bd_so, g0, if_pos rfl]; exact bd2_id _
    · unfold f_X12_wish f_X12_wish_25; rw [m_isPlayer _ hi hm.1, bd_so, h1, if_neg (by decide), m_isPart _ hi hm.1, bd_so, g0, if_pos rfl]; exact bd2_id _
  obtain ⟨σ1, e1, f1⟩ := e_wishOf hI hC hy hp
  refine Opn.s (wsh (aR A) y p) σ1 hI hC hM ?_ f1.frs (fun τ hm => ?_)
  · unfold f_X11_wish
    rw [e_hasPlayer _ hi hc, bd_so, h1, if_neg (by decide), e_hasPart _ hi hc, bd_so, g1, if_neg (by decide), e1, bd2_so]
  · obtain ⟨σ2, e2, f2⟩ := m_wishOf hI hm hy hp
    refine ⟨σ2, ?_, hm.frq f2.frq, f2.frq.1⟩
    unfold f_X12_wish
    rw [m_isPlayer _ hi hm.1, bd_so, h1, if_neg (by decide), m_isPart _ hi hm.1, bd_so, g1, if_neg (by decide), e2, bd2_so]
theorem op_change (x z s : Int32) (hI : Inv A) (hC : CR A σ) (hM : MR A σ) : Opn A σ (f_X11_change x z s) (f_X12_change x z s) := by
  have hi := hI.1.1
  have b1 := hi.2.1.2
  have hc := hC.1.1
  rcases wi_cases x (n := cn (aR A) 1) (by omega) with h0 | ⟨h1, a, ha, rfl⟩
  · refine Opn.err 1 (by decide) hI hC hM ?_ (fun σ hm => ?_)
    · unfold f_X11_change f_X11_change_17 f_X11_isPair; rw [e_hasPart _ hi hc, bd_so, h0, if_pos rfl, bd_so, if_pos rfl]; exact bd2_id _
    · unfold f_X12_change f_X12_change_40; rw [m_isPart _ hi hm.1, bd_so, h0, if_pos rfl]; exact bd2_id _
  rcases wi_cases z (n := cn (aR A) 1) (by omega) with g0 | ⟨g1, b, hb, rfl⟩
  · refine Opn.err 1 (by decide) hI hC hM ?_ (fun σ hm => ?_)
    · unfold f_X11_change f_X11_change_17 f_X11_isPair; rw [e_hasPart _ hi hc, bd_so, h1, if_neg (by decide), e_hasPart _ hi hc, bd_so, g0, if_pos rfl, bd_so, if_pos rfl]; exact bd2_id _
    · unfold f_X12_change f_X12_change_40; rw [m_isPart _ hi hm.1, bd_so, h1, if_neg (by decide), m_isPart _ hi hm.1, bd_so, g0, if_pos rfl]; exact bd2_id _
  by_cases qab : nI a = nI b
  · refine Opn.err 1 (by decide) hI hC hM ?_ (fun σ hm => ?_)
    · unfold f_X11_change f_X11_change_17 f_X11_isPair; rw [e_hasPart _ hi hc, bd_so, h1, if_neg (by decide), e_hasPart _ hi hc, bd_so, g1, if_neg (by decide), if_pos qab, bd_so, if_pos rfl]; exact bd2_id _
    · unfold f_X12_change f_X12_change_40; rw [m_isPart _ hi hm.1, bd_so, h1, if_neg (by decide), m_isPart _ hi hm.1, bd_so, g1, if_neg (by decide), if_pos qab]; exact bd2_id _
  rcases wi_cases s (n := 2) (by omega) with k0 | ⟨k1, _⟩
  · refine Opn.err 1 (by decide) hI hC hM ?_ (fun σ hm => ?_)
    · unfold f_X11_change f_X11_change_17 f_X11_isPair; rw [e_hasPart _ hi hc, bd_so, h1, if_neg (by decide), e_hasPart _ hi hc, bd_so, g1, if_neg (by decide), if_neg qab, bd_so, if_neg (by decide), w_2, bd_so, k0, if_pos rfl]; exact bd2_id _
    · unfold f_X12_change f_X12_change_40; rw [m_isPart _ hi hm.1, bd_so, h1, if_neg (by decide), m_isPart _ hi hm.1, bd_so, g1, if_neg (by decide), if_neg qab, m_in2, bd_so, k0, if_pos rfl]; exact bd2_id _
  obtain ⟨σ1, e1, f1⟩ := e_changeOf s hI hC ha hb
  refine Opn.s (chg (aR A) a b s) σ1 hI hC hM ?_ f1.frs (fun τ hm => ?_)
  · unfold f_X11_change f_X11_isPair
    rw [e_hasPart _ hi hc, bd_so, h1, if_neg (by decide), e_hasPart _ hi hc, bd_so, g1, if_neg (by decide), if_neg qab, bd_so, if_neg (by decide), w_2, bd_so, k1, if_neg (by decide), e1, bd2_so]
  · obtain ⟨σ2, e2, f2⟩ := m_changeOf s hI rfl hm.1 ha hb
    refine ⟨σ2, ?_, hm.frq f2.frq, f2.frq.1⟩
    unfold f_X12_change
    rw [m_isPart _ hi hm.1, bd_so, h1, if_neg (by decide), m_isPart _ hi hm.1, bd_so, g1, if_neg (by decide), if_neg qab, m_in2, bd_so, k1, if_neg (by decide), e2, bd2_so]
end TX
