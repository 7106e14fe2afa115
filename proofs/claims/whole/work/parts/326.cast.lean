/-! fewest, group, helps, without -/
def Sb (b : Nat) : Nat → Bool := fun q => decide (q ≠ b)
theorem allP {n : Nat} (hn : n ≤ 10) : ((1 : Int32) <<< (nI n &&& 31)) - 1 = nI (2 ^ n - 1) := by
  have h : ∀ n, n < 11 → ((1 : Int32) <<< (nI n &&& 31)) - 1 = nI (2 ^ n - 1) := by decide +kernel
  exact h n (by omega)
theorem set_b {m p : Nat} (hp : p < 32) : (((nI m) >>> (nI p &&& 31)) &&& 1) = 1 ↔ m.testBit p = true := by
  rw [bit_1 hp, bt_nI hp]
section FW
variable {A : AS} {σ : St}
def Fst (A : AS) (b M : Nat) : Option (Nat → Nat) := srch (Sb b) (brB (aR A)) M (cn (aR A) 1) 0 0 (fun _ => 0)
theorem FB_FG {σ σ3 : St} {r : Nat → Int32} (h1 : fd σ3 1 1 = nI (cn r 1)) (h2 : ∀ p, p < cn r 1 → Brd r p (ar σ3 32 p)) : CSt r σ3 := ⟨h1, h2⟩
theorem e_few {b M : Nat} {G : Nat → Nat} {but : Int32} (hI : Inv A) (hC : CR A σ) (hbut : ∀ p, p < cn (aR A) 1 → (nI p = but ↔ Sb b p ≠ true)) (hM : M ≤ cn (aR A) 1) (hs : Fst A b M = some G) (hn : ∀ j, j < M → Fst A b j = none) : ∃ τ, f_X8_fewestGroups but σ = some (nI M, τ) ∧ FrS σ τ ∧ GR (Sb b) G (cn (aR A) 1) (ar τ 33) := by
  have b1 := hI.1.1.2.1.2
  obtain ⟨σ3, y1, y2, y3⟩ := e_barred hI hC
  have hC3 := hC.frs y2.frs
  have hc3 : CSt (aR A) σ3 := ⟨hC3.1.1.2.1.trans hI.1.1.2.1.1, y3⟩
  have hone : ∀ (v : St) (m : Nat), FG σ3 v → m ≤ cn (aR A) 1 → Out (Sb b) (cn (aR A) 1) 0 (fun _ => 0) (stF v 34 0 10 (fun _ => 0)) (Fst A b m) (f_X8_settle 12 0 0 (nI m) but (stF v 34 0 10 (fun _ => 0))) := by
    intro v m hv hm
    have f0 : FG v (stF v 34 0 10 (fun _ => 0)) := ⟨fun c _ z => ar_stF_ne z, rfl, rfl⟩
    exact e_settle hI.1 (by omega) hbut (cn (aR A) 1) 0 0 (fun _ => 0) _ 12 (Nat.zero_add _) (Nat.le_refl _) (by omega) (hc3.f (hv.tr f0)) (MB.zero (fun g hg => by rw [ar_stF_eq, fil_in (by omega) (by omega)])) (fun q hq => absurd hq (Nat.not_lt_zero q))
  have hbd : ∀ (v : St) (m : Nat), FG σ3 v → m ≤ cn (aR A) 1 → b_X8_fewestGroups_9 but (nI m) v = (bd2 (f_X8_settle 12 0 0 (nI m) but (stF v 34 0 10 (fun _ => 0))) fun r9 σ11 => if r9 = 0 then some (.inl (nI (m + 1), σ11)) else some (.inr (nI m, σ11))) := by
    intro v m hv hm
    unfold b_X8_fewestGroups_9
    rw [(hc3.f hv).1, if_neg (nI_nlt hm (by omega)), e_fill (by decide) (by decide), bd_so, show alen 34 = 10 from rfl, nI_1]
  unfold f_X8_fewestGroups
  rw [y1, bd_so]
  unfold f_X8_fewestGroups_9
  obtain ⟨v, h1, h2⟩ := it_ex (f := fun z : Int32 × St => b_X8_fewestGroups_9 but z.1 z.2) (V := St) (fun k v => (nI k, v)) (fun _ v => FG σ3 v) 0 M (Nat.zero_le _) (v := σ3) (FG.rfl' σ3) (fun k v _ hk hv => by
    have ho := hone v k hv (by omega)
    rw [hn k hk] at ho
    obtain ⟨τ, x1, x2, _, _⟩ := ho
    refine ⟨τ, ?_, hv.tr (FG.tr (b := stF v 34 0 10 (fun _ => 0)) ⟨fun c _ z => ar_stF_ne z, rfl, rfl⟩ x2)⟩
    show b_X8_fewestGroups_9 but (nI k) v = _
    rw [hbd v k hv (by omega), x1, bd2_so, if_pos rfl])
  have ho := hone v M h2 hM
  rw [hs] at ho
  obtain ⟨τ, x1, x2, x3⟩ := ho
  refine ⟨τ, h1.trans (it_r ?_), y2.frs.tr (h2.tr (FG.tr (b := stF v 34 0 10 (fun _ => 0)) ⟨fun c _ z => ar_stF_ne z, rfl, rfl⟩ x2)).frs, x3⟩
  show b_X8_fewestGroups_9 but (nI M) v = _
  rw [hbd v M h2 hM, x1, bd2_so, if_neg (by decide)]
theorem m_isIn {b m : Nat} {set : Int32} (hI : IR (aR A)) (hset : ∀ p, p < cn (aR A) 1 → (((set >>> (nI p &&& 31)) &&& 1) = 1 ↔ Sb b p = true)) (hm : m ≤ cn (aR A) 1) (hc : MSt (aR A) σ) : match Fst A b m with
    | some G => ∃ τ, f_X12_isIn set (nI m) σ = some (1, τ) ∧ FI σ τ ∧ GM (Sb b) G (cn (aR A) 1) (ar τ 95)
    | none => ∃ τ, f_X12_isIn set (nI m) σ = some (0, τ) ∧ FI σ τ := by
  have b1 := hI.1.2.1.2
  obtain ⟨σ0, h0⟩ : ∃ s, s = fw (fw (stF σ 97 0 10 (fun _ => 0)) 95 0 (-1)) 96 0 0 := ⟨_, rfl⟩
  have e0 : f_X12_isIn set (nI m) σ = it (bI set (nI m)) (nI 0, σ0) := by
    unfold f_X12_isIn f_X12_isIn_5
    refine (it_fil 97 0 10 (fun _ => 0) (fun k hk => ?_)).trans (it_k ?_)
    · show b_X12_isIn_5 set (nI m) 0 (nI k) _ = _
      unfold b_X12_isIn_5
      rw [if_pos (show nI k < 10 from nI_lt hk (by decide)), inb_nI hk (by decide), chk_so, nm_so, wr_nI _ (by omega), nI_1, Nat.zero_add]
    · show b_X12_isIn_5 set (nI m) 0 (nI 10) _ = _
      unfold b_X12_isIn_5 f_X12_isIn_26
      rw [if_neg (by decide), chk_t (by decide), nm_so, nm_so, h0]
      rfl
  have f0 : FI σ σ0 := by rw [h0]; exact ⟨fun c z1 z2 z3 => by rw [ar_fw_ne z2, ar_fw_ne z1, ar_stF_ne z3], rfl, rfl⟩
  have hr := m_in (S := Sb b) (M := m) hI (by omega) hset (cn (aR A) 1) 0 0 (fun _ => 0) σ0 (Nat.zero_add _) (Nat.le_refl _) (hc.f f0) (MB.zero (fun g hg => by rw [h0, ar_fw_ne (by omega), ar_fw_ne (by omega), ar_stF_eq, fil_in (by omega) (by omega)])) (fun q hq => absurd hq (Nat.not_lt_zero q)) (by rw [h0, ar_fw_ne (by omega), ar_fw_eq, upd_eq]) (by rw [h0, ar_fw_eq, upd_eq]; rfl)
  rw [e0]
  unfold Oun at hr
  unfold Fst
  cases eo : srch (Sb b) (brB (aR A)) m (cn (aR A) 1) 0 0 (fun _ => 0) with
  | some G =>
    rw [eo] at hr
    obtain ⟨τ, x1, x2, x3⟩ := hr
    refine ⟨τ, x1.trans (it_r ?_), f0.tr x2, x3⟩
    show b_X12_isIn_40 set (nI m) (nI (cn (aR A) 1)) τ = _
    unfold b_X12_isIn_40 f_X12_isIn_305
    rw [if_neg (nI_pos (by omega)), if_neg (nI_pos (by omega)), chk_t (by decide), ((hc.f f0).f x2).1, if_neg (nI_nlt (Nat.le_refl _) (by omega))]
    rfl
  | none =>
    rw [eo] at hr
    obtain ⟨τ, x1, x2, _⟩ := hr
    refine ⟨τ, x1.trans (it_r ?_), f0.tr x2⟩
    show b_X12_isIn_40 set (nI m) (-1) τ = _
    unfold b_X12_isIn_40 f_X12_isIn_305
    rw [if_pos (by decide)]
    rfl
theorem m_few {b M : Nat} {G : Nat → Nat} {set : Int32} (hI : Inv A) (hm : MR A σ) (hset : ∀ p, p < cn (aR A) 1 → (((set >>> (nI p &&& 31)) &&& 1) = 1 ↔ Sb b p = true)) (hM : M ≤ cn (aR A) 1) (hs : Fst A b M = some G) (hn : ∀ j, j < M → Fst A b j = none) : ∃ τ, f_X12_fewestOf set σ = some (nI M, τ) ∧ MR A τ ∧ FrM σ τ ∧ GM (Sb b) G (cn (aR A) 1) (ar τ 95) := by
  obtain ⟨σ3, y1, y2, y3, y4⟩ := m_lay hI hm
  have hc3 : MSt (aR A) σ3 := ⟨by rw [← hI.1.1.2.1.1, ← y2.1]; rfl, y4.2⟩
  unfold f_X12_fewestOf
  rw [y1, bd_so]
  unfold f_X12_fewestOf_6
  obtain ⟨v, h1, h2⟩ := it_ex (f := fun z : Int32 × St => b_X12_fewestOf_6 set z.1 z.2) (V := St) (fun k v => (nI k, v)) (fun _ v => FI σ3 v) 0 M (Nat.zero_le _) (v := σ3) (FI.rfl' σ3) (fun k v _ hk hv => by
    have ho := m_isIn (m := k) hI.1 hset (by omega) (hc3.f hv)
    rw [hn k hk] at ho
    obtain ⟨τ, x1, x2⟩ := ho
    refine ⟨τ, ?_, hv.tr x2⟩
    show b_X12_fewestOf_6 set (nI k) v = _
    unfold b_X12_fewestOf_6
    rw [x1, bd2_so, if_pos rfl, nI_1])
  have ho := m_isIn (m := M) hI.1 hset hM (hc3.f h2)
  rw [hs] at ho
  obtain ⟨τ, x1, x2, x3⟩ := ho
  have hf := (h2.tr x2).frq
  refine ⟨τ, h1.trans (it_r ?_), y2.frq hf, y3.tr hf.1, x3⟩
  show b_X12_fewestOf_6 set (nI M) v = _
  unfold b_X12_fewestOf_6
  rw [x1, bd2_so, if_neg (by decide)]
theorem few_ex (A : AS) (b : Nat) : ∃ M G, M ≤ cn (aR A) 1 ∧ Fst A b M = some G ∧ ∀ j, j < M → Fst A b j = none := by
  have hmax : (Fst A b (cn (aR A) 1)).isSome = true := srch_max (by omega) (fun q hq => absurd hq (Nat.not_lt_zero q))
  obtain ⟨M, hM, hmin⟩ := pk_least (fun m => (Fst A b m).isSome = true) ⟨_, hmax⟩
  obtain ⟨G, hG⟩ := Option.isSome_iff_exists.mp hM
  refine ⟨M, G, ?_, hG, fun j hj => ?_⟩
  · by_cases q : M ≤ cn (aR A) 1
    · exact q
    · exact absurd hmax (hmin _ (by omega))
  · cases e : Fst A b j with
    | none => rfl
    | some R => exact absurd (by rw [e]; rfl) (hmin j hj)
theorem Sb_t {b q : Nat} (h : q ≠ b) : Sb b q = true := decide_eq_true h
theorem but_n (A : AS) (hI : Inv A) : ∀ p, p < cn (aR A) 1 → (nI p = (-1 : Int32) ↔ Sb 99 p ≠ true) := by
  have b1 := hI.1.1.2.1.2
  intro p hp
  constructor
  · intro h
    have h3 := congrArg Int32.toInt h
    rw [nI_toInt (by omega), show (-1 : Int32).toInt = -1 by decide] at h3
    omega
  · intro h
    exact absurd (Sb_t (by omega)) h
theorem set_n (hI : Inv A) : ∀ p, p < cn (aR A) 1 → ((((nI (2 ^ cn (aR A) 1 - 1)) >>> (nI p &&& 31)) &&& 1) = 1 ↔ Sb 99 p = true) := by
  have b1 := hI.1.1.2.1.2
  intro p hp
  rw [set_b (by omega), Nat.testBit_two_pow_sub_one]
  exact ⟨fun _ => Sb_t (by omega), fun _ => decide_eq_true hp⟩
theorem m_all (hI : Inv A) (hm : MR A σ) : f_X12_allParts σ = some (nI (2 ^ cn (aR A) 1 - 1)) := by
  have e1 : rd σ 84 1 = nI (cn (aR A) 1) := by rw [← hI.1.1.2.1.1, ← hm.1]; rfl
  unfold f_X12_allParts
  rw [chk_t (by decide), e1, allP hI.1.1.2.1.2]
theorem op_fewest (hI : Inv A) (hC : CR A σ) (hM : MR A σ) : Opn A σ f_X11_fewest f_X12_fewest := by
  obtain ⟨M, G, h1, h2, h3⟩ := few_ex A 99
  obtain ⟨τ, x1, x2, _⟩ := e_few hI hC (but_n A hI) h1 h2 h3
  refine Opn.s (nI M) τ hI hC hM (by unfold f_X11_fewest; rw [x1, bd2_so]) x2 (fun σ1 hm => ?_)
  obtain ⟨τ', y1, y2, y3, _⟩ := m_few hI hm (set_n hI) h1 h2 h3
  exact ⟨τ', by unfold f_X12_fewest; rw [m_all hI hm, bd_so, y1, bd2_so], y2, y3⟩
theorem op_group (x : Int32) (hI : Inv A) (hC : CR A σ) (hM : MR A σ) : Opn A σ (f_X11_group x) (f_X12_group x) := by
  have hi := hI.1.1
  have b1 := hi.2.1.2
  have hc := hC.1.1
  rcases wi_cases x (n := cn (aR A) 1) (by omega) with h0 | ⟨hw, p, hp, rfl⟩
  · refine Opn.err 1 (by decide) hI hC hM ?_ (fun σ hm => ?_)
    · unfold f_X11_group; rw [e_hasPart _ hi hc, bd_so, h0, if_pos rfl]; exact bd2_id _
    · unfold f_X12_group; rw [m_isPart _ hi hm.1, bd_so, h0, if_pos rfl]; exact bd2_id _
  obtain ⟨M, G, h1, h2, h3⟩ := few_ex A 99
  obtain ⟨τ, x1, x2, x3⟩ := e_few hI hC (but_n A hI) h1 h2 h3
  have hS : Sb 99 p = true := Sb_t (by omega)
  refine Opn.s (nI (G p)) τ hI hC hM ?_ x2 (fun σ1 hm => ?_)
  · unfold f_X11_group
    rw [e_hasPart _ hi hc, bd_so, hw, if_neg (by decide), x1, bd2_so, inb_nI (show p < 10 by omega) (by decide), chk_so, rd_ar (by omega), x3 p hp hS]
  · obtain ⟨τ', y1, y2, y3, y4⟩ := m_few hI hm (set_n hI) h1 h2 h3
    refine ⟨τ', ?_, y2, y3⟩
    unfold f_X12_group
    rw [m_isPart _ hi hm.1, bd_so, hw, if_neg (by decide), m_all hI hm, bd_so, y1, bd2_so, inb_nI (show p < 11 by omega) (by decide), chk_so, rd_ar (by omega), y4 p hp, if_pos hS]
theorem op_without (x : Int32) (hI : Inv A) (hC : CR A σ) (hM : MR A σ) : Opn A σ (f_X11_without x) (f_X12_without x) := by
  have hi := hI.1.1
  have b1 := hi.2.1.2
  have hc := hC.1.1
  rcases wi_cases x (n := cn (aR A) 1) (by omega) with h0 | ⟨hw, p, hp, rfl⟩
  · refine Opn.err 1 (by decide) hI hC hM ?_ (fun σ hm => ?_)
    · unfold f_X11_without; rw [e_hasPart _ hi hc, bd_so, h0, if_pos rfl]; exact bd2_id _
    · unfold f_X12_without; rw [m_isPart _ hi hm.1, bd_so, h0, if_pos rfl]; exact bd2_id _
  obtain ⟨M, G, h1, h2, h3⟩ := few_ex A p
  obtain ⟨τ, x1, x2, x3⟩ := e_few (but := nI p) hI hC (fun q hq => by
    rw [nI_eq (by omega) (by omega)]
    unfold Sb
    constructor
    · intro e; rw [e]; simp
    · intro h; exact Classical.byContradiction (fun hn => h (decide_eq_true hn))) h1 h2 h3
  refine Opn.s (nI M) τ hI hC hM ?_ x2 (fun σ1 hm => ?_)
  · unfold f_X11_without
    rw [e_hasPart _ hi hc, bd_so, hw, if_neg (by decide), x1, bd2_so]
  · obtain ⟨τ', y1, y2, y3, y4⟩ := m_few (set := nI ((2 ^ cn (aR A) 1 - 1) ^^^ ((2 ^ cn (aR A) 1 - 1) &&& 2 ^ p))) hI hm (fun q hq => by
      rw [set_b (by omega), tb_clr, Nat.testBit_two_pow_sub_one]
      unfold Sb
      rw [decide_eq_true_iff, decide_eq_true_iff]
      exact ⟨fun h => h.2, fun h => ⟨hq, h⟩⟩) h1 h2 h3
    refine ⟨τ', ?_, y2, y3⟩
    unfold f_X12_without
    rw [m_isPart _ hi hm.1, bd_so, hw, if_neg (by decide), m_all hI hm, bd_so, nI_clr _ (by omega), y1, bd2_so]
theorem i_an (x y : Int32) : (x + y) + -y = x := by rw [Int32.add_assoc, Int32.add_right_neg, Int32.add_zero]
theorem mvd_b (r : Nat → Int32) (e : Nat) (y : Int32) : mvd (mvd r e y) e (-y) = r := by
  funext k
  unfold mvd
  by_cases q : k = 62 + 4 * e
  · subst q; rw [upd_eq, upd_eq, i_an]
  · rw [upd_ne q]
    by_cases q1 : k = 61 + 4 * e
    · subst q1; rw [upd_eq, upd_ne (by omega), upd_eq, i_an]
    · rw [upd_ne q1, upd_ne q, upd_ne q1]
theorem op_helps (x y : Int32) (hI : Inv A) (hC : CR A σ) (hM : MR A σ) : Opn A σ (f_X11_helps x y) (f_X12_helps x y) := by
  have hi := hI.1.1
  have b2 := hi.2.2.1.2
  have hc := hC.1.1
  have c7 := hC.1.2.2.2.2.2.2.1
  rcases wi_cases x (n := cn (aR A) 2) (by omega) with h0 | ⟨h1, e, he, rfl⟩
  · refine Opn.err 1 (by decide) hI hC hM ?_ (fun σ hm => ?_)
    · unfold f_X11_helps f_X11_shiftError; rw [e_hasEntry _ hi hc, bd_so, h0, if_pos rfl, bd_so, if_neg (by decide)]; exact bd2_id _
    · unfold f_X12_helps f_X12_whyNot; rw [m_isEntry _ hi hm.1, bd_so, h0, if_pos rfl, bd_so, if_neg (by decide)]; exact bd2_id _
  rcases why_c (aR A) e y with hw | hw | hw
  · obtain ⟨A', hA'⟩ : ∃ A', A' = sR A (mvd (aR A) e y) := ⟨_, rfl⟩
    have hI' : Inv A' := by rw [hA']; exact hI.mv he hw
    have hC' : CR A' (fw (fw σ 13 e (aR A (61 + 4 * e) + y)) 14 e (aR A (62 + 4 * e) + y)) := by rw [hA']; exact CR.mv y hI hC he
    have er : aR A' = mvd (aR A) e y := by rw [hA']; rfl
    have e2 : cn (aR A') 2 = cn (aR A) 2 := by rw [er]; exact cn_cong (by unfold mvd; rw [upd_ne (by omega), upd_ne (by omega)])
    have he' : e < cn (aR A') 2 := by rw [e2]; exact he
    have hAA : sR A' (mvd (aR A') e (-y)) = A := by rw [er, mvd_b, hA']; rfl
    obtain ⟨M, G, m1, m2, m3⟩ := few_ex A' 99
    obtain ⟨τ, x1, x2, _⟩ := e_few hI' hC' (but_n A' hI') m1 m2 m3
    have hCτ := hC'.frs x2
    have hCf := CR.mv (-y) hI' hCτ he'
    rw [hAA] at hCf
    refine Opn.mk' (nI M) A _ ?_ hCf ((((FrC.fw (by omega)).tr (FrC.fw (by omega))).tr x2.frc).tr ((FrC.fw (by omega)).tr (FrC.fw (by omega)))) (by rw [fw_1, fw_1, x2.2.1]; exact Nat.le_succ _) hI hM (fun σ1 hm => ?_)
    · unfold f_X11_helps
      rw [e_shiftError y hi hc c7 he, bd_so, hw, if_pos rfl, e_delay y c7 he b2, bd_so, x1, bd2_so, e_delay (-y) hCτ.1.2.2.2.2.2.2.1 he' (by rw [e2]; exact b2), bd_so]
    · have hm' : MR A' (fw (fw (fw σ1 84 (61 + 4 * e) (aR A (61 + 4 * e) + y)) 84 (62 + 4 * e) (aR A (62 + 4 * e) + y)) 6 4 0) := by rw [hA']; exact MR.mv (e := e) y hm
      obtain ⟨τ', y1, y2, y3, _⟩ := m_few hI' hm' (set_n hI') m1 m2 m3
      have hmf := MR.mv (e := e) (-y) y2
      rw [hAA] at hmf
      refine ⟨_, ?_, hmf, ((((FrM.fw (by omega)).tr (FrM.fw (by omega))).tr (FrM.fw (by omega))).tr y3).tr (((FrM.fw (by omega)).tr (FrM.fw (by omega))).tr (FrM.fw (by omega)))⟩
      unfold f_X12_helps
      rw [m_whyNot y hi hm.1 he, bd_so, hw, if_pos rfl, m_moves y hm.1 (by omega), bd_so, m_all hI' hm', bd_so, y1, bd2_so, m_moves (-y) y2.1 (by omega), bd_so]
  · refine Opn.err 1 (by decide) hI hC hM ?_ (fun σ hm => ?_)
    · unfold f_X11_helps; rw [e_shiftError y hi hc c7 he, bd_so, hw, if_neg (by decide)]; exact bd2_id _
    · unfold f_X12_helps; rw [m_whyNot y hi hm.1 he, bd_so, hw, if_neg (by decide)]; exact bd2_id _
  · refine Opn.err 3 (by decide) hI hC hM ?_ (fun σ hm => ?_)
    · unfold f_X11_helps; rw [e_shiftError y hi hc c7 he, bd_so, hw, if_neg (by decide)]; exact bd2_id _
    · unfold f_X12_helps; rw [m_whyNot y hi hm.1 he, bd_so, hw, if_neg (by decide)]; exact bd2_id _
end FW
