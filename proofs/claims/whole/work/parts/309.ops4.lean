/-! know, as, entry, shift -/
theorem upd_same {f : Nat → Int32} {i : Nat} {v : Int32} (h : f i = v) : upd f i v = f := by
  funext j
  unfold upd
  split
  · subst_vars; rfl
  · rfl
theorem kb_or1 {k : Int32} {p : Nat} (hp : p < 32) (h : bt k p = true) : k ||| ((1 : Int32) <<< (nI p &&& 31)) = k := by
  apply b_ext; intro i hi
  rw [b_or, b_one hp hi]
  by_cases q : i = p
  · subst q; rw [h]; rfl
  · rw [decide_eq_false q, Bool.or_false]
theorem kb_or2 {k : Int32} {p : Nat} (hp : p < 32) (h : bt k p = false) : k ||| ((1 : Int32) <<< (nI p &&& 31)) = k ^^^ ((1 : Int32) <<< (nI p &&& 31)) := by
  apply b_ext; intro i hi
  rw [b_or, b_xor, b_one hp hi]
  by_cases q : i = p
  · subst q; rw [h, decide_eq_true rfl]; rfl
  · rw [decide_eq_false q, Bool.or_false, Bool.xor_false]
theorem kb_an1 {k : Int32} {p : Nat} (hp : p < 32) (h : bt k p = false) : k &&& (((1 : Int32) <<< (nI p &&& 31)) ^^^ (-1)) = k := by
  apply b_ext; intro i hi
  rw [b_and, b_xor, b_one hp hi, b_m1 i hi]
  by_cases q : i = p
  · subst q; rw [h]; rfl
  · rw [decide_eq_false q]; simp
theorem kb_an2 {k : Int32} {p : Nat} (hp : p < 32) (h : bt k p = true) : k &&& (((1 : Int32) <<< (nI p &&& 31)) ^^^ (-1)) = k ^^^ ((1 : Int32) <<< (nI p &&& 31)) := by
  apply b_ext; intro i hi
  rw [b_and, b_xor, b_xor, b_one hp hi, b_m1 i hi]
  by_cases q : i = p
  · subst q; rw [h, decide_eq_true rfl]; rfl
  · rw [decide_eq_false q]; simp
def isOfT (t : Nat) (x : Int32) : Option Int32 := if x = 1 then chk (isB (in9 t)) (some (in9 t)) else if x = 2 then chk (isB (in2 t)) (some (in2 t)) else if x = 3 then chk (isB (in3 t)) (some (in3 t)) else if x = 4 then chk (isB (in1 t)) (some (in1 t)) else if x = 5 then chk (isB (in0 t)) (some (in0 t)) else some 1
def udr (a b : Nat) : Int32 := if a = b ∨ b = 0 ∨ (b = 1 ∧ (a = 3 ∨ a = 5)) ∨ (b = 2 ∧ a = 4) then 1 else 0
theorem isOfT_ok : ∀ a, a < 6 → ∀ b, b < 6 → isOfT (tg (nI a)) (nI b) = some (udr a b) := by decide +kernel
theorem undN_ok : ∀ a, a < 6 → ∀ b, b < 6 → itn (fun z => b_X12_isUnder_2 (nI b) z) 5 (nI a) = some (udr a b) := by decide +kernel
theorem m_isUnder {a b : Nat} (ha : a < 6) (hb : b < 6) : f_X12_isUnder (nI a) (nI b) = some (udr a b) := it_of (undN_ok a ha b hb)
theorem e_isOf {σ : St} {k a b : Nat} (hk : isRole σ k = true) (h5 : rc σ k 5 = tg (nI a)) (ha : a < 6) (hb : b < 6) : f_X6_isOf k (nI b) σ = some (udr a b) := by
  rw [← isOfT_ok a ha b hb, ← h5]
  unfold f_X6_isOf isOfT
  rw [hk]
  rfl
theorem udr_c (a b : Nat) : udr a b = 0 ∨ udr a b = 1 := by unfold udr; split; exact Or.inr rfl; exact Or.inl rfl
section O4
variable {A : AS} {σ : St}
theorem op_as (x y : Int32) (hI : Inv A) (hC : CR A σ) (hM : MR A σ) : Opn A σ (f_X11_as x y) (f_X12_as x y) := by
  have hi := hI.1.1
  have b0 := hi.1.2.2
  have b1 := hi.2.1.2
  have b2 := hi.2.2.1.2
  have b3 := hi.2.2.2.1.2
  have b4 := hi.2.2.2.2.1.2
  have b5 := hi.2.2.2.2.2.2
  have b6 : cn (aR A) 362 ≤ 50 := (hI.1.2.2.2.2.2.2 1 (by decide)).2.1
  have hc := hC.1.1
  obtain ⟨c1, c2, c3, c4, c5, c6, c7, c8⟩ := hC.1
  obtain ⟨i1, i2, i3, i4, i5, i6, i7⟩ := hI.1
  rcases wi_cases x (n := cn (aR A) 1) (by omega) with h0 | ⟨h1, p, hp, rfl⟩
  · refine Opn.err 1 (by decide) hI hC hM ?_ (fun σ hm => ?_)
    · unfold f_X11_as f_X11_as_20; rw [e_hasPart _ hi hc, bd_so, h0, if_pos rfl]; exact bd2_id _
    · unfold f_X12_as f_X12_as_17; rw [m_isPart _ hi hm.1, bd_so, h0, if_pos rfl]; exact bd2_id _
  rcases wi_cases y (n := 6) (by omega) with g0 | ⟨g1, b, hb, rfl⟩
  · refine Opn.err 1 (by decide) hI hC hM ?_ (fun σ hm => ?_)
    · unfold f_X11_as f_X11_as_20; rw [e_hasPart _ hi hc, bd_so, h1, if_neg (by decide), w_6, bd_so, g0, if_pos rfl]; exact bd2_id _
    · unfold f_X12_as f_X12_as_17; rw [m_isPart _ hi hm.1, bd_so, h1, if_neg (by decide), m_in6, bd_so, g0, if_pos rfl]; exact bd2_id _
  obtain ⟨r0, r1, r2, r3, r4, r5, r6⟩ := c6 p hp
  have ek : (rd σ 10 (nI p)).toNatClampNeg = rc σ 10 p := by rw [rd_ar (by omega)]; rfl
  have hk := (i2 p hp).1
  have h11 : f_X11_as (nI p) (nI b) σ = if udr (cn (aR A) (10 + 5 * p)) b = 0 then f_X11_error 5 σ else some (wt (aR A) (nI p), σ) := by
    unfold f_X11_as
    rw [e_hasPart _ hi hc, bd_so, h1, if_neg (by decide), w_6, bd_so, g1, if_neg (by decide), inb_nI (show p < 10 by omega) (by decide), chk_so, ek, r0, chk_so, e_isOf r0 (by rw [← hk.1]; exact r6) hk.2 hb, bd_so, e_weight _ hi hc c7, bd_so]
    split
    · exact bd2_id _
    · rfl
  have h12 : ∀ σ1, ar σ1 84 = aR A → f_X12_as (nI p) (nI b) σ1 = if udr (cn (aR A) (10 + 5 * p)) b = 0 then f_X12_finds 5 σ1 else some (wt (aR A) (nI p), σ1) := by
    intro σ1 hm
    unfold f_X12_as
    rw [m_isPart _ hi hm, bd_so, h1, if_neg (by decide), m_in6, bd_so, g1, if_neg (by decide), m_it0 (by omega) hm, bd_so, hk.1, m_isUnder hk.2 hb, bd_so, m_weight _ hi hm, bd_so]
    split
    · exact bd2_id _
    · rfl
  by_cases q : udr (cn (aR A) (10 + 5 * p)) b = 0
  · exact Opn.err 5 (by decide) hI hC hM (h11.trans (if_pos q)) (fun σ1 hm => (h12 σ1 hm.1).trans (if_pos q))
  · exact Opn.q (wt (aR A) (nI p)) hI hC hM (h11.trans (if_neg q)) (fun σ1 hm => (h12 σ1 hm.1).trans (if_neg q))
theorem op_know (x y z : Int32) (hz : z = 0 ∨ z = 1) (hI : Inv A) (hC : CR A σ) (hM : MR A σ) : Opn A σ (f_X11_know x y z) (f_X12_know x y z) := by
  have hi := hI.1.1
  have b0 := hi.1.2.2
  have b1 := hi.2.1.2
  have b2 := hi.2.2.1.2
  have b3 := hi.2.2.2.1.2
  have b4 := hi.2.2.2.2.1.2
  have b5 := hi.2.2.2.2.2.2
  have b6 : cn (aR A) 362 ≤ 50 := (hI.1.2.2.2.2.2.2 1 (by decide)).2.1
  have hc := hC.1.1
  obtain ⟨c1, c2, c3, c4, c5, c6, c7, c8⟩ := hC.1
  obtain ⟨i1, i2, i3, i4, i5, i6, i7⟩ := hI.1
  rcases wi_cases x (n := cn (aR A) 3) (by omega) with h0 | ⟨h1, v, hv, rfl⟩
  · refine Opn.err 1 (by decide) hI hC hM ?_ (fun σ hm => ?_)
    · unfold f_X11_know f_X11_know_22; rw [e_hasPlayer _ hi hc, bd_so, h0, if_pos rfl]; exact bd2_id _
    · unfold f_X12_know f_X12_know_16; rw [m_isPlayer _ hi hm.1, bd_so, h0, if_pos rfl]; exact bd2_id _
  rcases wi_cases y (n := cn (aR A) 1) (by omega) with g0 | ⟨g1, p, hp, rfl⟩
  · refine Opn.err 1 (by decide) hI hC hM ?_ (fun σ hm => ?_)
    · unfold f_X11_know f_X11_know_22; rw [e_hasPlayer _ hi hc, bd_so, h1, if_neg (by decide), e_hasPart _ hi hc, bd_so, g0, if_pos rfl]; exact bd2_id _
    · unfold f_X12_know f_X12_know_16; rw [m_isPlayer _ hi hm.1, bd_so, h1, if_neg (by decide), m_isPart _ hi hm.1, bd_so, g0, if_pos rfl]; exact bd2_id _
  have hrd : rd σ 18 (nI v) = aR A (222 + 3 * v) := by rw [rd_ar (by omega)]; exact (c8 v hv).2.2
  have ix : (220 + (3 * nI v)) + 2 = nI (222 + 3 * v) := (ix3 v 2).trans (by rw [show 220 + 3 * v + 2 = 222 + 3 * v by omega])
  obtain ⟨b, hb⟩ : ∃ b, b = bt (aR A (222 + 3 * v)) p := ⟨_, rfl⟩
  have hkn : f_X4_knows (nI v) (nI p) σ = some (if b = true then 1 else 0) := by
    unfold f_X4_knows
    rw [inb_nI (show v < 6 by omega) (by decide), chk_so, hrd, bit_v _ (by omega), ← hb]
    cases b <;> rfl
  have hm12 : ∀ σ1, ar σ1 84 = aR A → f_X12_know (nI v) (nI p) z σ1 = some (if (if b = true then (1 : Int32) else 0) = z then 0 else 1, fw σ1 84 (222 + 3 * v) (if z = 0 then aR A (222 + 3 * v) &&& (((1 : Int32) <<< (nI p &&& 31)) ^^^ (-1)) else aR A (222 + 3 * v) ||| ((1 : Int32) <<< (nI p &&& 31)))) := by
    intro σ1 hm
    unfold f_X12_know f_X12_know_53 f_X12_know_92
    rw [m_isPlayer _ hi hm, bd_so, h1, if_neg (by decide), m_isPart _ hi hm, bd_so, g1, if_neg (by decide), ix, inb_nI (show 222 + 3 * v < 466 by omega) (by decide), chk_so, rd_ar (by omega), hm, bit_v _ (by omega), ← hb]
    cases b
    · rw [if_neg (by decide)]
      rcases hz with rfl | rfl
      · rw [if_pos rfl, if_pos rfl, chk_so, chk_so, nm_so, wr_nI _ (by omega)]; rfl
      · rw [if_neg (by decide), if_neg (by decide), chk_so, chk_so, nm_so, wr_nI _ (by omega)]; rfl
    · rw [if_pos (by decide)]
      rcases hz with rfl | rfl
      · rw [if_pos rfl, if_pos rfl, chk_so, chk_so, nm_so, wr_nI _ (by omega)]; rfl
      · rw [if_neg (show ¬ (1 : Int32) = 0 by decide), chk_so, chk_so, nm_so, wr_nI _ (by omega)]; rfl
  by_cases q : (if b = true then (1 : Int32) else 0) = z
  · refine Opn.mk' 0 A σ ?_ hC (FrC.rfl' σ) (Nat.le_succ _) hI hM (fun σ1 hm => ?_)
    · unfold f_X11_know
      rw [e_hasPlayer _ hi hc, bd_so, h1, if_neg (by decide), e_hasPart _ hi hc, bd_so, g1, if_neg (by decide), hkn, bd_so, if_pos q]
    · refine ⟨_, (hm12 σ1 hm.1).trans (by rw [if_pos q]), ?_, FrM.fw (by omega)⟩
      have ev : (if z = 0 then aR A (222 + 3 * v) &&& (((1 : Int32) <<< (nI p &&& 31)) ^^^ (-1)) else aR A (222 + 3 * v) ||| ((1 : Int32) <<< (nI p &&& 31))) = aR A (222 + 3 * v) := by
        subst q
        cases b
        · exact kb_an1 (by omega) hb.symm
        · exact kb_or1 (by omega) hb.symm
      rw [ev]
      have := hm.row (σ' := fw σ1 84 (222 + 3 * v) (aR A (222 + 3 * v))) (r' := aR A) (by rw [ar_fw_eq, hm.1, upd_same rfl]) (fun k hk => by rw [ar_fw_ne (by omega)]) (by rw [ar_fw_ne (by omega)]) (by rw [ar_fw_ne (by omega)]) (hm.lay ⟨rfl, rfl, fun _ _ => ⟨rfl, rfl⟩, fun _ _ _ => rfl, fun _ _ _ => rfl⟩ (fun k hk => by rw [ar_fw_ne (by omega)]) (by rw [ar_fw_ne (by omega)]))
      exact this
  · refine Opn.mk' 1 (sR A (upd (aR A) (222 + 3 * v) (aR A (222 + 3 * v) ^^^ ((1 : Int32) <<< (nI p &&& 31))))) (fw σ 18 v (aR A (222 + 3 * v) ^^^ ((1 : Int32) <<< (nI p &&& 31)))) ?_ ?_ (FrC.fw (by omega)) (Nat.le_succ _) ?_ hM (fun σ1 hm => ?_)
    · unfold f_X11_know
      rw [e_hasPlayer _ hi hc, bd_so, h1, if_neg (by decide), e_hasPart _ hi hc, bd_so, g1, if_neg (by decide), hkn, bd_so, if_neg q, inb_nI (show v < 6 by omega) (by decide), chk_so, nm_so, wr_nI _ (by omega), hrd]
    · refine hC.row' ?_ (fun k hk _ => ?_) rfl (by rw [ar_fw_ne (by omega)])
      · refine ⟨c1.cg (by rw [ar_fw_ne (by omega)]) (fun k _ => by rw [upd_ne (by omega)]), c2.cg ⟨by rw [ar_fw_ne (by omega)], by rw [ar_fw_ne (by omega)]⟩ (by rw [upd_ne (by omega)]) (fun k _ _ => by rw [upd_ne (by omega)]), c3.cg ⟨by rw [ar_fw_ne (by omega)], by rw [ar_fw_ne (by omega)]⟩ (by rw [upd_ne (by omega)]) (fun k _ _ => by rw [upd_ne (by omega)]), c4.cg (fun k _ _ => by rw [ar_fw_ne (by omega)]) (fun k _ => by rw [upd_ne (by omega)]), c5.cg (by rw [ar_fw_ne (by omega)]) (by rw [upd_ne (by omega)]) (fun k _ _ => by rw [upd_ne (by omega)]), c6.cg (by rw [ar_fw_ne (by omega)]) (fun k _ _ => by rw [ar_fw_ne (by omega)]) (Nat.le_refl _) (by rw [upd_ne (by omega)]) (fun p _ k _ _ => by rw [upd_ne (by omega)]), c7.cg (fun k _ _ => by rw [ar_fw_ne (by omega)]) (by rw [upd_ne (by omega)]) (fun k _ _ => by rw [upd_ne (by omega)]), ?_⟩
        intro k hk
        rw [cn_cong (show upd (aR A) (222 + 3 * v) _ 3 = aR A 3 from by rw [upd_ne (by omega)])] at hk
        show ar _ 16 k = _ ∧ ar _ 17 k = _ ∧ ar _ 18 k = _
        rw [ar_fw_ne (by omega), ar_fw_ne (by omega), ar_fw_eq, upd_ne (show 220 + 3 * k ≠ 222 + 3 * v by omega), upd_ne (show 221 + 3 * k ≠ 222 + 3 * v by omega)]
        refine ⟨(c8 k hk).1, (c8 k hk).2.1, ?_⟩
        by_cases qk : k = v
        · subst qk; rw [upd_eq, upd_eq]
        · rw [upd_ne qk, upd_ne (by omega)]; exact (c8 k hk).2.2
      · unfold PC at hk; rw [ar_fw_ne (by omega)]
    · refine hI.row ⟨ICn.of ((by rw [upd_ne (by omega)] : _ = aR A 0).trans hi.1.1) hi.1.2 ((by rw [upd_ne (by omega)] : _ = aR A 1).trans hi.2.1.1) hi.2.1.2 ((by rw [upd_ne (by omega)] : _ = aR A 2).trans hi.2.2.1.1) hi.2.2.1.2 ((by rw [upd_ne (by omega)] : _ = aR A 3).trans hi.2.2.2.1.1) hi.2.2.2.1.2 ((by rw [upd_ne (by omega)] : _ = aR A 4).trans hi.2.2.2.2.1.1) hi.2.2.2.2.1.2 ((by rw [upd_ne (by omega)] : _ = aR A 5).trans hi.2.2.2.2.2.1) hi.2.2.2.2.2.2, i2.cg (by rw [upd_ne (by omega)]) (by rw [upd_ne (by omega)]) (fun k _ _ => by rw [upd_ne (by omega)]), i3.cg (by rw [upd_ne (by omega)]) (by rw [upd_ne (by omega)]) (by rw [upd_ne (by omega)]) (fun k _ _ => by rw [upd_ne (by omega)]), i4.cg (by rw [upd_ne (by omega)]) (fun k _ _ => by rw [upd_ne (by omega)]), ?_, i6.cg (by rw [upd_ne (by omega)]) (fun k _ _ => by rw [upd_ne (by omega)]), i7.cg (fun k _ => by rw [upd_ne (by omega)])⟩
      intro k hk
      rw [cn_cong (show upd (aR A) (222 + 3 * v) _ 3 = aR A 3 from by rw [upd_ne (by omega)])] at hk
      unfold cn
      rw [upd_ne (by omega), upd_ne (by omega)]
      exact i5 k hk
    · refine ⟨_, (hm12 σ1 hm.1).trans (by rw [if_neg q]), ?_, FrM.fw (by omega)⟩
      have ev : (if z = 0 then aR A (222 + 3 * v) &&& (((1 : Int32) <<< (nI p &&& 31)) ^^^ (-1)) else aR A (222 + 3 * v) ||| ((1 : Int32) <<< (nI p &&& 31))) = aR A (222 + 3 * v) ^^^ ((1 : Int32) <<< (nI p &&& 31)) := by
        cases b
        · rcases hz with rfl | rfl
          · exact absurd rfl q
          · rw [if_neg (by decide)]; exact kb_or2 (by omega) hb.symm
        · rcases hz with rfl | rfl
          · rw [if_pos rfl]; exact kb_an2 (by omega) hb.symm
          · exact absurd rfl q
      rw [ev]
      refine hm.row ?_ (fun k hk => by rw [ar_fw_ne (by omega)]) (by rw [ar_fw_ne (by omega)]) (by rw [ar_fw_ne (by omega)]) (hm.lay ?_ (fun k hk => by rw [ar_fw_ne (by omega)]) (by rw [ar_fw_ne (by omega)]))
      · rw [ar_fw_eq, hm.1]
      · exact ⟨by rw [upd_ne (by omega)], by rw [upd_ne (by omega)], fun p hp => ⟨by rw [upd_ne (by omega)], by rw [upd_ne (by omega)]⟩, fun k _ _ => by rw [upd_ne (by omega)], fun k _ _ => by rw [upd_ne (by omega)]⟩
end O4
