/-! the class: least sums of a team -/
theorem add_i {a b : Int32} (ha : -200000000 ≤ a.toInt ∧ a.toInt ≤ 200000000) (hb : -200000000 ≤ b.toInt ∧ b.toInt ≤ 200000000) : (a + b).toInt = a.toInt + b.toInt := by
  rw [Int32.toInt_add]
  exact Int.bmod_eq_of_le (by omega) (by omega)
theorem e_tog {w : Nat} {a b : Int32} (hw : w < 4) (ha : -200000000 ≤ a.toInt ∧ a.toInt ≤ 200000000) (hb : -200000000 ≤ b.toInt ∧ b.toInt ≤ 200000000) : ∃ v, f_X8_together (nI w) a b = some v ∧ v.toInt = jz w a.toInt b.toInt := by
  unfold f_X8_together jz
  by_cases q : w = 2
  · subst q
    refine ⟨_, if_pos (by decide), ?_⟩
    rw [if_pos rfl]
    by_cases q2 : a < b
    · rw [if_pos q2, if_pos (Int32.lt_iff_toInt_lt.mp q2)]
    · rw [if_neg q2, if_neg (fun h => q2 (Int32.lt_iff_toInt_lt.mpr h))]
  · refine ⟨_, if_neg (fun e => q ((nI_eq (a := w) (b := 2) (by omega) (by decide)).mp e)), ?_⟩
    rw [if_neg q, add_i ha hb]
theorem far_i : (100000000 : Int32).toInt = 100000000 := by decide
section TM
variable {A : AS} {w : Nat}
def LeC (r : Nat → Int32) (w : Nat) (ys : List Nat) (row : Nat → Int32) : Prop := ∀ s, s < 2 ^ cn r 1 → Enc 100000000 (mv r w ys s) (row s)
theorem mv_r6 (hI : IR (aR A)) {ys : List Nat} (hy : ∀ y, y ∈ ys → y < cn (aR A) 3) (hl : ys.length ≤ 6) {s : Nat} {z : Int} (h : mv (aR A) w ys s = some z) : -60000 ≤ z ∧ z ≤ 480000 ∧ (w = 2 → 0 ≤ z) := by
  have := mv_rng hI hy h
  exact ⟨by omega, by omega, this.2.2⟩
theorem mv_one (hI : IR (aR A)) {y : Nat} (hy : y < cn (aR A) 3) (s : Nat) : mv (aR A) w [y] s = if may (aR A) y s = true then some (sm (aR A) w y s).toInt else none := by
  have hr := sm_r (w := w) hI hy s
  have hj : jz w (sm (aR A) w y s).toInt 0 = (sm (aR A) w y s).toInt := by
    unfold jz
    by_cases q : w = 2
    · rw [if_pos q, if_neg (by have := hr.2.2 q; omega)]
    · rw [if_neg q, Int.add_zero]
  refine (mv_min (aR A) w y [] s).un ?_
  by_cases q : may (aR A) y s = true
  · rw [if_pos q]
    refine Or.inl ⟨_, rfl, ⟨s, Sub.rf s, q, 0, by rw [Nat.xor_self]; rfl, hj.symm⟩, ?_⟩
    rintro x ⟨t, h1, h2, z', h3, rfl⟩
    rw [mv_nil] at h3
    split at h3
    · rename_i h0
      cases h3
      rw [← xs_0 h0, hj]; omega
    · cases h3
  · rw [if_neg q]
    refine Or.inr ⟨rfl, ?_⟩
    rintro x ⟨t, h1, h2, z', h3, rfl⟩
    rw [mv_nil] at h3
    split at h3
    · rename_i h0
      rw [← xs_0 h0] at h2
      exact q h2
    · cases h3
/-- the candidates that were looked at -/
def cn' (r : Nat → Int32) (w y : Nat) (ys : List Nat) (k : Nat) (D : Nat → Prop) (s : Nat) (z : Int) : Prop := ∃ t, (t < k ∨ (t = k ∧ D (s ^^^ k))) ∧ cand r w y (mv r w ys) s t z
def InvT (r : Nat → Int32) (w y : Nat) (ys : List Nat) (Q : Nat → Prop) (k : Nat) (D : Nat → Prop) (row : Nat → Int32) : Prop := ∀ s, s < 2 ^ cn r 1 → Q s → ∃ o, MinO (cn' r w y ys k D s) o ∧ Enc 100000000 o (row s)
theorem InvT.cg {r : Nat → Int32} {y : Nat} {ys : List Nat} {Q : Nat → Prop} {k k' : Nat} {D D' : Nat → Prop} {row : Nat → Int32} (h : InvT r w y ys Q k D row) (e : ∀ s, s < 2 ^ cn r 1 → Q s → ∀ t z, cand r w y (mv r w ys) s t z → ((t < k ∨ (t = k ∧ D (s ^^^ k))) ↔ (t < k' ∨ (t = k' ∧ D' (s ^^^ k'))))) : InvT r w y ys Q k' D' row := fun s hs hq => by
  obtain ⟨o, h1, h2⟩ := h s hs hq
  refine ⟨o, h1.cg (fun z => ⟨?_, ?_⟩), h2⟩
  · rintro ⟨t, ht, hc⟩; exact ⟨t, (e s hs hq t z hc).mp ht, hc⟩
  · rintro ⟨t, ht, hc⟩; exact ⟨t, (e s hs hq t z hc).mpr ht, hc⟩
def F1 (c5 : Nat) (σ σ' : St) : Prop := (∀ c, c ≠ c5 → ar σ' c = ar σ c) ∧ σ'.1 = σ.1 ∧ σ'.2.2 = σ.2.2
theorem F1.rfl' {c5 : Nat} (σ : St) : F1 c5 σ σ := ⟨fun _ _ => rfl, rfl, rfl⟩
theorem F1.tr {c5 : Nat} {a b c : St} (h : F1 c5 a b) (h2 : F1 c5 b c) : F1 c5 a c := ⟨fun k p => (h2.1 k p).trans (h.1 k p), h2.2.1.trans h.2.1, h2.2.2.trans h.2.2⟩
theorem e_at_step {y : Nat} {ys : List Nat} {Q : Nat → Prop} {D : Nat → Prop} {k x j e c4 c5 : Nat} {u : St} (hI : IR (aR A)) (hw : w < 4) (hy : y < cn (aR A) 3) (hys : ∀ q, q ∈ ys → q < cn (aR A) 3) (hl : ys.length ≤ 6) (hk : k < 2 ^ cn (aR A) 1) (hmk : may (aR A) y k = true) (hx : Sub x ((2 ^ cn (aR A) 1 - 1) ^^^ k)) (hex : e ≤ x) (h37 : ar u 37 k = sm (aR A) w y k) (hc4 : LeC (aR A) w ys (ar u c4)) (hc45 : c4 ≠ c5) (hinv : InvT (aR A) w y ys Q k D (ar u c5)) : ∃ u', b_X8_addToTeam_72 (nI w) (nI j) (nI (2 ^ cn (aR A) 1 - 1)) c4 c5 (nI k) (nI ((2 ^ cn (aR A) 1 - 1) ^^^ k)) (nI e) (nI x) u = some (.inl ((if x = 0 then -1 else nI ((x - 1) &&& ((2 ^ cn (aR A) 1 - 1) ^^^ k))), u')) ∧ F1 c5 u u' ∧ InvT (aR A) w y ys Q k (fun v => D v ∨ v = x) (ar u' c5) := by
  have b1 := hI.1.2.1.2
  have n10 := p10 b1
  have hpos := Nat.two_pow_pos (cn (aR A) 1)
  have hka : Sub k (2 ^ cn (aR A) 1 - 1) := lt_all hk
  have hxo : x ≤ (2 ^ cn (aR A) 1 - 1) ^^^ k := hx.le
  have hoa : (2 ^ cn (aR A) 1 - 1) ^^^ k ≤ 2 ^ cn (aR A) 1 - 1 := (sub_xs hka).le
  have hxn : x < 2 ^ cn (aR A) 1 := by omega
  -- k and x share no bit
  have hdis : ∀ i, x.testBit i = true → k.testBit i = false := fun i hi => ((tb_xs hka).mp (hx i hi)).2
  have hkx : (k ||| x) ^^^ k = x := Nat.eq_of_testBit_eq fun i => by
    rw [Nat.testBit_xor, Nat.testBit_or]
    cases e1 : x.testBit i with
    | true => rw [hdis i e1]; rfl
    | false => cases k.testBit i <;> rfl
  have hkxn : k ||| x < 2 ^ cn (aR A) 1 := Nat.or_lt_two_pow hk hxn
  have h128 : ∀ u1 : St, f_X8_addToTeam_128 (nI w) (nI j) (nI (2 ^ cn (aR A) 1 - 1)) c4 c5 (nI k) (nI ((2 ^ cn (aR A) 1 - 1) ^^^ k)) (nI e) (nI x) u1 = some (.inl ((if x = 0 then -1 else nI ((x - 1) &&& ((2 ^ cn (aR A) 1 - 1) ^^^ k))), u1)) := by
    intro u1
    unfold f_X8_addToTeam_128 f_X8_addToTeam_144
    by_cases q : x = 0
    · rw [if_pos (by rw [q]; rfl), if_pos q]
    · rw [if_neg (nI_ne0 (by omega) (by omega)), if_neg q]
      have e1 : nI x - 1 = nI (x - 1) := by
        have := nI_pred (x - 1)
        rw [show x - 1 + 1 = x by omega] at this
        exact this
      rw [e1, nI_and]
  have hb := hc4 x hxn
  have hrng : ∀ z, mv (aR A) w ys x = some z → z < (100000000 : Int32).toInt := fun z hz => by
    have := mv_r6 hI hys hl hz
    rw [far_i]; omega
  unfold b_X8_addToTeam_72
  rw [if_neg (nI_nlt hex (by omega)), inb_nI (show x < 1024 by omega) (by decide), chk_so, rd_ar (by omega)]
  cases eo : mv (aR A) w ys x with
  | none =>
    rw [eo] at hb
    have hv : ar u c4 x = 100000000 := hb
    refine ⟨u, ?_, F1.rfl' u, ?_⟩
    · rw [hv, if_neg (by decide), h128]
    · intro s hs hq
      obtain ⟨o, h1, h2⟩ := hinv s hs hq
      refine ⟨o, h1.cg (fun z => ⟨?_, ?_⟩), h2⟩
      · rintro ⟨t, ht, hc⟩
        exact ⟨t, ht.imp id (fun q => ⟨q.1, Or.inl q.2⟩), hc⟩
      · rintro ⟨t, ht, hc⟩
        refine ⟨t, ?_, hc⟩
        rcases ht with ht | ⟨rfl, hd | hd⟩
        · exact Or.inl ht
        · exact Or.inr ⟨rfl, hd⟩
        · obtain ⟨_, _, z', h3, _⟩ := hc
          rw [hd, eo] at h3; cases h3
  | some z0 =>
    rw [eo] at hb
    have hv : (ar u c4 x).toInt = z0 := hb
    have hz := mv_r6 hI hys hl eo
    have hlt : ar u c4 x < 100000000 := Int32.lt_iff_toInt_lt.mpr (by rw [hv]; exact hrng z0 eo)
    have hsm := sm_r (w := w) hI hy k
    obtain ⟨v, ev, ev2⟩ := e_tog (w := w) (a := sm (aR A) w y k) (b := ar u c4 x) hw (by omega) (by omega)
    rw [hv] at ev2
    have hjz : jz w (sm (aR A) w y k).toInt z0 < 100000000 := by
      unfold jz
      split
      · split <;> omega
      · omega
    refine ⟨fw u c5 (k ||| x) (if v < ar u c5 (k ||| x) then v else ar u c5 (k ||| x)), ?_, ⟨fun c h => ar_fw_ne h, rfl, rfl⟩, ?_⟩
    · rw [if_pos hlt, inb_nI (show k < 1024 by omega) (by decide), chk_so, rd_ar (by omega), h37, ev, bd_so, nI_or, inb_nI (show k ||| x < 1024 by omega) (by decide), chk_so, nm_so, wr_nI _ (by omega), rd_ar (by omega), h128]
    · intro s hs hq
      obtain ⟨o, h1, h2⟩ := hinv s hs hq
      rw [ar_fw_eq]
      by_cases qs : s = k ||| x
      · subst qs
        rw [upd_eq]
        refine ⟨omin o (jz w (sm (aR A) w y k).toInt z0), (h1.add (z := jz w (sm (aR A) w y k).toInt z0)).cg (fun z => ⟨?_, ?_⟩), h2.add ev2 (by rw [far_i]; exact hjz)⟩
        · rintro (⟨t, ht, hc⟩ | rfl)
          · exact ⟨t, ht.imp id (fun q => ⟨q.1, Or.inl q.2⟩), hc⟩
          · exact ⟨k, Or.inr ⟨rfl, Or.inr hkx⟩, fun i hi => by rw [Nat.testBit_or, hi]; rfl, hmk, z0, by rw [hkx]; exact eo, rfl⟩
        · rintro ⟨t, ht, hc⟩
          rcases ht with ht | ⟨rfl, hd | hd⟩
          · exact Or.inl ⟨t, Or.inl ht, hc⟩
          · exact Or.inl ⟨t, Or.inr ⟨rfl, hd⟩, hc⟩
          · obtain ⟨_, _, z', h3, rfl⟩ := hc
            rw [hkx, eo] at h3
            cases h3
            exact Or.inr rfl
      · rw [upd_ne qs]
        refine ⟨o, h1.cg (fun z => ⟨?_, ?_⟩), h2⟩
        · rintro ⟨t, ht, hc⟩
          exact ⟨t, ht.imp id (fun q => ⟨q.1, Or.inl q.2⟩), hc⟩
        · rintro ⟨t, ht, hc⟩
          refine ⟨t, ?_, hc⟩
          rcases ht with ht | ⟨rfl, hd | hd⟩
          · exact Or.inl ht
          · exact Or.inr ⟨rfl, hd⟩
          · exfalso
            apply qs
            rw [← hd, or_xs hc.1]
/-- the inner loop -/
theorem e_at_in {y : Nat} {ys : List Nat} {k j c4 c5 : Nat} {u : St} (hI : IR (aR A)) (hw : w < 4) (hy : y < cn (aR A) 3) (hys : ∀ q, q ∈ ys → q < cn (aR A) 3) (hl : ys.length ≤ 6) (hk : k < 2 ^ cn (aR A) 1) (hmk : may (aR A) y k = true) (h37 : ar u 37 k = sm (aR A) w y k) (h5 : c5 ≠ 37) (hc4 : LeC (aR A) w ys (ar u c4)) (hc45 : c4 ≠ c5) (hinv : InvT (aR A) w y ys (fun s => j ≠ 0 ∨ s = 2 ^ cn (aR A) 1 - 1) k (fun _ => False) (ar u c5)) : ∃ u', f_X8_addToTeam_66 (nI w) (nI j) (nI (2 ^ cn (aR A) 1 - 1)) c4 c5 (nI k) (nI ((2 ^ cn (aR A) 1 - 1) ^^^ k)) (if j = 0 then nI ((2 ^ cn (aR A) 1 - 1) ^^^ k) else 0) u = some (.inl (nI (k + 1), u')) ∧ F1 c5 u u' ∧ InvT (aR A) w y ys (fun s => j ≠ 0 ∨ s = 2 ^ cn (aR A) 1 - 1) (k + 1) (fun _ => False) (ar u' c5) := by
  have b1 := hI.1.2.1.2
  have n10 := p10 b1
  have hpos := Nat.two_pow_pos (cn (aR A) 1)
  have hka : Sub k (2 ^ cn (aR A) 1 - 1) := lt_all hk
  have hoa : (2 ^ cn (aR A) 1 - 1) ^^^ k ≤ 2 ^ cn (aR A) 1 - 1 := (sub_xs hka).le
  unfold f_X8_addToTeam_66 f_X8_addToTeam_72
  have hend : ∀ (e : Nat) (x : Int32) (v : St), x < nI e → it (fun z : Int32 × St => b_X8_addToTeam_72 (nI w) (nI j) (nI (2 ^ cn (aR A) 1 - 1)) c4 c5 (nI k) (nI ((2 ^ cn (aR A) 1 - 1) ^^^ k)) (nI e) z.1 z.2) (x, v) = some (.inl (nI (k + 1), v)) := by
    intro e x v hx
    refine it_r ?_
    show b_X8_addToTeam_72 _ _ _ c4 c5 _ _ (nI e) x v = _
    unfold b_X8_addToTeam_72 f_X8_addToTeam_149
    rw [if_pos hx, nI_1]
    rfl
  by_cases qj : j = 0
  · rw [if_pos qj]
    obtain ⟨u', s1, s2, s3⟩ := e_at_step (x := (2 ^ cn (aR A) 1 - 1) ^^^ k) (j := j) (e := (2 ^ cn (aR A) 1 - 1) ^^^ k) hI hw hy hys hl hk hmk (Sub.rf _) (Nat.le_refl _) h37 hc4 hc45 hinv
    refine ⟨u', (it_l s1).trans (hend _ _ _ ?_), s2, s3.cg (fun s hs hq t z hc => ?_)⟩
    · by_cases q0 : (2 ^ cn (aR A) 1 - 1) ^^^ k = 0
      · rw [if_pos q0, q0]; decide
      · rw [if_neg q0]; exact nI_lt (sub_pr (by omega)) (by omega)
    · have hs' : s = 2 ^ cn (aR A) 1 - 1 := hq.resolve_left (fun h => h qj)
      subst hs'
      constructor
      · rintro (h | ⟨rfl, _⟩)
        · exact Or.inl (by omega)
        · exact Or.inl (by omega)
      · rintro (h | ⟨_, h⟩)
        · by_cases q : t = k
          · exact Or.inr ⟨q, Or.inr rfl⟩
          · exact Or.inl (by omega)
        · exact absurd h id
  · rw [if_neg qj]
    -- all subsets, downwards
    have H : ∀ x v, Sub x ((2 ^ cn (aR A) 1 - 1) ^^^ k) → F1 c5 u v → InvT (aR A) w y ys (fun s => j ≠ 0 ∨ s = 2 ^ cn (aR A) 1 - 1) k (fun q => x < q) (ar v c5) → ∃ u', it (fun z : Int32 × St => b_X8_addToTeam_72 (nI w) (nI j) (nI (2 ^ cn (aR A) 1 - 1)) c4 c5 (nI k) (nI ((2 ^ cn (aR A) 1 - 1) ^^^ k)) (nI 0) z.1 z.2) (nI x, v) = some (.inl (nI (k + 1), u')) ∧ F1 c5 u u' ∧ InvT (aR A) w y ys (fun s => j ≠ 0 ∨ s = 2 ^ cn (aR A) 1 - 1) k (fun _ => True) (ar u' c5) := by
      intro x
      induction x using Nat.strongRecOn with
      | ind x ih =>
        intro v hx hv hi
        obtain ⟨u', s1, s2, s3⟩ := e_at_step (x := x) (j := j) (e := 0) (u := v) hI hw hy hys hl hk hmk hx (Nat.zero_le _) (by rw [hv.1 37 (fun e => h5 e.symm)]; exact h37) (by rw [hv.1 c4 hc45]; exact hc4) hc45 hi
        by_cases q0 : x = 0
        · rw [if_pos q0] at s1
          refine ⟨u', (it_l s1).trans (hend _ _ _ (by decide)), hv.tr s2, s3.cg (fun s hs hq t z hc => ?_)⟩
          constructor
          · rintro (h | ⟨h, _⟩)
            · exact Or.inl h
            · exact Or.inr ⟨h, trivial⟩
          · rintro (h | ⟨h, _⟩)
            · exact Or.inl h
            · exact Or.inr ⟨h, by omega⟩
        · rw [if_neg q0] at s1
          have hlt := sub_pr (t := x) (s := (2 ^ cn (aR A) 1 - 1) ^^^ k) (by omega)
          obtain ⟨u2, t1, t2, t3⟩ := ih _ hlt u' (sub_an _ _) (hv.tr s2) (s3.cg (fun s hs hq t z hc => by
            constructor
            · rintro (h | ⟨h, h2⟩)
              · exact Or.inl h
              · exact Or.inr ⟨h, by omega⟩
            · rintro (h | ⟨h, h2⟩)
              · exact Or.inl h
              · refine Or.inr ⟨h, ?_⟩
                subst h
                have hsub : Sub (s ^^^ t) ((2 ^ cn (aR A) 1 - 1) ^^^ t) := fun i hi => by
                  have h3 := (tb_xs hc.1).mp hi
                  exact (tb_xs hka).mpr ⟨lt_all hs i h3.1, h3.2⟩
                rcases Nat.lt_or_ge x (s ^^^ t) with h3 | h3
                · exact Or.inl h3
                · right
                  by_cases h4 : s ^^^ t = x
                  · exact h4
                  · have := sub_next x _ (s ^^^ t) hx (by omega) hsub (by omega)
                    omega))
          exact ⟨u2, (it_l s1).trans t1, t2, t3⟩
    obtain ⟨u', t1, t2, t3⟩ := H _ u (Sub.rf _) (F1.rfl' u) (hinv.cg (fun s hs hq t z hc => by
      constructor
      · rintro (h | ⟨_, h⟩)
        · exact Or.inl h
        · exact absurd h id
      · rintro (h | ⟨h, h2⟩)
        · exact Or.inl h
        · exfalso
          subst h
          have hsub : Sub (s ^^^ t) ((2 ^ cn (aR A) 1 - 1) ^^^ t) := fun i hi => by
            have h3 := (tb_xs hc.1).mp hi
            exact (tb_xs hka).mpr ⟨lt_all hs i h3.1, h3.2⟩
          have := hsub.le
          omega))
    refine ⟨u', t1, t2, t3.cg (fun s hs hq t z hc => ?_)⟩
    constructor
    · rintro (h | ⟨h, _⟩)
      · exact Or.inl (by omega)
      · exact Or.inl (by omega)
    · rintro (h | ⟨_, h⟩)
      · by_cases q : t = k
        · exact Or.inr ⟨q, trivial⟩
        · exact Or.inl (by omega)
      · exact absurd h id
theorem e_fill2 {c n : Nat} {x : Int32} {σ : St} (hc : isIA c = true) (ha : alen c = 1024) (hn : n ≤ 1024) : f_J7_fill_fda19 c 0 (nI n) x σ = some (stF σ c 0 n (fun _ => x)) := by
  unfold f_J7_fill_fda19 f_J7_rangeCheck_23922 f_J7_fill_fda19_10
  rw [hc, chk_so, if_neg (show ¬ nI n < 0 from nI_pos (by omega)), if_neg (by decide), ha, if_neg (show ¬ Int32.ofNat 1024 < nI n from nI_nlt hn (by decide)), bd_so]
  refine (it_fil c 0 n (fun _ => x) (fun k hk => ?_)).trans (it_r ?_)
  · show b_J7_fill_fda19_10 c (nI n) x (nI k) _ = _
    unfold b_J7_fill_fda19_10
    rw [if_pos (nI_lt hk (by omega)), ha, inb_nI (show k < 1024 by omega) (by decide), chk_so, nm_so, wr_nI _ (by omega), nI_1, Nat.zero_add]
  · show b_J7_fill_fda19_10 c (nI n) x (nI n) _ = _
    unfold b_J7_fill_fda19_10
    rw [if_neg (nI_nlt (Nat.le_refl _) (by omega))]
theorem al46 {j : Nat} (h : j < 6) : isIA (46 + j) = true ∧ alen (46 + j) = 1024 := by
  have : ∀ j, j < 6 → isIA (46 + j) = true ∧ alen (46 + j) = 1024 := by decide
  exact this j h
theorem all1 (n : Nat) : nI (2 ^ n - 1) + 1 = nI (2 ^ n) := by
  rw [nI_1, show 2 ^ n - 1 + 1 = 2 ^ n by have := Nat.two_pow_pos n; omega]
theorem e_add2 {σ : St} {y : Nat} {ys : List Nat} {j : Nat} (hI : IR (aR A)) (hw : w < 4) (hy : y < cn (aR A) 3) (hys : ∀ q, q ∈ ys → q < cn (aR A) 3) (hl : ys.length ≤ 6) (hj : j + 1 < 6) (h37 : CostC (aR A) w y (ar σ 37)) (hle : LeC (aR A) w ys (ar σ (46 + (j + 1)))) : ∃ τ, f_X8_addToTeam (nI w) (nI j) (nI (2 ^ cn (aR A) 1 - 1)) σ = some τ ∧ F1 (46 + j) σ τ ∧ ∀ s, s < 2 ^ cn (aR A) 1 → (j ≠ 0 ∨ s = 2 ^ cn (aR A) 1 - 1) → Enc 100000000 (mv (aR A) w (y :: ys) s) (ar τ (46 + j) s) := by
  have b1 := hI.1.2.1.2
  have n10 := p10 b1
  have hpos := Nat.two_pow_pos (cn (aR A) 1)
  unfold f_X8_addToTeam
  rw [nI_1, inb_nI (show j + 1 < 6 by omega) (by decide), chk_so, inb_nI (show j < 6 by omega) (by decide), chk_so, nI_clamp (by omega), nI_clamp (by omega), all1, e_fill2 (al46 (by omega)).1 (al46 (by omega)).2 n10, bd_so]
  obtain ⟨σ7, h7⟩ : ∃ s, s = stF σ (46 + j) 0 (2 ^ cn (aR A) 1) (fun _ => (100000000 : Int32)) := ⟨_, rfl⟩
  rw [← h7]
  have f7 : F1 (46 + j) σ σ7 := by rw [h7]; exact ⟨fun c h => ar_stF_ne h, rfl, rfl⟩
  unfold f_X8_addToTeam_32
  obtain ⟨v, g1, g2, g3⟩ := it_ex (f := fun z : Int32 × St => b_X8_addToTeam_32 (nI w) (nI j) (nI (2 ^ cn (aR A) 1 - 1)) (46 + (j + 1)) (46 + j) z.1 z.2) (V := St) (fun k v => (nI k, v)) (fun k v => F1 (46 + j) σ v ∧ InvT (aR A) w y ys (fun s => j ≠ 0 ∨ s = 2 ^ cn (aR A) 1 - 1) k (fun _ => False) (ar v (46 + j))) 0 (2 ^ cn (aR A) 1) (Nat.zero_le _) (v := σ7) ⟨f7, fun s hs _ => ⟨none, Or.inr ⟨rfl, fun z ⟨t, ht, _⟩ => by
      rcases ht with h | ⟨_, h⟩
      · exact absurd h (Nat.not_lt_zero t)
      · exact h⟩, by show ar σ7 (46 + j) s = _; rw [h7, ar_stF_eq, fil_in (Nat.zero_le _) (by omega)]⟩⟩ (fun k v _ hk hv => by
    obtain ⟨v1, v2⟩ := hv
    have e37 : ar v 37 k = enC (aR A) w y k := by rw [v1.1 37 (by omega)]; exact h37 k hk
    have hhead : b_X8_addToTeam_32 (nI w) (nI j) (nI (2 ^ cn (aR A) 1 - 1)) (46 + (j + 1)) (46 + j) (nI k) v = if may (aR A) y k = true then f_X8_addToTeam_66 (nI w) (nI j) (nI (2 ^ cn (aR A) 1 - 1)) (46 + (j + 1)) (46 + j) (nI k) (nI ((2 ^ cn (aR A) 1 - 1) ^^^ k)) (if j = 0 then nI ((2 ^ cn (aR A) 1 - 1) ^^^ k) else 0) v else some (.inl (nI (k + 1), v)) := by
      unfold b_X8_addToTeam_32 f_X8_addToTeam_149
      rw [if_neg (nI_nlt (by omega) (by omega)), inb_nI (show k < 1024 by omega) (by decide), chk_so, rd_ar (by omega), e37, nI_xor, nI_1]
      by_cases q : may (aR A) y k = true
      · rw [if_pos ((enC_lt hI hy k).mpr q), if_pos q]
        by_cases qj : j = 0
        · rw [if_pos (by rw [qj]; rfl), if_pos qj]
        · rw [if_neg (nI_ne0 (by omega) (by omega)), if_neg qj]
      · rw [if_neg (fun h => q ((enC_lt hI hy k).mp h)), if_neg q]
    by_cases q : may (aR A) y k = true
    · rw [if_pos q] at hhead
      have es : enC (aR A) w y k = sm (aR A) w y k := if_pos q
      obtain ⟨u', x1, x2, x3⟩ := e_at_in (c4 := 46 + (j + 1)) (c5 := 46 + j) (j := j) hI hw hy hys hl hk q (e37.trans es) (by omega) (by rw [v1.1 (46 + (j + 1)) (by omega)]; exact hle) (by omega) v2
      exact ⟨u', hhead.trans x1, v1.tr x2, x3⟩
    · rw [if_neg q] at hhead
      refine ⟨v, hhead, v1, v2.cg (fun s hs hq t z hc => ?_)⟩
      constructor
      · rintro (h | ⟨_, h⟩)
        · exact Or.inl (by omega)
        · exact absurd h id
      · rintro (h | ⟨_, h⟩)
        · by_cases qt : t = k
          · exfalso; rw [qt] at hc; exact q hc.2.1
          · exact Or.inl (by omega)
        · exact absurd h id)
  refine ⟨v, g1.trans (it_r ?_), g2, fun s hs hq => ?_⟩
  · show b_X8_addToTeam_32 _ _ _ _ _ (nI (2 ^ cn (aR A) 1)) v = _
    unfold b_X8_addToTeam_32
    rw [if_pos (nI_lt (by omega) (by omega))]
  · obtain ⟨o, h1, h2⟩ := g3 s hs hq
    have : mv (aR A) w (y :: ys) s = o := (mv_min (aR A) w y ys s).un (h1.cg (fun z => ⟨fun ⟨t, _, hc⟩ => ⟨t, hc⟩, fun ⟨t, hc⟩ => ⟨t, Or.inl (by have := hc.1.le; omega), hc⟩⟩))
    rw [this]; exact h2
end TM
