/-! what is known at the law's start -/
section KS
variable {s : State} {args : Array Value}
theorem mt1 {w : Cond} {i : Nat} (h : tables_1_1[i]? = some w) : w ∈ lw_tbl := List.mem_append_right _ (List.mem_append_left _ (List.mem_of_getElem? h))
theorem mt2 {w : Cond} {i : Nat} (h : tables_1_2[i]? = some w) : w ∈ lw_tbl := List.mem_append_right _ (List.mem_append_right _ (List.mem_append_left _ (List.mem_of_getElem? h)))
theorem mt3 {w : Cond} {i : Nat} (h : tables_1_3[i]? = some w) : w ∈ lw_tbl := List.mem_append_right _ (List.mem_append_right _ (List.mem_append_right _ (List.mem_append_left _ (List.mem_of_getElem? h))))
theorem mt4 {w : Cond} {i : Nat} (h : tables_1_4[i]? = some w) : w ∈ lw_tbl := List.mem_append_right _ (List.mem_append_right _ (List.mem_append_right _ (List.mem_append_right _ (List.mem_append_left _ (List.mem_of_getElem? h)))))
theorem mt5 {w : Cond} {i : Nat} (h : tables_1_5[i]? = some w) : w ∈ lw_tbl := List.mem_append_right _ (List.mem_append_right _ (List.mem_append_right _ (List.mem_append_right _ (List.mem_append_right _ (List.mem_append_left _ (List.mem_of_getElem? h))))))
theorem mt6 {w : Cond} {i : Nat} (h : tables_1_6[i]? = some w) : w ∈ lw_tbl := List.mem_append_right _ (List.mem_append_right _ (List.mem_append_right _ (List.mem_append_right _ (List.mem_append_right _ (List.mem_append_right _ (List.mem_append_left _ (List.mem_of_getElem? h)))))))
theorem mt7 {w : Cond} {i : Nat} (h : tables_1_7[i]? = some w) : w ∈ lw_tbl := List.mem_append_right _ (List.mem_append_right _ (List.mem_append_right _ (List.mem_append_right _ (List.mem_append_right _ (List.mem_append_right _ (List.mem_append_right _ (List.mem_of_getElem? h)))))))
theorem st_cls (hts : ∀ w ∈ lw_tbl, w.before args s = true) : ∃ D : va_G, ∀ (k : Nat) (q : vw_C), vwCl[k]? = some q → u_Kn s q.1 q.2.1 q.2.2 (D.1 k) (D.2 k) := by
  have hg : ∀ w ∈ gtb, w.before args s = true := fun w h => hts w (List.mem_filter.mp h).1
  obtain ⟨c0, i0, h0⟩ := u_known (C := RX0) (T := TX0) (N := 5) (n := 5) hg inX0 (hts _ (mt2 (i := 148) rfl))
  obtain ⟨c1, i1, h1⟩ := u_known (C := RX1) (T := TX1) (N := 5) (n := 5) hg inX1 (hts _ (mt2 (i := 136) rfl))
  obtain ⟨c2, i2, h2⟩ := u_known (C := RX2) (T := TX2) (N := 5) (n := 5) hg inX2 (hts _ (mt2 (i := 112) rfl))
  obtain ⟨c3, i3, h3⟩ := u_known (C := RX3) (T := TX3) (N := 5) (n := 5) hg inX3 (hts _ (mt2 (i := 124) rfl))
  obtain ⟨c4, i4, h4⟩ := u_known (C := RX4) (T := TX4) (N := 16) (n := 16) hg inX4 (hts _ (mt1 (i := 32) rfl))
  obtain ⟨c5, i5, h5⟩ := u_known (C := RX5) (T := TX5) (N := 5) (n := 5) hg inX5 (hts _ (mt1 (i := 228) rfl))
  obtain ⟨c6, i6, h6⟩ := u_known (C := RX6) (T := TX6) (N := 5) (n := 5) hg inX6 (hts _ (mt2 (i := 160) rfl))
  obtain ⟨c7, i7, h7⟩ := u_known (C := RX7) (T := TX7) (N := 2) (n := 2) hg inX7 (hts _ (mt1 (i := 40) rfl))
  obtain ⟨c8, i8, h8⟩ := u_known (C := RX8) (T := TX8) (N := 14) (n := 14) hg inX8 (hts _ (mt1 (i := 171) rfl))
  obtain ⟨c9, i9, h9⟩ := u_known (C := RX9) (T := TX9) (N := 5) (n := 5) hg inX9 (hts _ (mt2 (i := 76) rfl))
  obtain ⟨c10, i10, h10⟩ := u_known (C := RX10) (T := TX10) (N := 7) (n := 7) hg inX10 (hts _ (mt1 (i := 139) rfl))
  obtain ⟨c11, i11, h11⟩ := u_known (C := RX11) (T := TX11) (N := 10) (n := 10) hg inX11 (hts _ (mt1 (i := 24) rfl))
  obtain ⟨c12, i12, h12⟩ := u_known (C := RX12) (T := TX12) (N := 35) (n := 35) hg inX12 (hts _ (mt5 (i := 130) rfl))
  refine ⟨(fun k => [c0, c1, c2, c3, c4, c5, c6, c7, c8, c9, c10, c11, c12].getD k c0, fun k => [i0, i1, i2, i3, i4, i5, i6, i7, i8, i9, i10, i11, i12].getD k i0), ?_⟩
  intro k q hq
  match k, hq with
  | 0, hq => cases hq; exact h0
  | 1, hq => cases hq; exact h1
  | 2, hq => cases hq; exact h2
  | 3, hq => cases hq; exact h3
  | 4, hq => cases hq; exact h4
  | 5, hq => cases hq; exact h5
  | 6, hq => cases hq; exact h6
  | 7, hq => cases hq; exact h7
  | 8, hq => cases hq; exact h8
  | 9, hq => cases hq; exact h9
  | 10, hq => cases hq; exact h10
  | 11, hq => cases hq; exact h11
  | 12, hq => cases hq; exact h12
  | k + 13, hq => simp [vwCl] at hq
theorem st_prim {ty : FieldType} (hra : ∀ cA : ClassId, s.vm.findClass ("[" ++ ty.toString) = some cA → va_RA s cA ty) (h : (Cond.arrayClass ty).before args s = true) : ∃ cA : ClassId, ArrOfT s cA ty ∧ va_RA s cA ty := by
  obtain ⟨cA, kA, comp, h1, h2, h3⟩ := Cond.arrayClass_spec h
  exact ⟨cA, fun n z => ⟨fun k h => (by cases h), kA, h2, comp, h3⟩, hra cA h1⟩
theorem st_obj {C : String} (h : (Cond.arrayOver (.object C)).before args s = true) : ∃ cA : ClassId, ArrOfT s cA (.object C) ∧ va_RA s cA (.object C) := by
  obtain ⟨comp, cA, kA, h1, h2, h3, h4, h5⟩ := Cond.arrayOver_spec h
  exact ⟨cA, fun n z => ⟨fun k h => (by cases h), kA, h3, comp, h4⟩, ⟨kA, comp, h3, h4, h1, h5⟩⟩
theorem st_arr (h : (Cond.arrayOver (.array .int)).before args s = true) : ∃ cA : ClassId, ArrOfT s cA (.array .int) ∧ va_RA s cA (.array .int) := by
  obtain ⟨comp, cA, kA, h1, h2, h3, h4, h5⟩ := arrayOverA_spec h
  exact ⟨cA, fun n z => ⟨fun k h => (by cases h), kA, h3, comp, h4⟩, h5⟩
def tmS (i : Nat) : Term := .string RX5 ([23, 48, 50, 52].getD i 0)
abbrev gv_all : List Cond := flatC (Jvm.Cond.and given_1 narrow_1)
theorem gv_ex : ∀ i : Nat, i < 4 → Cond.exactly (tmS i) "java/lang/String" ∈ gv_all := by decide +kernel
theorem gv_co : ∀ i : Nat, i < 4 → Cond.eq (.field (tmS i) "java/lang/String" "coder" "B") (.int 0) ∈ gv_all := by decide +kernel
theorem gv_ar : ∀ i : Nat, i < 4 → Cond.arrayOf (.field (tmS i) "java/lang/String" "value" "[B") .byte ∈ gv_all := by decide +kernel
theorem gv_le : ∀ i : Nat, i < 4 → Cond.eq (.length (.field (tmS i) "java/lang/String" "value" "[B")) (.int (Int32.ofNat (stLen.getD i 0))) ∈ gv_all := by decide +kernel
theorem gv_el : ∀ i : Nat, i < 4 → ∀ j : Nat, j < stLen.getD i 0 → Cond.eq (.elem (.field (tmS i) "java/lang/String" "value" "[B") (.int (Int32.ofNat j))) (.int ((stByt.getD i []).getD j 0)) ∈ gv_all := by decide +kernel
theorem gv_ne : ∀ i : Nat, i < 4 → ∀ j : Nat, j < 4 → i ≠ j → (Cond.not (Cond.eq (tmS i) (tmS j)) ∈ gv_all ∨ Cond.not (Cond.eq (tmS j) (tmS i)) ∈ gv_all) := by decide +kernel
theorem gv_nc : ∀ q ∈ ncl, Cond.not (.castable q.1 q.2) ∈ gv_all := by decide +kernel
theorem gv_cs : Cond.eq (.static "java/lang/String" "COMPACT_STRINGS" "Z") (.int 1) ∈ gv_all := by decide +kernel
theorem st_ycl : ∀ q ∈ ycl, Cond.castable q.1 q.2 ∈ lw_tbl := by
  refine List.forall_mem_cons.mpr ⟨mt7 (i := 189) rfl, List.forall_mem_cons.mpr ⟨mt7 (i := 190) rfl, List.forall_mem_cons.mpr ⟨mt7 (i := 191) rfl, List.forall_mem_cons.mpr ⟨mt7 (i := 192) rfl, List.forall_mem_cons.mpr ⟨mt7 (i := 193) rfl, List.forall_mem_cons.mpr ⟨mt7 (i := 194) rfl, List.forall_mem_cons.mpr ⟨mt7 (i := 195) rfl, List.forall_mem_cons.mpr ⟨mt7 (i := 196) rfl, fun _ h => absurd h List.not_mem_nil⟩⟩⟩⟩⟩⟩⟩⟩
theorem st_str (hg : ∀ c ∈ gv_all, c.before args s = true) : ∃ adK adV : Nat → Nat, vk_S 4 stLen stByt adK adV (fun q => s.heap.size ≤ q) s s.heap ∧ ∀ i : Nat, i < 4 → (tmS i).eval args s none [] s = some (.ref (adK i)) :=
  vk_Sof (by decide +kernel) (fun i hi => hg _ (gv_ex i hi)) (fun i hi => hg _ (gv_co i hi)) (fun i hi => hg _ (gv_ar i hi)) (fun i hi => hg _ (gv_le i hi)) (fun i hi j hj => hg _ (gv_el i hi j hj)) (fun i j hi hj hij => (gv_ne i hi j hj hij).elim (fun h => Or.inl (hg _ h)) (fun h => Or.inr (hg _ h))) (fun a ha => Nat.not_le.mpr ha)
theorem st_known (hts : ∀ w ∈ lw_tbl, w.before args s = true) (hgv : (Jvm.Cond.and given_1 narrow_1).before args s = true) : ∃ G : Gx, Kx G s ∧ Kc s ∧ gh G = s.heap.size := by
  have hg : ∀ c ∈ gv_all, c.before args s = true := flat_of_before _ hgv
  obtain ⟨D, hD⟩ := st_cls hts
  obtain ⟨c0, a0⟩ := st_prim (ty := .int) (fun _ h => h) (hts _ (mt1 (i := 59) rfl))
  obtain ⟨c1, a1⟩ := st_prim (ty := .long) (fun _ h => h) (hts _ (mt6 (i := 2) rfl))
  obtain ⟨c2, a2⟩ := st_prim (ty := .boolean) (fun _ h => h) (hts _ (mt6 (i := 1) rfl))
  obtain ⟨c3, a3⟩ := st_obj (C := "FivePlayers$Role") (hts _ (mt1 (i := 38) rfl))
  obtain ⟨c4, a4⟩ := st_obj (C := "FivePlayers$Row") (hts _ (mt1 (i := 60) rfl))
  obtain ⟨c5, a5⟩ := st_arr (hts _ (mt1 (i := 177) rfl))
  obtain ⟨adK, adV, hS, hE⟩ := st_str hg
  refine ⟨(D, fun k => [c0, c1, c2, c3, c4, c5].getD k c0, fun _ => 0, s.heap.size, adK, adV), ⟨⟨hD, ?_⟩, va_Nw.of rfl (hts _ (mt2 (i := 180) rfl)), fun q hq => va_Nc.of (hg _ (gv_nc q hq)), ?_, hS, va_Zof (hts _ (mt3 (i := 126) rfl)) (hts _ (mt1 (i := 15) rfl)) (va_eqi (hg _ gv_cs)) (fun a ha => Nat.not_le.mpr ha), fun q hq => va_Nw.of rfl (hts _ (st_ycl q hq))⟩, ⟨va_AO.of (hts _ (mt1 (i := 38) rfl)), va_AO.of (hts _ (mt1 (i := 60) rfl)), hts (.arrayOver (.array .int)) (mt1 (i := 177) rfl), va_Nw.of rfl (hts _ (mt1 (i := 229) rfl))⟩, rfl⟩
  · intro k q hq
    match k, hq with
    | 0, hq => cases hq; exact a0
    | 1, hq => cases hq; exact a1
    | 2, hq => cases hq; exact a2
    | 3, hq => cases hq; exact a3
    | 4, hq => cases hq; exact a4
    | 5, hq => cases hq; exact a5
    | k + 6, hq => simp [tyl] at hq
  · exact List.forall_mem_cons.mpr ⟨vk_R.of (hts _ (mt1 (i := 235) rfl)) (hE 0 (by decide)), List.forall_mem_cons.mpr ⟨vk_R.of (hts _ (mt3 (i := 90) rfl)) (hE 1 (by decide)), List.forall_mem_cons.mpr ⟨vk_R.of (hts _ (mt3 (i := 91) rfl)) (hE 2 (by decide)), List.forall_mem_cons.mpr ⟨vk_R.of (hts _ (mt3 (i := 92) rfl)) (hE 3 (by decide)), fun _ h => absurd h List.not_mem_nil⟩⟩⟩⟩
end KS
