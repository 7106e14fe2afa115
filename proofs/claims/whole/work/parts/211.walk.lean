section WK
variable {X : Xx} {G : Gx} {cc : ByteArray} {own : String} {nL d cells slots pc : Nat} {σ : St} {lv : List (Nat × Value)} {rest : List Value}
noncomputable def b_X4_become_1_220 (x2 : Int32) (σ : St) : Option ((Int32 × St) ⊕ (St)) :=
  if x2 < 3 then
  (chk (inb x2 3) <|
  bd (f_X7_become (56 + 2 * x2.toNatClampNeg) (66 + 2 * x2.toNatClampNeg) σ) fun σ39 =>
  some (.inl ((x2 + 1), σ39)))
  else
  (some (.inr (σ)))
noncomputable def f_X4_become_1_220 (x2 : Int32) (σ : St) : Option (St) := it (fun z : Int32 × St => b_X4_become_1_220 z.1 z.2) (x2, σ)
noncomputable def f_X4_become_1_60 (σ : St) : Option (St) :=
  chk (cpok 0 0 (fd σ 1 1) 10 10) <|
  nm (cpy σ 21 0 11 0 (fd σ 1 1)) fun σ12 =>
  chk (cpok 0 0 (fd σ12 1 2) 40 40) <|
  nm (cpy σ12 22 0 12 0 (fd σ12 1 2)) fun σ14 =>
  chk (cpok 0 0 (fd σ14 1 2) 40 40) <|
  nm (cpy σ14 23 0 13 0 (fd σ14 1 2)) fun σ16 =>
  chk (cpok 0 0 (fd σ16 1 2) 40 40) <|
  nm (cpy σ16 24 0 14 0 (fd σ16 1 2)) fun σ18 =>
  chk (cpok 0 0 (fd σ18 1 2) 40 40) <|
  nm (cpy σ18 25 0 15 0 (fd σ18 1 2)) fun σ20 =>
  chk (cpok 0 0 (fd σ20 1 3) 6 6) <|
  nm (cpy σ20 26 0 16 0 (fd σ20 1 3)) fun σ22 =>
  chk (cpok 0 0 (fd σ22 1 3) 6 6) <|
  nm (cpy σ22 27 0 17 0 (fd σ22 1 3)) fun σ24 =>
  chk (cpok 0 0 (fd σ24 1 3) 6 6) <|
  nm (cpy σ24 28 0 18 0 (fd σ24 1 3)) fun σ26 =>
  bd (f_X7_become 52 62 σ26) fun σ29 =>
  bd (f_X7_become 54 64 σ29) fun σ32 =>
  f_X4_become_1_220 0 σ32
noncomputable def b_X4_become_1_34 (x2 : Int32) (σ : St) : Option ((Int32 × St) ⊕ (St)) :=
  if x2 < (fd σ 1 1) then
  (chk (inb x2 10) <|
  chk (isRole σ ((rd σ 20 x2).toNatClampNeg)) <|
  chk (decide ((rd σ 20 x2).toNatClampNeg < 2 ^ 31)) <|
  nm (wr σ 10 x2 (nI ((rd σ 20 x2).toNatClampNeg))) fun σ10 =>
  some (.inl ((x2 + 1), σ10)))
  else
  ((f_X4_become_1_60 σ).map .inr)
noncomputable def f_X4_become_1_34 (x2 : Int32) (σ : St) : Option (St) := it (fun z : Int32 × St => b_X4_become_1_34 z.1 z.2) (x2, σ)
noncomputable def f_X4_become_1 (σ : St) : Option (St) :=
  nm (fw σ 1 0 (fd σ 2 0)) fun σ1 =>
  nm (fw σ1 1 1 (fd σ1 2 1)) fun σ2 =>
  nm (fw σ2 1 2 (fd σ2 2 2)) fun σ3 =>
  nm (fw σ3 1 3 (fd σ3 2 3)) fun σ4 =>
  f_X4_become_1_34 0 σ4
theorem dt_X4_become_0 : dtab cX4_become [(0, .aload_n 0, 1), (1, .aload_n 1, 1), (2, .getfield 9, 3), (5, .putfield 9, 3), (8, .aload_n 0, 1), (9, .aload_n 1, 1), (10, .getfield 15, 3), (13, .putfield 15, 3), (16, .aload_n 0, 1), (17, .aload_n 1, 1), (18, .getfield 18, 3), (21, .putfield 18, 3), (24, .aload_n 0, 1), (25, .aload_n 1, 1), (26, .getfield 21, 3), (29, .putfield 21, 3), (32, .iconst 0, 1), (33, .istore_n 2, 1), (34, .iload_n 2, 1), (35, .aload_n 0, 1), (36, .getfield 15, 3), (39, .if_icmp .ge 21, 3), (42, .aload_n 0, 1), (43, .getfield 26, 3), (46, .iload_n 2, 1), (47, .aload_n 1, 1), (48, .getfield 26, 3), (51, .iload_n 2, 1), (52, .aaload, 1), (53, .aastore, 1), (54, .iinc 2 1, 3), (57, .goto (-23), 3), (60, .aload_n 1, 1), (61, .getfield 30, 3), (64, .iconst 0, 1), (65, .aload_n 0, 1), (66, .getfield 30, 3), (69, .iconst 0, 1), (70, .aload_n 0, 1), (71, .getfield 15, 3)] = true := by decide +kernel
theorem dt_X4_become_1 : dtab cX4_become [(74, .invokestatic 71, 3), (77, .aload_n 1, 1), (78, .getfield 34, 3), (81, .iconst 0, 1), (82, .aload_n 0, 1), (83, .getfield 34, 3), (86, .iconst 0, 1), (87, .aload_n 0, 1), (88, .getfield 18, 3), (91, .invokestatic 71, 3), (94, .aload_n 1, 1), (95, .getfield 37, 3), (98, .iconst 0, 1), (99, .aload_n 0, 1), (100, .getfield 37, 3), (103, .iconst 0, 1), (104, .aload_n 0, 1), (105, .getfield 18, 3), (108, .invokestatic 71, 3), (111, .aload_n 1, 1), (112, .getfield 40, 3), (115, .iconst 0, 1), (116, .aload_n 0, 1), (117, .getfield 40, 3), (120, .iconst 0, 1), (121, .aload_n 0, 1), (122, .getfield 18, 3), (125, .invokestatic 71, 3), (128, .aload_n 1, 1), (129, .getfield 43, 3), (132, .iconst 0, 1), (133, .aload_n 0, 1), (134, .getfield 43, 3), (137, .iconst 0, 1), (138, .aload_n 0, 1), (139, .getfield 18, 3), (142, .invokestatic 71, 3), (145, .aload_n 1, 1), (146, .getfield 46, 3), (149, .iconst 0, 1)] = true := by decide +kernel
theorem dt_X4_become_2 : dtab cX4_become [(150, .aload_n 0, 1), (151, .getfield 46, 3), (154, .iconst 0, 1), (155, .aload_n 0, 1), (156, .getfield 21, 3), (159, .invokestatic 71, 3), (162, .aload_n 1, 1), (163, .getfield 49, 3), (166, .iconst 0, 1), (167, .aload_n 0, 1), (168, .getfield 49, 3), (171, .iconst 0, 1), (172, .aload_n 0, 1), (173, .getfield 21, 3), (176, .invokestatic 71, 3), (179, .aload_n 1, 1), (180, .getfield 52, 3), (183, .iconst 0, 1), (184, .aload_n 0, 1), (185, .getfield 52, 3), (188, .iconst 0, 1), (189, .aload_n 0, 1), (190, .getfield 21, 3), (193, .invokestatic 71, 3), (196, .aload_n 0, 1), (197, .getfield 60, 3), (200, .aload_n 1, 1), (201, .getfield 60, 3), (204, .invokevirtual 77, 3), (207, .aload_n 0, 1), (208, .getfield 64, 3), (211, .aload_n 1, 1), (212, .getfield 64, 3), (215, .invokevirtual 77, 3), (218, .iconst 0, 1), (219, .istore_n 2, 1), (220, .iload_n 2, 1), (221, .iconst 3, 1), (222, .if_icmp .ge 24, 3), (225, .aload_n 0, 1)] = true := by decide +kernel
theorem dt_X4_become_3 : dtab cX4_become [(226, .getfield 67, 3), (229, .iload_n 2, 1), (230, .aaload, 1), (231, .aload_n 1, 1), (232, .getfield 67, 3), (235, .iload_n 2, 1), (236, .aaload, 1), (237, .invokevirtual 77, 3), (240, .iinc 2 1, 3), (243, .goto (-23), 3), (246, .return_, 1)] = true := by decide +kernel
theorem cal_X4_become : Cal yX4_become cX4_become 3 none 1 := ⟨ww_1050, ww_92, ⟨by decide, by decide, by decide⟩, by decide⟩
set_option maxHeartbeats 4000000 in
set_option maxRecDepth 100000 in
theorem c_X4_become_1 (l : Launch) (G : Gx) (σ : St) (σ0 : St) (h : f_X4_become_1 σ = some σ0) : MI l G yX4_become cX4_become 3 none 2 [.ref (ga G 1), .ref (ga G 2)] σ none σ0 := by
  refine MI_of RX4 rfl (by decide) [(0, .ref (ga G 1)), (1, .ref (ga G 2))] rfl (Nat.le_of_ble_eq_true rfl) ?_
  intro X hXl C hR
  unfold f_X4_become_1 at h
  have J_220 : ∀ (x2 : Int32) (σ : St), f_X4_become_1_220 x2 σ = some σ0 → V X G 3 0 0 σ 220 [(0, .ref (ga G 1)), (1, .ref (ga G 2)), (2, .int x2)] [] := by
    intro x2 σ h
    refine it_v (P := fun z : Int32 × St => V X G 3 0 0 z.2 220 [(0, .ref (ga G 1)), (1, .ref (ga G 2)), (2, .int z.1)] []) ?_ (x2, σ) h
    clear h
    intro z w_220 h ih_220 ex_220
    obtain ⟨x2, σ⟩ := z
    have h : b_X4_become_1_220 x2 σ = some w_220 := h
    show V X G 3 0 0 σ 220 [(0, .ref (ga G 1)), (1, .ref (ga G 2)), (2, .int x2)] []
    unfold b_X4_become_1_220 at h
    refine V_iload_n C (dt_at dt_X4_become_2 36 rfl) 2 rfl rfl ?_
    refine V_iconst C 3 (dt_at dt_X4_become_2 37 rfl) (by decide) ?_
    refine V_icmp_ge C 246 (dt_at dt_X4_become_2 38 rfl) (by decide) (fun q33 => ?_) (fun q33 => ?_)
    · have h := ite_f q33 h
      have e_220 := ex_220 _ (Option.some.inj h).symm
      subst e_220
      exact V_vret C hR (dt_at dt_X4_become_3 10 rfl)
    · have h := ite_t q33 h
      refine V_aload_n C (dt_at dt_X4_become_2 39 rfl) 0 rfl rfl ?_
      refine g_X4_67_1 C (dt_at dt_X4_become_3 0 rfl) ?_
      refine V_iload_n C (dt_at dt_X4_become_3 1 rfl) 2 rfl rfl ?_
      obtain ⟨h34, h⟩ := chk_s h
      refine V_aa19 C h34 (dt_at dt_X4_become_3 2 rfl) ?_
      have h35 : isRow (56 + 2 * x2.toNatClampNeg) = true := ok_19 h34
      refine V_aload_n C (dt_at dt_X4_become_3 3 rfl) 1 rfl rfl ?_
      refine g_X4_67_2 C (dt_at dt_X4_become_3 4 rfl) ?_
      refine V_iload_n C (dt_at dt_X4_become_3 5 rfl) 2 rfl rfl ?_
      refine V_aa29 C h34 (dt_at dt_X4_become_3 6 rfl) ?_
      have h36 : isRow (66 + 2 * x2.toNatClampNeg) = true := ok_29 h34
      obtain ⟨σ39, e38, h⟩ := bd_s h
      refine cv_X7_become C ww_1048 (56 + 2 * x2.toNatClampNeg) (66 + 2 * x2.toNatClampNeg) e38 (Nat.le_of_ble_eq_true rfl) (Nat.le_of_ble_eq_true rfl) z0 (dt_at dt_X4_become_3 7 rfl) ?_
      refine V_iinc C (x2 + 1) 2 [1, 2, 0] (lv' := [(0, .ref (ga G 1)), (1, .ref (ga G 2)), (2, .int (x2 + 1))]) (dt_at dt_X4_become_3 8 rfl) rfl (by rfl) (by decide) rfl ?_
      refine V_goto C 220 (dt_at dt_X4_become_3 9 rfl) (by decide) ?_
      exact ih_220 ((x2 + 1), σ39) (Option.some.inj h).symm
  have J_60 : ∀ (σ : St), f_X4_become_1_60 σ = some σ0 → V X G 3 0 0 σ 60 [(0, .ref (ga G 1)), (1, .ref (ga G 2))] [] := by
    intro σ h
    unfold f_X4_become_1_60 at h
    refine V_aload_n C (dt_at dt_X4_become_0 32 rfl) 1 rfl rfl ?_
    refine g_X4_30_2 C (dt_at dt_X4_become_0 33 rfl) ?_
    refine V_iconst C 0 (dt_at dt_X4_become_0 34 rfl) (by decide) ?_
    refine V_aload_n C (dt_at dt_X4_become_0 35 rfl) 0 rfl rfl ?_
    refine g_X4_30_1 C (dt_at dt_X4_become_0 36 rfl) ?_
    refine V_iconst C 0 (dt_at dt_X4_become_0 37 rfl) (by decide) ?_
    refine V_aload_n C (dt_at dt_X4_become_0 38 rfl) 0 rfl rfl ?_
    refine g_X4_15_1 C (dt_at dt_X4_become_0 39 rfl) ?_
    obtain ⟨h11, h⟩ := chk_s h
    obtain ⟨σ12, eσ12, h⟩ := nm_s h
    refine V_st eσ12 ?_ (fun k => V_copy C (K0 := 21) (K1 := 11) ww_1046 w_copy (lt110 rfl) (lt110 rfl) rfl (fun _ => rfl) h11 (Nat.le_of_ble_eq_true rfl) (Nat.le_of_ble_eq_true rfl) (dt_at dt_X4_become_1 0 rfl) k)
    refine V_aload_n C (dt_at dt_X4_become_1 1 rfl) 1 rfl rfl ?_
    refine g_X4_34_2 C (dt_at dt_X4_become_1 2 rfl) ?_
    refine V_iconst C 0 (dt_at dt_X4_become_1 3 rfl) (by decide) ?_
    refine V_aload_n C (dt_at dt_X4_become_1 4 rfl) 0 rfl rfl ?_
    refine g_X4_34_1 C (dt_at dt_X4_become_1 5 rfl) ?_
    refine V_iconst C 0 (dt_at dt_X4_become_1 6 rfl) (by decide) ?_
    refine V_aload_n C (dt_at dt_X4_become_1 7 rfl) 0 rfl rfl ?_
    refine g_X4_18_1 C (dt_at dt_X4_become_1 8 rfl) ?_
    obtain ⟨h13, h⟩ := chk_s h
    obtain ⟨σ14, eσ14, h⟩ := nm_s h
    refine V_st eσ14 ?_ (fun k => V_copy C (K0 := 22) (K1 := 12) ww_1046 w_copy (lt110 rfl) (lt110 rfl) rfl (fun _ => rfl) h13 (Nat.le_of_ble_eq_true rfl) (Nat.le_of_ble_eq_true rfl) (dt_at dt_X4_become_1 9 rfl) k)
    refine V_aload_n C (dt_at dt_X4_become_1 10 rfl) 1 rfl rfl ?_
    refine g_X4_37_2 C (dt_at dt_X4_become_1 11 rfl) ?_
    refine V_iconst C 0 (dt_at dt_X4_become_1 12 rfl) (by decide) ?_
    refine V_aload_n C (dt_at dt_X4_become_1 13 rfl) 0 rfl rfl ?_
    refine g_X4_37_1 C (dt_at dt_X4_become_1 14 rfl) ?_
    refine V_iconst C 0 (dt_at dt_X4_become_1 15 rfl) (by decide) ?_
    refine V_aload_n C (dt_at dt_X4_become_1 16 rfl) 0 rfl rfl ?_
    refine g_X4_18_1 C (dt_at dt_X4_become_1 17 rfl) ?_
    obtain ⟨h15, h⟩ := chk_s h
    obtain ⟨σ16, eσ16, h⟩ := nm_s h
    refine V_st eσ16 ?_ (fun k => V_copy C (K0 := 23) (K1 := 13) ww_1046 w_copy (lt110 rfl) (lt110 rfl) rfl (fun _ => rfl) h15 (Nat.le_of_ble_eq_true rfl) (Nat.le_of_ble_eq_true rfl) (dt_at dt_X4_become_1 18 rfl) k)
    refine V_aload_n C (dt_at dt_X4_become_1 19 rfl) 1 rfl rfl ?_
    refine g_X4_40_2 C (dt_at dt_X4_become_1 20 rfl) ?_
    refine V_iconst C 0 (dt_at dt_X4_become_1 21 rfl) (by decide) ?_
    refine V_aload_n C (dt_at dt_X4_become_1 22 rfl) 0 rfl rfl ?_
    refine g_X4_40_1 C (dt_at dt_X4_become_1 23 rfl) ?_
    refine V_iconst C 0 (dt_at dt_X4_become_1 24 rfl) (by decide) ?_
    refine V_aload_n C (dt_at dt_X4_become_1 25 rfl) 0 rfl rfl ?_
    refine g_X4_18_1 C (dt_at dt_X4_become_1 26 rfl) ?_
    obtain ⟨h17, h⟩ := chk_s h
    obtain ⟨σ18, eσ18, h⟩ := nm_s h
    refine V_st eσ18 ?_ (fun k => V_copy C (K0 := 24) (K1 := 14) ww_1046 w_copy (lt110 rfl) (lt110 rfl) rfl (fun _ => rfl) h17 (Nat.le_of_ble_eq_true rfl) (Nat.le_of_ble_eq_true rfl) (dt_at dt_X4_become_1 27 rfl) k)
    refine V_aload_n C (dt_at dt_X4_become_1 28 rfl) 1 rfl rfl ?_
    refine g_X4_43_2 C (dt_at dt_X4_become_1 29 rfl) ?_
    refine V_iconst C 0 (dt_at dt_X4_become_1 30 rfl) (by decide) ?_
    refine V_aload_n C (dt_at dt_X4_become_1 31 rfl) 0 rfl rfl ?_
    refine g_X4_43_1 C (dt_at dt_X4_become_1 32 rfl) ?_
    refine V_iconst C 0 (dt_at dt_X4_become_1 33 rfl) (by decide) ?_
    refine V_aload_n C (dt_at dt_X4_become_1 34 rfl) 0 rfl rfl ?_
    refine g_X4_18_1 C (dt_at dt_X4_become_1 35 rfl) ?_
    obtain ⟨h19, h⟩ := chk_s h
    obtain ⟨σ20, eσ20, h⟩ := nm_s h
    refine V_st eσ20 ?_ (fun k => V_copy C (K0 := 25) (K1 := 15) ww_1046 w_copy (lt110 rfl) (lt110 rfl) rfl (fun _ => rfl) h19 (Nat.le_of_ble_eq_true rfl) (Nat.le_of_ble_eq_true rfl) (dt_at dt_X4_become_1 36 rfl) k)
    refine V_aload_n C (dt_at dt_X4_become_1 37 rfl) 1 rfl rfl ?_
    refine g_X4_46_2 C (dt_at dt_X4_become_1 38 rfl) ?_
    refine V_iconst C 0 (dt_at dt_X4_become_1 39 rfl) (by decide) ?_
    refine V_aload_n C (dt_at dt_X4_become_2 0 rfl) 0 rfl rfl ?_
    refine g_X4_46_1 C (dt_at dt_X4_become_2 1 rfl) ?_
    refine V_iconst C 0 (dt_at dt_X4_become_2 2 rfl) (by decide) ?_
    refine V_aload_n C (dt_at dt_X4_become_2 3 rfl) 0 rfl rfl ?_
    refine g_X4_21_1 C (dt_at dt_X4_become_2 4 rfl) ?_
    obtain ⟨h21, h⟩ := chk_s h
    obtain ⟨σ22, eσ22, h⟩ := nm_s h
    refine V_st eσ22 ?_ (fun k => V_copy C (K0 := 26) (K1 := 16) ww_1046 w_copy (lt110 rfl) (lt110 rfl) rfl (fun _ => rfl) h21 (Nat.le_of_ble_eq_true rfl) (Nat.le_of_ble_eq_true rfl) (dt_at dt_X4_become_2 5 rfl) k)
    refine V_aload_n C (dt_at dt_X4_become_2 6 rfl) 1 rfl rfl ?_
    refine g_X4_49_2 C (dt_at dt_X4_become_2 7 rfl) ?_
    refine V_iconst C 0 (dt_at dt_X4_become_2 8 rfl) (by decide) ?_
    refine V_aload_n C (dt_at dt_X4_become_2 9 rfl) 0 rfl rfl ?_
    refine g_X4_49_1 C (dt_at dt_X4_become_2 10 rfl) ?_
    refine V_iconst C 0 (dt_at dt_X4_become_2 11 rfl) (by decide) ?_
    refine V_aload_n C (dt_at dt_X4_become_2 12 rfl) 0 rfl rfl ?_
    refine g_X4_21_1 C (dt_at dt_X4_become_2 13 rfl) ?_
    obtain ⟨h23, h⟩ := chk_s h
    obtain ⟨σ24, eσ24, h⟩ := nm_s h
    refine V_st eσ24 ?_ (fun k => V_copy C (K0 := 27) (K1 := 17) ww_1046 w_copy (lt110 rfl) (lt110 rfl) rfl (fun _ => rfl) h23 (Nat.le_of_ble_eq_true rfl) (Nat.le_of_ble_eq_true rfl) (dt_at dt_X4_become_2 14 rfl) k)
    refine V_aload_n C (dt_at dt_X4_become_2 15 rfl) 1 rfl rfl ?_
    refine g_X4_52_2 C (dt_at dt_X4_become_2 16 rfl) ?_
    refine V_iconst C 0 (dt_at dt_X4_become_2 17 rfl) (by decide) ?_
    refine V_aload_n C (dt_at dt_X4_become_2 18 rfl) 0 rfl rfl ?_
    refine g_X4_52_1 C (dt_at dt_X4_become_2 19 rfl) ?_
    refine V_iconst C 0 (dt_at dt_X4_become_2 20 rfl) (by decide) ?_
    refine V_aload_n C (dt_at dt_X4_become_2 21 rfl) 0 rfl rfl ?_
    refine g_X4_21_1 C (dt_at dt_X4_become_2 22 rfl) ?_
    obtain ⟨h25, h⟩ := chk_s h
    obtain ⟨σ26, eσ26, h⟩ := nm_s h
    refine V_st eσ26 ?_ (fun k => V_copy C (K0 := 28) (K1 := 18) ww_1046 w_copy (lt110 rfl) (lt110 rfl) rfl (fun _ => rfl) h25 (Nat.le_of_ble_eq_true rfl) (Nat.le_of_ble_eq_true rfl) (dt_at dt_X4_become_2 23 rfl) k)
    refine V_aload_n C (dt_at dt_X4_become_2 24 rfl) 0 rfl rfl ?_
    refine g_X4_60_1 C (dt_at dt_X4_become_2 25 rfl) ?_
    refine V_aload_n C (dt_at dt_X4_become_2 26 rfl) 1 rfl rfl ?_
    refine g_X4_60_2 C (dt_at dt_X4_become_2 27 rfl) ?_
    obtain ⟨σ29, e28, h⟩ := bd_s h
    refine cv_X7_become C ww_1048 52 62 e28 (Nat.le_of_ble_eq_true rfl) (Nat.le_of_ble_eq_true rfl) z0 (dt_at dt_X4_become_2 28 rfl) ?_
    refine V_aload_n C (dt_at dt_X4_become_2 29 rfl) 0 rfl rfl ?_
    refine g_X4_64_1 C (dt_at dt_X4_become_2 30 rfl) ?_
    refine V_aload_n C (dt_at dt_X4_become_2 31 rfl) 1 rfl rfl ?_
    refine g_X4_64_2 C (dt_at dt_X4_become_2 32 rfl) ?_
    obtain ⟨σ32, e31, h⟩ := bd_s h
    refine cv_X7_become C ww_1048 54 64 e31 (Nat.le_of_ble_eq_true rfl) (Nat.le_of_ble_eq_true rfl) z0 (dt_at dt_X4_become_2 33 rfl) ?_
    refine V_iconst C 0 (dt_at dt_X4_become_2 34 rfl) (by decide) ?_
    refine V_istore_n C [1, 2, 0] (lv' := [(0, .ref (ga G 1)), (1, .ref (ga G 2)), (2, .int 0)]) (dt_at dt_X4_become_2 35 rfl) rfl (by decide) rfl ?_
    exact J_220 0 σ32 h
  have J_34 : ∀ (x2 : Int32) (σ : St), f_X4_become_1_34 x2 σ = some σ0 → V X G 3 0 0 σ 34 [(0, .ref (ga G 1)), (1, .ref (ga G 2)), (2, .int x2)] [] := by
    intro x2 σ h
    refine it_v (P := fun z : Int32 × St => V X G 3 0 0 z.2 34 [(0, .ref (ga G 1)), (1, .ref (ga G 2)), (2, .int z.1)] []) ?_ (x2, σ) h
    clear h
    intro z w_34 h ih_34 ex_34
    obtain ⟨x2, σ⟩ := z
    have h : b_X4_become_1_34 x2 σ = some w_34 := h
    show V X G 3 0 0 σ 34 [(0, .ref (ga G 1)), (1, .ref (ga G 2)), (2, .int x2)] []
    unfold b_X4_become_1_34 at h
    refine V_iload_n C (dt_at dt_X4_become_0 18 rfl) 2 rfl rfl ?_
    refine V_aload_n C (dt_at dt_X4_become_0 19 rfl) 0 rfl rfl ?_
    refine g_X4_15_1 C (dt_at dt_X4_become_0 20 rfl) ?_
    refine V_icmp_ge C 60 (dt_at dt_X4_become_0 21 rfl) (by decide) (fun q5 => ?_) (fun q5 => ?_)
    · have h := ite_f q5 h
      refine V_sub [0, 1] (lv' := [(0, .ref (ga G 1)), (1, .ref (ga G 2))]) rfl ?_
      obtain ⟨t6, h, e_34⟩ := map_s h
      have e_34 := ex_34 _ e_34
      rw [e_34] at h
      exact J_60 σ h
    · have h := ite_t q5 h
      refine V_aload_n C (dt_at dt_X4_become_0 22 rfl) 0 rfl rfl ?_
      refine g_X4_26_1 C (dt_at dt_X4_become_0 23 rfl) ?_
      refine V_iload_n C (dt_at dt_X4_become_0 24 rfl) 2 rfl rfl ?_
      refine V_aload_n C (dt_at dt_X4_become_0 25 rfl) 1 rfl rfl ?_
      refine g_X4_26_2 C (dt_at dt_X4_become_0 26 rfl) ?_
      refine V_iload_n C (dt_at dt_X4_become_0 27 rfl) 2 rfl rfl ?_
      obtain ⟨h7, h⟩ := chk_s h
      obtain ⟨h8, h⟩ := chk_s h
      refine V_aaR20 C h7 h8 (dt_at dt_X4_become_0 28 rfl) ?_
      obtain ⟨h9, h⟩ := chk_s h
      obtain ⟨σ10, eσ10, h⟩ := nm_s h
      refine V_st eσ10 ?_ (fun k => V_aastR10 C (K := (rd σ 20 x2).toNatClampNeg) h8 (of_decide_eq_true h9) h7 (dt_at dt_X4_become_0 29 rfl) k)
      refine V_iinc C (x2 + 1) 2 [1, 2, 0] (lv' := [(0, .ref (ga G 1)), (1, .ref (ga G 2)), (2, .int (x2 + 1))]) (dt_at dt_X4_become_0 30 rfl) rfl (by rfl) (by decide) rfl ?_
      refine V_goto C 34 (dt_at dt_X4_become_0 31 rfl) (by decide) ?_
      exact ih_34 ((x2 + 1), σ10) (Option.some.inj h).symm
  refine V_aload_n C (dt_at dt_X4_become_0 0 rfl) 0 rfl rfl ?_
  refine V_aload_n C (dt_at dt_X4_become_0 1 rfl) 1 rfl rfl ?_
  refine g_X4_9_2 C (dt_at dt_X4_become_0 2 rfl) ?_
  obtain ⟨σ1, eσ1, h⟩ := nm_s h
  refine V_st eσ1 ?_ (fun k => p_X4_9_1 C (dt_at dt_X4_become_0 3 rfl) k)
  refine V_aload_n C (dt_at dt_X4_become_0 4 rfl) 0 rfl rfl ?_
  refine V_aload_n C (dt_at dt_X4_become_0 5 rfl) 1 rfl rfl ?_
  refine g_X4_15_2 C (dt_at dt_X4_become_0 6 rfl) ?_
  obtain ⟨σ2, eσ2, h⟩ := nm_s h
  refine V_st eσ2 ?_ (fun k => p_X4_15_1 C (dt_at dt_X4_become_0 7 rfl) k)
  refine V_aload_n C (dt_at dt_X4_become_0 8 rfl) 0 rfl rfl ?_
  refine V_aload_n C (dt_at dt_X4_become_0 9 rfl) 1 rfl rfl ?_
  refine g_X4_18_2 C (dt_at dt_X4_become_0 10 rfl) ?_
  obtain ⟨σ3, eσ3, h⟩ := nm_s h
  refine V_st eσ3 ?_ (fun k => p_X4_18_1 C (dt_at dt_X4_become_0 11 rfl) k)
  refine V_aload_n C (dt_at dt_X4_become_0 12 rfl) 0 rfl rfl ?_
  refine V_aload_n C (dt_at dt_X4_become_0 13 rfl) 1 rfl rfl ?_
  refine g_X4_21_2 C (dt_at dt_X4_become_0 14 rfl) ?_
  obtain ⟨σ4, eσ4, h⟩ := nm_s h
  refine V_st eσ4 ?_ (fun k => p_X4_21_1 C (dt_at dt_X4_become_0 15 rfl) k)
  refine V_iconst C 0 (dt_at dt_X4_become_0 16 rfl) (by decide) ?_
  refine V_istore_n C [1, 2, 0] (lv' := [(0, .ref (ga G 1)), (1, .ref (ga G 2)), (2, .int 0)]) (dt_at dt_X4_become_0 17 rfl) rfl (by decide) rfl ?_
  exact J_34 0 σ4 h
theorem cv_X4_become_1 (C : Ck X G cc own nL d) {idx : Nat} (hlk : Cond.methodLink own idx yX4_become ∈ gtb) {σ0 : St} (e : f_X4_become_1 σ = some σ0) (hdd : 3 ≤ d) (hroom : (rest.map fun v => v.category).sum ≤ 8) (hcs : cells ≤ (xR X).cells ∧ slots ≤ (xR X).slots) (hd : decode cc pc = .ok (.invokevirtual idx, 3)) (k : V X G nL cells slots σ0 (pc + 3) lv (rest)) : V X G nL cells slots σ pc lv (.ref (ga G 2) :: .ref (ga G 1) :: rest) := V_callV C (As := [.ref (ga G 2)]) (c_X4_become_1 X.2.1 G  σ σ0 e) cal_X4_become ww_1051 ww_1052 hlk rfl hdd (lt110 rfl) rfl rfl rfl hroom hcs hd k
noncomputable def b_X4_become_2_220 (x2 : Int32) (σ : St) : Option ((Int32 × St) ⊕ (St)) :=
  if x2 < 3 then
  (chk (inb x2 3) <|
  bd (f_X7_become (66 + 2 * x2.toNatClampNeg) (56 + 2 * x2.toNatClampNeg) σ) fun σ39 =>
  some (.inl ((x2 + 1), σ39)))
  else
  (some (.inr (σ)))
noncomputable def f_X4_become_2_220 (x2 : Int32) (σ : St) : Option (St) := it (fun z : Int32 × St => b_X4_become_2_220 z.1 z.2) (x2, σ)
noncomputable def f_X4_become_2_60 (σ : St) : Option (St) :=
  chk (cpok 0 0 (fd σ 2 1) 10 10) <|
  nm (cpy σ 11 0 21 0 (fd σ 2 1)) fun σ12 =>
  chk (cpok 0 0 (fd σ12 2 2) 40 40) <|
  nm (cpy σ12 12 0 22 0 (fd σ12 2 2)) fun σ14 =>
  chk (cpok 0 0 (fd σ14 2 2) 40 40) <|
  nm (cpy σ14 13 0 23 0 (fd σ14 2 2)) fun σ16 =>
  chk (cpok 0 0 (fd σ16 2 2) 40 40) <|
  nm (cpy σ16 14 0 24 0 (fd σ16 2 2)) fun σ18 =>
  chk (cpok 0 0 (fd σ18 2 2) 40 40) <|
  nm (cpy σ18 15 0 25 0 (fd σ18 2 2)) fun σ20 =>
  chk (cpok 0 0 (fd σ20 2 3) 6 6) <|
  nm (cpy σ20 16 0 26 0 (fd σ20 2 3)) fun σ22 =>
  chk (cpok 0 0 (fd σ22 2 3) 6 6) <|
  nm (cpy σ22 17 0 27 0 (fd σ22 2 3)) fun σ24 =>
  chk (cpok 0 0 (fd σ24 2 3) 6 6) <|
  nm (cpy σ24 18 0 28 0 (fd σ24 2 3)) fun σ26 =>
  bd (f_X7_become 62 52 σ26) fun σ29 =>
  bd (f_X7_become 64 54 σ29) fun σ32 =>
  f_X4_become_2_220 0 σ32
noncomputable def b_X4_become_2_34 (x2 : Int32) (σ : St) : Option ((Int32 × St) ⊕ (St)) :=
  if x2 < (fd σ 2 1) then
  (chk (inb x2 10) <|
  chk (isRole σ ((rd σ 10 x2).toNatClampNeg)) <|
  chk (decide ((rd σ 10 x2).toNatClampNeg < 2 ^ 31)) <|
  nm (wr σ 20 x2 (nI ((rd σ 10 x2).toNatClampNeg))) fun σ10 =>
  some (.inl ((x2 + 1), σ10)))
  else
  ((f_X4_become_2_60 σ).map .inr)
noncomputable def f_X4_become_2_34 (x2 : Int32) (σ : St) : Option (St) := it (fun z : Int32 × St => b_X4_become_2_34 z.1 z.2) (x2, σ)
noncomputable def f_X4_become_2 (σ : St) : Option (St) :=
  nm (fw σ 2 0 (fd σ 1 0)) fun σ1 =>
  nm (fw σ1 2 1 (fd σ1 1 1)) fun σ2 =>
  nm (fw σ2 2 2 (fd σ2 1 2)) fun σ3 =>
  nm (fw σ3 2 3 (fd σ3 1 3)) fun σ4 =>
  f_X4_become_2_34 0 σ4
set_option maxHeartbeats 4000000 in
set_option maxRecDepth 100000 in
theorem c_X4_become_2 (l : Launch) (G : Gx) (σ : St) (σ0 : St) (h : f_X4_become_2 σ = some σ0) : MI l G yX4_become cX4_become 3 none 2 [.ref (ga G 2), .ref (ga G 1)] σ none σ0 := by
  refine MI_of RX4 rfl (by decide) [(0, .ref (ga G 2)), (1, .ref (ga G 1))] rfl (Nat.le_of_ble_eq_true rfl) ?_
  intro X hXl C hR
  unfold f_X4_become_2 at h
  have J_220 : ∀ (x2 : Int32) (σ : St), f_X4_become_2_220 x2 σ = some σ0 → V X G 3 0 0 σ 220 [(0, .ref (ga G 2)), (1, .ref (ga G 1)), (2, .int x2)] [] := by
    intro x2 σ h
    refine it_v (P := fun z : Int32 × St => V X G 3 0 0 z.2 220 [(0, .ref (ga G 2)), (1, .ref (ga G 1)), (2, .int z.1)] []) ?_ (x2, σ) h
    clear h
    intro z w_220 h ih_220 ex_220
    obtain ⟨x2, σ⟩ := z
    have h : b_X4_become_2_220 x2 σ = some w_220 := h
    show V X G 3 0 0 σ 220 [(0, .ref (ga G 2)), (1, .ref (ga G 1)), (2, .int x2)] []
    unfold b_X4_become_2_220 at h
    refine V_iload_n C (dt_at dt_X4_become_2 36 rfl) 2 rfl rfl ?_
    refine V_iconst C 3 (dt_at dt_X4_become_2 37 rfl) (by decide) ?_
    refine V_icmp_ge C 246 (dt_at dt_X4_become_2 38 rfl) (by decide) (fun q33 => ?_) (fun q33 => ?_)
    · have h := ite_f q33 h
      have e_220 := ex_220 _ (Option.some.inj h).symm
      subst e_220
      exact V_vret C hR (dt_at dt_X4_become_3 10 rfl)
    · have h := ite_t q33 h
      refine V_aload_n C (dt_at dt_X4_become_2 39 rfl) 0 rfl rfl ?_
      refine g_X4_67_2 C (dt_at dt_X4_become_3 0 rfl) ?_
      refine V_iload_n C (dt_at dt_X4_become_3 1 rfl) 2 rfl rfl ?_
      obtain ⟨h34, h⟩ := chk_s h
      refine V_aa29 C h34 (dt_at dt_X4_become_3 2 rfl) ?_
      have h35 : isRow (66 + 2 * x2.toNatClampNeg) = true := ok_29 h34
      refine V_aload_n C (dt_at dt_X4_become_3 3 rfl) 1 rfl rfl ?_
      refine g_X4_67_1 C (dt_at dt_X4_become_3 4 rfl) ?_
      refine V_iload_n C (dt_at dt_X4_become_3 5 rfl) 2 rfl rfl ?_
      refine V_aa19 C h34 (dt_at dt_X4_become_3 6 rfl) ?_
      have h36 : isRow (56 + 2 * x2.toNatClampNeg) = true := ok_19 h34
      obtain ⟨σ39, e38, h⟩ := bd_s h
      refine cv_X7_become C ww_1048 (66 + 2 * x2.toNatClampNeg) (56 + 2 * x2.toNatClampNeg) e38 (Nat.le_of_ble_eq_true rfl) (Nat.le_of_ble_eq_true rfl) z0 (dt_at dt_X4_become_3 7 rfl) ?_
      refine V_iinc C (x2 + 1) 2 [1, 2, 0] (lv' := [(0, .ref (ga G 2)), (1, .ref (ga G 1)), (2, .int (x2 + 1))]) (dt_at dt_X4_become_3 8 rfl) rfl (by rfl) (by decide) rfl ?_
      refine V_goto C 220 (dt_at dt_X4_become_3 9 rfl) (by decide) ?_
      exact ih_220 ((x2 + 1), σ39) (Option.some.inj h).symm
  have J_60 : ∀ (σ : St), f_X4_become_2_60 σ = some σ0 → V X G 3 0 0 σ 60 [(0, .ref (ga G 2)), (1, .ref (ga G 1))] [] := by
    intro σ h
    unfold f_X4_become_2_60 at h
    refine V_aload_n C (dt_at dt_X4_become_0 32 rfl) 1 rfl rfl ?_
    refine g_X4_30_1 C (dt_at dt_X4_become_0 33 rfl) ?_
    refine V_iconst C 0 (dt_at dt_X4_become_0 34 rfl) (by decide) ?_
    refine V_aload_n C (dt_at dt_X4_become_0 35 rfl) 0 rfl rfl ?_
    refine g_X4_30_2 C (dt_at dt_X4_become_0 36 rfl) ?_
    refine V_iconst C 0 (dt_at dt_X4_become_0 37 rfl) (by decide) ?_
    refine V_aload_n C (dt_at dt_X4_become_0 38 rfl) 0 rfl rfl ?_
    refine g_X4_15_2 C (dt_at dt_X4_become_0 39 rfl) ?_
    obtain ⟨h11, h⟩ := chk_s h
    obtain ⟨σ12, eσ12, h⟩ := nm_s h
    refine V_st eσ12 ?_ (fun k => V_copy C (K0 := 11) (K1 := 21) ww_1046 w_copy (lt110 rfl) (lt110 rfl) rfl (fun _ => rfl) h11 (Nat.le_of_ble_eq_true rfl) (Nat.le_of_ble_eq_true rfl) (dt_at dt_X4_become_1 0 rfl) k)
    refine V_aload_n C (dt_at dt_X4_become_1 1 rfl) 1 rfl rfl ?_
    refine g_X4_34_1 C (dt_at dt_X4_become_1 2 rfl) ?_
    refine V_iconst C 0 (dt_at dt_X4_become_1 3 rfl) (by decide) ?_
    refine V_aload_n C (dt_at dt_X4_become_1 4 rfl) 0 rfl rfl ?_
    refine g_X4_34_2 C (dt_at dt_X4_become_1 5 rfl) ?_
    refine V_iconst C 0 (dt_at dt_X4_become_1 6 rfl) (by decide) ?_
    refine V_aload_n C (dt_at dt_X4_become_1 7 rfl) 0 rfl rfl ?_
    refine g_X4_18_2 C (dt_at dt_X4_become_1 8 rfl) ?_
    obtain ⟨h13, h⟩ := chk_s h
    obtain ⟨σ14, eσ14, h⟩ := nm_s h
    refine V_st eσ14 ?_ (fun k => V_copy C (K0 := 12) (K1 := 22) ww_1046 w_copy (lt110 rfl) (lt110 rfl) rfl (fun _ => rfl) h13 (Nat.le_of_ble_eq_true rfl) (Nat.le_of_ble_eq_true rfl) (dt_at dt_X4_become_1 9 rfl) k)
    refine V_aload_n C (dt_at dt_X4_become_1 10 rfl) 1 rfl rfl ?_
    refine g_X4_37_1 C (dt_at dt_X4_become_1 11 rfl) ?_
    refine V_iconst C 0 (dt_at dt_X4_become_1 12 rfl) (by decide) ?_
    refine V_aload_n C (dt_at dt_X4_become_1 13 rfl) 0 rfl rfl ?_
    refine g_X4_37_2 C (dt_at dt_X4_become_1 14 rfl) ?_
    refine V_iconst C 0 (dt_at dt_X4_become_1 15 rfl) (by decide) ?_
    refine V_aload_n C (dt_at dt_X4_become_1 16 rfl) 0 rfl rfl ?_
    refine g_X4_18_2 C (dt_at dt_X4_become_1 17 rfl) ?_
    obtain ⟨h15, h⟩ := chk_s h
    obtain ⟨σ16, eσ16, h⟩ := nm_s h
    refine V_st eσ16 ?_ (fun k => V_copy C (K0 := 13) (K1 := 23) ww_1046 w_copy (lt110 rfl) (lt110 rfl) rfl (fun _ => rfl) h15 (Nat.le_of_ble_eq_true rfl) (Nat.le_of_ble_eq_true rfl) (dt_at dt_X4_become_1 18 rfl) k)
    refine V_aload_n C (dt_at dt_X4_become_1 19 rfl) 1 rfl rfl ?_
    refine g_X4_40_1 C (dt_at dt_X4_become_1 20 rfl) ?_
    refine V_iconst C 0 (dt_at dt_X4_become_1 21 rfl) (by decide) ?_
    refine V_aload_n C (dt_at dt_X4_become_1 22 rfl) 0 rfl rfl ?_
    refine g_X4_40_2 C (dt_at dt_X4_become_1 23 rfl) ?_
    refine V_iconst C 0 (dt_at dt_X4_become_1 24 rfl) (by decide) ?_
    refine V_aload_n C (dt_at dt_X4_become_1 25 rfl) 0 rfl rfl ?_
    refine g_X4_18_2 C (dt_at dt_X4_become_1 26 rfl) ?_
    obtain ⟨h17, h⟩ := chk_s h
    obtain ⟨σ18, eσ18, h⟩ := nm_s h
    refine V_st eσ18 ?_ (fun k => V_copy C (K0 := 14) (K1 := 24) ww_1046 w_copy (lt110 rfl) (lt110 rfl) rfl (fun _ => rfl) h17 (Nat.le_of_ble_eq_true rfl) (Nat.le_of_ble_eq_true rfl) (dt_at dt_X4_become_1 27 rfl) k)
    refine V_aload_n C (dt_at dt_X4_become_1 28 rfl) 1 rfl rfl ?_
    refine g_X4_43_1 C (dt_at dt_X4_become_1 29 rfl) ?_
    refine V_iconst C 0 (dt_at dt_X4_become_1 30 rfl) (by decide) ?_
    refine V_aload_n C (dt_at dt_X4_become_1 31 rfl) 0 rfl rfl ?_
    refine g_X4_43_2 C (dt_at dt_X4_become_1 32 rfl) ?_
    refine V_iconst C 0 (dt_at dt_X4_become_1 33 rfl) (by decide) ?_
    refine V_aload_n C (dt_at dt_X4_become_1 34 rfl) 0 rfl rfl ?_
    refine g_X4_18_2 C (dt_at dt_X4_become_1 35 rfl) ?_
    obtain ⟨h19, h⟩ := chk_s h
    obtain ⟨σ20, eσ20, h⟩ := nm_s h
    refine V_st eσ20 ?_ (fun k => V_copy C (K0 := 15) (K1 := 25) ww_1046 w_copy (lt110 rfl) (lt110 rfl) rfl (fun _ => rfl) h19 (Nat.le_of_ble_eq_true rfl) (Nat.le_of_ble_eq_true rfl) (dt_at dt_X4_become_1 36 rfl) k)
    refine V_aload_n C (dt_at dt_X4_become_1 37 rfl) 1 rfl rfl ?_
    refine g_X4_46_1 C (dt_at dt_X4_become_1 38 rfl) ?_
    refine V_iconst C 0 (dt_at dt_X4_become_1 39 rfl) (by decide) ?_
    refine V_aload_n C (dt_at dt_X4_become_2 0 rfl) 0 rfl rfl ?_
    refine g_X4_46_2 C (dt_at dt_X4_become_2 1 rfl) ?_
    refine V_iconst C 0 (dt_at dt_X4_become_2 2 rfl) (by decide) ?_
    refine V_aload_n C (dt_at dt_X4_become_2 3 rfl) 0 rfl rfl ?_
    refine g_X4_21_2 C (dt_at dt_X4_become_2 4 rfl) ?_
    obtain ⟨h21, h⟩ := chk_s h
    obtain ⟨σ22, eσ22, h⟩ := nm_s h
    refine V_st eσ22 ?_ (fun k => V_copy C (K0 := 16) (K1 := 26) ww_1046 w_copy (lt110 rfl) (lt110 rfl) rfl (fun _ => rfl) h21 (Nat.le_of_ble_eq_true rfl) (Nat.le_of_ble_eq_true rfl) (dt_at dt_X4_become_2 5 rfl) k)
    refine V_aload_n C (dt_at dt_X4_become_2 6 rfl) 1 rfl rfl ?_
    refine g_X4_49_1 C (dt_at dt_X4_become_2 7 rfl) ?_
    refine V_iconst C 0 (dt_at dt_X4_become_2 8 rfl) (by decide) ?_
    refine V_aload_n C (dt_at dt_X4_become_2 9 rfl) 0 rfl rfl ?_
    refine g_X4_49_2 C (dt_at dt_X4_become_2 10 rfl) ?_
    refine V_iconst C 0 (dt_at dt_X4_become_2 11 rfl) (by decide) ?_
    refine V_aload_n C (dt_at dt_X4_become_2 12 rfl) 0 rfl rfl ?_
    refine g_X4_21_2 C (dt_at dt_X4_become_2 13 rfl) ?_
    obtain ⟨h23, h⟩ := chk_s h
    obtain ⟨σ24, eσ24, h⟩ := nm_s h
    refine V_st eσ24 ?_ (fun k => V_copy C (K0 := 17) (K1 := 27) ww_1046 w_copy (lt110 rfl) (lt110 rfl) rfl (fun _ => rfl) h23 (Nat.le_of_ble_eq_true rfl) (Nat.le_of_ble_eq_true rfl) (dt_at dt_X4_become_2 14 rfl) k)
    refine V_aload_n C (dt_at dt_X4_become_2 15 rfl) 1 rfl rfl ?_
    refine g_X4_52_1 C (dt_at dt_X4_become_2 16 rfl) ?_
    refine V_iconst C 0 (dt_at dt_X4_become_2 17 rfl) (by decide) ?_
    refine V_aload_n C (dt_at dt_X4_become_2 18 rfl) 0 rfl rfl ?_
    refine g_X4_52_2 C (dt_at dt_X4_become_2 19 rfl) ?_
    refine V_iconst C 0 (dt_at dt_X4_become_2 20 rfl) (by decide) ?_
    refine V_aload_n C (dt_at dt_X4_become_2 21 rfl) 0 rfl rfl ?_
    refine g_X4_21_2 C (dt_at dt_X4_become_2 22 rfl) ?_
    obtain ⟨h25, h⟩ := chk_s h
    obtain ⟨σ26, eσ26, h⟩ := nm_s h
    refine V_st eσ26 ?_ (fun k => V_copy C (K0 := 18) (K1 := 28) ww_1046 w_copy (lt110 rfl) (lt110 rfl) rfl (fun _ => rfl) h25 (Nat.le_of_ble_eq_true rfl) (Nat.le_of_ble_eq_true rfl) (dt_at dt_X4_become_2 23 rfl) k)
    refine V_aload_n C (dt_at dt_X4_become_2 24 rfl) 0 rfl rfl ?_
    refine g_X4_60_2 C (dt_at dt_X4_become_2 25 rfl) ?_
    refine V_aload_n C (dt_at dt_X4_become_2 26 rfl) 1 rfl rfl ?_
    refine g_X4_60_1 C (dt_at dt_X4_become_2 27 rfl) ?_
    obtain ⟨σ29, e28, h⟩ := bd_s h
    refine cv_X7_become C ww_1048 62 52 e28 (Nat.le_of_ble_eq_true rfl) (Nat.le_of_ble_eq_true rfl) z0 (dt_at dt_X4_become_2 28 rfl) ?_
    refine V_aload_n C (dt_at dt_X4_become_2 29 rfl) 0 rfl rfl ?_
    refine g_X4_64_2 C (dt_at dt_X4_become_2 30 rfl) ?_
    refine V_aload_n C (dt_at dt_X4_become_2 31 rfl) 1 rfl rfl ?_
    refine g_X4_64_1 C (dt_at dt_X4_become_2 32 rfl) ?_
    obtain ⟨σ32, e31, h⟩ := bd_s h
    refine cv_X7_become C ww_1048 64 54 e31 (Nat.le_of_ble_eq_true rfl) (Nat.le_of_ble_eq_true rfl) z0 (dt_at dt_X4_become_2 33 rfl) ?_
    refine V_iconst C 0 (dt_at dt_X4_become_2 34 rfl) (by decide) ?_
    refine V_istore_n C [1, 2, 0] (lv' := [(0, .ref (ga G 2)), (1, .ref (ga G 1)), (2, .int 0)]) (dt_at dt_X4_become_2 35 rfl) rfl (by decide) rfl ?_
    exact J_220 0 σ32 h
  have J_34 : ∀ (x2 : Int32) (σ : St), f_X4_become_2_34 x2 σ = some σ0 → V X G 3 0 0 σ 34 [(0, .ref (ga G 2)), (1, .ref (ga G 1)), (2, .int x2)] [] := by
    intro x2 σ h
    refine it_v (P := fun z : Int32 × St => V X G 3 0 0 z.2 34 [(0, .ref (ga G 2)), (1, .ref (ga G 1)), (2, .int z.1)] []) ?_ (x2, σ) h
    clear h
    intro z w_34 h ih_34 ex_34
    obtain ⟨x2, σ⟩ := z
    have h : b_X4_become_2_34 x2 σ = some w_34 := h
    show V X G 3 0 0 σ 34 [(0, .ref (ga G 2)), (1, .ref (ga G 1)), (2, .int x2)] []
    unfold b_X4_become_2_34 at h
    refine V_iload_n C (dt_at dt_X4_become_0 18 rfl) 2 rfl rfl ?_
    refine V_aload_n C (dt_at dt_X4_become_0 19 rfl) 0 rfl rfl ?_
    refine g_X4_15_2 C (dt_at dt_X4_become_0 20 rfl) ?_
    refine V_icmp_ge C 60 (dt_at dt_X4_become_0 21 rfl) (by decide) (fun q5 => ?_) (fun q5 => ?_)
    · have h := ite_f q5 h
      refine V_sub [0, 1] (lv' := [(0, .ref (ga G 2)), (1, .ref (ga G 1))]) rfl ?_
      obtain ⟨t6, h, e_34⟩ := map_s h
      have e_34 := ex_34 _ e_34
      rw [e_34] at h
      exact J_60 σ h
    · have h := ite_t q5 h
      refine V_aload_n C (dt_at dt_X4_become_0 22 rfl) 0 rfl rfl ?_
      refine g_X4_26_2 C (dt_at dt_X4_become_0 23 rfl) ?_
      refine V_iload_n C (dt_at dt_X4_become_0 24 rfl) 2 rfl rfl ?_
      refine V_aload_n C (dt_at dt_X4_become_0 25 rfl) 1 rfl rfl ?_
      refine g_X4_26_1 C (dt_at dt_X4_become_0 26 rfl) ?_
      refine V_iload_n C (dt_at dt_X4_become_0 27 rfl) 2 rfl rfl ?_
      obtain ⟨h7, h⟩ := chk_s h
      obtain ⟨h8, h⟩ := chk_s h
      refine V_aaR10 C h7 h8 (dt_at dt_X4_become_0 28 rfl) ?_
      obtain ⟨h9, h⟩ := chk_s h
      obtain ⟨σ10, eσ10, h⟩ := nm_s h
      refine V_st eσ10 ?_ (fun k => V_aastR20 C (K := (rd σ 10 x2).toNatClampNeg) h8 (of_decide_eq_true h9) h7 (dt_at dt_X4_become_0 29 rfl) k)
      refine V_iinc C (x2 + 1) 2 [1, 2, 0] (lv' := [(0, .ref (ga G 2)), (1, .ref (ga G 1)), (2, .int (x2 + 1))]) (dt_at dt_X4_become_0 30 rfl) rfl (by rfl) (by decide) rfl ?_
      refine V_goto C 34 (dt_at dt_X4_become_0 31 rfl) (by decide) ?_
      exact ih_34 ((x2 + 1), σ10) (Option.some.inj h).symm
  refine V_aload_n C (dt_at dt_X4_become_0 0 rfl) 0 rfl rfl ?_
  refine V_aload_n C (dt_at dt_X4_become_0 1 rfl) 1 rfl rfl ?_
  refine g_X4_9_1 C (dt_at dt_X4_become_0 2 rfl) ?_
  obtain ⟨σ1, eσ1, h⟩ := nm_s h
  refine V_st eσ1 ?_ (fun k => p_X4_9_2 C (dt_at dt_X4_become_0 3 rfl) k)
  refine V_aload_n C (dt_at dt_X4_become_0 4 rfl) 0 rfl rfl ?_
  refine V_aload_n C (dt_at dt_X4_become_0 5 rfl) 1 rfl rfl ?_
  refine g_X4_15_1 C (dt_at dt_X4_become_0 6 rfl) ?_
  obtain ⟨σ2, eσ2, h⟩ := nm_s h
  refine V_st eσ2 ?_ (fun k => p_X4_15_2 C (dt_at dt_X4_become_0 7 rfl) k)
  refine V_aload_n C (dt_at dt_X4_become_0 8 rfl) 0 rfl rfl ?_
  refine V_aload_n C (dt_at dt_X4_become_0 9 rfl) 1 rfl rfl ?_
  refine g_X4_18_1 C (dt_at dt_X4_become_0 10 rfl) ?_
  obtain ⟨σ3, eσ3, h⟩ := nm_s h
  refine V_st eσ3 ?_ (fun k => p_X4_18_2 C (dt_at dt_X4_become_0 11 rfl) k)
  refine V_aload_n C (dt_at dt_X4_become_0 12 rfl) 0 rfl rfl ?_
  refine V_aload_n C (dt_at dt_X4_become_0 13 rfl) 1 rfl rfl ?_
  refine g_X4_21_1 C (dt_at dt_X4_become_0 14 rfl) ?_
  obtain ⟨σ4, eσ4, h⟩ := nm_s h
  refine V_st eσ4 ?_ (fun k => p_X4_21_2 C (dt_at dt_X4_become_0 15 rfl) k)
  refine V_iconst C 0 (dt_at dt_X4_become_0 16 rfl) (by decide) ?_
  refine V_istore_n C [1, 2, 0] (lv' := [(0, .ref (ga G 2)), (1, .ref (ga G 1)), (2, .int 0)]) (dt_at dt_X4_become_0 17 rfl) rfl (by decide) rfl ?_
  exact J_34 0 σ4 h
theorem cv_X4_become_2 (C : Ck X G cc own nL d) {idx : Nat} (hlk : Cond.methodLink own idx yX4_become ∈ gtb) {σ0 : St} (e : f_X4_become_2 σ = some σ0) (hdd : 3 ≤ d) (hroom : (rest.map fun v => v.category).sum ≤ 8) (hcs : cells ≤ (xR X).cells ∧ slots ≤ (xR X).slots) (hd : decode cc pc = .ok (.invokevirtual idx, 3)) (k : V X G nL cells slots σ0 (pc + 3) lv (rest)) : V X G nL cells slots σ pc lv (.ref (ga G 1) :: .ref (ga G 2) :: rest) := V_callV C (As := [.ref (ga G 1)]) (c_X4_become_2 X.2.1 G  σ σ0 e) cal_X4_become ww_1051 ww_1052 hlk rfl hdd (lt110 rfl) rfl rfl rfl hroom hcs hd k
noncomputable def f_X4_addPart (c1 : Nat) (σ : St) : Option (Int32 × St) :=
  chk (inb (fd σ 1 1) 10) <|
  chk (isRole σ c1) <|
  chk (decide (c1 < 2 ^ 31)) <|
  nm (wr σ 10 (fd σ 1 1) (nI c1)) fun σ4 =>
  chk (inb (fd σ4 1 1) 10) <|
  nm (wr σ4 11 (fd σ4 1 1) (-1)) fun σ5 =>
  nm (fw σ5 1 1 ((fd σ5 1 1) + 1)) fun σ7 =>
  some (((fd σ7 1 1) - 1), σ7)
theorem dt_X4_addPart_0 : dtab cX4_addPart [(0, .aload_n 0, 1), (1, .getfield 26, 3), (4, .aload_n 0, 1), (5, .getfield 15, 3), (8, .aload_n 1, 1), (9, .aastore, 1), (10, .aload_n 0, 1), (11, .getfield 30, 3), (14, .aload_n 0, 1), (15, .getfield 15, 3), (18, .iconst (-1), 1), (19, .iastore, 1), (20, .aload_n 0, 1), (21, .dup, 1), (22, .getfield 15, 3), (25, .iconst 1, 1), (26, .iadd, 1), (27, .putfield 15, 3), (30, .aload_n 0, 1), (31, .getfield 15, 3), (34, .iconst 1, 1), (35, .isub, 1), (36, .ireturn, 1)] = true := by decide +kernel
theorem cal_X4_addPart : Cal yX4_addPart cX4_addPart 2 (some .int) 1 := ⟨ww_1053, ww_92, ⟨by decide, by decide, by decide⟩, by decide⟩
set_option maxHeartbeats 4000000 in
set_option maxRecDepth 100000 in
theorem c_X4_addPart (l : Launch) (G : Gx) (c1 : Nat) (σ : St) (r0 : Int32) (σ0 : St) (h : f_X4_addPart c1 σ = some (r0, σ0)) : MI l G yX4_addPart cX4_addPart 2 (some .int) 1 [.ref (ga G 1), .ref (ga G c1)] σ (some (.int r0)) σ0 := by
  refine MI_of RX4 rfl (by decide) [(0, .ref (ga G 1)), (1, .ref (ga G c1))] rfl (Nat.le_of_ble_eq_true rfl) ?_
  intro X hXl C hR
  unfold f_X4_addPart at h
  refine V_aload_n C (dt_at dt_X4_addPart_0 0 rfl) 0 rfl rfl ?_
  refine g_X4_26_1 C (dt_at dt_X4_addPart_0 1 rfl) ?_
  refine V_aload_n C (dt_at dt_X4_addPart_0 2 rfl) 0 rfl rfl ?_
  refine g_X4_15_1 C (dt_at dt_X4_addPart_0 3 rfl) ?_
  refine V_aload_n C (dt_at dt_X4_addPart_0 4 rfl) 1 rfl rfl ?_
  obtain ⟨h1, h⟩ := chk_s h
  obtain ⟨h2, h⟩ := chk_s h
  obtain ⟨h3, h⟩ := chk_s h
  obtain ⟨σ4, eσ4, h⟩ := nm_s h
  refine V_st eσ4 ?_ (fun k => V_aastR10 C (K := c1) h2 (of_decide_eq_true h3) h1 (dt_at dt_X4_addPart_0 5 rfl) k)
  refine V_aload_n C (dt_at dt_X4_addPart_0 6 rfl) 0 rfl rfl ?_
  refine g_X4_30_1 C (dt_at dt_X4_addPart_0 7 rfl) ?_
  refine V_aload_n C (dt_at dt_X4_addPart_0 8 rfl) 0 rfl rfl ?_
  refine g_X4_15_1 C (dt_at dt_X4_addPart_0 9 rfl) ?_
  refine V_iconst C (-1) (dt_at dt_X4_addPart_0 10 rfl) (by decide) ?_
  obtain ⟨h6, h⟩ := chk_s h
  obtain ⟨σ5, eσ5, h⟩ := nm_s h
  refine V_st eσ5 ?_ (fun k => as_11 C h6 (dt_at dt_X4_addPart_0 11 rfl) k)
  refine V_aload_n C (dt_at dt_X4_addPart_0 12 rfl) 0 rfl rfl ?_
  refine V_dup C (dt_at dt_X4_addPart_0 13 rfl) rfl ?_
  refine g_X4_15_1 C (dt_at dt_X4_addPart_0 14 rfl) ?_
  refine V_iconst C 1 (dt_at dt_X4_addPart_0 15 rfl) (by decide) ?_
  refine V_iadd C (dt_at dt_X4_addPart_0 16 rfl) ?_
  obtain ⟨σ7, eσ7, h⟩ := nm_s h
  refine V_st eσ7 ?_ (fun k => p_X4_15_1 C (dt_at dt_X4_addPart_0 17 rfl) k)
  refine V_aload_n C (dt_at dt_X4_addPart_0 18 rfl) 0 rfl rfl ?_
  refine g_X4_15_1 C (dt_at dt_X4_addPart_0 19 rfl) ?_
  refine V_iconst C 1 (dt_at dt_X4_addPart_0 20 rfl) (by decide) ?_
  refine V_isub C (dt_at dt_X4_addPart_0 21 rfl) ?_
  obtain ⟨e1_, e2_⟩ := pin2 h
  subst e1_; subst e2_
  exact V_iret C hR (dt_at dt_X4_addPart_0 22 rfl)
theorem cv_X4_addPart (C : Ck X G cc own nL d) {idx : Nat} (hlk : Cond.methodLink own idx yX4_addPart ∈ gtb) (c1 : Nat) {r0 : Int32} {σ0 : St} (e : f_X4_addPart c1 σ = some (r0, σ0)) (hdd : 2 ≤ d) (hroom : (rest.map fun v => v.category).sum ≤ 8) (hcs : cells ≤ (xR X).cells ∧ slots ≤ (xR X).slots) (hd : decode cc pc = .ok (.invokevirtual idx, 3)) (k : V X G nL cells slots σ0 (pc + 3) lv (.int r0 :: rest)) : V X G nL cells slots σ pc lv (.ref (ga G c1) :: .ref (ga G 1) :: rest) := V_callV C (As := [.ref (ga G c1)]) (c_X4_addPart X.2.1 G c1 σ r0 σ0 e) cal_X4_addPart ww_1054 ww_1055 hlk rfl hdd (lt110 rfl) rfl rfl rfl hroom hcs hd k
noncomputable def f_X11_image (σ : St) : Option (Int32 × St) :=
  bd (f_X4_become_2 σ) fun σ3 =>
  nm (fw σ3 0 9 ((fd σ3 0 9) + 1)) fun σ4 =>
  some ((fd σ4 0 9), σ4)
theorem dt_X11_image_0 : dtab cX11_image [(0, .aload_n 0, 1), (1, .getfield 41, 3), (4, .aload_n 0, 1), (5, .getfield 12, 3), (8, .invokevirtual 334, 3), (11, .aload_n 0, 1), (12, .dup, 1), (13, .getfield 64, 3), (16, .iconst 1, 1), (17, .iadd, 1), (18, .putfield 64, 3), (21, .aload_n 0, 1), (22, .getfield 64, 3), (25, .ireturn, 1)] = true := by decide +kernel
theorem cal_X11_image : Cal yX11_image cX11_image 1 (some .int) 0 := ⟨ww_1059, ww_100, ⟨by decide, by decide, by decide⟩, by decide⟩
set_option maxHeartbeats 4000000 in
set_option maxRecDepth 100000 in
theorem c_X11_image (l : Launch) (G : Gx) (σ : St) (r0 : Int32) (σ0 : St) (h : f_X11_image σ = some (r0, σ0)) : MI l G yX11_image cX11_image 1 (some .int) 3 [.ref (ga G 0)] σ (some (.int r0)) σ0 := by
  refine MI_of RX11 rfl (by decide) [(0, .ref (ga G 0))] rfl (Nat.le_of_ble_eq_true rfl) ?_
  intro X hXl C hR
  unfold f_X11_image at h
  refine V_aload_n C (dt_at dt_X11_image_0 0 rfl) 0 rfl rfl ?_
  refine g_X11_41_0 C (dt_at dt_X11_image_0 1 rfl) ?_
  refine V_aload_n C (dt_at dt_X11_image_0 2 rfl) 0 rfl rfl ?_
  refine g_X11_12_0 C (dt_at dt_X11_image_0 3 rfl) ?_
  obtain ⟨σ3, e2, h⟩ := bd_s h
  refine cv_X4_become_2 C ww_1057  e2 (Nat.le_of_ble_eq_true rfl) (Nat.le_of_ble_eq_true rfl) z0 (dt_at dt_X11_image_0 4 rfl) ?_
  refine V_aload_n C (dt_at dt_X11_image_0 5 rfl) 0 rfl rfl ?_
  refine V_dup C (dt_at dt_X11_image_0 6 rfl) rfl ?_
  refine g_X11_64_0 C (dt_at dt_X11_image_0 7 rfl) ?_
  refine V_iconst C 1 (dt_at dt_X11_image_0 8 rfl) (by decide) ?_
  refine V_iadd C (dt_at dt_X11_image_0 9 rfl) ?_
  obtain ⟨σ4, eσ4, h⟩ := nm_s h
  refine V_st eσ4 ?_ (fun k => p_X11_64_0 C (dt_at dt_X11_image_0 10 rfl) k)
  refine V_aload_n C (dt_at dt_X11_image_0 11 rfl) 0 rfl rfl ?_
  refine g_X11_64_0 C (dt_at dt_X11_image_0 12 rfl) ?_
  obtain ⟨e1_, e2_⟩ := pin2 h
  subst e1_; subst e2_
  exact V_iret C hR (dt_at dt_X11_image_0 13 rfl)
theorem cv_X11_image (C : Ck X G cc own nL d) {idx : Nat} (hlk : Cond.methodLink own idx yX11_image ∈ gtb) {r0 : Int32} {σ0 : St} (e : f_X11_image σ = some (r0, σ0)) (hdd : 4 ≤ d) (hroom : (rest.map fun v => v.category).sum ≤ 8) (hcs : cells ≤ (xR X).cells ∧ slots ≤ (xR X).slots) (hd : decode cc pc = .ok (.invokevirtual idx, 3)) (k : V X G nL cells slots σ0 (pc + 3) lv (.int r0 :: rest)) : V X G nL cells slots σ pc lv (.ref (ga G 0) :: rest) := V_callV C (As := []) (c_X11_image X.2.1 G  σ r0 σ0 e) cal_X11_image ww_1060 ww_1061 hlk rfl hdd (lt110 rfl) rfl rfl rfl hroom hcs hd k
noncomputable def f_X11_restore (σ : St) : Option (Int32 × St) :=
  if (fd σ 0 9) = 0 then
  (bd2 (f_X11_error 2 σ) fun r5 σ7 =>
  some (r5, σ7))
  else
  (bd (f_X4_become_1 σ) fun σ4 =>
  some ((fd σ4 1 1), σ4))
theorem dt_X11_restore_0 : dtab cX11_restore [(0, .aload_n 0, 1), (1, .getfield 64, 3), (4, .ifCond .ne 9, 3), (7, .aload_n 0, 1), (8, .iconst 2, 1), (9, .invokevirtual 68, 3), (12, .ireturn, 1), (13, .aload_n 0, 1), (14, .getfield 12, 3), (17, .aload_n 0, 1), (18, .getfield 41, 3), (21, .invokevirtual 334, 3), (24, .aload_n 0, 1), (25, .getfield 12, 3), (28, .getfield 83, 3), (31, .ireturn, 1)] = true := by decide +kernel
theorem cal_X11_restore : Cal yX11_restore cX11_restore 1 (some .int) 0 := ⟨ww_1062, ww_100, ⟨by decide, by decide, by decide⟩, by decide⟩
set_option maxHeartbeats 4000000 in
set_option maxRecDepth 100000 in
theorem c_X11_restore (l : Launch) (G : Gx) (σ : St) (r0 : Int32) (σ0 : St) (h : f_X11_restore σ = some (r0, σ0)) : MI l G yX11_restore cX11_restore 1 (some .int) 3 [.ref (ga G 0)] σ (some (.int r0)) σ0 := by
  refine MI_of RX11 rfl (by decide) [(0, .ref (ga G 0))] rfl (Nat.le_of_ble_eq_true rfl) ?_
  intro X hXl C hR
  unfold f_X11_restore at h
  refine V_aload_n C (dt_at dt_X11_restore_0 0 rfl) 0 rfl rfl ?_
  refine g_X11_64_0 C (dt_at dt_X11_restore_0 1 rfl) ?_
  refine V_if_ne C 13 (dt_at dt_X11_restore_0 2 rfl) (by decide) (fun q1 => ?_) (fun q1 => ?_)
  · have h := ite_f q1 h
    refine V_aload_n C (dt_at dt_X11_restore_0 7 rfl) 0 rfl rfl ?_
    refine g_X11_12_0 C (dt_at dt_X11_restore_0 8 rfl) ?_
    refine V_aload_n C (dt_at dt_X11_restore_0 9 rfl) 0 rfl rfl ?_
    refine g_X11_41_0 C (dt_at dt_X11_restore_0 10 rfl) ?_
    obtain ⟨σ4, e3, h⟩ := bd_s h
    refine cv_X4_become_1 C ww_1057  e3 (Nat.le_of_ble_eq_true rfl) (Nat.le_of_ble_eq_true rfl) z0 (dt_at dt_X11_restore_0 11 rfl) ?_
    refine V_aload_n C (dt_at dt_X11_restore_0 12 rfl) 0 rfl rfl ?_
    refine g_X11_12_0 C (dt_at dt_X11_restore_0 13 rfl) ?_
    refine g_X11_83_1 C (dt_at dt_X11_restore_0 14 rfl) ?_
    obtain ⟨e1_, e2_⟩ := pin2 h
    subst e1_; subst e2_
    exact V_iret C hR (dt_at dt_X11_restore_0 15 rfl)
  · have h := ite_t q1 h
    refine V_aload_n C (dt_at dt_X11_restore_0 3 rfl) 0 rfl rfl ?_
    refine V_iconst C 2 (dt_at dt_X11_restore_0 4 rfl) (by decide) ?_
    obtain ⟨r5, σ7, e6, h⟩ := bd2_s h
    refine cv_X11_error C ww_193 2 e6 (Nat.le_of_ble_eq_true rfl) (Nat.le_of_ble_eq_true rfl) z0 (dt_at dt_X11_restore_0 5 rfl) ?_
    obtain ⟨e1_, e2_⟩ := pin2 h
    subst e1_; subst e2_
    exact V_iret C hR (dt_at dt_X11_restore_0 6 rfl)
theorem cv_X11_restore (C : Ck X G cc own nL d) {idx : Nat} (hlk : Cond.methodLink own idx yX11_restore ∈ gtb) {r0 : Int32} {σ0 : St} (e : f_X11_restore σ = some (r0, σ0)) (hdd : 4 ≤ d) (hroom : (rest.map fun v => v.category).sum ≤ 8) (hcs : cells ≤ (xR X).cells ∧ slots ≤ (xR X).slots) (hd : decode cc pc = .ok (.invokevirtual idx, 3)) (k : V X G nL cells slots σ0 (pc + 3) lv (.int r0 :: rest)) : V X G nL cells slots σ pc lv (.ref (ga G 0) :: rest) := V_callV C (As := []) (c_X11_restore X.2.1 G  σ r0 σ0 e) cal_X11_restore ww_1063 ww_1064 hlk rfl hdd (lt110 rfl) rfl rfl rfl hroom hcs hd k
noncomputable def f_X5_namesOf (x0 : Int32) : Option (Nat) :=
  if x0 = 0 then
  (some 1)
  else
  (if x0 = 1 then
  (some 2)
  else
  (some 3))
theorem dt_X5_namesOf_0 : dtab cX5_namesOf [(0, .iload_n 0, 1), (1, .lookupswitch 33 #[(0, 27), (1, 30)], 27), (28, .ldc 48, 2), (30, .areturn, 1), (31, .ldc 50, 2), (33, .areturn, 1), (34, .ldc 52, 2), (36, .areturn, 1)] = true := by decide +kernel
theorem cal_X5_namesOf : Cal yX5_namesOf cX5_namesOf 1 (some (.object "java/lang/String")) 1 := ⟨ww_1065, ww_400, ⟨by decide, by decide, by decide⟩, by decide⟩
set_option maxHeartbeats 4000000 in
set_option maxRecDepth 100000 in
theorem c_X5_namesOf (l : Launch) (G : Gx) (x0 : Int32) (σ : St) (r0 : Nat) (h : f_X5_namesOf x0 = some r0) : MI l G yX5_namesOf cX5_namesOf 1 (some (.object "java/lang/String")) 1 [.int x0] σ (some (.ref (gs G r0))) σ := by
  refine MI_of RX5 rfl (by decide) [(0, .int x0)] rfl (Nat.le_of_ble_eq_true rfl) ?_
  intro X hXl C hR
  unfold f_X5_namesOf at h
  refine V_iload_n C (dt_at dt_X5_namesOf_0 0 rfl) 0 rfl rfl ?_
  by_cases q1 : x0 = 0
  · have h := ite_t q1 h
    refine V_lkp C 28 (dt_at dt_X5_namesOf_0 1 rfl) rfl (by rw [q1] <;> rfl) (by decide) ?_
    refine V_ldcS C (q := (48, "ganyk", 1)) (by decide) (dt_at dt_X5_namesOf_0 2 rfl) ?_
    have e1_ := Option.some.inj h
    subst e1_
    exact V_sret C hR (dt_at dt_X5_namesOf_0 3 rfl)
  replace h := ite_f q1 h
  by_cases q2 : x0 = 1
  · have h := ite_t q2 h
    refine V_lkp C 31 (dt_at dt_X5_namesOf_0 1 rfl) rfl (by rw [q2] <;> rfl) (by decide) ?_
    refine V_ldcS C (q := (50, "wvkqs", 2)) (by decide) (dt_at dt_X5_namesOf_0 4 rfl) ?_
    have e1_ := Option.some.inj h
    subst e1_
    exact V_sret C hR (dt_at dt_X5_namesOf_0 5 rfl)
  replace h := ite_f q2 h
  refine V_lkp C (off := 33) 34 (dt_at dt_X5_namesOf_0 1 rfl) rfl ((lv_osw q1 (a := 0) rfl).trans ((lv_osw q2 (a := 1) rfl).trans (rfl))) (by decide) ?_
  refine V_ldcS C (q := (52, "ganykl", 3)) (by decide) (dt_at dt_X5_namesOf_0 6 rfl) ?_
  have e1_ := Option.some.inj h
  subst e1_
  exact V_sret C hR (dt_at dt_X5_namesOf_0 7 rfl)
theorem cv_X5_namesOf (C : Ck X G cc own nL d) {idx : Nat} (hlk : Cond.methodLink own idx yX5_namesOf ∈ gtb) (x0 : Int32) {r0 : Nat} (e : f_X5_namesOf x0 = some r0) (hdd : 2 ≤ d) (hroom : (rest.map fun v => v.category).sum ≤ 8) (hcs : cells ≤ (xR X).cells ∧ slots ≤ (xR X).slots) (hd : decode cc pc = .ok (.invokestatic idx, 3)) (k : V X G nL cells slots σ (pc + 3) lv (.ref (gs G r0) :: rest)) : V X G nL cells slots σ pc lv (.int x0 :: rest) := V_callS C (As := [.int x0]) (c_X5_namesOf X.2.1 G x0 σ r0 e) cal_X5_namesOf ww_1066 hlk rfl hdd rfl hroom hcs hd k
end WK
