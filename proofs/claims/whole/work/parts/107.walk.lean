section WK
variable {X : Xx} {G : Gx} {cc : ByteArray} {own : String} {nL d cells slots pc : Nat} {σ : St} {lv : List (Nat × Value)} {rest : List Value}
theorem dt_X12_player_0 : dtab cX12_player [(0, .iload_n 1, 1), (1, .iconst 0, 1), (2, .bipush 9, 2), (4, .invokestatic 91, 3), (7, .ifCond .eq 13, 3), (10, .iload_n 2, 1), (11, .iconst 0, 1), (12, .bipush 99, 2), (14, .invokestatic 91, 3), (17, .ifCond .ne 9, 3), (20, .aload_n 0, 1), (21, .iconst 1, 1), (22, .invokevirtual 95, 3), (25, .ireturn, 1), (26, .aload_n 0, 1), (27, .getfield 7, 3), (30, .iconst 3, 1), (31, .iaload, 1), (32, .bipush 6, 2), (34, .if_icmp .ne 9, 3), (37, .aload_n 0, 1), (38, .iconst 4, 1), (39, .invokevirtual 95, 3), (42, .ireturn, 1), (43, .sipush 220, 3), (46, .iconst 3, 1), (47, .aload_n 0, 1), (48, .getfield 7, 3), (51, .iconst 3, 1), (52, .iaload, 1), (53, .imul, 1), (54, .iadd, 1), (55, .istore_n 3, 1), (56, .aload_n 0, 1), (57, .getfield 7, 3), (60, .iload_n 3, 1), (61, .iload_n 1, 1), (62, .iastore, 1), (63, .aload_n 0, 1), (64, .getfield 7, 3)] = true := by decide +kernel
theorem dt_X12_player_1 : dtab cX12_player [(67, .iload_n 3, 1), (68, .iconst 1, 1), (69, .iadd, 1), (70, .iload_n 2, 1), (71, .iastore, 1), (72, .aload_n 0, 1), (73, .getfield 7, 3), (76, .iload_n 3, 1), (77, .iconst 2, 1), (78, .iadd, 1), (79, .iconst 0, 1), (80, .iastore, 1), (81, .aload_n 0, 1), (82, .getfield 7, 3), (85, .iconst 3, 1), (86, .dup2, 1), (87, .iaload, 1), (88, .iconst 1, 1), (89, .iadd, 1), (90, .iastore, 1), (91, .aload_n 0, 1), (92, .getfield 7, 3), (95, .iconst 3, 1), (96, .iaload, 1), (97, .iconst 1, 1), (98, .isub, 1), (99, .ireturn, 1)] = true := by decide +kernel
theorem cal_X12_player : Cal yX12_player cX12_player 4 (some .int) 2 := ⟨ww_775, ww_429, ⟨by decide, by decide, by decide⟩, by decide⟩
set_option maxHeartbeats 4000000 in
set_option maxRecDepth 100000 in
theorem c_X12_player (l : Launch) (G : Gx) (x1 : Int32) (x2 : Int32) (σ : St) (r0 : Int32) (σ0 : St) (h : f_X12_player x1 x2 σ = some (r0, σ0)) : MI l G yX12_player cX12_player 4 (some .int) 2 [.ref (ga G 6), .int x1, .int x2] σ (some (.int r0)) σ0 := by
  refine MI_of RX12 rfl (by decide) [(0, .ref (ga G 6)), (1, .int x1), (2, .int x2)] rfl (Nat.le_of_ble_eq_true rfl) ?_
  intro X hXl C hR
  unfold f_X12_player at h
  have J_20 : ∀ (σ : St), f_X12_player_20 σ = some (r0, σ0) → V X G 4 0 0 σ 20 [(0, .ref (ga G 6))] [] := by
    intro σ h
    unfold f_X12_player_20 at h
    refine V_aload_n C (dt_at dt_X12_player_0 10 rfl) 0 rfl rfl ?_
    refine V_iconst C 1 (dt_at dt_X12_player_0 11 rfl) (by decide) ?_
    obtain ⟨r21, σ23, e22, h⟩ := bd2_s h
    refine cv_X12_finds C ww_462 1 e22 (Nat.le_of_ble_eq_true rfl) (Nat.le_of_ble_eq_true rfl) z0 (dt_at dt_X12_player_0 12 rfl) ?_
    obtain ⟨e1_, e2_⟩ := pin2 h
    subst e1_; subst e2_
    exact V_iret C hR (dt_at dt_X12_player_0 13 rfl)
  refine V_iload_n C (dt_at dt_X12_player_0 0 rfl) 1 rfl rfl ?_
  refine V_iconst C 0 (dt_at dt_X12_player_0 1 rfl) (by decide) ?_
  refine V_bipush C 9 (dt_at dt_X12_player_0 2 rfl) (by decide) ?_
  obtain ⟨r1, e2, h⟩ := bd_s h
  refine cv_X12_in C ww_437 x1 0 9 e2 (Nat.le_of_ble_eq_true rfl) (Nat.le_of_ble_eq_true rfl) z0 (dt_at dt_X12_player_0 3 rfl) ?_
  refine V_if_eq C 20 (dt_at dt_X12_player_0 4 rfl) (by decide) (fun q4 => ?_) (fun q4 => ?_)
  · have h := ite_t q4 h
    refine V_sub [0] (lv' := [(0, .ref (ga G 6))]) rfl ?_
    exact J_20 σ h
  · have h := ite_f q4 h
    refine V_iload_n C (dt_at dt_X12_player_0 5 rfl) 2 rfl rfl ?_
    refine V_iconst C 0 (dt_at dt_X12_player_0 6 rfl) (by decide) ?_
    refine V_bipush C 99 (dt_at dt_X12_player_0 7 rfl) (by decide) ?_
    obtain ⟨r5, e6, h⟩ := bd_s h
    refine cv_X12_in C ww_437 x2 0 99 e6 (Nat.le_of_ble_eq_true rfl) (Nat.le_of_ble_eq_true rfl) z0 (dt_at dt_X12_player_0 8 rfl) ?_
    refine V_if_ne C 26 (dt_at dt_X12_player_0 9 rfl) (by decide) (fun q8 => ?_) (fun q8 => ?_)
    · have h := ite_f q8 h
      refine V_aload_n C (dt_at dt_X12_player_0 14 rfl) 0 rfl rfl ?_
      refine g_X12_7_6 C (dt_at dt_X12_player_0 15 rfl) ?_
      refine V_iconst C 3 (dt_at dt_X12_player_0 16 rfl) (by decide) ?_
      obtain ⟨h9, h⟩ := chk_s h
      refine al_84 C h9 (dt_at dt_X12_player_0 17 rfl) ?_
      refine V_bipush C 6 (dt_at dt_X12_player_0 18 rfl) (by decide) ?_
      refine V_icmp_ne C 43 (dt_at dt_X12_player_0 19 rfl) (by decide) (fun q10 => ?_) (fun q10 => ?_)
      · have h := ite_f q10 h
        refine V_sipush C 220 (dt_at dt_X12_player_0 24 rfl) (by decide) ?_
        refine V_iconst C 3 (dt_at dt_X12_player_0 25 rfl) (by decide) ?_
        refine V_aload_n C (dt_at dt_X12_player_0 26 rfl) 0 rfl rfl ?_
        refine g_X12_7_6 C (dt_at dt_X12_player_0 27 rfl) ?_
        refine V_iconst C 3 (dt_at dt_X12_player_0 28 rfl) (by decide) ?_
        refine al_84 C h9 (dt_at dt_X12_player_0 29 rfl) ?_
        refine V_imul C (dt_at dt_X12_player_0 30 rfl) ?_
        refine V_iadd C (dt_at dt_X12_player_0 31 rfl) ?_
        refine V_istore_n C [1, 2, 3, 0] (lv' := [(0, .ref (ga G 6)), (1, .int x1), (2, .int x2), (3, .int (220 + (3 * (rd σ 84 3))))]) (dt_at dt_X12_player_0 32 rfl) rfl (by decide) rfl ?_
        refine V_aload_n C (dt_at dt_X12_player_0 33 rfl) 0 rfl rfl ?_
        refine g_X12_7_6 C (dt_at dt_X12_player_0 34 rfl) ?_
        refine V_iload_n C (dt_at dt_X12_player_0 35 rfl) 3 rfl rfl ?_
        refine V_iload_n C (dt_at dt_X12_player_0 36 rfl) 1 rfl rfl ?_
        obtain ⟨h12, h⟩ := chk_s h
        obtain ⟨σ11, eσ11, h⟩ := nm_s h
        refine V_st eσ11 ?_ (fun k => as_84 C h12 (dt_at dt_X12_player_0 37 rfl) k)
        refine V_aload_n C (dt_at dt_X12_player_0 38 rfl) 0 rfl rfl ?_
        refine g_X12_7_6 C (dt_at dt_X12_player_0 39 rfl) ?_
        refine V_iload_n C (dt_at dt_X12_player_1 0 rfl) 3 rfl rfl ?_
        refine V_iconst C 1 (dt_at dt_X12_player_1 1 rfl) (by decide) ?_
        refine V_iadd C (dt_at dt_X12_player_1 2 rfl) ?_
        refine V_iload_n C (dt_at dt_X12_player_1 3 rfl) 2 rfl rfl ?_
        obtain ⟨h14, h⟩ := chk_s h
        obtain ⟨σ13, eσ13, h⟩ := nm_s h
        refine V_st eσ13 ?_ (fun k => as_84 C h14 (dt_at dt_X12_player_1 4 rfl) k)
        refine V_aload_n C (dt_at dt_X12_player_1 5 rfl) 0 rfl rfl ?_
        refine g_X12_7_6 C (dt_at dt_X12_player_1 6 rfl) ?_
        refine V_iload_n C (dt_at dt_X12_player_1 7 rfl) 3 rfl rfl ?_
        refine V_iconst C 2 (dt_at dt_X12_player_1 8 rfl) (by decide) ?_
        refine V_iadd C (dt_at dt_X12_player_1 9 rfl) ?_
        refine V_iconst C 0 (dt_at dt_X12_player_1 10 rfl) (by decide) ?_
        obtain ⟨h16, h⟩ := chk_s h
        obtain ⟨σ15, eσ15, h⟩ := nm_s h
        refine V_st eσ15 ?_ (fun k => as_84 C h16 (dt_at dt_X12_player_1 11 rfl) k)
        refine V_aload_n C (dt_at dt_X12_player_1 12 rfl) 0 rfl rfl ?_
        refine g_X12_7_6 C (dt_at dt_X12_player_1 13 rfl) ?_
        refine V_iconst C 3 (dt_at dt_X12_player_1 14 rfl) (by decide) ?_
        refine V_dup2 C (dt_at dt_X12_player_1 15 rfl) rfl rfl ?_
        refine al_84 C h9 (dt_at dt_X12_player_1 16 rfl) ?_
        refine V_iconst C 1 (dt_at dt_X12_player_1 17 rfl) (by decide) ?_
        refine V_iadd C (dt_at dt_X12_player_1 18 rfl) ?_
        obtain ⟨σ17, eσ17, h⟩ := nm_s h
        refine V_st eσ17 ?_ (fun k => as_84 C h9 (dt_at dt_X12_player_1 19 rfl) k)
        refine V_aload_n C (dt_at dt_X12_player_1 20 rfl) 0 rfl rfl ?_
        refine g_X12_7_6 C (dt_at dt_X12_player_1 21 rfl) ?_
        refine V_iconst C 3 (dt_at dt_X12_player_1 22 rfl) (by decide) ?_
        refine al_84 C h9 (dt_at dt_X12_player_1 23 rfl) ?_
        refine V_iconst C 1 (dt_at dt_X12_player_1 24 rfl) (by decide) ?_
        refine V_isub C (dt_at dt_X12_player_1 25 rfl) ?_
        obtain ⟨e1_, e2_⟩ := pin2 h
        subst e1_; subst e2_
        exact V_iret C hR (dt_at dt_X12_player_1 26 rfl)
      · have h := ite_t q10 h
        refine V_aload_n C (dt_at dt_X12_player_0 20 rfl) 0 rfl rfl ?_
        refine V_iconst C 4 (dt_at dt_X12_player_0 21 rfl) (by decide) ?_
        obtain ⟨r18, σ20, e19, h⟩ := bd2_s h
        refine cv_X12_finds C ww_462 4 e19 (Nat.le_of_ble_eq_true rfl) (Nat.le_of_ble_eq_true rfl) z0 (dt_at dt_X12_player_0 22 rfl) ?_
        obtain ⟨e1_, e2_⟩ := pin2 h
        subst e1_; subst e2_
        exact V_iret C hR (dt_at dt_X12_player_0 23 rfl)
    · have h := ite_t q8 h
      refine V_sub [0] (lv' := [(0, .ref (ga G 6))]) rfl ?_
      exact J_20 σ h
theorem cv_X12_player (C : Ck X G cc own nL d) {idx : Nat} (hlk : Cond.methodLink own idx yX12_player ∈ gtb) (x1 : Int32) (x2 : Int32) {r0 : Int32} {σ0 : St} (e : f_X12_player x1 x2 σ = some (r0, σ0)) (hdd : 3 ≤ d) (hroom : (rest.map fun v => v.category).sum ≤ 8) (hcs : cells ≤ (xR X).cells ∧ slots ≤ (xR X).slots) (hd : decode cc pc = .ok (.invokevirtual idx, 3)) (k : V X G nL cells slots σ0 (pc + 3) lv (.int r0 :: rest)) : V X G nL cells slots σ pc lv (.int x2 :: .int x1 :: .ref (ga G 6) :: rest) := V_callV C (As := [.int x1, .int x2]) (c_X12_player X.2.1 G x1 x2 σ r0 σ0 e) cal_X12_player ww_776 ww_777 hlk rfl hdd (lt110 rfl) rfl rfl rfl hroom hcs hd k
theorem dt_X12_put_0 : dtab cX12_put [(0, .iload_n 1, 1), (1, .invokestatic 240, 3), (4, .ifCond .ne 9, 3), (7, .aload_n 0, 1), (8, .iconst 1, 1), (9, .invokevirtual 95, 3), (12, .ireturn, 1), (13, .aload_n 0, 1), (14, .getfield 78, 3), (17, .iload_n 1, 1), (18, .iaload, 1), (19, .ifCond .ne 9, 3), (22, .aload_n 0, 1), (23, .iconst 2, 1), (24, .invokevirtual 95, 3), (27, .ireturn, 1), (28, .iload_n 2, 1), (29, .iconst 0, 1), (30, .aload_n 0, 1), (31, .getfield 81, 3), (34, .iload_n 1, 1), (35, .iaload, 1), (36, .iconst 1, 1), (37, .isub, 1), (38, .invokestatic 91, 3), (41, .ifCond .ne 9, 3), (44, .aload_n 0, 1), (45, .iconst 1, 1), (46, .invokevirtual 95, 3), (49, .ireturn, 1), (50, .aload_n 0, 1), (51, .getfield 84, 3), (54, .bipush 24, 2), (56, .iload_n 1, 1), (57, .imul, 1), (58, .iload_n 2, 1), (59, .iadd, 1), (60, .aload_n 0, 1), (61, .getfield 78, 3), (64, .iload_n 1, 1)] = true := by decide +kernel
theorem dt_X12_put_1 : dtab cX12_put [(65, .iaload, 1), (66, .bipush 8, 2), (68, .if_icmp .ne 8, 3), (71, .iload_n 3, 1), (72, .i2b, 1), (73, .goto 20, 3), (76, .aload_n 0, 1), (77, .getfield 78, 3), (80, .iload_n 1, 1), (81, .iaload, 1), (82, .bipush 16, 2), (84, .if_icmp .ne 8, 3), (87, .iload_n 3, 1), (88, .i2s, 1), (89, .goto 4, 3), (92, .iload_n 3, 1), (93, .iastore, 1), (94, .iconst 1, 1), (95, .ireturn, 1)] = true := by decide +kernel
theorem cal_X12_put : Cal yX12_put cX12_put 4 (some .int) 3 := ⟨ww_778, ww_429, ⟨by decide, by decide, by decide⟩, by decide⟩
set_option maxHeartbeats 4000000 in
set_option maxRecDepth 100000 in
theorem c_X12_put (l : Launch) (G : Gx) (x1 : Int32) (x2 : Int32) (x3 : Int32) (σ : St) (r0 : Int32) (σ0 : St) (h : f_X12_put x1 x2 x3 σ = some (r0, σ0)) : MI l G yX12_put cX12_put 4 (some .int) 3 [.ref (ga G 6), .int x1, .int x2, .int x3] σ (some (.int r0)) σ0 := by
  refine MI_of RX12 rfl (by decide) [(0, .ref (ga G 6)), (1, .int x1), (2, .int x2), (3, .int x3)] rfl (Nat.le_of_ble_eq_true rfl) ?_
  intro X hXl C hR
  unfold f_X12_put at h
  have J_93 : ∀ (s0 : Int32) (s1 : Int32) (σ : St), f_X12_put_93 s0 s1 σ = some (r0, σ0) → V X G 4 0 0 σ 93 [] [.int s0, .int s1, .ref (ga G 108)] := by
    intro s0 s1 σ h
    unfold f_X12_put_93 at h
    obtain ⟨h23, h⟩ := chk_s h
    obtain ⟨σ22, eσ22, h⟩ := nm_s h
    refine V_st eσ22 ?_ (fun k => as_108 C h23 (dt_at dt_X12_put_1 16 rfl) k)
    refine V_iconst C 1 (dt_at dt_X12_put_1 17 rfl) (by decide) ?_
    obtain ⟨e1_, e2_⟩ := pin2 h
    subst e1_; subst e2_
    exact V_iret C hR (dt_at dt_X12_put_1 18 rfl)
  refine V_iload_n C (dt_at dt_X12_put_0 0 rfl) 1 rfl rfl ?_
  obtain ⟨r1, e2, h⟩ := bd_s h
  refine cv_X12_isSheet C ww_573 x1 e2 (Nat.le_of_ble_eq_true rfl) (Nat.le_of_ble_eq_true rfl) z0 (dt_at dt_X12_put_0 1 rfl) ?_
  refine V_if_ne C 13 (dt_at dt_X12_put_0 2 rfl) (by decide) (fun q4 => ?_) (fun q4 => ?_)
  · have h := ite_f q4 h
    refine V_aload_n C (dt_at dt_X12_put_0 7 rfl) 0 rfl rfl ?_
    refine g_X12_78_6 C (dt_at dt_X12_put_0 8 rfl) ?_
    refine V_iload_n C (dt_at dt_X12_put_0 9 rfl) 1 rfl rfl ?_
    obtain ⟨h5, h⟩ := chk_s h
    refine al_106 C h5 (dt_at dt_X12_put_0 10 rfl) ?_
    refine V_if_ne C 28 (dt_at dt_X12_put_0 11 rfl) (by decide) (fun q6 => ?_) (fun q6 => ?_)
    · have h := ite_f q6 h
      refine V_iload_n C (dt_at dt_X12_put_0 16 rfl) 2 rfl rfl ?_
      refine V_iconst C 0 (dt_at dt_X12_put_0 17 rfl) (by decide) ?_
      refine V_aload_n C (dt_at dt_X12_put_0 18 rfl) 0 rfl rfl ?_
      refine g_X12_81_6 C (dt_at dt_X12_put_0 19 rfl) ?_
      refine V_iload_n C (dt_at dt_X12_put_0 20 rfl) 1 rfl rfl ?_
      refine al_107 C h5 (dt_at dt_X12_put_0 21 rfl) ?_
      refine V_iconst C 1 (dt_at dt_X12_put_0 22 rfl) (by decide) ?_
      refine V_isub C (dt_at dt_X12_put_0 23 rfl) ?_
      obtain ⟨r7, e8, h⟩ := bd_s h
      refine cv_X12_in C ww_437 x2 0 ((rd σ 107 x1) - 1) e8 (Nat.le_of_ble_eq_true rfl) (Nat.le_of_ble_eq_true rfl) z0 (dt_at dt_X12_put_0 24 rfl) ?_
      refine V_if_ne C 50 (dt_at dt_X12_put_0 25 rfl) (by decide) (fun q10 => ?_) (fun q10 => ?_)
      · have h := ite_f q10 h
        refine V_aload_n C (dt_at dt_X12_put_0 30 rfl) 0 rfl rfl ?_
        refine g_X12_84_6 C (dt_at dt_X12_put_0 31 rfl) ?_
        refine V_bipush C 24 (dt_at dt_X12_put_0 32 rfl) (by decide) ?_
        refine V_iload_n C (dt_at dt_X12_put_0 33 rfl) 1 rfl rfl ?_
        refine V_imul C (dt_at dt_X12_put_0 34 rfl) ?_
        refine V_iload_n C (dt_at dt_X12_put_0 35 rfl) 2 rfl rfl ?_
        refine V_iadd C (dt_at dt_X12_put_0 36 rfl) ?_
        refine V_aload_n C (dt_at dt_X12_put_0 37 rfl) 0 rfl rfl ?_
        refine g_X12_78_6 C (dt_at dt_X12_put_0 38 rfl) ?_
        refine V_iload_n C (dt_at dt_X12_put_0 39 rfl) 1 rfl rfl ?_
        refine al_106 C h5 (dt_at dt_X12_put_1 0 rfl) ?_
        refine V_bipush C 8 (dt_at dt_X12_put_1 1 rfl) (by decide) ?_
        refine V_icmp_ne C 76 (dt_at dt_X12_put_1 2 rfl) (by decide) (fun q11 => ?_) (fun q11 => ?_)
        · have h := ite_f q11 h
          refine V_aload_n C (dt_at dt_X12_put_1 6 rfl) 0 rfl rfl ?_
          refine g_X12_78_6 C (dt_at dt_X12_put_1 7 rfl) ?_
          refine V_iload_n C (dt_at dt_X12_put_1 8 rfl) 1 rfl rfl ?_
          refine al_106 C h5 (dt_at dt_X12_put_1 9 rfl) ?_
          refine V_bipush C 16 (dt_at dt_X12_put_1 10 rfl) (by decide) ?_
          refine V_icmp_ne C 92 (dt_at dt_X12_put_1 11 rfl) (by decide) (fun q12 => ?_) (fun q12 => ?_)
          · have h := ite_f q12 h
            refine V_iload_n C (dt_at dt_X12_put_1 15 rfl) 3 rfl rfl ?_
            refine V_sub [] (lv' := []) rfl ?_
            exact J_93 x3 ((24 * x1) + x2) σ h
          · have h := ite_t q12 h
            refine V_iload_n C (dt_at dt_X12_put_1 12 rfl) 3 rfl rfl ?_
            refine V_i2s C (dt_at dt_X12_put_1 13 rfl) ?_
            refine V_goto C 93 (dt_at dt_X12_put_1 14 rfl) (by decide) ?_
            refine V_sub [] (lv' := []) rfl ?_
            exact J_93 x3.toInt16.toInt32 ((24 * x1) + x2) σ h
        · have h := ite_t q11 h
          refine V_iload_n C (dt_at dt_X12_put_1 3 rfl) 3 rfl rfl ?_
          refine V_i2b C (dt_at dt_X12_put_1 4 rfl) ?_
          refine V_goto C 93 (dt_at dt_X12_put_1 5 rfl) (by decide) ?_
          refine V_sub [] (lv' := []) rfl ?_
          exact J_93 x3.toInt8.toInt32 ((24 * x1) + x2) σ h
      · have h := ite_t q10 h
        refine V_aload_n C (dt_at dt_X12_put_0 26 rfl) 0 rfl rfl ?_
        refine V_iconst C 1 (dt_at dt_X12_put_0 27 rfl) (by decide) ?_
        obtain ⟨r13, σ15, e14, h⟩ := bd2_s h
        refine cv_X12_finds C ww_462 1 e14 (Nat.le_of_ble_eq_true rfl) (Nat.le_of_ble_eq_true rfl) z0 (dt_at dt_X12_put_0 28 rfl) ?_
        obtain ⟨e1_, e2_⟩ := pin2 h
        subst e1_; subst e2_
        exact V_iret C hR (dt_at dt_X12_put_0 29 rfl)
    · have h := ite_t q6 h
      refine V_aload_n C (dt_at dt_X12_put_0 12 rfl) 0 rfl rfl ?_
      refine V_iconst C 2 (dt_at dt_X12_put_0 13 rfl) (by decide) ?_
      obtain ⟨r16, σ18, e17, h⟩ := bd2_s h
      refine cv_X12_finds C ww_462 2 e17 (Nat.le_of_ble_eq_true rfl) (Nat.le_of_ble_eq_true rfl) z0 (dt_at dt_X12_put_0 14 rfl) ?_
      obtain ⟨e1_, e2_⟩ := pin2 h
      subst e1_; subst e2_
      exact V_iret C hR (dt_at dt_X12_put_0 15 rfl)
  · have h := ite_t q4 h
    refine V_aload_n C (dt_at dt_X12_put_0 3 rfl) 0 rfl rfl ?_
    refine V_iconst C 1 (dt_at dt_X12_put_0 4 rfl) (by decide) ?_
    obtain ⟨r19, σ21, e20, h⟩ := bd2_s h
    refine cv_X12_finds C ww_462 1 e20 (Nat.le_of_ble_eq_true rfl) (Nat.le_of_ble_eq_true rfl) z0 (dt_at dt_X12_put_0 5 rfl) ?_
    obtain ⟨e1_, e2_⟩ := pin2 h
    subst e1_; subst e2_
    exact V_iret C hR (dt_at dt_X12_put_0 6 rfl)
theorem cv_X12_put (C : Ck X G cc own nL d) {idx : Nat} (hlk : Cond.methodLink own idx yX12_put ∈ gtb) (x1 : Int32) (x2 : Int32) (x3 : Int32) {r0 : Int32} {σ0 : St} (e : f_X12_put x1 x2 x3 σ = some (r0, σ0)) (hdd : 4 ≤ d) (hroom : (rest.map fun v => v.category).sum ≤ 8) (hcs : cells ≤ (xR X).cells ∧ slots ≤ (xR X).slots) (hd : decode cc pc = .ok (.invokevirtual idx, 3)) (k : V X G nL cells slots σ0 (pc + 3) lv (.int r0 :: rest)) : V X G nL cells slots σ pc lv (.int x3 :: .int x2 :: .int x1 :: .ref (ga G 6) :: rest) := V_callV C (As := [.int x1, .int x2, .int x3]) (c_X12_put X.2.1 G x1 x2 x3 σ r0 σ0 e) cal_X12_put ww_779 ww_780 hlk rfl hdd (lt110 rfl) rfl rfl rfl hroom hcs hd k
theorem dt_X12_readsOne_0 : dtab cX12_readsOne [(0, .aload_n 0, 1), (1, .aload_n 0, 1), (2, .getfield 186, 3), (5, .invokevirtual 189, 3), (8, .istore_n 2, 1), (9, .iload_n 2, 1), (10, .bipush 33, 2), (12, .if_icmp .eq 9, 3), (15, .iload_n 2, 1), (16, .bipush 40, 2), (18, .if_icmp .ne 55, 3), (21, .aload_n 0, 1), (22, .invokevirtual 192, 3), (25, .iconst 5, 1), (26, .if_icmp .ne 5, 3), (29, .iconst 0, 1), (30, .ireturn, 1), (31, .aload_n 0, 1), (32, .getfield 34, 3), (35, .aload_n 0, 1), (36, .getfield 176, 3), (39, .iload_n 2, 1), (40, .iastore, 1), (41, .aload_n 0, 1), (42, .dup, 1), (43, .getfield 176, 3), (46, .iconst 1, 1), (47, .iadd, 1), (48, .putfield 176, 3), (51, .aload_n 0, 1), (52, .dup, 1), (53, .getfield 186, 3), (56, .iconst 1, 1), (57, .iadd, 1), (58, .putfield 186, 3), (61, .aload_n 0, 1), (62, .aload_n 0, 1), (63, .getfield 186, 3), (66, .invokevirtual 189, 3), (69, .istore_n 2, 1)] = true := by decide +kernel
theorem dt_X12_readsOne_1 : dtab cX12_readsOne [(70, .goto (-61), 3), (73, .iload_n 2, 1), (74, .ifCond .ge 7, 3), (77, .iconst (-1), 1), (78, .goto 8, 3), (81, .iload_n 1, 1), (82, .iload_n 2, 1), (83, .invokestatic 196, 3), (86, .istore_n 3, 1), (87, .iload_n 3, 1), (88, .ifCond .lt 22, 3), (91, .aload_n 0, 1), (92, .iconst (-1), 1), (93, .iload_n 3, 1), (94, .isub, 1), (95, .invokevirtual 182, 3), (98, .aload_n 0, 1), (99, .dup, 1), (100, .getfield 186, 3), (103, .iconst 1, 1), (104, .iadd, 1), (105, .putfield 186, 3), (108, .iconst 1, 1), (109, .ireturn, 1), (110, .iload_n 2, 1), (111, .invokestatic 199, 3), (114, .ifCond .ne 5, 3), (117, .iconst 0, 1), (118, .ireturn, 1), (119, .iconst 0, 1), (120, .istore 4, 2), (122, .aload_n 0, 1), (123, .getfield 186, 3), (126, .istore 5, 2), (128, .aload_n 0, 1), (129, .aload_n 0, 1), (130, .getfield 186, 3), (133, .invokevirtual 189, 3), (136, .invokestatic 199, 3), (139, .ifCond .eq 46, 3)] = true := by decide +kernel
theorem dt_X12_readsOne_2 : dtab cX12_readsOne [(142, .aload_n 0, 1), (143, .getfield 186, 3), (146, .iload 5, 2), (148, .isub, 1), (149, .iconst 4, 1), (150, .if_icmp .ge 35, 3), (153, .bipush 10, 2), (155, .iload 4, 2), (157, .imul, 1), (158, .aload_n 0, 1), (159, .aload_n 0, 1), (160, .getfield 186, 3), (163, .invokevirtual 189, 3), (166, .iadd, 1), (167, .bipush 48, 2), (169, .isub, 1), (170, .istore 4, 2), (172, .aload_n 0, 1), (173, .dup, 1), (174, .getfield 186, 3), (177, .iconst 1, 1), (178, .iadd, 1), (179, .putfield 186, 3), (182, .goto (-54), 3), (185, .aload_n 0, 1), (186, .iload 4, 2), (188, .invokevirtual 182, 3), (191, .iconst 1, 1), (192, .ireturn, 1)] = true := by decide +kernel
theorem cal_X12_readsOne : Cal yX12_readsOne cX12_readsOne 6 (some .boolean) 1 := ⟨ww_786, ww_429, ⟨by decide, by decide, by decide⟩, by decide⟩
set_option maxHeartbeats 4000000 in
set_option maxRecDepth 100000 in
theorem c_X12_readsOne (l : Launch) (G : Gx) (x1 : Int32) (σ : St) (r0 : Int32) (σ0 : St) (h : f_X12_readsOne x1 σ = some (r0, σ0)) : MI l G yX12_readsOne cX12_readsOne 6 (some .boolean) 3 [.ref (ga G 6), .int x1] σ (some (.int r0)) σ0 := by
  refine MI_of RX12 rfl (by decide) [(0, .ref (ga G 6)), (1, .int x1)] rfl (Nat.le_of_ble_eq_true rfl) ?_
  intro X hXl C hR
  unfold f_X12_readsOne at h
  have J_185 : ∀ (x4 : Int32) (σ : St), f_X12_readsOne_185 x4 σ = some (r0, σ0) → V X G 6 0 0 σ 185 [(0, .ref (ga G 6)), (4, .int x4)] [] := by
    intro x4 σ h
    unfold f_X12_readsOne_185 at h
    refine V_aload_n C (dt_at dt_X12_readsOne_2 24 rfl) 0 rfl rfl ?_
    refine V_iload C (dt_at dt_X12_readsOne_2 25 rfl) 1 rfl ?_
    obtain ⟨σ47, e46, h⟩ := bd_s h
    refine cv_X12_lays C ww_671 x4 e46 (Nat.le_of_ble_eq_true rfl) (Nat.le_of_ble_eq_true rfl) z0 (dt_at dt_X12_readsOne_2 26 rfl) ?_
    refine V_iconst C 1 (dt_at dt_X12_readsOne_2 27 rfl) (by decide) ?_
    obtain ⟨e1_, e2_⟩ := pin2 h
    subst e1_; subst e2_
    exact V_zret C rfl hR (dt_at dt_X12_readsOne_2 28 rfl)
  have J_128 : ∀ (x4 : Int32) (x5 : Int32) (σ : St), f_X12_readsOne_128 x4 x5 σ = some (r0, σ0) → V X G 6 0 0 σ 128 [(0, .ref (ga G 6)), (4, .int x4), (5, .int x5)] [] := by
    intro x4 x5 σ h
    refine it_v (P := fun z : Int32 × St => V X G 6 0 0 z.2 128 [(0, .ref (ga G 6)), (4, .int z.1), (5, .int x5)] []) ?_ (x4, σ) h
    clear h
    intro z w_128 h ih_128 ex_128
    obtain ⟨x4, σ⟩ := z
    have h : b_X12_readsOne_128 x4 x5 σ = some w_128 := h
    show V X G 6 0 0 σ 128 [(0, .ref (ga G 6)), (4, .int x4), (5, .int x5)] []
    unfold b_X12_readsOne_128 at h
    refine V_aload_n C (dt_at dt_X12_readsOne_1 34 rfl) 0 rfl rfl ?_
    refine V_aload_n C (dt_at dt_X12_readsOne_1 35 rfl) 0 rfl rfl ?_
    refine g_X12_186_6 C (dt_at dt_X12_readsOne_1 36 rfl) ?_
    obtain ⟨r31, e32, h⟩ := bd_s h
    refine cv_X12_byteAt C ww_782 (fd σ 6 13) e32 (Nat.le_of_ble_eq_true rfl) (Nat.le_of_ble_eq_true rfl) z0 (dt_at dt_X12_readsOne_1 37 rfl) ?_
    obtain ⟨r34, e35, h⟩ := bd_s h
    refine cv_X12_isDigit C ww_785 r31 e35 (Nat.le_of_ble_eq_true rfl) (Nat.le_of_ble_eq_true rfl) z0 (dt_at dt_X12_readsOne_1 38 rfl) ?_
    refine V_if_eq C 185 (dt_at dt_X12_readsOne_1 39 rfl) (by decide) (fun q37 => ?_) (fun q37 => ?_)
    · have h := ite_t q37 h
      refine V_sub [0, 1] (lv' := [(0, .ref (ga G 6)), (4, .int x4)]) rfl ?_
      obtain ⟨t38, h, e_128⟩ := map_s h
      have e_128 := ex_128 _ e_128
      rw [e_128] at h
      exact J_185 x4 σ h
    · have h := ite_f q37 h
      refine V_aload_n C (dt_at dt_X12_readsOne_2 0 rfl) 0 rfl rfl ?_
      refine g_X12_186_6 C (dt_at dt_X12_readsOne_2 1 rfl) ?_
      refine V_iload C (dt_at dt_X12_readsOne_2 2 rfl) 2 rfl ?_
      refine V_isub C (dt_at dt_X12_readsOne_2 3 rfl) ?_
      refine V_iconst C 4 (dt_at dt_X12_readsOne_2 4 rfl) (by decide) ?_
      refine V_icmp_ge C 185 (dt_at dt_X12_readsOne_2 5 rfl) (by decide) (fun q39 => ?_) (fun q39 => ?_)
      · have h := ite_f q39 h
        refine V_sub [0, 1] (lv' := [(0, .ref (ga G 6)), (4, .int x4)]) rfl ?_
        obtain ⟨t40, h, e_128⟩ := map_s h
        have e_128 := ex_128 _ e_128
        rw [e_128] at h
        exact J_185 x4 σ h
      · have h := ite_t q39 h
        refine V_bipush C 10 (dt_at dt_X12_readsOne_2 6 rfl) (by decide) ?_
        refine V_iload C (dt_at dt_X12_readsOne_2 7 rfl) 1 rfl ?_
        refine V_imul C (dt_at dt_X12_readsOne_2 8 rfl) ?_
        refine V_aload_n C (dt_at dt_X12_readsOne_2 9 rfl) 0 rfl rfl ?_
        refine V_aload_n C (dt_at dt_X12_readsOne_2 10 rfl) 0 rfl rfl ?_
        refine g_X12_186_6 C (dt_at dt_X12_readsOne_2 11 rfl) ?_
        obtain ⟨r41, e42, h⟩ := bd_s h
        refine cv_X12_byteAt C ww_782 (fd σ 6 13) e42 (Nat.le_of_ble_eq_true rfl) (Nat.le_of_ble_eq_true rfl) z0 (dt_at dt_X12_readsOne_2 12 rfl) ?_
        refine V_iadd C (dt_at dt_X12_readsOne_2 13 rfl) ?_
        refine V_bipush C 48 (dt_at dt_X12_readsOne_2 14 rfl) (by decide) ?_
        refine V_isub C (dt_at dt_X12_readsOne_2 15 rfl) ?_
        refine V_istore C [1, 0, 2] (lv' := [(0, .ref (ga G 6)), (4, .int (((10 * x4) + r41) - 48)), (5, .int x5)]) (dt_at dt_X12_readsOne_2 16 rfl) (by decide) rfl ?_
        refine V_aload_n C (dt_at dt_X12_readsOne_2 17 rfl) 0 rfl rfl ?_
        refine V_dup C (dt_at dt_X12_readsOne_2 18 rfl) rfl ?_
        refine g_X12_186_6 C (dt_at dt_X12_readsOne_2 19 rfl) ?_
        refine V_iconst C 1 (dt_at dt_X12_readsOne_2 20 rfl) (by decide) ?_
        refine V_iadd C (dt_at dt_X12_readsOne_2 21 rfl) ?_
        obtain ⟨σ44, eσ44, h⟩ := nm_s h
        refine V_st eσ44 ?_ (fun k => p_X12_186_6 C (dt_at dt_X12_readsOne_2 22 rfl) k)
        refine V_goto C 128 (dt_at dt_X12_readsOne_2 23 rfl) (by decide) ?_
        exact ih_128 ((((10 * x4) + r41) - 48), σ44) (Option.some.inj h).symm
  have J_86 : ∀ (x2 : Int32) (s0 : Int32) (σ : St), f_X12_readsOne_86 x2 s0 σ = some (r0, σ0) → V X G 6 0 0 σ 86 [(0, .ref (ga G 6)), (2, .int x2)] [.int s0] := by
    intro x2 s0 σ h
    unfold f_X12_readsOne_86 at h
    refine V_istore_n C [1, 2, 0] (lv' := [(0, .ref (ga G 6)), (2, .int x2), (3, .int s0)]) (dt_at dt_X12_readsOne_1 8 rfl) rfl (by decide) rfl ?_
    refine V_iload_n C (dt_at dt_X12_readsOne_1 9 rfl) 2 rfl rfl ?_
    refine V_if_lt C 110 (dt_at dt_X12_readsOne_1 10 rfl) (by decide) (fun q22 => ?_) (fun q22 => ?_)
    · have h := ite_t q22 h
      refine V_iload_n C (dt_at dt_X12_readsOne_1 24 rfl) 1 rfl rfl ?_
      obtain ⟨r23, e24, h⟩ := bd_s h
      refine cv_X12_isDigit C ww_785 x2 e24 (Nat.le_of_ble_eq_true rfl) (Nat.le_of_ble_eq_true rfl) z0 (dt_at dt_X12_readsOne_1 25 rfl) ?_
      refine V_if_ne C 119 (dt_at dt_X12_readsOne_1 26 rfl) (by decide) (fun q26 => ?_) (fun q26 => ?_)
      · have h := ite_f q26 h
        refine V_iconst C 0 (dt_at dt_X12_readsOne_1 29 rfl) (by decide) ?_
        refine V_istore C [1, 2, 3, 0] (lv' := [(0, .ref (ga G 6)), (2, .int x2), (3, .int s0), (4, .int 0)]) (dt_at dt_X12_readsOne_1 30 rfl) (by decide) rfl ?_
        refine V_aload_n C (dt_at dt_X12_readsOne_1 31 rfl) 0 rfl rfl ?_
        refine g_X12_186_6 C (dt_at dt_X12_readsOne_1 32 rfl) ?_
        refine V_istore C [1, 2, 3, 4, 0] (lv' := [(0, .ref (ga G 6)), (2, .int x2), (3, .int s0), (4, .int 0), (5, .int (fd σ 6 13))]) (dt_at dt_X12_readsOne_1 33 rfl) (by decide) rfl ?_
        refine V_sub [0, 3, 4] (lv' := [(0, .ref (ga G 6)), (4, .int 0), (5, .int (fd σ 6 13))]) rfl ?_
        exact J_128 0 (fd σ 6 13) σ h
      · have h := ite_t q26 h
        refine V_iconst C 0 (dt_at dt_X12_readsOne_1 27 rfl) (by decide) ?_
        obtain ⟨e1_, e2_⟩ := pin2 h
        subst e1_; subst e2_
        exact V_zret C rfl hR (dt_at dt_X12_readsOne_1 28 rfl)
    · have h := ite_f q22 h
      refine V_aload_n C (dt_at dt_X12_readsOne_1 11 rfl) 0 rfl rfl ?_
      refine V_iconst C (-1) (dt_at dt_X12_readsOne_1 12 rfl) (by decide) ?_
      refine V_iload_n C (dt_at dt_X12_readsOne_1 13 rfl) 2 rfl rfl ?_
      refine V_isub C (dt_at dt_X12_readsOne_1 14 rfl) ?_
      obtain ⟨σ29, e28, h⟩ := bd_s h
      refine cv_X12_lays C ww_671 ((-1) - s0) e28 (Nat.le_of_ble_eq_true rfl) (Nat.le_of_ble_eq_true rfl) z0 (dt_at dt_X12_readsOne_1 15 rfl) ?_
      refine V_aload_n C (dt_at dt_X12_readsOne_1 16 rfl) 0 rfl rfl ?_
      refine V_dup C (dt_at dt_X12_readsOne_1 17 rfl) rfl ?_
      refine g_X12_186_6 C (dt_at dt_X12_readsOne_1 18 rfl) ?_
      refine V_iconst C 1 (dt_at dt_X12_readsOne_1 19 rfl) (by decide) ?_
      refine V_iadd C (dt_at dt_X12_readsOne_1 20 rfl) ?_
      obtain ⟨σ30, eσ30, h⟩ := nm_s h
      refine V_st eσ30 ?_ (fun k => p_X12_186_6 C (dt_at dt_X12_readsOne_1 21 rfl) k)
      refine V_iconst C 1 (dt_at dt_X12_readsOne_1 22 rfl) (by decide) ?_
      obtain ⟨e1_, e2_⟩ := pin2 h
      subst e1_; subst e2_
      exact V_zret C rfl hR (dt_at dt_X12_readsOne_1 23 rfl)
  have J_73 : ∀ (x2 : Int32) (σ : St), f_X12_readsOne_73 x1 x2 σ = some (r0, σ0) → V X G 6 0 0 σ 73 [(0, .ref (ga G 6)), (1, .int x1), (2, .int x2)] [] := by
    intro x2 σ h
    unfold f_X12_readsOne_73 at h
    refine V_iload_n C (dt_at dt_X12_readsOne_1 1 rfl) 2 rfl rfl ?_
    refine V_if_ge C 81 (dt_at dt_X12_readsOne_1 2 rfl) (by decide) (fun q18 => ?_) (fun q18 => ?_)
    · have h := ite_f q18 h
      refine V_iload_n C (dt_at dt_X12_readsOne_1 5 rfl) 1 rfl rfl ?_
      refine V_iload_n C (dt_at dt_X12_readsOne_1 6 rfl) 2 rfl rfl ?_
      obtain ⟨r19, e20, h⟩ := bd_s h
      refine cv_X12_nameOf C ww_784 x1 x2 e20 (Nat.le_of_ble_eq_true rfl) (Nat.le_of_ble_eq_true rfl) z0 (dt_at dt_X12_readsOne_1 7 rfl) ?_
      refine V_sub [0, 2] (lv' := [(0, .ref (ga G 6)), (2, .int x2)]) rfl ?_
      exact J_86 x2 r19 σ h
    · have h := ite_t q18 h
      refine V_iconst C (-1) (dt_at dt_X12_readsOne_1 3 rfl) (by decide) ?_
      refine V_goto C 86 (dt_at dt_X12_readsOne_1 4 rfl) (by decide) ?_
      refine V_sub [0, 2] (lv' := [(0, .ref (ga G 6)), (2, .int x2)]) rfl ?_
      exact J_86 x2 (-1) σ h
  have J_9 : ∀ (x2 : Int32) (σ : St), f_X12_readsOne_9 x1 x2 σ = some (r0, σ0) → V X G 6 0 0 σ 9 [(0, .ref (ga G 6)), (1, .int x1), (2, .int x2)] [] := by
    intro x2 σ h
    refine it_v (P := fun z : Int32 × St => V X G 6 0 0 z.2 9 [(0, .ref (ga G 6)), (1, .int x1), (2, .int z.1)] []) ?_ (x2, σ) h
    clear h
    intro z w_9 h ih_9 ex_9
    obtain ⟨x2, σ⟩ := z
    have h : b_X12_readsOne_9 x1 x2 σ = some w_9 := h
    show V X G 6 0 0 σ 9 [(0, .ref (ga G 6)), (1, .int x1), (2, .int x2)] []
    unfold b_X12_readsOne_9 at h
    have J_21 : ∀ (x2 : Int32) (σ : St), f_X12_readsOne_21 x1 x2 σ = some w_9 → V X G 6 0 0 σ 21 [(0, .ref (ga G 6)), (1, .int x1), (2, .int x2)] [] := by
      intro x2 σ h
      unfold f_X12_readsOne_21 at h
      refine V_aload_n C (dt_at dt_X12_readsOne_0 11 rfl) 0 rfl rfl ?_
      obtain ⟨r7, e8, h⟩ := bd_s h
      refine cv_X12_openMany C ww_783  e8 (Nat.le_of_ble_eq_true rfl) (Nat.le_of_ble_eq_true rfl) z0 (dt_at dt_X12_readsOne_0 12 rfl) ?_
      refine V_iconst C 5 (dt_at dt_X12_readsOne_0 13 rfl) (by decide) ?_
      refine V_icmp_ne C 31 (dt_at dt_X12_readsOne_0 14 rfl) (by decide) (fun q10 => ?_) (fun q10 => ?_)
      · have h := ite_f q10 h
        refine V_aload_n C (dt_at dt_X12_readsOne_0 17 rfl) 0 rfl rfl ?_
        refine g_X12_34_6 C (dt_at dt_X12_readsOne_0 18 rfl) ?_
        refine V_aload_n C (dt_at dt_X12_readsOne_0 19 rfl) 0 rfl rfl ?_
        refine g_X12_176_6 C (dt_at dt_X12_readsOne_0 20 rfl) ?_
        refine V_iload_n C (dt_at dt_X12_readsOne_0 21 rfl) 2 rfl rfl ?_
        obtain ⟨h12, h⟩ := chk_s h
        obtain ⟨σ11, eσ11, h⟩ := nm_s h
        refine V_st eσ11 ?_ (fun k => as_92 C h12 (dt_at dt_X12_readsOne_0 22 rfl) k)
        refine V_aload_n C (dt_at dt_X12_readsOne_0 23 rfl) 0 rfl rfl ?_
        refine V_dup C (dt_at dt_X12_readsOne_0 24 rfl) rfl ?_
        refine g_X12_176_6 C (dt_at dt_X12_readsOne_0 25 rfl) ?_
        refine V_iconst C 1 (dt_at dt_X12_readsOne_0 26 rfl) (by decide) ?_
        refine V_iadd C (dt_at dt_X12_readsOne_0 27 rfl) ?_
        obtain ⟨σ13, eσ13, h⟩ := nm_s h
        refine V_st eσ13 ?_ (fun k => p_X12_176_6 C (dt_at dt_X12_readsOne_0 28 rfl) k)
        refine V_aload_n C (dt_at dt_X12_readsOne_0 29 rfl) 0 rfl rfl ?_
        refine V_dup C (dt_at dt_X12_readsOne_0 30 rfl) rfl ?_
        refine g_X12_186_6 C (dt_at dt_X12_readsOne_0 31 rfl) ?_
        refine V_iconst C 1 (dt_at dt_X12_readsOne_0 32 rfl) (by decide) ?_
        refine V_iadd C (dt_at dt_X12_readsOne_0 33 rfl) ?_
        obtain ⟨σ14, eσ14, h⟩ := nm_s h
        refine V_st eσ14 ?_ (fun k => p_X12_186_6 C (dt_at dt_X12_readsOne_0 34 rfl) k)
        refine V_aload_n C (dt_at dt_X12_readsOne_0 35 rfl) 0 rfl rfl ?_
        refine V_aload_n C (dt_at dt_X12_readsOne_0 36 rfl) 0 rfl rfl ?_
        refine g_X12_186_6 C (dt_at dt_X12_readsOne_0 37 rfl) ?_
        obtain ⟨r15, e16, h⟩ := bd_s h
        refine cv_X12_byteAt C ww_782 (fd σ14 6 13) e16 (Nat.le_of_ble_eq_true rfl) (Nat.le_of_ble_eq_true rfl) z0 (dt_at dt_X12_readsOne_0 38 rfl) ?_
        refine V_istore_n C [1, 2, 0] (lv' := [(0, .ref (ga G 6)), (1, .int x1), (2, .int r15)]) (dt_at dt_X12_readsOne_0 39 rfl) rfl (by decide) rfl ?_
        refine V_goto C 9 (dt_at dt_X12_readsOne_1 0 rfl) (by decide) ?_
        exact ih_9 (r15, σ14) (Option.some.inj h).symm
      · have h := ite_t q10 h
        refine V_iconst C 0 (dt_at dt_X12_readsOne_0 15 rfl) (by decide) ?_
        have e_9 := ex_9 _ (Option.some.inj h).symm
        obtain ⟨e1_, e2_⟩ := Prod.mk.inj e_9
        subst e1_; subst e2_
        exact V_zret C rfl hR (dt_at dt_X12_readsOne_0 16 rfl)
    refine V_iload_n C (dt_at dt_X12_readsOne_0 5 rfl) 2 rfl rfl ?_
    refine V_bipush C 33 (dt_at dt_X12_readsOne_0 6 rfl) (by decide) ?_
    refine V_icmp_eq C 21 (dt_at dt_X12_readsOne_0 7 rfl) (by decide) (fun q4 => ?_) (fun q4 => ?_)
    · have h := ite_t q4 h
      exact J_21 x2 σ h
    · have h := ite_f q4 h
      refine V_iload_n C (dt_at dt_X12_readsOne_0 8 rfl) 2 rfl rfl ?_
      refine V_bipush C 40 (dt_at dt_X12_readsOne_0 9 rfl) (by decide) ?_
      refine V_icmp_ne C 73 (dt_at dt_X12_readsOne_0 10 rfl) (by decide) (fun q5 => ?_) (fun q5 => ?_)
      · have h := ite_f q5 h
        obtain ⟨t6, h, e_9⟩ := map_s h
        have e_9 := ex_9 _ e_9
        rw [e_9] at h
        exact J_73 x2 σ h
      · have h := ite_t q5 h
        exact J_21 x2 σ h
  refine V_aload_n C (dt_at dt_X12_readsOne_0 0 rfl) 0 rfl rfl ?_
  refine V_aload_n C (dt_at dt_X12_readsOne_0 1 rfl) 0 rfl rfl ?_
  refine g_X12_186_6 C (dt_at dt_X12_readsOne_0 2 rfl) ?_
  obtain ⟨r1, e2, h⟩ := bd_s h
  refine cv_X12_byteAt C ww_782 (fd σ 6 13) e2 (Nat.le_of_ble_eq_true rfl) (Nat.le_of_ble_eq_true rfl) z0 (dt_at dt_X12_readsOne_0 3 rfl) ?_
  refine V_istore_n C [1, 2, 0] (lv' := [(0, .ref (ga G 6)), (1, .int x1), (2, .int r1)]) (dt_at dt_X12_readsOne_0 4 rfl) rfl (by decide) rfl ?_
  exact J_9 r1 σ h
theorem cv_X12_readsOne (C : Ck X G cc own nL d) {idx : Nat} (hlk : Cond.methodLink own idx yX12_readsOne ∈ gtb) (x1 : Int32) {r0 : Int32} {σ0 : St} (e : f_X12_readsOne x1 σ = some (r0, σ0)) (hdd : 4 ≤ d) (hroom : (rest.map fun v => v.category).sum ≤ 8) (hcs : cells ≤ (xR X).cells ∧ slots ≤ (xR X).slots) (hd : decode cc pc = .ok (.invokevirtual idx, 3)) (k : V X G nL cells slots σ0 (pc + 3) lv (.int r0 :: rest)) : V X G nL cells slots σ pc lv (.int x1 :: .ref (ga G 6) :: rest) := V_callV C (As := [.int x1]) (c_X12_readsOne X.2.1 G x1 σ r0 σ0 e) cal_X12_readsOne ww_787 ww_788 hlk rfl hdd (lt110 rfl) rfl rfl rfl hroom hcs hd k
theorem dt_X12_settles_0 : dtab cX12_settles [(0, .aload_n 0, 1), (1, .getfield 176, 3), (4, .ifCond .le 50, 3), (7, .aload_n 0, 1), (8, .getfield 34, 3), (11, .aload_n 0, 1), (12, .getfield 176, 3), (15, .iconst 1, 1), (16, .isub, 1), (17, .iaload, 1), (18, .invokestatic 179, 3), (21, .iload_n 1, 1), (22, .if_icmp .lt 32, 3), (25, .aload_n 0, 1), (26, .dup, 1), (27, .getfield 176, 3), (30, .iconst 1, 1), (31, .isub, 1), (32, .putfield 176, 3), (35, .aload_n 0, 1), (36, .bipush (-100), 2), (38, .aload_n 0, 1), (39, .getfield 34, 3), (42, .aload_n 0, 1), (43, .getfield 176, 3), (46, .iaload, 1), (47, .isub, 1), (48, .invokevirtual 182, 3), (51, .goto (-51), 3), (54, .return_, 1)] = true := by decide +kernel
theorem cal_X12_settles : Cal yX12_settles cX12_settles 2 none 1 := ⟨ww_789, ww_429, ⟨by decide, by decide, by decide⟩, by decide⟩
set_option maxHeartbeats 4000000 in
set_option maxRecDepth 100000 in
theorem c_X12_settles (l : Launch) (G : Gx) (x1 : Int32) (σ : St) (σ0 : St) (h : f_X12_settles x1 σ = some σ0) : MI l G yX12_settles cX12_settles 2 none 2 [.ref (ga G 6), .int x1] σ none σ0 := by
  refine MI_of RX12 rfl (by decide) [(0, .ref (ga G 6)), (1, .int x1)] rfl (Nat.le_of_ble_eq_true rfl) ?_
  intro X hXl C hR
  unfold f_X12_settles at h
  have J_0 : ∀ (σ : St), f_X12_settles_0 x1 σ = some σ0 → V X G 2 0 0 σ 0 [(0, .ref (ga G 6)), (1, .int x1)] [] := by
    intro σ h
    refine it_v (P := fun z : St => V X G 2 0 0 z 0 [(0, .ref (ga G 6)), (1, .int x1)] []) ?_ σ h
    clear h
    intro z w_0 h ih_0 ex_0
    revert h; revert z; intro σ h
    have h : b_X12_settles_0 x1 σ = some w_0 := h
    show V X G 2 0 0 σ 0 [(0, .ref (ga G 6)), (1, .int x1)] []
    unfold b_X12_settles_0 at h
    refine V_aload_n C (dt_at dt_X12_settles_0 0 rfl) 0 rfl rfl ?_
    refine g_X12_176_6 C (dt_at dt_X12_settles_0 1 rfl) ?_
    refine V_if_le C 54 (dt_at dt_X12_settles_0 2 rfl) (by decide) (fun q12 => ?_) (fun q12 => ?_)
    · have h := ite_f q12 h
      have e_0 := ex_0 _ (Option.some.inj h).symm
      subst e_0
      exact V_vret C hR (dt_at dt_X12_settles_0 29 rfl)
    · have h := ite_t q12 h
      refine V_aload_n C (dt_at dt_X12_settles_0 3 rfl) 0 rfl rfl ?_
      refine g_X12_34_6 C (dt_at dt_X12_settles_0 4 rfl) ?_
      refine V_aload_n C (dt_at dt_X12_settles_0 5 rfl) 0 rfl rfl ?_
      refine g_X12_176_6 C (dt_at dt_X12_settles_0 6 rfl) ?_
      refine V_iconst C 1 (dt_at dt_X12_settles_0 7 rfl) (by decide) ?_
      refine V_isub C (dt_at dt_X12_settles_0 8 rfl) ?_
      obtain ⟨h13, h⟩ := chk_s h
      refine al_92 C h13 (dt_at dt_X12_settles_0 9 rfl) ?_
      obtain ⟨r14, e15, h⟩ := bd_s h
      refine cv_X12_rankOf C ww_732 (rd σ 92 ((fd σ 6 12) - 1)) e15 (Nat.le_of_ble_eq_true rfl) (Nat.le_of_ble_eq_true rfl) z0 (dt_at dt_X12_settles_0 10 rfl) ?_
      refine V_iload_n C (dt_at dt_X12_settles_0 11 rfl) 1 rfl rfl ?_
      refine V_icmp_lt C 54 (dt_at dt_X12_settles_0 12 rfl) (by decide) (fun q17 => ?_) (fun q17 => ?_)
      · have h := ite_t q17 h
        have e_0 := ex_0 _ (Option.some.inj h).symm
        subst e_0
        exact V_vret C hR (dt_at dt_X12_settles_0 29 rfl)
      · have h := ite_f q17 h
        refine V_aload_n C (dt_at dt_X12_settles_0 13 rfl) 0 rfl rfl ?_
        refine V_dup C (dt_at dt_X12_settles_0 14 rfl) rfl ?_
        refine g_X12_176_6 C (dt_at dt_X12_settles_0 15 rfl) ?_
        refine V_iconst C 1 (dt_at dt_X12_settles_0 16 rfl) (by decide) ?_
        refine V_isub C (dt_at dt_X12_settles_0 17 rfl) ?_
        obtain ⟨σ18, eσ18, h⟩ := nm_s h
        refine V_st eσ18 ?_ (fun k => p_X12_176_6 C (dt_at dt_X12_settles_0 18 rfl) k)
        refine V_aload_n C (dt_at dt_X12_settles_0 19 rfl) 0 rfl rfl ?_
        refine V_bipush C (-100) (dt_at dt_X12_settles_0 20 rfl) (by decide) ?_
        refine V_aload_n C (dt_at dt_X12_settles_0 21 rfl) 0 rfl rfl ?_
        refine g_X12_34_6 C (dt_at dt_X12_settles_0 22 rfl) ?_
        refine V_aload_n C (dt_at dt_X12_settles_0 23 rfl) 0 rfl rfl ?_
        refine g_X12_176_6 C (dt_at dt_X12_settles_0 24 rfl) ?_
        obtain ⟨h19, h⟩ := chk_s h
        refine al_92 C h19 (dt_at dt_X12_settles_0 25 rfl) ?_
        refine V_isub C (dt_at dt_X12_settles_0 26 rfl) ?_
        obtain ⟨σ22, e21, h⟩ := bd_s h
        refine cv_X12_lays C ww_671 ((-100) - (rd σ18 92 (fd σ18 6 12))) e21 (Nat.le_of_ble_eq_true rfl) (Nat.le_of_ble_eq_true rfl) z0 (dt_at dt_X12_settles_0 27 rfl) ?_
        refine V_goto C 0 (dt_at dt_X12_settles_0 28 rfl) (by decide) ?_
        exact ih_0 σ22 (Option.some.inj h).symm
  refine V_aload_n C (dt_at dt_X12_settles_0 0 rfl) 0 rfl rfl ?_
  refine g_X12_176_6 C (dt_at dt_X12_settles_0 1 rfl) ?_
  refine V_if_le C 54 (dt_at dt_X12_settles_0 2 rfl) (by decide) (fun q1 => ?_) (fun q1 => ?_)
  · have h := ite_f q1 h
    have e1_ := Option.some.inj h
    subst e1_
    exact V_vret C hR (dt_at dt_X12_settles_0 29 rfl)
  · have h := ite_t q1 h
    refine V_aload_n C (dt_at dt_X12_settles_0 3 rfl) 0 rfl rfl ?_
    refine g_X12_34_6 C (dt_at dt_X12_settles_0 4 rfl) ?_
    refine V_aload_n C (dt_at dt_X12_settles_0 5 rfl) 0 rfl rfl ?_
    refine g_X12_176_6 C (dt_at dt_X12_settles_0 6 rfl) ?_
    refine V_iconst C 1 (dt_at dt_X12_settles_0 7 rfl) (by decide) ?_
    refine V_isub C (dt_at dt_X12_settles_0 8 rfl) ?_
    obtain ⟨h2, h⟩ := chk_s h
    refine al_92 C h2 (dt_at dt_X12_settles_0 9 rfl) ?_
    obtain ⟨r3, e4, h⟩ := bd_s h
    refine cv_X12_rankOf C ww_732 (rd σ 92 ((fd σ 6 12) - 1)) e4 (Nat.le_of_ble_eq_true rfl) (Nat.le_of_ble_eq_true rfl) z0 (dt_at dt_X12_settles_0 10 rfl) ?_
    refine V_iload_n C (dt_at dt_X12_settles_0 11 rfl) 1 rfl rfl ?_
    refine V_icmp_lt C 54 (dt_at dt_X12_settles_0 12 rfl) (by decide) (fun q6 => ?_) (fun q6 => ?_)
    · have h := ite_t q6 h
      have e1_ := Option.some.inj h
      subst e1_
      exact V_vret C hR (dt_at dt_X12_settles_0 29 rfl)
    · have h := ite_f q6 h
      refine V_aload_n C (dt_at dt_X12_settles_0 13 rfl) 0 rfl rfl ?_
      refine V_dup C (dt_at dt_X12_settles_0 14 rfl) rfl ?_
      refine g_X12_176_6 C (dt_at dt_X12_settles_0 15 rfl) ?_
      refine V_iconst C 1 (dt_at dt_X12_settles_0 16 rfl) (by decide) ?_
      refine V_isub C (dt_at dt_X12_settles_0 17 rfl) ?_
      obtain ⟨σ7, eσ7, h⟩ := nm_s h
      refine V_st eσ7 ?_ (fun k => p_X12_176_6 C (dt_at dt_X12_settles_0 18 rfl) k)
      refine V_aload_n C (dt_at dt_X12_settles_0 19 rfl) 0 rfl rfl ?_
      refine V_bipush C (-100) (dt_at dt_X12_settles_0 20 rfl) (by decide) ?_
      refine V_aload_n C (dt_at dt_X12_settles_0 21 rfl) 0 rfl rfl ?_
      refine g_X12_34_6 C (dt_at dt_X12_settles_0 22 rfl) ?_
      refine V_aload_n C (dt_at dt_X12_settles_0 23 rfl) 0 rfl rfl ?_
      refine g_X12_176_6 C (dt_at dt_X12_settles_0 24 rfl) ?_
      obtain ⟨h8, h⟩ := chk_s h
      refine al_92 C h8 (dt_at dt_X12_settles_0 25 rfl) ?_
      refine V_isub C (dt_at dt_X12_settles_0 26 rfl) ?_
      obtain ⟨σ11, e10, h⟩ := bd_s h
      refine cv_X12_lays C ww_671 ((-100) - (rd σ7 92 (fd σ7 6 12))) e10 (Nat.le_of_ble_eq_true rfl) (Nat.le_of_ble_eq_true rfl) z0 (dt_at dt_X12_settles_0 27 rfl) ?_
      refine V_goto C 0 (dt_at dt_X12_settles_0 28 rfl) (by decide) ?_
      exact J_0 σ11 h
theorem cv_X12_settles (C : Ck X G cc own nL d) {idx : Nat} (hlk : Cond.methodLink own idx yX12_settles ∈ gtb) (x1 : Int32) {σ0 : St} (e : f_X12_settles x1 σ = some σ0) (hdd : 3 ≤ d) (hroom : (rest.map fun v => v.category).sum ≤ 8) (hcs : cells ≤ (xR X).cells ∧ slots ≤ (xR X).slots) (hd : decode cc pc = .ok (.invokevirtual idx, 3)) (k : V X G nL cells slots σ0 (pc + 3) lv (rest)) : V X G nL cells slots σ pc lv (.int x1 :: .ref (ga G 6) :: rest) := V_callV C (As := [.int x1]) (c_X12_settles X.2.1 G x1 σ σ0 e) cal_X12_settles ww_790 ww_791 hlk rfl hdd (lt110 rfl) rfl rfl rfl hroom hcs hd k
theorem dt_X12_reads_0 : dtab cX12_reads [(0, .aload_n 0, 1), (1, .iconst 0, 1), (2, .putfield 172, 3), (5, .aload_n 0, 1), (6, .iconst 0, 1), (7, .putfield 176, 3), (10, .aload_n 0, 1), (11, .iconst 0, 1), (12, .putfield 186, 3), (15, .aload_n 0, 1), (16, .iload_n 1, 1), (17, .invokevirtual 202, 3), (20, .ifCond .ne 5, 3), (23, .iconst 0, 1), (24, .ireturn, 1), (25, .aload_n 0, 1), (26, .invokevirtual 205, 3), (29, .aload_n 0, 1), (30, .aload_n 0, 1), (31, .getfield 186, 3), (34, .invokevirtual 189, 3), (37, .bipush 41, 2), (39, .if_icmp .ne 42, 3), (42, .aload_n 0, 1), (43, .invokevirtual 208, 3), (46, .ifCond .eq 35, 3), (49, .aload_n 0, 1), (50, .iconst 1, 1), (51, .invokevirtual 212, 3), (54, .aload_n 0, 1), (55, .dup, 1), (56, .getfield 176, 3), (59, .iconst 1, 1), (60, .isub, 1), (61, .putfield 176, 3), (64, .aload_n 0, 1), (65, .dup, 1), (66, .getfield 186, 3), (69, .iconst 1, 1), (70, .iadd, 1)] = true := by decide +kernel
theorem dt_X12_reads_1 : dtab cX12_reads [(71, .putfield 186, 3), (74, .aload_n 0, 1), (75, .invokevirtual 205, 3), (78, .goto (-49), 3), (81, .aload_n 0, 1), (82, .getfield 186, 3), (85, .aload_n 0, 1), (86, .getfield 7, 3), (89, .iconst 4, 1), (90, .iaload, 1), (91, .if_icmp .ne 19, 3), (94, .aload_n 0, 1), (95, .invokevirtual 208, 3), (98, .ifCond .eq 5, 3), (101, .iconst 0, 1), (102, .ireturn, 1), (103, .aload_n 0, 1), (104, .iconst 1, 1), (105, .invokevirtual 212, 3), (108, .iconst 1, 1), (109, .ireturn, 1), (110, .aload_n 0, 1), (111, .aload_n 0, 1), (112, .getfield 186, 3), (115, .invokevirtual 189, 3), (118, .istore_n 2, 1), (119, .iload_n 2, 1), (120, .invokestatic 179, 3), (123, .istore_n 3, 1), (124, .iload_n 3, 1), (125, .ifCond .eq 15, 3), (128, .iload_n 3, 1), (129, .iconst 3, 1), (130, .if_icmp .ne 12, 3), (133, .aload_n 0, 1), (134, .invokevirtual 215, 3), (137, .ifCond .eq 5, 3), (140, .iconst 0, 1), (141, .ireturn, 1), (142, .aload_n 0, 1)] = true := by decide +kernel
theorem dt_X12_reads_2 : dtab cX12_reads [(143, .iload_n 3, 1), (144, .invokevirtual 212, 3), (147, .aload_n 0, 1), (148, .getfield 34, 3), (151, .aload_n 0, 1), (152, .getfield 176, 3), (155, .iload_n 2, 1), (156, .iastore, 1), (157, .aload_n 0, 1), (158, .dup, 1), (159, .getfield 176, 3), (162, .iconst 1, 1), (163, .iadd, 1), (164, .putfield 176, 3), (167, .aload_n 0, 1), (168, .dup, 1), (169, .getfield 186, 3), (172, .iconst 1, 1), (173, .iadd, 1), (174, .putfield 186, 3), (177, .goto (-162), 3)] = true := by decide +kernel
theorem cal_X12_reads : Cal yX12_reads cX12_reads 4 (some .boolean) 1 := ⟨ww_797, ww_429, ⟨by decide, by decide, by decide⟩, by decide⟩
set_option maxHeartbeats 4000000 in
set_option maxRecDepth 100000 in
theorem c_X12_reads (l : Launch) (G : Gx) (x1 : Int32) (σ : St) (r0 : Int32) (σ0 : St) (h : f_X12_reads x1 σ = some (r0, σ0)) : MI l G yX12_reads cX12_reads 4 (some .boolean) 4 [.ref (ga G 6), .int x1] σ (some (.int r0)) σ0 := by
  refine MI_of RX12 rfl (by decide) [(0, .ref (ga G 6)), (1, .int x1)] rfl (Nat.le_of_ble_eq_true rfl) ?_
  intro X hXl C hR
  unfold f_X12_reads at h
  have J_94 : ∀ (σ : St), f_X12_reads_94 σ = some (r0, σ0) → V X G 4 0 0 σ 94 [(0, .ref (ga G 6))] [] := by
    intro σ h
    unfold f_X12_reads_94 at h
    refine V_aload_n C (dt_at dt_X12_reads_1 11 rfl) 0 rfl rfl ?_
    obtain ⟨r51, e52, h⟩ := bd_s h
    refine cv_X12_hasOpen C ww_794  e52 (Nat.le_of_ble_eq_true rfl) (Nat.le_of_ble_eq_true rfl) z0 (dt_at dt_X12_reads_1 12 rfl) ?_
    refine V_if_eq C 103 (dt_at dt_X12_reads_1 13 rfl) (by decide) (fun q54 => ?_) (fun q54 => ?_)
    · have h := ite_t q54 h
      refine V_aload_n C (dt_at dt_X12_reads_1 16 rfl) 0 rfl rfl ?_
      refine V_iconst C 1 (dt_at dt_X12_reads_1 17 rfl) (by decide) ?_
      obtain ⟨σ57, e56, h⟩ := bd_s h
      refine cv_X12_settles C ww_795 1 e56 (Nat.le_of_ble_eq_true rfl) (Nat.le_of_ble_eq_true rfl) z0 (dt_at dt_X12_reads_1 18 rfl) ?_
      refine V_iconst C 1 (dt_at dt_X12_reads_1 19 rfl) (by decide) ?_
      obtain ⟨e1_, e2_⟩ := pin2 h
      subst e1_; subst e2_
      exact V_zret C rfl hR (dt_at dt_X12_reads_1 20 rfl)
    · have h := ite_f q54 h
      refine V_iconst C 0 (dt_at dt_X12_reads_1 14 rfl) (by decide) ?_
      obtain ⟨e1_, e2_⟩ := pin2 h
      subst e1_; subst e2_
      exact V_zret C rfl hR (dt_at dt_X12_reads_1 15 rfl)
  have J_15 : ∀ (σ : St), f_X12_reads_15 x1 σ = some (r0, σ0) → V X G 4 0 0 σ 15 [(0, .ref (ga G 6)), (1, .int x1)] [] := by
    intro σ h
    refine it_v (P := fun z : St => V X G 4 0 0 z 15 [(0, .ref (ga G 6)), (1, .int x1)] []) ?_ σ h
    clear h
    intro z w_15 h ih_15 ex_15
    revert h; revert z; intro σ h
    have h : b_X12_reads_15 x1 σ = some w_15 := h
    show V X G 4 0 0 σ 15 [(0, .ref (ga G 6)), (1, .int x1)] []
    unfold b_X12_reads_15 at h
    have J_142 : ∀ (x2 : Int32) (x3 : Int32) (σ : St), f_X12_reads_142 x1 x2 x3 σ = some w_15 → V X G 4 0 0 σ 142 [(0, .ref (ga G 6)), (1, .int x1), (2, .int x2), (3, .int x3)] [] := by
      intro x2 x3 σ h
      unfold f_X12_reads_142 at h
      refine V_aload_n C (dt_at dt_X12_reads_1 39 rfl) 0 rfl rfl ?_
      refine V_iload_n C (dt_at dt_X12_reads_2 0 rfl) 3 rfl rfl ?_
      obtain ⟨σ46, e45, h⟩ := bd_s h
      refine cv_X12_settles C ww_795 x3 e45 (Nat.le_of_ble_eq_true rfl) (Nat.le_of_ble_eq_true rfl) z0 (dt_at dt_X12_reads_2 1 rfl) ?_
      refine V_aload_n C (dt_at dt_X12_reads_2 2 rfl) 0 rfl rfl ?_
      refine g_X12_34_6 C (dt_at dt_X12_reads_2 3 rfl) ?_
      refine V_aload_n C (dt_at dt_X12_reads_2 4 rfl) 0 rfl rfl ?_
      refine g_X12_176_6 C (dt_at dt_X12_reads_2 5 rfl) ?_
      refine V_iload_n C (dt_at dt_X12_reads_2 6 rfl) 2 rfl rfl ?_
      obtain ⟨h48, h⟩ := chk_s h
      obtain ⟨σ47, eσ47, h⟩ := nm_s h
      refine V_st eσ47 ?_ (fun k => as_92 C h48 (dt_at dt_X12_reads_2 7 rfl) k)
      refine V_aload_n C (dt_at dt_X12_reads_2 8 rfl) 0 rfl rfl ?_
      refine V_dup C (dt_at dt_X12_reads_2 9 rfl) rfl ?_
      refine g_X12_176_6 C (dt_at dt_X12_reads_2 10 rfl) ?_
      refine V_iconst C 1 (dt_at dt_X12_reads_2 11 rfl) (by decide) ?_
      refine V_iadd C (dt_at dt_X12_reads_2 12 rfl) ?_
      obtain ⟨σ49, eσ49, h⟩ := nm_s h
      refine V_st eσ49 ?_ (fun k => p_X12_176_6 C (dt_at dt_X12_reads_2 13 rfl) k)
      refine V_aload_n C (dt_at dt_X12_reads_2 14 rfl) 0 rfl rfl ?_
      refine V_dup C (dt_at dt_X12_reads_2 15 rfl) rfl ?_
      refine g_X12_186_6 C (dt_at dt_X12_reads_2 16 rfl) ?_
      refine V_iconst C 1 (dt_at dt_X12_reads_2 17 rfl) (by decide) ?_
      refine V_iadd C (dt_at dt_X12_reads_2 18 rfl) ?_
      obtain ⟨σ50, eσ50, h⟩ := nm_s h
      refine V_st eσ50 ?_ (fun k => p_X12_186_6 C (dt_at dt_X12_reads_2 19 rfl) k)
      refine V_goto C 15 (dt_at dt_X12_reads_2 20 rfl) (by decide) ?_
      refine V_sub [0, 1] (lv' := [(0, .ref (ga G 6)), (1, .int x1)]) rfl ?_
      exact ih_15 σ50 (Option.some.inj h).symm
    have J_81 : ∀ (σ : St), f_X12_reads_81 x1 σ = some w_15 → V X G 4 0 0 σ 81 [(0, .ref (ga G 6)), (1, .int x1)] [] := by
      intro σ h
      unfold f_X12_reads_81 at h
      refine V_aload_n C (dt_at dt_X12_reads_1 4 rfl) 0 rfl rfl ?_
      refine g_X12_186_6 C (dt_at dt_X12_reads_1 5 rfl) ?_
      refine V_aload_n C (dt_at dt_X12_reads_1 6 rfl) 0 rfl rfl ?_
      refine g_X12_7_6 C (dt_at dt_X12_reads_1 7 rfl) ?_
      refine V_iconst C 4 (dt_at dt_X12_reads_1 8 rfl) (by decide) ?_
      obtain ⟨h29, h⟩ := chk_s h
      refine al_84 C h29 (dt_at dt_X12_reads_1 9 rfl) ?_
      refine V_icmp_ne C 110 (dt_at dt_X12_reads_1 10 rfl) (by decide) (fun q30 => ?_) (fun q30 => ?_)
      · have h := ite_f q30 h
        refine V_aload_n C (dt_at dt_X12_reads_1 21 rfl) 0 rfl rfl ?_
        refine V_aload_n C (dt_at dt_X12_reads_1 22 rfl) 0 rfl rfl ?_
        refine g_X12_186_6 C (dt_at dt_X12_reads_1 23 rfl) ?_
        obtain ⟨r31, e32, h⟩ := bd_s h
        refine cv_X12_byteAt C ww_782 (fd σ 6 13) e32 (Nat.le_of_ble_eq_true rfl) (Nat.le_of_ble_eq_true rfl) z0 (dt_at dt_X12_reads_1 24 rfl) ?_
        refine V_istore_n C [1, 2, 0] (lv' := [(0, .ref (ga G 6)), (1, .int x1), (2, .int r31)]) (dt_at dt_X12_reads_1 25 rfl) rfl (by decide) rfl ?_
        refine V_iload_n C (dt_at dt_X12_reads_1 26 rfl) 2 rfl rfl ?_
        obtain ⟨r34, e35, h⟩ := bd_s h
        refine cv_X12_rankOf C ww_732 r31 e35 (Nat.le_of_ble_eq_true rfl) (Nat.le_of_ble_eq_true rfl) z0 (dt_at dt_X12_reads_1 27 rfl) ?_
        refine V_istore_n C [1, 2, 3, 0] (lv' := [(0, .ref (ga G 6)), (1, .int x1), (2, .int r31), (3, .int r34)]) (dt_at dt_X12_reads_1 28 rfl) rfl (by decide) rfl ?_
        refine V_iload_n C (dt_at dt_X12_reads_1 29 rfl) 3 rfl rfl ?_
        refine V_if_eq C 140 (dt_at dt_X12_reads_1 30 rfl) (by decide) (fun q37 => ?_) (fun q37 => ?_)
        · have h := ite_t q37 h
          refine V_iconst C 0 (dt_at dt_X12_reads_1 37 rfl) (by decide) ?_
          have e_15 := ex_15 _ (Option.some.inj h).symm
          obtain ⟨e1_, e2_⟩ := Prod.mk.inj e_15
          subst e1_; subst e2_
          exact V_zret C rfl hR (dt_at dt_X12_reads_1 38 rfl)
        · have h := ite_f q37 h
          refine V_iload_n C (dt_at dt_X12_reads_1 31 rfl) 3 rfl rfl ?_
          refine V_iconst C 3 (dt_at dt_X12_reads_1 32 rfl) (by decide) ?_
          refine V_icmp_ne C 142 (dt_at dt_X12_reads_1 33 rfl) (by decide) (fun q38 => ?_) (fun q38 => ?_)
          · have h := ite_f q38 h
            exact J_142 r31 r34 σ h
          · have h := ite_t q38 h
            refine V_aload_n C (dt_at dt_X12_reads_1 34 rfl) 0 rfl rfl ?_
            obtain ⟨r39, e40, h⟩ := bd_s h
            refine cv_X12_isTested C ww_796  e40 (Nat.le_of_ble_eq_true rfl) (Nat.le_of_ble_eq_true rfl) z0 (dt_at dt_X12_reads_1 35 rfl) ?_
            refine V_if_eq C 142 (dt_at dt_X12_reads_1 36 rfl) (by decide) (fun q42 => ?_) (fun q42 => ?_)
            · have h := ite_t q42 h
              exact J_142 r31 r34 σ h
            · have h := ite_f q42 h
              refine V_iconst C 0 (dt_at dt_X12_reads_1 37 rfl) (by decide) ?_
              have e_15 := ex_15 _ (Option.some.inj h).symm
              obtain ⟨e1_, e2_⟩ := Prod.mk.inj e_15
              subst e1_; subst e2_
              exact V_zret C rfl hR (dt_at dt_X12_reads_1 38 rfl)
      · have h := ite_t q30 h
        refine V_sub [0] (lv' := [(0, .ref (ga G 6))]) rfl ?_
        obtain ⟨t43, h, e_15⟩ := map_s h
        have e_15 := ex_15 _ e_15
        rw [e_15] at h
        exact J_94 σ h
    have J_29 : ∀ (σ : St), f_X12_reads_29 x1 σ = some w_15 → V X G 4 0 0 σ 29 [(0, .ref (ga G 6)), (1, .int x1)] [] := by
      intro σ h
      refine it_v (P := fun z : St => V X G 4 0 0 z 29 [(0, .ref (ga G 6)), (1, .int x1)] []) ?_ σ h
      clear h
      intro z w_29 h ih_29 ex_29
      revert h; revert z; intro σ h
      have h : b_X12_reads_29 x1 σ = some w_29 := h
      show V X G 4 0 0 σ 29 [(0, .ref (ga G 6)), (1, .int x1)] []
      unfold b_X12_reads_29 at h
      refine V_aload_n C (dt_at dt_X12_reads_0 17 rfl) 0 rfl rfl ?_
      refine V_aload_n C (dt_at dt_X12_reads_0 18 rfl) 0 rfl rfl ?_
      refine g_X12_186_6 C (dt_at dt_X12_reads_0 19 rfl) ?_
      obtain ⟨r11, e12, h⟩ := bd_s h
      refine cv_X12_byteAt C ww_782 (fd σ 6 13) e12 (Nat.le_of_ble_eq_true rfl) (Nat.le_of_ble_eq_true rfl) z0 (dt_at dt_X12_reads_0 20 rfl) ?_
      refine V_bipush C 41 (dt_at dt_X12_reads_0 21 rfl) (by decide) ?_
      refine V_icmp_ne C 81 (dt_at dt_X12_reads_0 22 rfl) (by decide) (fun q14 => ?_) (fun q14 => ?_)
      · have h := ite_f q14 h
        obtain ⟨t15, h, e_29⟩ := map_s h
        have e_29 := ex_29 _ e_29
        rw [e_29] at h
        exact J_81 σ h
      · have h := ite_t q14 h
        refine V_aload_n C (dt_at dt_X12_reads_0 23 rfl) 0 rfl rfl ?_
        obtain ⟨r16, e17, h⟩ := bd_s h
        refine cv_X12_hasOpen C ww_794  e17 (Nat.le_of_ble_eq_true rfl) (Nat.le_of_ble_eq_true rfl) z0 (dt_at dt_X12_reads_0 24 rfl) ?_
        refine V_if_eq C 81 (dt_at dt_X12_reads_0 25 rfl) (by decide) (fun q19 => ?_) (fun q19 => ?_)
        · have h := ite_t q19 h
          obtain ⟨t20, h, e_29⟩ := map_s h
          have e_29 := ex_29 _ e_29
          rw [e_29] at h
          exact J_81 σ h
        · have h := ite_f q19 h
          refine V_aload_n C (dt_at dt_X12_reads_0 26 rfl) 0 rfl rfl ?_
          refine V_iconst C 1 (dt_at dt_X12_reads_0 27 rfl) (by decide) ?_
          obtain ⟨σ23, e22, h⟩ := bd_s h
          refine cv_X12_settles C ww_795 1 e22 (Nat.le_of_ble_eq_true rfl) (Nat.le_of_ble_eq_true rfl) z0 (dt_at dt_X12_reads_0 28 rfl) ?_
          refine V_aload_n C (dt_at dt_X12_reads_0 29 rfl) 0 rfl rfl ?_
          refine V_dup C (dt_at dt_X12_reads_0 30 rfl) rfl ?_
          refine g_X12_176_6 C (dt_at dt_X12_reads_0 31 rfl) ?_
          refine V_iconst C 1 (dt_at dt_X12_reads_0 32 rfl) (by decide) ?_
          refine V_isub C (dt_at dt_X12_reads_0 33 rfl) ?_
          obtain ⟨σ24, eσ24, h⟩ := nm_s h
          refine V_st eσ24 ?_ (fun k => p_X12_176_6 C (dt_at dt_X12_reads_0 34 rfl) k)
          refine V_aload_n C (dt_at dt_X12_reads_0 35 rfl) 0 rfl rfl ?_
          refine V_dup C (dt_at dt_X12_reads_0 36 rfl) rfl ?_
          refine g_X12_186_6 C (dt_at dt_X12_reads_0 37 rfl) ?_
          refine V_iconst C 1 (dt_at dt_X12_reads_0 38 rfl) (by decide) ?_
          refine V_iadd C (dt_at dt_X12_reads_0 39 rfl) ?_
          obtain ⟨σ25, eσ25, h⟩ := nm_s h
          refine V_st eσ25 ?_ (fun k => p_X12_186_6 C (dt_at dt_X12_reads_1 0 rfl) k)
          refine V_aload_n C (dt_at dt_X12_reads_1 1 rfl) 0 rfl rfl ?_
          obtain ⟨σ28, e27, h⟩ := bd_s h
          refine cv_X12_denies C ww_793  e27 (Nat.le_of_ble_eq_true rfl) (Nat.le_of_ble_eq_true rfl) z0 (dt_at dt_X12_reads_1 2 rfl) ?_
          refine V_goto C 29 (dt_at dt_X12_reads_1 3 rfl) (by decide) ?_
          exact ih_29 σ28 (Option.some.inj h).symm
    refine V_aload_n C (dt_at dt_X12_reads_0 9 rfl) 0 rfl rfl ?_
    refine V_iload_n C (dt_at dt_X12_reads_0 10 rfl) 1 rfl rfl ?_
    obtain ⟨r4, σ6, e5, h⟩ := bd2_s h
    refine cv_X12_readsOne C ww_792 x1 e5 (Nat.le_of_ble_eq_true rfl) (Nat.le_of_ble_eq_true rfl) z0 (dt_at dt_X12_reads_0 11 rfl) ?_
    refine V_if_ne C 25 (dt_at dt_X12_reads_0 12 rfl) (by decide) (fun q7 => ?_) (fun q7 => ?_)
    · have h := ite_f q7 h
      refine V_aload_n C (dt_at dt_X12_reads_0 15 rfl) 0 rfl rfl ?_
      obtain ⟨σ10, e9, h⟩ := bd_s h
      refine cv_X12_denies C ww_793  e9 (Nat.le_of_ble_eq_true rfl) (Nat.le_of_ble_eq_true rfl) z0 (dt_at dt_X12_reads_0 16 rfl) ?_
      exact J_29 σ10 h
    · have h := ite_t q7 h
      refine V_iconst C 0 (dt_at dt_X12_reads_0 13 rfl) (by decide) ?_
      have e_15 := ex_15 _ (Option.some.inj h).symm
      obtain ⟨e1_, e2_⟩ := Prod.mk.inj e_15
      subst e1_; subst e2_
      exact V_zret C rfl hR (dt_at dt_X12_reads_0 14 rfl)
  refine V_aload_n C (dt_at dt_X12_reads_0 0 rfl) 0 rfl rfl ?_
  refine V_iconst C 0 (dt_at dt_X12_reads_0 1 rfl) (by decide) ?_
  obtain ⟨σ1, eσ1, h⟩ := nm_s h
  refine V_st eσ1 ?_ (fun k => p_X12_172_6 C (dt_at dt_X12_reads_0 2 rfl) k)
  refine V_aload_n C (dt_at dt_X12_reads_0 3 rfl) 0 rfl rfl ?_
  refine V_iconst C 0 (dt_at dt_X12_reads_0 4 rfl) (by decide) ?_
  obtain ⟨σ2, eσ2, h⟩ := nm_s h
  refine V_st eσ2 ?_ (fun k => p_X12_176_6 C (dt_at dt_X12_reads_0 5 rfl) k)
  refine V_aload_n C (dt_at dt_X12_reads_0 6 rfl) 0 rfl rfl ?_
  refine V_iconst C 0 (dt_at dt_X12_reads_0 7 rfl) (by decide) ?_
  obtain ⟨σ3, eσ3, h⟩ := nm_s h
  refine V_st eσ3 ?_ (fun k => p_X12_186_6 C (dt_at dt_X12_reads_0 8 rfl) k)
  exact J_15 σ3 h
theorem cv_X12_reads (C : Ck X G cc own nL d) {idx : Nat} (hlk : Cond.methodLink own idx yX12_reads ∈ gtb) (x1 : Int32) {r0 : Int32} {σ0 : St} (e : f_X12_reads x1 σ = some (r0, σ0)) (hdd : 5 ≤ d) (hroom : (rest.map fun v => v.category).sum ≤ 8) (hcs : cells ≤ (xR X).cells ∧ slots ≤ (xR X).slots) (hd : decode cc pc = .ok (.invokevirtual idx, 3)) (k : V X G nL cells slots σ0 (pc + 3) lv (.int r0 :: rest)) : V X G nL cells slots σ pc lv (.int x1 :: .ref (ga G 6) :: rest) := V_callV C (As := [.int x1]) (c_X12_reads X.2.1 G x1 σ r0 σ0 e) cal_X12_reads ww_798 ww_799 hlk rfl hdd (lt110 rfl) rfl rfl rfl hroom hcs hd k
theorem dt_X12_restore_0 : dtab cX12_restore [(0, .aload_n 0, 1), (1, .getfield 329, 3), (4, .ifCond .ne 9, 3), (7, .aload_n 0, 1), (8, .iconst 2, 1), (9, .invokevirtual 95, 3), (12, .ireturn, 1), (13, .iconst 0, 1), (14, .istore_n 1, 1), (15, .iload_n 1, 1), (16, .sipush 466, 3), (19, .if_icmp .ge 21, 3), (22, .aload_n 0, 1), (23, .getfield 7, 3), (26, .iload_n 1, 1), (27, .aload_n 0, 1), (28, .getfield 13, 3), (31, .iload_n 1, 1), (32, .iaload, 1), (33, .iastore, 1), (34, .iinc 1 1, 3), (37, .goto (-22), 3), (40, .aload_n 0, 1), (41, .iconst 0, 1), (42, .putfield 106, 3), (45, .aload_n 0, 1), (46, .getfield 7, 3), (49, .iconst 1, 1), (50, .iaload, 1), (51, .ireturn, 1)] = true := by decide +kernel
theorem cal_X12_restore : Cal yX12_restore cX12_restore 2 (some .int) 0 := ⟨ww_800, ww_429, ⟨by decide, by decide, by decide⟩, by decide⟩
set_option maxHeartbeats 4000000 in
set_option maxRecDepth 100000 in
theorem c_X12_restore (l : Launch) (G : Gx) (σ : St) (r0 : Int32) (σ0 : St) (h : f_X12_restore σ = some (r0, σ0)) : MI l G yX12_restore cX12_restore 2 (some .int) 2 [.ref (ga G 6)] σ (some (.int r0)) σ0 := by
  refine MI_of RX12 rfl (by decide) [(0, .ref (ga G 6))] rfl (Nat.le_of_ble_eq_true rfl) ?_
  intro X hXl C hR
  unfold f_X12_restore at h
  have J_40 : ∀ (σ : St), f_X12_restore_40 σ = some (r0, σ0) → V X G 2 0 0 σ 40 [(0, .ref (ga G 6))] [] := by
    intro σ h
    unfold f_X12_restore_40 at h
    refine V_aload_n C (dt_at dt_X12_restore_0 22 rfl) 0 rfl rfl ?_
    refine V_iconst C 0 (dt_at dt_X12_restore_0 23 rfl) (by decide) ?_
    obtain ⟨σ9, eσ9, h⟩ := nm_s h
    refine V_st eσ9 ?_ (fun k => p_X12_106_6 C rfl rfl (dt_at dt_X12_restore_0 24 rfl) k)
    refine V_aload_n C (dt_at dt_X12_restore_0 25 rfl) 0 rfl rfl ?_
    refine g_X12_7_6 C (dt_at dt_X12_restore_0 26 rfl) ?_
    refine V_iconst C 1 (dt_at dt_X12_restore_0 27 rfl) (by decide) ?_
    obtain ⟨h10, h⟩ := chk_s h
    refine al_84 C h10 (dt_at dt_X12_restore_0 28 rfl) ?_
    obtain ⟨e1_, e2_⟩ := pin2 h
    subst e1_; subst e2_
    exact V_iret C hR (dt_at dt_X12_restore_0 29 rfl)
  have J_15 : ∀ (x1 : Int32) (σ : St), f_X12_restore_15 x1 σ = some (r0, σ0) → V X G 2 0 0 σ 15 [(0, .ref (ga G 6)), (1, .int x1)] [] := by
    intro x1 σ h
    refine it_v (P := fun z : Int32 × St => V X G 2 0 0 z.2 15 [(0, .ref (ga G 6)), (1, .int z.1)] []) ?_ (x1, σ) h
    clear h
    intro z w_15 h ih_15 ex_15
    obtain ⟨x1, σ⟩ := z
    have h : b_X12_restore_15 x1 σ = some w_15 := h
    show V X G 2 0 0 σ 15 [(0, .ref (ga G 6)), (1, .int x1)] []
    unfold b_X12_restore_15 at h
    refine V_iload_n C (dt_at dt_X12_restore_0 9 rfl) 1 rfl rfl ?_
    refine V_sipush C 466 (dt_at dt_X12_restore_0 10 rfl) (by decide) ?_
    refine V_icmp_ge C 40 (dt_at dt_X12_restore_0 11 rfl) (by decide) (fun q5 => ?_) (fun q5 => ?_)
    · have h := ite_f q5 h
      refine V_sub [0] (lv' := [(0, .ref (ga G 6))]) rfl ?_
      obtain ⟨t6, h, e_15⟩ := map_s h
      have e_15 := ex_15 _ e_15
      rw [e_15] at h
      exact J_40 σ h
    · have h := ite_t q5 h
      refine V_aload_n C (dt_at dt_X12_restore_0 12 rfl) 0 rfl rfl ?_
      refine g_X12_7_6 C (dt_at dt_X12_restore_0 13 rfl) ?_
      refine V_iload_n C (dt_at dt_X12_restore_0 14 rfl) 1 rfl rfl ?_
      refine V_aload_n C (dt_at dt_X12_restore_0 15 rfl) 0 rfl rfl ?_
      refine g_X12_13_6 C (dt_at dt_X12_restore_0 16 rfl) ?_
      refine V_iload_n C (dt_at dt_X12_restore_0 17 rfl) 1 rfl rfl ?_
      obtain ⟨h7, h⟩ := chk_s h
      refine al_85 C h7 (dt_at dt_X12_restore_0 18 rfl) ?_
      obtain ⟨σ8, eσ8, h⟩ := nm_s h
      refine V_st eσ8 ?_ (fun k => as_84 C h7 (dt_at dt_X12_restore_0 19 rfl) k)
      refine V_iinc C (x1 + 1) 1 [1, 0] (lv' := [(0, .ref (ga G 6)), (1, .int (x1 + 1))]) (dt_at dt_X12_restore_0 20 rfl) rfl (by rfl) (by decide) rfl ?_
      refine V_goto C 15 (dt_at dt_X12_restore_0 21 rfl) (by decide) ?_
      exact ih_15 ((x1 + 1), σ8) (Option.some.inj h).symm
  refine V_aload_n C (dt_at dt_X12_restore_0 0 rfl) 0 rfl rfl ?_
  refine g_X12_329_6 C (dt_at dt_X12_restore_0 1 rfl) ?_
  refine V_if_ne C 13 (dt_at dt_X12_restore_0 2 rfl) (by decide) (fun q1 => ?_) (fun q1 => ?_)
  · have h := ite_f q1 h
    refine V_iconst C 0 (dt_at dt_X12_restore_0 7 rfl) (by decide) ?_
    refine V_istore_n C [1, 0] (lv' := [(0, .ref (ga G 6)), (1, .int 0)]) (dt_at dt_X12_restore_0 8 rfl) rfl (by decide) rfl ?_
    exact J_15 0 σ h
  · have h := ite_t q1 h
    refine V_aload_n C (dt_at dt_X12_restore_0 3 rfl) 0 rfl rfl ?_
    refine V_iconst C 2 (dt_at dt_X12_restore_0 4 rfl) (by decide) ?_
    obtain ⟨r2, σ4, e3, h⟩ := bd2_s h
    refine cv_X12_finds C ww_462 2 e3 (Nat.le_of_ble_eq_true rfl) (Nat.le_of_ble_eq_true rfl) z0 (dt_at dt_X12_restore_0 5 rfl) ?_
    obtain ⟨e1_, e2_⟩ := pin2 h
    subst e1_; subst e2_
    exact V_iret C hR (dt_at dt_X12_restore_0 6 rfl)
theorem cv_X12_restore (C : Ck X G cc own nL d) {idx : Nat} (hlk : Cond.methodLink own idx yX12_restore ∈ gtb) {r0 : Int32} {σ0 : St} (e : f_X12_restore σ = some (r0, σ0)) (hdd : 3 ≤ d) (hroom : (rest.map fun v => v.category).sum ≤ 8) (hcs : cells ≤ (xR X).cells ∧ slots ≤ (xR X).slots) (hd : decode cc pc = .ok (.invokevirtual idx, 3)) (k : V X G nL cells slots σ0 (pc + 3) lv (.int r0 :: rest)) : V X G nL cells slots σ pc lv (.ref (ga G 6) :: rest) := V_callV C (As := []) (c_X12_restore X.2.1 G  σ r0 σ0 e) cal_X12_restore ww_801 ww_802 hlk rfl hdd (lt110 rfl) rfl rfl rfl hroom hcs hd k
theorem dt_X12_sheet_0 : dtab cX12_sheet [(0, .iload_n 1, 1), (1, .invokestatic 240, 3), (4, .ifCond .eq 25, 3), (7, .iload_n 2, 1), (8, .ifCond .eq 27, 3), (11, .iload_n 2, 1), (12, .bipush 8, 2), (14, .if_icmp .eq 21, 3), (17, .iload_n 2, 1), (18, .bipush 16, 2), (20, .if_icmp .eq 15, 3), (23, .iload_n 2, 1), (24, .bipush 32, 2), (26, .if_icmp .eq 9, 3), (29, .aload_n 0, 1), (30, .iconst 1, 1), (31, .invokevirtual 95, 3), (34, .ireturn, 1), (35, .iload_n 2, 1), (36, .ifCond .eq 13, 3), (39, .iload_n 3, 1), (40, .ifCond .ge 9, 3), (43, .aload_n 0, 1), (44, .iconst 3, 1), (45, .invokevirtual 95, 3), (48, .ireturn, 1), (49, .iload_n 2, 1), (50, .ifCond .eq 15, 3), (53, .iload_n 3, 1), (54, .bipush 24, 2), (56, .if_icmp .le 9, 3), (59, .aload_n 0, 1), (60, .iconst 1, 1), (61, .invokevirtual 95, 3), (64, .ireturn, 1), (65, .aload_n 0, 1), (66, .getfield 78, 3), (69, .iload_n 1, 1), (70, .iload_n 2, 1), (71, .iastore, 1)] = true := by decide +kernel
theorem dt_X12_sheet_1 : dtab cX12_sheet [(72, .aload_n 0, 1), (73, .getfield 81, 3), (76, .iload_n 1, 1), (77, .iload_n 2, 1), (78, .ifCond .ne 7, 3), (81, .iconst 0, 1), (82, .goto 4, 3), (85, .iload_n 3, 1), (86, .iastore, 1), (87, .iconst 0, 1), (88, .istore 4, 2), (90, .iload 4, 2), (92, .bipush 24, 2), (94, .if_icmp .ge 22, 3), (97, .aload_n 0, 1), (98, .getfield 84, 3), (101, .bipush 24, 2), (103, .iload_n 1, 1), (104, .imul, 1), (105, .iload 4, 2), (107, .iadd, 1), (108, .iconst 0, 1), (109, .iastore, 1), (110, .iinc 4 1, 3), (113, .goto (-23), 3), (116, .iconst 1, 1), (117, .ireturn, 1)] = true := by decide +kernel
theorem cal_X12_sheet : Cal yX12_sheet cX12_sheet 5 (some .int) 3 := ⟨ww_803, ww_429, ⟨by decide, by decide, by decide⟩, by decide⟩
set_option maxHeartbeats 4000000 in
set_option maxRecDepth 100000 in
theorem c_X12_sheet (l : Launch) (G : Gx) (x1 : Int32) (x2 : Int32) (x3 : Int32) (σ : St) (r0 : Int32) (σ0 : St) (h : f_X12_sheet x1 x2 x3 σ = some (r0, σ0)) : MI l G yX12_sheet cX12_sheet 5 (some .int) 3 [.ref (ga G 6), .int x1, .int x2, .int x3] σ (some (.int r0)) σ0 := by
  refine MI_of RX12 rfl (by decide) [(0, .ref (ga G 6)), (1, .int x1), (2, .int x2), (3, .int x3)] rfl (Nat.le_of_ble_eq_true rfl) ?_
  intro X hXl C hR
  unfold f_X12_sheet at h
  have J_90 : ∀ (x4 : Int32) (σ : St), f_X12_sheet_90 x1 x4 σ = some (r0, σ0) → V X G 5 0 0 σ 90 [(0, .ref (ga G 6)), (1, .int x1), (4, .int x4)] [] := by
    intro x4 σ h
    refine it_v (P := fun z : Int32 × St => V X G 5 0 0 z.2 90 [(0, .ref (ga G 6)), (1, .int x1), (4, .int z.1)] []) ?_ (x4, σ) h
    clear h
    intro z w_90 h ih_90 ex_90
    obtain ⟨x4, σ⟩ := z
    have h : b_X12_sheet_90 x1 x4 σ = some w_90 := h
    show V X G 5 0 0 σ 90 [(0, .ref (ga G 6)), (1, .int x1), (4, .int x4)] []
    unfold b_X12_sheet_90 at h
    refine V_iload C (dt_at dt_X12_sheet_1 11 rfl) 2 rfl ?_
    refine V_bipush C 24 (dt_at dt_X12_sheet_1 12 rfl) (by decide) ?_
    refine V_icmp_ge C 116 (dt_at dt_X12_sheet_1 13 rfl) (by decide) (fun q27 => ?_) (fun q27 => ?_)
    · have h := ite_f q27 h
      refine V_iconst C 1 (dt_at dt_X12_sheet_1 25 rfl) (by decide) ?_
      have e_90 := ex_90 _ (Option.some.inj h).symm
      obtain ⟨e1_, e2_⟩ := Prod.mk.inj e_90
      subst e1_; subst e2_
      exact V_iret C hR (dt_at dt_X12_sheet_1 26 rfl)
    · have h := ite_t q27 h
      refine V_aload_n C (dt_at dt_X12_sheet_1 14 rfl) 0 rfl rfl ?_
      refine g_X12_84_6 C (dt_at dt_X12_sheet_1 15 rfl) ?_
      refine V_bipush C 24 (dt_at dt_X12_sheet_1 16 rfl) (by decide) ?_
      refine V_iload_n C (dt_at dt_X12_sheet_1 17 rfl) 1 rfl rfl ?_
      refine V_imul C (dt_at dt_X12_sheet_1 18 rfl) ?_
      refine V_iload C (dt_at dt_X12_sheet_1 19 rfl) 2 rfl ?_
      refine V_iadd C (dt_at dt_X12_sheet_1 20 rfl) ?_
      refine V_iconst C 0 (dt_at dt_X12_sheet_1 21 rfl) (by decide) ?_
      obtain ⟨h29, h⟩ := chk_s h
      obtain ⟨σ28, eσ28, h⟩ := nm_s h
      refine V_st eσ28 ?_ (fun k => as_108 C h29 (dt_at dt_X12_sheet_1 22 rfl) k)
      refine V_iinc C (x4 + 1) 2 [1, 2, 0] (lv' := [(0, .ref (ga G 6)), (1, .int x1), (4, .int (x4 + 1))]) (dt_at dt_X12_sheet_1 23 rfl) rfl (by rfl) (by decide) rfl ?_
      refine V_goto C 90 (dt_at dt_X12_sheet_1 24 rfl) (by decide) ?_
      exact ih_90 ((x4 + 1), σ28) (Option.some.inj h).symm
  have J_86 : ∀ (s0 : Int32) (s1 : Int32) (σ : St), f_X12_sheet_86 x1 s0 s1 σ = some (r0, σ0) → V X G 5 0 0 σ 86 [(0, .ref (ga G 6)), (1, .int x1)] [.int s0, .int s1, .ref (ga G 107)] := by
    intro s0 s1 σ h
    unfold f_X12_sheet_86 at h
    obtain ⟨h26, h⟩ := chk_s h
    obtain ⟨σ25, eσ25, h⟩ := nm_s h
    refine V_st eσ25 ?_ (fun k => as_107 C h26 (dt_at dt_X12_sheet_1 8 rfl) k)
    refine V_iconst C 0 (dt_at dt_X12_sheet_1 9 rfl) (by decide) ?_
    refine V_istore C [1, 2, 0] (lv' := [(0, .ref (ga G 6)), (1, .int x1), (4, .int 0)]) (dt_at dt_X12_sheet_1 10 rfl) (by decide) rfl ?_
    exact J_90 0 σ25 h
  have J_65 : ∀ (σ : St), f_X12_sheet_65 x1 x2 x3 σ = some (r0, σ0) → V X G 5 0 0 σ 65 [(0, .ref (ga G 6)), (1, .int x1), (2, .int x2), (3, .int x3)] [] := by
    intro σ h
    unfold f_X12_sheet_65 at h
    refine V_aload_n C (dt_at dt_X12_sheet_0 35 rfl) 0 rfl rfl ?_
    refine g_X12_78_6 C (dt_at dt_X12_sheet_0 36 rfl) ?_
    refine V_iload_n C (dt_at dt_X12_sheet_0 37 rfl) 1 rfl rfl ?_
    refine V_iload_n C (dt_at dt_X12_sheet_0 38 rfl) 2 rfl rfl ?_
    obtain ⟨h23, h⟩ := chk_s h
    obtain ⟨σ22, eσ22, h⟩ := nm_s h
    refine V_st eσ22 ?_ (fun k => as_106 C h23 (dt_at dt_X12_sheet_0 39 rfl) k)
    refine V_aload_n C (dt_at dt_X12_sheet_1 0 rfl) 0 rfl rfl ?_
    refine g_X12_81_6 C (dt_at dt_X12_sheet_1 1 rfl) ?_
    refine V_iload_n C (dt_at dt_X12_sheet_1 2 rfl) 1 rfl rfl ?_
    refine V_iload_n C (dt_at dt_X12_sheet_1 3 rfl) 2 rfl rfl ?_
    refine V_if_ne C 85 (dt_at dt_X12_sheet_1 4 rfl) (by decide) (fun q24 => ?_) (fun q24 => ?_)
    · have h := ite_f q24 h
      refine V_iload_n C (dt_at dt_X12_sheet_1 7 rfl) 3 rfl rfl ?_
      refine V_sub [0, 1] (lv' := [(0, .ref (ga G 6)), (1, .int x1)]) rfl ?_
      exact J_86 x3 x1 σ22 h
    · have h := ite_t q24 h
      refine V_iconst C 0 (dt_at dt_X12_sheet_1 5 rfl) (by decide) ?_
      refine V_goto C 86 (dt_at dt_X12_sheet_1 6 rfl) (by decide) ?_
      refine V_sub [0, 1] (lv' := [(0, .ref (ga G 6)), (1, .int x1)]) rfl ?_
      exact J_86 0 x1 σ22 h
  have J_49 : ∀ (σ : St), f_X12_sheet_49 x1 x2 x3 σ = some (r0, σ0) → V X G 5 0 0 σ 49 [(0, .ref (ga G 6)), (1, .int x1), (2, .int x2), (3, .int x3)] [] := by
    intro σ h
    unfold f_X12_sheet_49 at h
    refine V_iload_n C (dt_at dt_X12_sheet_0 26 rfl) 2 rfl rfl ?_
    refine V_if_eq C 65 (dt_at dt_X12_sheet_0 27 rfl) (by decide) (fun q17 => ?_) (fun q17 => ?_)
    · have h := ite_t q17 h
      exact J_65 σ h
    · have h := ite_f q17 h
      refine V_iload_n C (dt_at dt_X12_sheet_0 28 rfl) 3 rfl rfl ?_
      refine V_bipush C 24 (dt_at dt_X12_sheet_0 29 rfl) (by decide) ?_
      refine V_icmp_le C 65 (dt_at dt_X12_sheet_0 30 rfl) (by decide) (fun q18 => ?_) (fun q18 => ?_)
      · have h := ite_f q18 h
        exact J_65 σ h
      · have h := ite_t q18 h
        refine V_aload_n C (dt_at dt_X12_sheet_0 31 rfl) 0 rfl rfl ?_
        refine V_iconst C 1 (dt_at dt_X12_sheet_0 32 rfl) (by decide) ?_
        obtain ⟨r19, σ21, e20, h⟩ := bd2_s h
        refine cv_X12_finds C ww_462 1 e20 (Nat.le_of_ble_eq_true rfl) (Nat.le_of_ble_eq_true rfl) z0 (dt_at dt_X12_sheet_0 33 rfl) ?_
        obtain ⟨e1_, e2_⟩ := pin2 h
        subst e1_; subst e2_
        exact V_iret C hR (dt_at dt_X12_sheet_0 34 rfl)
  have J_35 : ∀ (σ : St), f_X12_sheet_35 x1 x2 x3 σ = some (r0, σ0) → V X G 5 0 0 σ 35 [(0, .ref (ga G 6)), (1, .int x1), (2, .int x2), (3, .int x3)] [] := by
    intro σ h
    unfold f_X12_sheet_35 at h
    refine V_iload_n C (dt_at dt_X12_sheet_0 18 rfl) 2 rfl rfl ?_
    refine V_if_eq C 49 (dt_at dt_X12_sheet_0 19 rfl) (by decide) (fun q12 => ?_) (fun q12 => ?_)
    · have h := ite_t q12 h
      exact J_49 σ h
    · have h := ite_f q12 h
      refine V_iload_n C (dt_at dt_X12_sheet_0 20 rfl) 3 rfl rfl ?_
      refine V_if_ge C 49 (dt_at dt_X12_sheet_0 21 rfl) (by decide) (fun q13 => ?_) (fun q13 => ?_)
      · have h := ite_f q13 h
        exact J_49 σ h
      · have h := ite_t q13 h
        refine V_aload_n C (dt_at dt_X12_sheet_0 22 rfl) 0 rfl rfl ?_
        refine V_iconst C 3 (dt_at dt_X12_sheet_0 23 rfl) (by decide) ?_
        obtain ⟨r14, σ16, e15, h⟩ := bd2_s h
        refine cv_X12_finds C ww_462 3 e15 (Nat.le_of_ble_eq_true rfl) (Nat.le_of_ble_eq_true rfl) z0 (dt_at dt_X12_sheet_0 24 rfl) ?_
        obtain ⟨e1_, e2_⟩ := pin2 h
        subst e1_; subst e2_
        exact V_iret C hR (dt_at dt_X12_sheet_0 25 rfl)
  have J_29 : ∀ (σ : St), f_X12_sheet_29 σ = some (r0, σ0) → V X G 5 0 0 σ 29 [(0, .ref (ga G 6))] [] := by
    intro σ h
    unfold f_X12_sheet_29 at h
    refine V_aload_n C (dt_at dt_X12_sheet_0 14 rfl) 0 rfl rfl ?_
    refine V_iconst C 1 (dt_at dt_X12_sheet_0 15 rfl) (by decide) ?_
    obtain ⟨r9, σ11, e10, h⟩ := bd2_s h
    refine cv_X12_finds C ww_462 1 e10 (Nat.le_of_ble_eq_true rfl) (Nat.le_of_ble_eq_true rfl) z0 (dt_at dt_X12_sheet_0 16 rfl) ?_
    obtain ⟨e1_, e2_⟩ := pin2 h
    subst e1_; subst e2_
    exact V_iret C hR (dt_at dt_X12_sheet_0 17 rfl)
  refine V_iload_n C (dt_at dt_X12_sheet_0 0 rfl) 1 rfl rfl ?_
  obtain ⟨r1, e2, h⟩ := bd_s h
  refine cv_X12_isSheet C ww_573 x1 e2 (Nat.le_of_ble_eq_true rfl) (Nat.le_of_ble_eq_true rfl) z0 (dt_at dt_X12_sheet_0 1 rfl) ?_
  refine V_if_eq C 29 (dt_at dt_X12_sheet_0 2 rfl) (by decide) (fun q4 => ?_) (fun q4 => ?_)
  · have h := ite_t q4 h
    refine V_sub [0] (lv' := [(0, .ref (ga G 6))]) rfl ?_
    exact J_29 σ h
  · have h := ite_f q4 h
    refine V_iload_n C (dt_at dt_X12_sheet_0 3 rfl) 2 rfl rfl ?_
    refine V_if_eq C 35 (dt_at dt_X12_sheet_0 4 rfl) (by decide) (fun q5 => ?_) (fun q5 => ?_)
    · have h := ite_t q5 h
      exact J_35 σ h
    · have h := ite_f q5 h
      refine V_iload_n C (dt_at dt_X12_sheet_0 5 rfl) 2 rfl rfl ?_
      refine V_bipush C 8 (dt_at dt_X12_sheet_0 6 rfl) (by decide) ?_
      refine V_icmp_eq C 35 (dt_at dt_X12_sheet_0 7 rfl) (by decide) (fun q6 => ?_) (fun q6 => ?_)
      · have h := ite_t q6 h
        exact J_35 σ h
      · have h := ite_f q6 h
        refine V_iload_n C (dt_at dt_X12_sheet_0 8 rfl) 2 rfl rfl ?_
        refine V_bipush C 16 (dt_at dt_X12_sheet_0 9 rfl) (by decide) ?_
        refine V_icmp_eq C 35 (dt_at dt_X12_sheet_0 10 rfl) (by decide) (fun q7 => ?_) (fun q7 => ?_)
        · have h := ite_t q7 h
          exact J_35 σ h
        · have h := ite_f q7 h
          refine V_iload_n C (dt_at dt_X12_sheet_0 11 rfl) 2 rfl rfl ?_
          refine V_bipush C 32 (dt_at dt_X12_sheet_0 12 rfl) (by decide) ?_
          refine V_icmp_eq C 35 (dt_at dt_X12_sheet_0 13 rfl) (by decide) (fun q8 => ?_) (fun q8 => ?_)
          · have h := ite_t q8 h
            exact J_35 σ h
          · have h := ite_f q8 h
            refine V_sub [0] (lv' := [(0, .ref (ga G 6))]) rfl ?_
            exact J_29 σ h
theorem cv_X12_sheet (C : Ck X G cc own nL d) {idx : Nat} (hlk : Cond.methodLink own idx yX12_sheet ∈ gtb) (x1 : Int32) (x2 : Int32) (x3 : Int32) {r0 : Int32} {σ0 : St} (e : f_X12_sheet x1 x2 x3 σ = some (r0, σ0)) (hdd : 4 ≤ d) (hroom : (rest.map fun v => v.category).sum ≤ 8) (hcs : cells ≤ (xR X).cells ∧ slots ≤ (xR X).slots) (hd : decode cc pc = .ok (.invokevirtual idx, 3)) (k : V X G nL cells slots σ0 (pc + 3) lv (.int r0 :: rest)) : V X G nL cells slots σ pc lv (.int x3 :: .int x2 :: .int x1 :: .ref (ga G 6) :: rest) := V_callV C (As := [.int x1, .int x2, .int x3]) (c_X12_sheet X.2.1 G x1 x2 x3 σ r0 σ0 e) cal_X12_sheet ww_804 ww_805 hlk rfl hdd (lt110 rfl) rfl rfl rfl hroom hcs hd k
theorem dt_X12_shift_0 : dtab cX12_shift [(0, .aload_n 0, 1), (1, .iload_n 1, 1), (2, .iload_n 2, 1), (3, .invokevirtual 134, 3), (6, .istore_n 3, 1), (7, .iload_n 3, 1), (8, .ifCond .eq 9, 3), (11, .aload_n 0, 1), (12, .iload_n 3, 1), (13, .invokevirtual 95, 3), (16, .ireturn, 1), (17, .aload_n 0, 1), (18, .iload_n 1, 1), (19, .iload_n 2, 1), (20, .invokevirtual 137, 3), (23, .aload_n 0, 1), (24, .iload_n 1, 1), (25, .iconst 1, 1), (26, .invokevirtual 99, 3), (29, .ireturn, 1)] = true := by decide +kernel
theorem cal_X12_shift : Cal yX12_shift cX12_shift 4 (some .int) 2 := ⟨ww_806, ww_429, ⟨by decide, by decide, by decide⟩, by decide⟩
set_option maxHeartbeats 4000000 in
set_option maxRecDepth 100000 in
theorem c_X12_shift (l : Launch) (G : Gx) (x1 : Int32) (x2 : Int32) (σ : St) (r0 : Int32) (σ0 : St) (h : f_X12_shift x1 x2 σ = some (r0, σ0)) : MI l G yX12_shift cX12_shift 4 (some .int) 4 [.ref (ga G 6), .int x1, .int x2] σ (some (.int r0)) σ0 := by
  refine MI_of RX12 rfl (by decide) [(0, .ref (ga G 6)), (1, .int x1), (2, .int x2)] rfl (Nat.le_of_ble_eq_true rfl) ?_
  intro X hXl C hR
  unfold f_X12_shift at h
  refine V_aload_n C (dt_at dt_X12_shift_0 0 rfl) 0 rfl rfl ?_
  refine V_iload_n C (dt_at dt_X12_shift_0 1 rfl) 1 rfl rfl ?_
  refine V_iload_n C (dt_at dt_X12_shift_0 2 rfl) 2 rfl rfl ?_
  obtain ⟨r1, e2, h⟩ := bd_s h
  refine cv_X12_whyNot C ww_718 x1 x2 e2 (Nat.le_of_ble_eq_true rfl) (Nat.le_of_ble_eq_true rfl) z0 (dt_at dt_X12_shift_0 3 rfl) ?_
  refine V_istore_n C [1, 2, 3, 0] (lv' := [(0, .ref (ga G 6)), (1, .int x1), (2, .int x2), (3, .int r1)]) (dt_at dt_X12_shift_0 4 rfl) rfl (by decide) rfl ?_
  refine V_iload_n C (dt_at dt_X12_shift_0 5 rfl) 3 rfl rfl ?_
  refine V_if_eq C 17 (dt_at dt_X12_shift_0 6 rfl) (by decide) (fun q4 => ?_) (fun q4 => ?_)
  · have h := ite_t q4 h
    refine V_aload_n C (dt_at dt_X12_shift_0 11 rfl) 0 rfl rfl ?_
    refine V_iload_n C (dt_at dt_X12_shift_0 12 rfl) 1 rfl rfl ?_
    refine V_iload_n C (dt_at dt_X12_shift_0 13 rfl) 2 rfl rfl ?_
    obtain ⟨σ7, e6, h⟩ := bd_s h
    refine cv_X12_moves C ww_719 x1 x2 e6 (Nat.le_of_ble_eq_true rfl) (Nat.le_of_ble_eq_true rfl) z0 (dt_at dt_X12_shift_0 14 rfl) ?_
    refine V_aload_n C (dt_at dt_X12_shift_0 15 rfl) 0 rfl rfl ?_
    refine V_iload_n C (dt_at dt_X12_shift_0 16 rfl) 1 rfl rfl ?_
    refine V_iconst C 1 (dt_at dt_X12_shift_0 17 rfl) (by decide) ?_
    obtain ⟨r8, e9, h⟩ := bd_s h
    refine cv_X12_entryOf C ww_455 x1 1 e9 (Nat.le_of_ble_eq_true rfl) (Nat.le_of_ble_eq_true rfl) z0 (dt_at dt_X12_shift_0 18 rfl) ?_
    obtain ⟨e1_, e2_⟩ := pin2 h
    subst e1_; subst e2_
    exact V_iret C hR (dt_at dt_X12_shift_0 19 rfl)
  · have h := ite_f q4 h
    refine V_aload_n C (dt_at dt_X12_shift_0 7 rfl) 0 rfl rfl ?_
    refine V_iload_n C (dt_at dt_X12_shift_0 8 rfl) 3 rfl rfl ?_
    obtain ⟨r11, σ13, e12, h⟩ := bd2_s h
    refine cv_X12_finds C ww_462 r1 e12 (Nat.le_of_ble_eq_true rfl) (Nat.le_of_ble_eq_true rfl) z0 (dt_at dt_X12_shift_0 9 rfl) ?_
    obtain ⟨e1_, e2_⟩ := pin2 h
    subst e1_; subst e2_
    exact V_iret C hR (dt_at dt_X12_shift_0 10 rfl)
theorem cv_X12_shift (C : Ck X G cc own nL d) {idx : Nat} (hlk : Cond.methodLink own idx yX12_shift ∈ gtb) (x1 : Int32) (x2 : Int32) {r0 : Int32} {σ0 : St} (e : f_X12_shift x1 x2 σ = some (r0, σ0)) (hdd : 5 ≤ d) (hroom : (rest.map fun v => v.category).sum ≤ 8) (hcs : cells ≤ (xR X).cells ∧ slots ≤ (xR X).slots) (hd : decode cc pc = .ok (.invokevirtual idx, 3)) (k : V X G nL cells slots σ0 (pc + 3) lv (.int r0 :: rest)) : V X G nL cells slots σ pc lv (.int x2 :: .int x1 :: .ref (ga G 6) :: rest) := V_callV C (As := [.int x1, .int x2]) (c_X12_shift X.2.1 G x1 x2 σ r0 σ0 e) cal_X12_shift ww_807 ww_808 hlk rfl hdd (lt110 rfl) rfl rfl rfl hroom hcs hd k
theorem dt_X12_take_0 : dtab cX12_take [(0, .iload_n 1, 1), (1, .iconst 0, 1), (2, .iconst 3, 1), (3, .invokestatic 91, 3), (6, .ifCond .eq 11, 3), (9, .aload_n 0, 1), (10, .iload_n 2, 1), (11, .invokevirtual 272, 3), (14, .ifCond .ne 9, 3), (17, .aload_n 0, 1), (18, .iconst 1, 1), (19, .invokevirtual 95, 3), (22, .ireturn, 1), (23, .aload_n 0, 1), (24, .iload_n 1, 1), (25, .iload_n 2, 1), (26, .invokevirtual 275, 3), (29, .ifCond .ne 9, 3), (32, .aload_n 0, 1), (33, .iconst 2, 1), (34, .invokevirtual 95, 3), (37, .ireturn, 1), (38, .aload_n 0, 1), (39, .iload_n 1, 1), (40, .iload_n 2, 1), (41, .invokevirtual 278, 3), (44, .istore_n 3, 1), (45, .iconst 0, 1), (46, .istore 4, 2), (48, .iload 4, 2), (50, .aload_n 0, 1), (51, .getfield 7, 3), (54, .iconst 1, 1), (55, .iaload, 1), (56, .if_icmp .ge 30, 3), (59, .aload_n 0, 1), (60, .getfield 7, 3), (63, .bipush 10, 2), (65, .iconst 5, 1), (66, .iload 4, 2)] = true := by decide +kernel
theorem dt_X12_take_1 : dtab cX12_take [(68, .imul, 1), (69, .iadd, 1), (70, .iconst 4, 1), (71, .iadd, 1), (72, .aload_n 0, 1), (73, .getfield 72, 3), (76, .iload 4, 2), (78, .iaload, 1), (79, .iastore, 1), (80, .iinc 4 1, 3), (83, .goto (-35), 3), (86, .iload_n 3, 1), (87, .ireturn, 1)] = true := by decide +kernel
theorem cal_X12_take : Cal yX12_take cX12_take 5 (some .int) 2 := ⟨ww_809, ww_429, ⟨by decide, by decide, by decide⟩, by decide⟩
set_option maxHeartbeats 4000000 in
set_option maxRecDepth 100000 in
theorem c_X12_take (l : Launch) (G : Gx) (x1 : Int32) (x2 : Int32) (σ : St) (r0 : Int32) (σ0 : St) (h : f_X12_take x1 x2 σ = some (r0, σ0)) : MI l G yX12_take cX12_take 5 (some .int) 9 [.ref (ga G 6), .int x1, .int x2] σ (some (.int r0)) σ0 := by
  refine MI_of RX12 rfl (by decide) [(0, .ref (ga G 6)), (1, .int x1), (2, .int x2)] rfl (Nat.le_of_ble_eq_true rfl) ?_
  intro X hXl C hR
  unfold f_X12_take at h
  have J_48 : ∀ (x3 : Int32) (x4 : Int32) (σ : St), f_X12_take_48 x3 x4 σ = some (r0, σ0) → V X G 5 0 0 σ 48 [(0, .ref (ga G 6)), (3, .int x3), (4, .int x4)] [] := by
    intro x3 x4 σ h
    refine it_v (P := fun z : Int32 × St => V X G 5 0 0 z.2 48 [(0, .ref (ga G 6)), (3, .int x3), (4, .int z.1)] []) ?_ (x4, σ) h
    clear h
    intro z w_48 h ih_48 ex_48
    obtain ⟨x4, σ⟩ := z
    have h : b_X12_take_48 x3 x4 σ = some w_48 := h
    show V X G 5 0 0 σ 48 [(0, .ref (ga G 6)), (3, .int x3), (4, .int x4)] []
    unfold b_X12_take_48 at h
    refine V_iload C (dt_at dt_X12_take_0 29 rfl) 2 rfl ?_
    refine V_aload_n C (dt_at dt_X12_take_0 30 rfl) 0 rfl rfl ?_
    refine g_X12_7_6 C (dt_at dt_X12_take_0 31 rfl) ?_
    refine V_iconst C 1 (dt_at dt_X12_take_0 32 rfl) (by decide) ?_
    obtain ⟨h22, h⟩ := chk_s h
    refine al_84 C h22 (dt_at dt_X12_take_0 33 rfl) ?_
    refine V_icmp_ge C 86 (dt_at dt_X12_take_0 34 rfl) (by decide) (fun q23 => ?_) (fun q23 => ?_)
    · have h := ite_f q23 h
      refine V_iload_n C (dt_at dt_X12_take_1 11 rfl) 1 rfl rfl ?_
      have e_48 := ex_48 _ (Option.some.inj h).symm
      obtain ⟨e1_, e2_⟩ := Prod.mk.inj e_48
      subst e1_; subst e2_
      exact V_iret C hR (dt_at dt_X12_take_1 12 rfl)
    · have h := ite_t q23 h
      refine V_aload_n C (dt_at dt_X12_take_0 35 rfl) 0 rfl rfl ?_
      refine g_X12_7_6 C (dt_at dt_X12_take_0 36 rfl) ?_
      refine V_bipush C 10 (dt_at dt_X12_take_0 37 rfl) (by decide) ?_
      refine V_iconst C 5 (dt_at dt_X12_take_0 38 rfl) (by decide) ?_
      refine V_iload C (dt_at dt_X12_take_0 39 rfl) 2 rfl ?_
      refine V_imul C (dt_at dt_X12_take_1 0 rfl) ?_
      refine V_iadd C (dt_at dt_X12_take_1 1 rfl) ?_
      refine V_iconst C 4 (dt_at dt_X12_take_1 2 rfl) (by decide) ?_
      refine V_iadd C (dt_at dt_X12_take_1 3 rfl) ?_
      refine V_aload_n C (dt_at dt_X12_take_1 4 rfl) 0 rfl rfl ?_
      refine g_X12_72_6 C (dt_at dt_X12_take_1 5 rfl) ?_
      refine V_iload C (dt_at dt_X12_take_1 6 rfl) 2 rfl ?_
      obtain ⟨h24, h⟩ := chk_s h
      refine al_104 C h24 (dt_at dt_X12_take_1 7 rfl) ?_
      obtain ⟨h26, h⟩ := chk_s h
      obtain ⟨σ25, eσ25, h⟩ := nm_s h
      refine V_st eσ25 ?_ (fun k => as_84 C h26 (dt_at dt_X12_take_1 8 rfl) k)
      refine V_iinc C (x4 + 1) 2 [1, 2, 0] (lv' := [(0, .ref (ga G 6)), (3, .int x3), (4, .int (x4 + 1))]) (dt_at dt_X12_take_1 9 rfl) rfl (by rfl) (by decide) rfl ?_
      refine V_goto C 48 (dt_at dt_X12_take_1 10 rfl) (by decide) ?_
      exact ih_48 ((x4 + 1), σ25) (Option.some.inj h).symm
  have J_17 : ∀ (σ : St), f_X12_take_17 σ = some (r0, σ0) → V X G 5 0 0 σ 17 [(0, .ref (ga G 6))] [] := by
    intro σ h
    unfold f_X12_take_17 at h
    refine V_aload_n C (dt_at dt_X12_take_0 9 rfl) 0 rfl rfl ?_
    refine V_iconst C 1 (dt_at dt_X12_take_0 10 rfl) (by decide) ?_
    obtain ⟨r19, σ21, e20, h⟩ := bd2_s h
    refine cv_X12_finds C ww_462 1 e20 (Nat.le_of_ble_eq_true rfl) (Nat.le_of_ble_eq_true rfl) z0 (dt_at dt_X12_take_0 11 rfl) ?_
    obtain ⟨e1_, e2_⟩ := pin2 h
    subst e1_; subst e2_
    exact V_iret C hR (dt_at dt_X12_take_0 12 rfl)
  refine V_iload_n C (dt_at dt_X12_take_0 0 rfl) 1 rfl rfl ?_
  refine V_iconst C 0 (dt_at dt_X12_take_0 1 rfl) (by decide) ?_
  refine V_iconst C 3 (dt_at dt_X12_take_0 2 rfl) (by decide) ?_
  obtain ⟨r1, e2, h⟩ := bd_s h
  refine cv_X12_in C ww_437 x1 0 3 e2 (Nat.le_of_ble_eq_true rfl) (Nat.le_of_ble_eq_true rfl) z0 (dt_at dt_X12_take_0 3 rfl) ?_
  refine V_if_eq C 17 (dt_at dt_X12_take_0 4 rfl) (by decide) (fun q4 => ?_) (fun q4 => ?_)
  · have h := ite_t q4 h
    refine V_sub [0] (lv' := [(0, .ref (ga G 6))]) rfl ?_
    exact J_17 σ h
  · have h := ite_f q4 h
    refine V_aload_n C (dt_at dt_X12_take_0 5 rfl) 0 rfl rfl ?_
    refine V_iload_n C (dt_at dt_X12_take_0 6 rfl) 2 rfl rfl ?_
    obtain ⟨r5, e6, h⟩ := bd_s h
    refine cv_X12_isTroupe C ww_563 x2 e6 (Nat.le_of_ble_eq_true rfl) (Nat.le_of_ble_eq_true rfl) z0 (dt_at dt_X12_take_0 7 rfl) ?_
    refine V_if_ne C 23 (dt_at dt_X12_take_0 8 rfl) (by decide) (fun q8 => ?_) (fun q8 => ?_)
    · have h := ite_f q8 h
      refine V_aload_n C (dt_at dt_X12_take_0 13 rfl) 0 rfl rfl ?_
      refine V_iload_n C (dt_at dt_X12_take_0 14 rfl) 1 rfl rfl ?_
      refine V_iload_n C (dt_at dt_X12_take_0 15 rfl) 2 rfl rfl ?_
      obtain ⟨r9, σ11, e10, h⟩ := bd2_s h
      refine cv_X12_findBest C ww_564 x1 x2 e10 (Nat.le_of_ble_eq_true rfl) (Nat.le_of_ble_eq_true rfl) z0 (dt_at dt_X12_take_0 16 rfl) ?_
      refine V_if_ne C 38 (dt_at dt_X12_take_0 17 rfl) (by decide) (fun q12 => ?_) (fun q12 => ?_)
      · have h := ite_f q12 h
        refine V_aload_n C (dt_at dt_X12_take_0 22 rfl) 0 rfl rfl ?_
        refine V_iload_n C (dt_at dt_X12_take_0 23 rfl) 1 rfl rfl ?_
        refine V_iload_n C (dt_at dt_X12_take_0 24 rfl) 2 rfl rfl ?_
        obtain ⟨r13, e14, h⟩ := bd_s h
        refine cv_X12_sumOf C ww_565 x1 x2 e14 (Nat.le_of_ble_eq_true rfl) (Nat.le_of_ble_eq_true rfl) z0 (dt_at dt_X12_take_0 25 rfl) ?_
        refine V_istore_n C [1, 2, 3, 0] (lv' := [(0, .ref (ga G 6)), (1, .int x1), (2, .int x2), (3, .int r13)]) (dt_at dt_X12_take_0 26 rfl) rfl (by decide) rfl ?_
        refine V_iconst C 0 (dt_at dt_X12_take_0 27 rfl) (by decide) ?_
        refine V_istore C [1, 2, 3, 4, 0] (lv' := [(0, .ref (ga G 6)), (1, .int x1), (2, .int x2), (3, .int r13), (4, .int 0)]) (dt_at dt_X12_take_0 28 rfl) (by decide) rfl ?_
        refine V_sub [0, 3, 4] (lv' := [(0, .ref (ga G 6)), (3, .int r13), (4, .int 0)]) rfl ?_
        exact J_48 r13 0 σ11 h
      · have h := ite_t q12 h
        refine V_aload_n C (dt_at dt_X12_take_0 18 rfl) 0 rfl rfl ?_
        refine V_iconst C 2 (dt_at dt_X12_take_0 19 rfl) (by decide) ?_
        obtain ⟨r16, σ18, e17, h⟩ := bd2_s h
        refine cv_X12_finds C ww_462 2 e17 (Nat.le_of_ble_eq_true rfl) (Nat.le_of_ble_eq_true rfl) z0 (dt_at dt_X12_take_0 20 rfl) ?_
        obtain ⟨e1_, e2_⟩ := pin2 h
        subst e1_; subst e2_
        exact V_iret C hR (dt_at dt_X12_take_0 21 rfl)
    · have h := ite_t q8 h
      refine V_sub [0] (lv' := [(0, .ref (ga G 6))]) rfl ?_
      exact J_17 σ h
theorem cv_X12_take (C : Ck X G cc own nL d) {idx : Nat} (hlk : Cond.methodLink own idx yX12_take ∈ gtb) (x1 : Int32) (x2 : Int32) {r0 : Int32} {σ0 : St} (e : f_X12_take x1 x2 σ = some (r0, σ0)) (hdd : 10 ≤ d) (hroom : (rest.map fun v => v.category).sum ≤ 8) (hcs : cells ≤ (xR X).cells ∧ slots ≤ (xR X).slots) (hd : decode cc pc = .ok (.invokevirtual idx, 3)) (k : V X G nL cells slots σ0 (pc + 3) lv (.int r0 :: rest)) : V X G nL cells slots σ pc lv (.int x2 :: .int x1 :: .ref (ga G 6) :: rest) := V_callV C (As := [.int x1, .int x2]) (c_X12_take X.2.1 G x1 x2 σ r0 σ0 e) cal_X12_take ww_810 ww_811 hlk rfl hdd (lt110 rfl) rfl rfl rfl hroom hcs hd k
theorem dt_X12_tell_0 : dtab cX12_tell [(0, .aload_n 0, 1), (1, .getfield 7, 3), (4, .iconst 5, 1), (5, .iaload, 1), (6, .bipush 20, 2), (8, .if_icmp .ne 9, 3), (11, .aload_n 0, 1), (12, .iconst 4, 1), (13, .invokevirtual 95, 3), (16, .ireturn, 1), (17, .aload_n 0, 1), (18, .getfield 7, 3), (21, .sipush 290, 3), (24, .aload_n 0, 1), (25, .getfield 7, 3), (28, .iconst 5, 1), (29, .iaload, 1), (30, .iadd, 1), (31, .iload_n 1, 1), (32, .iastore, 1), (33, .aload_n 0, 1), (34, .getfield 7, 3), (37, .iconst 5, 1), (38, .dup2, 1), (39, .iaload, 1), (40, .iconst 1, 1), (41, .iadd, 1), (42, .iastore, 1), (43, .aload_n 0, 1), (44, .getfield 7, 3), (47, .iconst 5, 1), (48, .iaload, 1), (49, .ireturn, 1)] = true := by decide +kernel
theorem cal_X12_tell : Cal yX12_tell cX12_tell 2 (some .int) 1 := ⟨ww_812, ww_429, ⟨by decide, by decide, by decide⟩, by decide⟩
set_option maxHeartbeats 4000000 in
set_option maxRecDepth 100000 in
theorem c_X12_tell (l : Launch) (G : Gx) (x1 : Int32) (σ : St) (r0 : Int32) (σ0 : St) (h : f_X12_tell x1 σ = some (r0, σ0)) : MI l G yX12_tell cX12_tell 2 (some .int) 2 [.ref (ga G 6), .int x1] σ (some (.int r0)) σ0 := by
  refine MI_of RX12 rfl (by decide) [(0, .ref (ga G 6)), (1, .int x1)] rfl (Nat.le_of_ble_eq_true rfl) ?_
  intro X hXl C hR
  unfold f_X12_tell at h
  refine V_aload_n C (dt_at dt_X12_tell_0 0 rfl) 0 rfl rfl ?_
  refine g_X12_7_6 C (dt_at dt_X12_tell_0 1 rfl) ?_
  refine V_iconst C 5 (dt_at dt_X12_tell_0 2 rfl) (by decide) ?_
  obtain ⟨h1, h⟩ := chk_s h
  refine al_84 C h1 (dt_at dt_X12_tell_0 3 rfl) ?_
  refine V_bipush C 20 (dt_at dt_X12_tell_0 4 rfl) (by decide) ?_
  refine V_icmp_ne C 17 (dt_at dt_X12_tell_0 5 rfl) (by decide) (fun q2 => ?_) (fun q2 => ?_)
  · have h := ite_f q2 h
    refine V_aload_n C (dt_at dt_X12_tell_0 10 rfl) 0 rfl rfl ?_
    refine g_X12_7_6 C (dt_at dt_X12_tell_0 11 rfl) ?_
    refine V_sipush C 290 (dt_at dt_X12_tell_0 12 rfl) (by decide) ?_
    refine V_aload_n C (dt_at dt_X12_tell_0 13 rfl) 0 rfl rfl ?_
    refine g_X12_7_6 C (dt_at dt_X12_tell_0 14 rfl) ?_
    refine V_iconst C 5 (dt_at dt_X12_tell_0 15 rfl) (by decide) ?_
    refine al_84 C h1 (dt_at dt_X12_tell_0 16 rfl) ?_
    refine V_iadd C (dt_at dt_X12_tell_0 17 rfl) ?_
    refine V_iload_n C (dt_at dt_X12_tell_0 18 rfl) 1 rfl rfl ?_
    obtain ⟨h4, h⟩ := chk_s h
    obtain ⟨σ3, eσ3, h⟩ := nm_s h
    refine V_st eσ3 ?_ (fun k => as_84 C h4 (dt_at dt_X12_tell_0 19 rfl) k)
    refine V_aload_n C (dt_at dt_X12_tell_0 20 rfl) 0 rfl rfl ?_
    refine g_X12_7_6 C (dt_at dt_X12_tell_0 21 rfl) ?_
    refine V_iconst C 5 (dt_at dt_X12_tell_0 22 rfl) (by decide) ?_
    refine V_dup2 C (dt_at dt_X12_tell_0 23 rfl) rfl rfl ?_
    refine al_84 C h1 (dt_at dt_X12_tell_0 24 rfl) ?_
    refine V_iconst C 1 (dt_at dt_X12_tell_0 25 rfl) (by decide) ?_
    refine V_iadd C (dt_at dt_X12_tell_0 26 rfl) ?_
    obtain ⟨σ5, eσ5, h⟩ := nm_s h
    refine V_st eσ5 ?_ (fun k => as_84 C h1 (dt_at dt_X12_tell_0 27 rfl) k)
    refine V_aload_n C (dt_at dt_X12_tell_0 28 rfl) 0 rfl rfl ?_
    refine g_X12_7_6 C (dt_at dt_X12_tell_0 29 rfl) ?_
    refine V_iconst C 5 (dt_at dt_X12_tell_0 30 rfl) (by decide) ?_
    refine al_84 C h1 (dt_at dt_X12_tell_0 31 rfl) ?_
    obtain ⟨e1_, e2_⟩ := pin2 h
    subst e1_; subst e2_
    exact V_iret C hR (dt_at dt_X12_tell_0 32 rfl)
  · have h := ite_t q2 h
    refine V_aload_n C (dt_at dt_X12_tell_0 6 rfl) 0 rfl rfl ?_
    refine V_iconst C 4 (dt_at dt_X12_tell_0 7 rfl) (by decide) ?_
    obtain ⟨r6, σ8, e7, h⟩ := bd2_s h
    refine cv_X12_finds C ww_462 4 e7 (Nat.le_of_ble_eq_true rfl) (Nat.le_of_ble_eq_true rfl) z0 (dt_at dt_X12_tell_0 8 rfl) ?_
    obtain ⟨e1_, e2_⟩ := pin2 h
    subst e1_; subst e2_
    exact V_iret C hR (dt_at dt_X12_tell_0 9 rfl)
theorem cv_X12_tell (C : Ck X G cc own nL d) {idx : Nat} (hlk : Cond.methodLink own idx yX12_tell ∈ gtb) (x1 : Int32) {r0 : Int32} {σ0 : St} (e : f_X12_tell x1 σ = some (r0, σ0)) (hdd : 3 ≤ d) (hroom : (rest.map fun v => v.category).sum ≤ 8) (hcs : cells ≤ (xR X).cells ∧ slots ≤ (xR X).slots) (hd : decode cc pc = .ok (.invokevirtual idx, 3)) (k : V X G nL cells slots σ0 (pc + 3) lv (.int r0 :: rest)) : V X G nL cells slots σ pc lv (.int x1 :: .ref (ga G 6) :: rest) := V_callV C (As := [.int x1]) (c_X12_tell X.2.1 G x1 σ r0 σ0 e) cal_X12_tell ww_813 ww_814 hlk rfl hdd (lt110 rfl) rfl rfl rfl hroom hcs hd k
theorem dt_X12_text_0 : dtab cX12_text [(0, .iload_n 1, 1), (1, .iconst 0, 1), (2, .iconst 2, 1), (3, .invokestatic 91, 3), (6, .ifCond .ne 9, 3), (9, .aload_n 0, 1), (10, .iconst 1, 1), (11, .invokevirtual 95, 3), (14, .ireturn, 1), (15, .aload_n 0, 1), (16, .iload_n 1, 1), (17, .invokevirtual 218, 3), (20, .istore_n 2, 1), (21, .aload_n 0, 1), (22, .getfield 7, 3), (25, .iconst 4, 1), (26, .iconst 0, 1), (27, .iastore, 1), (28, .iload_n 2, 1), (29, .ifCond .ne 11, 3), (32, .bipush (-10), 2), (34, .aload_n 0, 1), (35, .getfield 186, 3), (38, .isub, 1), (39, .ireturn, 1), (40, .sipush 310, 3), (43, .bipush 52, 2), (45, .iload_n 1, 1), (46, .imul, 1), (47, .iadd, 1), (48, .istore_n 3, 1), (49, .aload_n 0, 1), (50, .getfield 7, 3), (53, .iload_n 3, 1), (54, .aload_n 0, 1), (55, .getfield 172, 3), (58, .iastore, 1), (59, .iconst 0, 1), (60, .istore 4, 2), (62, .iload 4, 2)] = true := by decide +kernel
theorem dt_X12_text_1 : dtab cX12_text [(64, .aload_n 0, 1), (65, .getfield 172, 3), (68, .if_icmp .ge 27, 3), (71, .aload_n 0, 1), (72, .getfield 7, 3), (75, .iload_n 3, 1), (76, .iconst 1, 1), (77, .iadd, 1), (78, .iload 4, 2), (80, .iadd, 1), (81, .aload_n 0, 1), (82, .getfield 31, 3), (85, .iload 4, 2), (87, .iaload, 1), (88, .iastore, 1), (89, .iinc 4 1, 3), (92, .goto (-30), 3), (95, .aload_n 0, 1), (96, .iconst 0, 1), (97, .putfield 106, 3), (100, .iconst 1, 1), (101, .ireturn, 1)] = true := by decide +kernel
theorem cal_X12_text : Cal yX12_text cX12_text 5 (some .int) 1 := ⟨ww_816, ww_429, ⟨by decide, by decide, by decide⟩, by decide⟩
set_option maxHeartbeats 4000000 in
set_option maxRecDepth 100000 in
theorem c_X12_text (l : Launch) (G : Gx) (x1 : Int32) (σ : St) (r0 : Int32) (σ0 : St) (h : f_X12_text x1 σ = some (r0, σ0)) : MI l G yX12_text cX12_text 5 (some .int) 5 [.ref (ga G 6), .int x1] σ (some (.int r0)) σ0 := by
  refine MI_of RX12 rfl (by decide) [(0, .ref (ga G 6)), (1, .int x1)] rfl (Nat.le_of_ble_eq_true rfl) ?_
  intro X hXl C hR
  unfold f_X12_text at h
  have J_95 : ∀ (σ : St), f_X12_text_95 σ = some (r0, σ0) → V X G 5 0 0 σ 95 [(0, .ref (ga G 6))] [] := by
    intro σ h
    unfold f_X12_text_95 at h
    refine V_aload_n C (dt_at dt_X12_text_1 17 rfl) 0 rfl rfl ?_
    refine V_iconst C 0 (dt_at dt_X12_text_1 18 rfl) (by decide) ?_
    obtain ⟨σ21, eσ21, h⟩ := nm_s h
    refine V_st eσ21 ?_ (fun k => p_X12_106_6 C rfl rfl (dt_at dt_X12_text_1 19 rfl) k)
    refine V_iconst C 1 (dt_at dt_X12_text_1 20 rfl) (by decide) ?_
    obtain ⟨e1_, e2_⟩ := pin2 h
    subst e1_; subst e2_
    exact V_iret C hR (dt_at dt_X12_text_1 21 rfl)
  have J_62 : ∀ (x3 : Int32) (x4 : Int32) (σ : St), f_X12_text_62 x3 x4 σ = some (r0, σ0) → V X G 5 0 0 σ 62 [(0, .ref (ga G 6)), (3, .int x3), (4, .int x4)] [] := by
    intro x3 x4 σ h
    refine it_v (P := fun z : Int32 × St => V X G 5 0 0 z.2 62 [(0, .ref (ga G 6)), (3, .int x3), (4, .int z.1)] []) ?_ (x4, σ) h
    clear h
    intro z w_62 h ih_62 ex_62
    obtain ⟨x4, σ⟩ := z
    have h : b_X12_text_62 x3 x4 σ = some w_62 := h
    show V X G 5 0 0 σ 62 [(0, .ref (ga G 6)), (3, .int x3), (4, .int x4)] []
    unfold b_X12_text_62 at h
    refine V_iload C (dt_at dt_X12_text_0 39 rfl) 2 rfl ?_
    refine V_aload_n C (dt_at dt_X12_text_1 0 rfl) 0 rfl rfl ?_
    refine g_X12_172_6 C (dt_at dt_X12_text_1 1 rfl) ?_
    refine V_icmp_ge C 95 (dt_at dt_X12_text_1 2 rfl) (by decide) (fun q16 => ?_) (fun q16 => ?_)
    · have h := ite_f q16 h
      refine V_sub [0] (lv' := [(0, .ref (ga G 6))]) rfl ?_
      obtain ⟨t17, h, e_62⟩ := map_s h
      have e_62 := ex_62 _ e_62
      rw [e_62] at h
      exact J_95 σ h
    · have h := ite_t q16 h
      refine V_aload_n C (dt_at dt_X12_text_1 3 rfl) 0 rfl rfl ?_
      refine g_X12_7_6 C (dt_at dt_X12_text_1 4 rfl) ?_
      refine V_iload_n C (dt_at dt_X12_text_1 5 rfl) 1 rfl rfl ?_
      refine V_iconst C 1 (dt_at dt_X12_text_1 6 rfl) (by decide) ?_
      refine V_iadd C (dt_at dt_X12_text_1 7 rfl) ?_
      refine V_iload C (dt_at dt_X12_text_1 8 rfl) 2 rfl ?_
      refine V_iadd C (dt_at dt_X12_text_1 9 rfl) ?_
      refine V_aload_n C (dt_at dt_X12_text_1 10 rfl) 0 rfl rfl ?_
      refine g_X12_31_6 C (dt_at dt_X12_text_1 11 rfl) ?_
      refine V_iload C (dt_at dt_X12_text_1 12 rfl) 2 rfl ?_
      obtain ⟨h18, h⟩ := chk_s h
      refine al_91 C h18 (dt_at dt_X12_text_1 13 rfl) ?_
      obtain ⟨h20, h⟩ := chk_s h
      obtain ⟨σ19, eσ19, h⟩ := nm_s h
      refine V_st eσ19 ?_ (fun k => as_84 C h20 (dt_at dt_X12_text_1 14 rfl) k)
      refine V_iinc C (x4 + 1) 2 [1, 2, 0] (lv' := [(0, .ref (ga G 6)), (3, .int x3), (4, .int (x4 + 1))]) (dt_at dt_X12_text_1 15 rfl) rfl (by rfl) (by decide) rfl ?_
      refine V_goto C 62 (dt_at dt_X12_text_1 16 rfl) (by decide) ?_
      exact ih_62 ((x4 + 1), σ19) (Option.some.inj h).symm
  refine V_iload_n C (dt_at dt_X12_text_0 0 rfl) 1 rfl rfl ?_
  refine V_iconst C 0 (dt_at dt_X12_text_0 1 rfl) (by decide) ?_
  refine V_iconst C 2 (dt_at dt_X12_text_0 2 rfl) (by decide) ?_
  obtain ⟨r1, e2, h⟩ := bd_s h
  refine cv_X12_in C ww_437 x1 0 2 e2 (Nat.le_of_ble_eq_true rfl) (Nat.le_of_ble_eq_true rfl) z0 (dt_at dt_X12_text_0 3 rfl) ?_
  refine V_if_ne C 15 (dt_at dt_X12_text_0 4 rfl) (by decide) (fun q4 => ?_) (fun q4 => ?_)
  · have h := ite_f q4 h
    refine V_aload_n C (dt_at dt_X12_text_0 9 rfl) 0 rfl rfl ?_
    refine V_iload_n C (dt_at dt_X12_text_0 10 rfl) 1 rfl rfl ?_
    obtain ⟨r5, σ7, e6, h⟩ := bd2_s h
    refine cv_X12_reads C ww_815 x1 e6 (Nat.le_of_ble_eq_true rfl) (Nat.le_of_ble_eq_true rfl) z0 (dt_at dt_X12_text_0 11 rfl) ?_
    refine V_istore_n C [1, 2, 0] (lv' := [(0, .ref (ga G 6)), (1, .int x1), (2, .int r5)]) (dt_at dt_X12_text_0 12 rfl) rfl (by decide) rfl ?_
    refine V_aload_n C (dt_at dt_X12_text_0 13 rfl) 0 rfl rfl ?_
    refine g_X12_7_6 C (dt_at dt_X12_text_0 14 rfl) ?_
    refine V_iconst C 4 (dt_at dt_X12_text_0 15 rfl) (by decide) ?_
    refine V_iconst C 0 (dt_at dt_X12_text_0 16 rfl) (by decide) ?_
    obtain ⟨h9, h⟩ := chk_s h
    obtain ⟨σ8, eσ8, h⟩ := nm_s h
    refine V_st eσ8 ?_ (fun k => as_84 C h9 (dt_at dt_X12_text_0 17 rfl) k)
    refine V_iload_n C (dt_at dt_X12_text_0 18 rfl) 2 rfl rfl ?_
    refine V_if_ne C 40 (dt_at dt_X12_text_0 19 rfl) (by decide) (fun q10 => ?_) (fun q10 => ?_)
    · have h := ite_f q10 h
      refine V_sipush C 310 (dt_at dt_X12_text_0 25 rfl) (by decide) ?_
      refine V_bipush C 52 (dt_at dt_X12_text_0 26 rfl) (by decide) ?_
      refine V_iload_n C (dt_at dt_X12_text_0 27 rfl) 1 rfl rfl ?_
      refine V_imul C (dt_at dt_X12_text_0 28 rfl) ?_
      refine V_iadd C (dt_at dt_X12_text_0 29 rfl) ?_
      refine V_istore_n C [1, 2, 3, 0] (lv' := [(0, .ref (ga G 6)), (1, .int x1), (2, .int r5), (3, .int (310 + (52 * x1)))]) (dt_at dt_X12_text_0 30 rfl) rfl (by decide) rfl ?_
      refine V_aload_n C (dt_at dt_X12_text_0 31 rfl) 0 rfl rfl ?_
      refine g_X12_7_6 C (dt_at dt_X12_text_0 32 rfl) ?_
      refine V_iload_n C (dt_at dt_X12_text_0 33 rfl) 3 rfl rfl ?_
      refine V_aload_n C (dt_at dt_X12_text_0 34 rfl) 0 rfl rfl ?_
      refine g_X12_172_6 C (dt_at dt_X12_text_0 35 rfl) ?_
      obtain ⟨h12, h⟩ := chk_s h
      obtain ⟨σ11, eσ11, h⟩ := nm_s h
      refine V_st eσ11 ?_ (fun k => as_84 C h12 (dt_at dt_X12_text_0 36 rfl) k)
      refine V_iconst C 0 (dt_at dt_X12_text_0 37 rfl) (by decide) ?_
      refine V_istore C [1, 2, 3, 4, 0] (lv' := [(0, .ref (ga G 6)), (1, .int x1), (2, .int r5), (3, .int (310 + (52 * x1))), (4, .int 0)]) (dt_at dt_X12_text_0 38 rfl) (by decide) rfl ?_
      refine V_sub [0, 3, 4] (lv' := [(0, .ref (ga G 6)), (3, .int (310 + (52 * x1))), (4, .int 0)]) rfl ?_
      exact J_62 (310 + (52 * x1)) 0 σ11 h
    · have h := ite_t q10 h
      refine V_bipush C (-10) (dt_at dt_X12_text_0 20 rfl) (by decide) ?_
      refine V_aload_n C (dt_at dt_X12_text_0 21 rfl) 0 rfl rfl ?_
      refine g_X12_186_6 C (dt_at dt_X12_text_0 22 rfl) ?_
      refine V_isub C (dt_at dt_X12_text_0 23 rfl) ?_
      obtain ⟨e1_, e2_⟩ := pin2 h
      subst e1_; subst e2_
      exact V_iret C hR (dt_at dt_X12_text_0 24 rfl)
  · have h := ite_t q4 h
    refine V_aload_n C (dt_at dt_X12_text_0 5 rfl) 0 rfl rfl ?_
    refine V_iconst C 1 (dt_at dt_X12_text_0 6 rfl) (by decide) ?_
    obtain ⟨r13, σ15, e14, h⟩ := bd2_s h
    refine cv_X12_finds C ww_462 1 e14 (Nat.le_of_ble_eq_true rfl) (Nat.le_of_ble_eq_true rfl) z0 (dt_at dt_X12_text_0 7 rfl) ?_
    obtain ⟨e1_, e2_⟩ := pin2 h
    subst e1_; subst e2_
    exact V_iret C hR (dt_at dt_X12_text_0 8 rfl)
theorem cv_X12_text (C : Ck X G cc own nL d) {idx : Nat} (hlk : Cond.methodLink own idx yX12_text ∈ gtb) (x1 : Int32) {r0 : Int32} {σ0 : St} (e : f_X12_text x1 σ = some (r0, σ0)) (hdd : 6 ≤ d) (hroom : (rest.map fun v => v.category).sum ≤ 8) (hcs : cells ≤ (xR X).cells ∧ slots ≤ (xR X).slots) (hd : decode cc pc = .ok (.invokevirtual idx, 3)) (k : V X G nL cells slots σ0 (pc + 3) lv (.int r0 :: rest)) : V X G nL cells slots σ pc lv (.int x1 :: .ref (ga G 6) :: rest) := V_callV C (As := [.int x1]) (c_X12_text X.2.1 G x1 σ r0 σ0 e) cal_X12_text ww_817 ww_818 hlk rfl hdd (lt110 rfl) rfl rfl rfl hroom hcs hd k
theorem dt_X12_told_0 : dtab cX12_told [(0, .iload_n 1, 1), (1, .iconst 1, 1), (2, .iconst 5, 1), (3, .invokestatic 91, 3), (6, .ifCond .eq 12, 3), (9, .aload_n 0, 1), (10, .getfield 16, 3), (13, .iload_n 1, 1), (14, .iaload, 1), (15, .goto 8, 3), (18, .aload_n 0, 1), (19, .iconst 1, 1), (20, .invokevirtual 95, 3), (23, .ireturn, 1)] = true := by decide +kernel
theorem cal_X12_told : Cal yX12_told cX12_told 2 (some .int) 1 := ⟨ww_819, ww_429, ⟨by decide, by decide, by decide⟩, by decide⟩
set_option maxHeartbeats 4000000 in
set_option maxRecDepth 100000 in
theorem c_X12_told (l : Launch) (G : Gx) (x1 : Int32) (σ : St) (r0 : Int32) (σ0 : St) (h : f_X12_told x1 σ = some (r0, σ0)) : MI l G yX12_told cX12_told 2 (some .int) 2 [.ref (ga G 6), .int x1] σ (some (.int r0)) σ0 := by
  refine MI_of RX12 rfl (by decide) [(0, .ref (ga G 6)), (1, .int x1)] rfl (Nat.le_of_ble_eq_true rfl) ?_
  intro X hXl C hR
  unfold f_X12_told at h
  refine V_iload_n C (dt_at dt_X12_told_0 0 rfl) 1 rfl rfl ?_
  refine V_iconst C 1 (dt_at dt_X12_told_0 1 rfl) (by decide) ?_
  refine V_iconst C 5 (dt_at dt_X12_told_0 2 rfl) (by decide) ?_
  obtain ⟨r1, e2, h⟩ := bd_s h
  refine cv_X12_in C ww_437 x1 1 5 e2 (Nat.le_of_ble_eq_true rfl) (Nat.le_of_ble_eq_true rfl) z0 (dt_at dt_X12_told_0 3 rfl) ?_
  refine V_if_eq C 18 (dt_at dt_X12_told_0 4 rfl) (by decide) (fun q4 => ?_) (fun q4 => ?_)
  · have h := ite_t q4 h
    refine V_aload_n C (dt_at dt_X12_told_0 10 rfl) 0 rfl rfl ?_
    refine V_iconst C 1 (dt_at dt_X12_told_0 11 rfl) (by decide) ?_
    obtain ⟨r5, σ7, e6, h⟩ := bd2_s h
    refine cv_X12_finds C ww_462 1 e6 (Nat.le_of_ble_eq_true rfl) (Nat.le_of_ble_eq_true rfl) z0 (dt_at dt_X12_told_0 12 rfl) ?_
    obtain ⟨e1_, e2_⟩ := pin2 h
    subst e1_; subst e2_
    exact V_iret C hR (dt_at dt_X12_told_0 13 rfl)
  · have h := ite_f q4 h
    refine V_aload_n C (dt_at dt_X12_told_0 5 rfl) 0 rfl rfl ?_
    refine g_X12_16_6 C (dt_at dt_X12_told_0 6 rfl) ?_
    refine V_iload_n C (dt_at dt_X12_told_0 7 rfl) 1 rfl rfl ?_
    obtain ⟨h8, h⟩ := chk_s h
    refine al_86 C h8 (dt_at dt_X12_told_0 8 rfl) ?_
    refine V_goto C 23 (dt_at dt_X12_told_0 9 rfl) (by decide) ?_
    obtain ⟨e1_, e2_⟩ := pin2 h
    subst e1_; subst e2_
    exact V_iret C hR (dt_at dt_X12_told_0 13 rfl)
theorem cv_X12_told (C : Ck X G cc own nL d) {idx : Nat} (hlk : Cond.methodLink own idx yX12_told ∈ gtb) (x1 : Int32) {r0 : Int32} {σ0 : St} (e : f_X12_told x1 σ = some (r0, σ0)) (hdd : 3 ≤ d) (hroom : (rest.map fun v => v.category).sum ≤ 8) (hcs : cells ≤ (xR X).cells ∧ slots ≤ (xR X).slots) (hd : decode cc pc = .ok (.invokevirtual idx, 3)) (k : V X G nL cells slots σ0 (pc + 3) lv (.int r0 :: rest)) : V X G nL cells slots σ pc lv (.int x1 :: .ref (ga G 6) :: rest) := V_callV C (As := [.int x1]) (c_X12_told X.2.1 G x1 σ r0 σ0 e) cal_X12_told ww_820 ww_821 hlk rfl hdd (lt110 rfl) rfl rfl rfl hroom hcs hd k
theorem dt_X12_trace_0 : dtab cX12_trace [(0, .iload_n 1, 1), (1, .iconst 0, 1), (2, .aload_n 0, 1), (3, .getfield 290, 3), (6, .iconst 1, 1), (7, .isub, 1), (8, .invokestatic 91, 3), (11, .ifCond .eq 12, 3), (14, .aload_n 0, 1), (15, .getfield 75, 3), (18, .iload_n 1, 1), (19, .iaload, 1), (20, .goto 8, 3), (23, .aload_n 0, 1), (24, .iconst 2, 1), (25, .invokevirtual 95, 3), (28, .ireturn, 1)] = true := by decide +kernel
theorem cal_X12_trace : Cal yX12_trace cX12_trace 2 (some .int) 1 := ⟨ww_822, ww_429, ⟨by decide, by decide, by decide⟩, by decide⟩
set_option maxHeartbeats 4000000 in
set_option maxRecDepth 100000 in
theorem c_X12_trace (l : Launch) (G : Gx) (x1 : Int32) (σ : St) (r0 : Int32) (σ0 : St) (h : f_X12_trace x1 σ = some (r0, σ0)) : MI l G yX12_trace cX12_trace 2 (some .int) 2 [.ref (ga G 6), .int x1] σ (some (.int r0)) σ0 := by
  refine MI_of RX12 rfl (by decide) [(0, .ref (ga G 6)), (1, .int x1)] rfl (Nat.le_of_ble_eq_true rfl) ?_
  intro X hXl C hR
  unfold f_X12_trace at h
  refine V_iload_n C (dt_at dt_X12_trace_0 0 rfl) 1 rfl rfl ?_
  refine V_iconst C 0 (dt_at dt_X12_trace_0 1 rfl) (by decide) ?_
  refine V_aload_n C (dt_at dt_X12_trace_0 2 rfl) 0 rfl rfl ?_
  refine g_X12_290_6 C (dt_at dt_X12_trace_0 3 rfl) ?_
  refine V_iconst C 1 (dt_at dt_X12_trace_0 4 rfl) (by decide) ?_
  refine V_isub C (dt_at dt_X12_trace_0 5 rfl) ?_
  obtain ⟨r1, e2, h⟩ := bd_s h
  refine cv_X12_in C ww_437 x1 0 ((fd σ 6 27) - 1) e2 (Nat.le_of_ble_eq_true rfl) (Nat.le_of_ble_eq_true rfl) z0 (dt_at dt_X12_trace_0 6 rfl) ?_
  refine V_if_eq C 23 (dt_at dt_X12_trace_0 7 rfl) (by decide) (fun q4 => ?_) (fun q4 => ?_)
  · have h := ite_t q4 h
    refine V_aload_n C (dt_at dt_X12_trace_0 13 rfl) 0 rfl rfl ?_
    refine V_iconst C 2 (dt_at dt_X12_trace_0 14 rfl) (by decide) ?_
    obtain ⟨r5, σ7, e6, h⟩ := bd2_s h
    refine cv_X12_finds C ww_462 2 e6 (Nat.le_of_ble_eq_true rfl) (Nat.le_of_ble_eq_true rfl) z0 (dt_at dt_X12_trace_0 15 rfl) ?_
    obtain ⟨e1_, e2_⟩ := pin2 h
    subst e1_; subst e2_
    exact V_iret C hR (dt_at dt_X12_trace_0 16 rfl)
  · have h := ite_f q4 h
    refine V_aload_n C (dt_at dt_X12_trace_0 8 rfl) 0 rfl rfl ?_
    refine g_X12_75_6 C (dt_at dt_X12_trace_0 9 rfl) ?_
    refine V_iload_n C (dt_at dt_X12_trace_0 10 rfl) 1 rfl rfl ?_
    obtain ⟨h8, h⟩ := chk_s h
    refine al_105 C h8 (dt_at dt_X12_trace_0 11 rfl) ?_
    refine V_goto C 28 (dt_at dt_X12_trace_0 12 rfl) (by decide) ?_
    obtain ⟨e1_, e2_⟩ := pin2 h
    subst e1_; subst e2_
    exact V_iret C hR (dt_at dt_X12_trace_0 16 rfl)
theorem cv_X12_trace (C : Ck X G cc own nL d) {idx : Nat} (hlk : Cond.methodLink own idx yX12_trace ∈ gtb) (x1 : Int32) {r0 : Int32} {σ0 : St} (e : f_X12_trace x1 σ = some (r0, σ0)) (hdd : 3 ≤ d) (hroom : (rest.map fun v => v.category).sum ≤ 8) (hcs : cells ≤ (xR X).cells ∧ slots ≤ (xR X).slots) (hd : decode cc pc = .ok (.invokevirtual idx, 3)) (k : V X G nL cells slots σ0 (pc + 3) lv (.int r0 :: rest)) : V X G nL cells slots σ pc lv (.int x1 :: .ref (ga G 6) :: rest) := V_callV C (As := [.int x1]) (c_X12_trace X.2.1 G x1 σ r0 σ0 e) cal_X12_trace ww_823 ww_824 hlk rfl hdd (lt110 rfl) rfl rfl rfl hroom hcs hd k
theorem dt_X12_two_0 : dtab cX12_two [(0, .aload_n 0, 1), (1, .iload_n 1, 1), (2, .invokevirtual 110, 3), (5, .ifCond .eq 25, 3), (8, .aload_n 0, 1), (9, .iload_n 2, 1), (10, .invokevirtual 110, 3), (13, .ifCond .eq 17, 3), (16, .iload_n 1, 1), (17, .iload_n 2, 1), (18, .if_icmp .eq 12, 3), (21, .iload_n 3, 1), (22, .iconst 0, 1), (23, .iconst 1, 1), (24, .invokestatic 91, 3), (27, .ifCond .ne 9, 3), (30, .aload_n 0, 1), (31, .iconst 1, 1), (32, .invokevirtual 95, 3), (35, .ireturn, 1), (36, .aload_n 0, 1), (37, .invokevirtual 237, 3), (40, .iload_n 3, 1), (41, .ifCond .ne 15, 3), (44, .aload_n 0, 1), (45, .getfield 22, 3), (48, .bipush 10, 2), (50, .iload_n 1, 1), (51, .imul, 1), (52, .iload_n 2, 1), (53, .iadd, 1), (54, .iaload, 1), (55, .ireturn, 1), (56, .aload_n 0, 1), (57, .getfield 22, 3), (60, .bipush 10, 2), (62, .iload_n 1, 1), (63, .imul, 1), (64, .iload_n 2, 1), (65, .iadd, 1)] = true := by decide +kernel
theorem dt_X12_two_1 : dtab cX12_two [(66, .iaload, 1), (67, .ifCond .ne 11, 3), (70, .aload_n 0, 1), (71, .iconst 2, 1), (72, .invokevirtual 95, 3), (75, .goto 14, 3), (78, .aload_n 0, 1), (79, .getfield 25, 3), (82, .bipush 10, 2), (84, .iload_n 1, 1), (85, .imul, 1), (86, .iload_n 2, 1), (87, .iadd, 1), (88, .iaload, 1), (89, .ireturn, 1)] = true := by decide +kernel
theorem cal_X12_two : Cal yX12_two cX12_two 4 (some .int) 3 := ⟨ww_825, ww_429, ⟨by decide, by decide, by decide⟩, by decide⟩
set_option maxHeartbeats 4000000 in
set_option maxRecDepth 100000 in
theorem c_X12_two (l : Launch) (G : Gx) (x1 : Int32) (x2 : Int32) (x3 : Int32) (σ : St) (r0 : Int32) (σ0 : St) (h : f_X12_two x1 x2 x3 σ = some (r0, σ0)) : MI l G yX12_two cX12_two 4 (some .int) 7 [.ref (ga G 6), .int x1, .int x2, .int x3] σ (some (.int r0)) σ0 := by
  refine MI_of RX12 rfl (by decide) [(0, .ref (ga G 6)), (1, .int x1), (2, .int x2), (3, .int x3)] rfl (Nat.le_of_ble_eq_true rfl) ?_
  intro X hXl C hR
  unfold f_X12_two at h
  have J_30 : ∀ (σ : St), f_X12_two_30 σ = some (r0, σ0) → V X G 4 0 0 σ 30 [(0, .ref (ga G 6))] [] := by
    intro σ h
    unfold f_X12_two_30 at h
    refine V_aload_n C (dt_at dt_X12_two_0 16 rfl) 0 rfl rfl ?_
    refine V_iconst C 1 (dt_at dt_X12_two_0 17 rfl) (by decide) ?_
    obtain ⟨r24, σ26, e25, h⟩ := bd2_s h
    refine cv_X12_finds C ww_462 1 e25 (Nat.le_of_ble_eq_true rfl) (Nat.le_of_ble_eq_true rfl) z0 (dt_at dt_X12_two_0 18 rfl) ?_
    obtain ⟨e1_, e2_⟩ := pin2 h
    subst e1_; subst e2_
    exact V_iret C hR (dt_at dt_X12_two_0 19 rfl)
  refine V_aload_n C (dt_at dt_X12_two_0 0 rfl) 0 rfl rfl ?_
  refine V_iload_n C (dt_at dt_X12_two_0 1 rfl) 1 rfl rfl ?_
  obtain ⟨r1, e2, h⟩ := bd_s h
  refine cv_X12_isPart C ww_459 x1 e2 (Nat.le_of_ble_eq_true rfl) (Nat.le_of_ble_eq_true rfl) z0 (dt_at dt_X12_two_0 2 rfl) ?_
  refine V_if_eq C 30 (dt_at dt_X12_two_0 3 rfl) (by decide) (fun q4 => ?_) (fun q4 => ?_)
  · have h := ite_t q4 h
    refine V_sub [0] (lv' := [(0, .ref (ga G 6))]) rfl ?_
    exact J_30 σ h
  · have h := ite_f q4 h
    refine V_aload_n C (dt_at dt_X12_two_0 4 rfl) 0 rfl rfl ?_
    refine V_iload_n C (dt_at dt_X12_two_0 5 rfl) 2 rfl rfl ?_
    obtain ⟨r5, e6, h⟩ := bd_s h
    refine cv_X12_isPart C ww_459 x2 e6 (Nat.le_of_ble_eq_true rfl) (Nat.le_of_ble_eq_true rfl) z0 (dt_at dt_X12_two_0 6 rfl) ?_
    refine V_if_eq C 30 (dt_at dt_X12_two_0 7 rfl) (by decide) (fun q8 => ?_) (fun q8 => ?_)
    · have h := ite_t q8 h
      refine V_sub [0] (lv' := [(0, .ref (ga G 6))]) rfl ?_
      exact J_30 σ h
    · have h := ite_f q8 h
      refine V_iload_n C (dt_at dt_X12_two_0 8 rfl) 1 rfl rfl ?_
      refine V_iload_n C (dt_at dt_X12_two_0 9 rfl) 2 rfl rfl ?_
      refine V_icmp_eq C 30 (dt_at dt_X12_two_0 10 rfl) (by decide) (fun q9 => ?_) (fun q9 => ?_)
      · have h := ite_t q9 h
        refine V_sub [0] (lv' := [(0, .ref (ga G 6))]) rfl ?_
        exact J_30 σ h
      · have h := ite_f q9 h
        refine V_iload_n C (dt_at dt_X12_two_0 11 rfl) 3 rfl rfl ?_
        refine V_iconst C 0 (dt_at dt_X12_two_0 12 rfl) (by decide) ?_
        refine V_iconst C 1 (dt_at dt_X12_two_0 13 rfl) (by decide) ?_
        obtain ⟨r10, e11, h⟩ := bd_s h
        refine cv_X12_in C ww_437 x3 0 1 e11 (Nat.le_of_ble_eq_true rfl) (Nat.le_of_ble_eq_true rfl) z0 (dt_at dt_X12_two_0 14 rfl) ?_
        refine V_if_ne C 36 (dt_at dt_X12_two_0 15 rfl) (by decide) (fun q13 => ?_) (fun q13 => ?_)
        · have h := ite_f q13 h
          refine V_aload_n C (dt_at dt_X12_two_0 20 rfl) 0 rfl rfl ?_
          obtain ⟨σ16, e15, h⟩ := bd_s h
          refine cv_X12_lay C ww_513  e15 (Nat.le_of_ble_eq_true rfl) (Nat.le_of_ble_eq_true rfl) z0 (dt_at dt_X12_two_0 21 rfl) ?_
          refine V_iload_n C (dt_at dt_X12_two_0 22 rfl) 3 rfl rfl ?_
          refine V_if_ne C 56 (dt_at dt_X12_two_0 23 rfl) (by decide) (fun q17 => ?_) (fun q17 => ?_)
          · have h := ite_f q17 h
            refine V_aload_n C (dt_at dt_X12_two_0 33 rfl) 0 rfl rfl ?_
            refine g_X12_22_6 C (dt_at dt_X12_two_0 34 rfl) ?_
            refine V_bipush C 10 (dt_at dt_X12_two_0 35 rfl) (by decide) ?_
            refine V_iload_n C (dt_at dt_X12_two_0 36 rfl) 1 rfl rfl ?_
            refine V_imul C (dt_at dt_X12_two_0 37 rfl) ?_
            refine V_iload_n C (dt_at dt_X12_two_0 38 rfl) 2 rfl rfl ?_
            refine V_iadd C (dt_at dt_X12_two_0 39 rfl) ?_
            obtain ⟨h18, h⟩ := chk_s h
            refine al_88 C h18 (dt_at dt_X12_two_1 0 rfl) ?_
            refine V_if_ne C 78 (dt_at dt_X12_two_1 1 rfl) (by decide) (fun q19 => ?_) (fun q19 => ?_)
            · have h := ite_f q19 h
              refine V_aload_n C (dt_at dt_X12_two_1 6 rfl) 0 rfl rfl ?_
              refine g_X12_25_6 C (dt_at dt_X12_two_1 7 rfl) ?_
              refine V_bipush C 10 (dt_at dt_X12_two_1 8 rfl) (by decide) ?_
              refine V_iload_n C (dt_at dt_X12_two_1 9 rfl) 1 rfl rfl ?_
              refine V_imul C (dt_at dt_X12_two_1 10 rfl) ?_
              refine V_iload_n C (dt_at dt_X12_two_1 11 rfl) 2 rfl rfl ?_
              refine V_iadd C (dt_at dt_X12_two_1 12 rfl) ?_
              refine al_89 C h18 (dt_at dt_X12_two_1 13 rfl) ?_
              obtain ⟨e1_, e2_⟩ := pin2 h
              subst e1_; subst e2_
              exact V_iret C hR (dt_at dt_X12_two_1 14 rfl)
            · have h := ite_t q19 h
              refine V_aload_n C (dt_at dt_X12_two_1 2 rfl) 0 rfl rfl ?_
              refine V_iconst C 2 (dt_at dt_X12_two_1 3 rfl) (by decide) ?_
              obtain ⟨r20, σ22, e21, h⟩ := bd2_s h
              refine cv_X12_finds C ww_462 2 e21 (Nat.le_of_ble_eq_true rfl) (Nat.le_of_ble_eq_true rfl) z0 (dt_at dt_X12_two_1 4 rfl) ?_
              refine V_goto C 89 (dt_at dt_X12_two_1 5 rfl) (by decide) ?_
              obtain ⟨e1_, e2_⟩ := pin2 h
              subst e1_; subst e2_
              exact V_iret C hR (dt_at dt_X12_two_1 14 rfl)
          · have h := ite_t q17 h
            refine V_aload_n C (dt_at dt_X12_two_0 24 rfl) 0 rfl rfl ?_
            refine g_X12_22_6 C (dt_at dt_X12_two_0 25 rfl) ?_
            refine V_bipush C 10 (dt_at dt_X12_two_0 26 rfl) (by decide) ?_
            refine V_iload_n C (dt_at dt_X12_two_0 27 rfl) 1 rfl rfl ?_
            refine V_imul C (dt_at dt_X12_two_0 28 rfl) ?_
            refine V_iload_n C (dt_at dt_X12_two_0 29 rfl) 2 rfl rfl ?_
            refine V_iadd C (dt_at dt_X12_two_0 30 rfl) ?_
            obtain ⟨h23, h⟩ := chk_s h
            refine al_88 C h23 (dt_at dt_X12_two_0 31 rfl) ?_
            obtain ⟨e1_, e2_⟩ := pin2 h
            subst e1_; subst e2_
            exact V_iret C hR (dt_at dt_X12_two_0 32 rfl)
        · have h := ite_t q13 h
          refine V_sub [0] (lv' := [(0, .ref (ga G 6))]) rfl ?_
          exact J_30 σ h
theorem cv_X12_two (C : Ck X G cc own nL d) {idx : Nat} (hlk : Cond.methodLink own idx yX12_two ∈ gtb) (x1 : Int32) (x2 : Int32) (x3 : Int32) {r0 : Int32} {σ0 : St} (e : f_X12_two x1 x2 x3 σ = some (r0, σ0)) (hdd : 8 ≤ d) (hroom : (rest.map fun v => v.category).sum ≤ 8) (hcs : cells ≤ (xR X).cells ∧ slots ≤ (xR X).slots) (hd : decode cc pc = .ok (.invokevirtual idx, 3)) (k : V X G nL cells slots σ0 (pc + 3) lv (.int r0 :: rest)) : V X G nL cells slots σ pc lv (.int x3 :: .int x2 :: .int x1 :: .ref (ga G 6) :: rest) := V_callV C (As := [.int x1, .int x2, .int x3]) (c_X12_two X.2.1 G x1 x2 x3 σ r0 σ0 e) cal_X12_two ww_826 ww_827 hlk rfl hdd (lt110 rfl) rfl rfl rfl hroom hcs hd k
theorem dt_X12_voice_0 : dtab cX12_voice [(0, .aload_n 0, 1), (1, .iload_n 1, 1), (2, .invokevirtual 110, 3), (5, .ifCond .eq 12, 3), (8, .iload_n 2, 1), (9, .iconst 0, 1), (10, .iconst 3, 1), (11, .invokestatic 91, 3), (14, .ifCond .ne 9, 3), (17, .aload_n 0, 1), (18, .iconst 1, 1), (19, .invokevirtual 95, 3), (22, .ireturn, 1), (23, .aload_n 0, 1), (24, .iconst 0, 1), (25, .putfield 290, 3), (28, .aload_n 0, 1), (29, .aload_n 0, 1), (30, .iload_n 1, 1), (31, .iconst 0, 1), (32, .invokevirtual 114, 3), (35, .putfield 293, 3), (38, .aload_n 0, 1), (39, .iload_n 1, 1), (40, .putfield 299, 3), (43, .aload_n 0, 1), (44, .aload_n 0, 1), (45, .iload_n 1, 1), (46, .iconst 3, 1), (47, .invokevirtual 114, 3), (50, .putfield 302, 3), (53, .iload_n 2, 1), (54, .ifCond .ne 11, 3), (57, .aload_n 0, 1), (58, .iload_n 3, 1), (59, .invokevirtual 305, 3), (62, .goto 34, 3), (65, .iload_n 2, 1), (66, .iconst 1, 1), (67, .if_icmp .ne 11, 3)] = true := by decide +kernel
theorem dt_X12_voice_1 : dtab cX12_voice [(70, .aload_n 0, 1), (71, .iload_n 3, 1), (72, .invokevirtual 317, 3), (75, .goto 21, 3), (78, .iload_n 2, 1), (79, .iconst 2, 1), (80, .if_icmp .ne 11, 3), (83, .aload_n 0, 1), (84, .iload_n 3, 1), (85, .invokevirtual 311, 3), (88, .goto 8, 3), (91, .aload_n 0, 1), (92, .iload_n 3, 1), (93, .invokevirtual 326, 3), (96, .ireturn, 1)] = true := by decide +kernel
theorem cal_X12_voice : Cal yX12_voice cX12_voice 4 (some .int) 3 := ⟨ww_829, ww_429, ⟨by decide, by decide, by decide⟩, by decide⟩
set_option maxHeartbeats 4000000 in
set_option maxRecDepth 100000 in
theorem c_X12_voice (l : Launch) (G : Gx) (x1 : Int32) (x2 : Int32) (x3 : Int32) (σ : St) (r0 : Int32) (σ0 : St) (h : f_X12_voice x1 x2 x3 σ = some (r0, σ0)) : MI l G yX12_voice cX12_voice 4 (some .int) 9 [.ref (ga G 6), .int x1, .int x2, .int x3] σ (some (.int r0)) σ0 := by
  refine MI_of RX12 rfl (by decide) [(0, .ref (ga G 6)), (1, .int x1), (2, .int x2), (3, .int x3)] rfl (Nat.le_of_ble_eq_true rfl) ?_
  intro X hXl C hR
  unfold f_X12_voice at h
  have J_17 : ∀ (σ : St), f_X12_voice_17 σ = some (r0, σ0) → V X G 4 0 0 σ 17 [(0, .ref (ga G 6))] [] := by
    intro σ h
    unfold f_X12_voice_17 at h
    refine V_aload_n C (dt_at dt_X12_voice_0 9 rfl) 0 rfl rfl ?_
    refine V_iconst C 1 (dt_at dt_X12_voice_0 10 rfl) (by decide) ?_
    obtain ⟨r34, σ36, e35, h⟩ := bd2_s h
    refine cv_X12_finds C ww_462 1 e35 (Nat.le_of_ble_eq_true rfl) (Nat.le_of_ble_eq_true rfl) z0 (dt_at dt_X12_voice_0 11 rfl) ?_
    obtain ⟨e1_, e2_⟩ := pin2 h
    subst e1_; subst e2_
    exact V_iret C hR (dt_at dt_X12_voice_0 12 rfl)
  refine V_aload_n C (dt_at dt_X12_voice_0 0 rfl) 0 rfl rfl ?_
  refine V_iload_n C (dt_at dt_X12_voice_0 1 rfl) 1 rfl rfl ?_
  obtain ⟨r1, e2, h⟩ := bd_s h
  refine cv_X12_isPart C ww_459 x1 e2 (Nat.le_of_ble_eq_true rfl) (Nat.le_of_ble_eq_true rfl) z0 (dt_at dt_X12_voice_0 2 rfl) ?_
  refine V_if_eq C 17 (dt_at dt_X12_voice_0 3 rfl) (by decide) (fun q4 => ?_) (fun q4 => ?_)
  · have h := ite_t q4 h
    refine V_sub [0] (lv' := [(0, .ref (ga G 6))]) rfl ?_
    exact J_17 σ h
  · have h := ite_f q4 h
    refine V_iload_n C (dt_at dt_X12_voice_0 4 rfl) 2 rfl rfl ?_
    refine V_iconst C 0 (dt_at dt_X12_voice_0 5 rfl) (by decide) ?_
    refine V_iconst C 3 (dt_at dt_X12_voice_0 6 rfl) (by decide) ?_
    obtain ⟨r5, e6, h⟩ := bd_s h
    refine cv_X12_in C ww_437 x2 0 3 e6 (Nat.le_of_ble_eq_true rfl) (Nat.le_of_ble_eq_true rfl) z0 (dt_at dt_X12_voice_0 7 rfl) ?_
    refine V_if_ne C 23 (dt_at dt_X12_voice_0 8 rfl) (by decide) (fun q8 => ?_) (fun q8 => ?_)
    · have h := ite_f q8 h
      refine V_aload_n C (dt_at dt_X12_voice_0 13 rfl) 0 rfl rfl ?_
      refine V_iconst C 0 (dt_at dt_X12_voice_0 14 rfl) (by decide) ?_
      obtain ⟨σ9, eσ9, h⟩ := nm_s h
      refine V_st eσ9 ?_ (fun k => p_X12_290_6 C (dt_at dt_X12_voice_0 15 rfl) k)
      refine V_aload_n C (dt_at dt_X12_voice_0 16 rfl) 0 rfl rfl ?_
      refine V_aload_n C (dt_at dt_X12_voice_0 17 rfl) 0 rfl rfl ?_
      refine V_iload_n C (dt_at dt_X12_voice_0 18 rfl) 1 rfl rfl ?_
      refine V_iconst C 0 (dt_at dt_X12_voice_0 19 rfl) (by decide) ?_
      obtain ⟨r10, e11, h⟩ := bd_s h
      refine cv_X12_its C ww_460 x1 0 e11 (Nat.le_of_ble_eq_true rfl) (Nat.le_of_ble_eq_true rfl) z0 (dt_at dt_X12_voice_0 20 rfl) ?_
      obtain ⟨σ13, eσ13, h⟩ := nm_s h
      refine V_st eσ13 ?_ (fun k => p_X12_293_6 C (dt_at dt_X12_voice_0 21 rfl) k)
      refine V_aload_n C (dt_at dt_X12_voice_0 22 rfl) 0 rfl rfl ?_
      refine V_iload_n C (dt_at dt_X12_voice_0 23 rfl) 1 rfl rfl ?_
      obtain ⟨σ14, eσ14, h⟩ := nm_s h
      refine V_st eσ14 ?_ (fun k => p_X12_299_6 C (dt_at dt_X12_voice_0 24 rfl) k)
      refine V_aload_n C (dt_at dt_X12_voice_0 25 rfl) 0 rfl rfl ?_
      refine V_aload_n C (dt_at dt_X12_voice_0 26 rfl) 0 rfl rfl ?_
      refine V_iload_n C (dt_at dt_X12_voice_0 27 rfl) 1 rfl rfl ?_
      refine V_iconst C 3 (dt_at dt_X12_voice_0 28 rfl) (by decide) ?_
      obtain ⟨r15, e16, h⟩ := bd_s h
      refine cv_X12_its C ww_460 x1 3 e16 (Nat.le_of_ble_eq_true rfl) (Nat.le_of_ble_eq_true rfl) z0 (dt_at dt_X12_voice_0 29 rfl) ?_
      obtain ⟨σ18, eσ18, h⟩ := nm_s h
      refine V_st eσ18 ?_ (fun k => p_X12_302_6 C (dt_at dt_X12_voice_0 30 rfl) k)
      refine V_iload_n C (dt_at dt_X12_voice_0 31 rfl) 2 rfl rfl ?_
      refine V_if_ne C 65 (dt_at dt_X12_voice_0 32 rfl) (by decide) (fun q19 => ?_) (fun q19 => ?_)
      · have h := ite_f q19 h
        refine V_iload_n C (dt_at dt_X12_voice_0 37 rfl) 2 rfl rfl ?_
        refine V_iconst C 1 (dt_at dt_X12_voice_0 38 rfl) (by decide) ?_
        refine V_icmp_ne C 78 (dt_at dt_X12_voice_0 39 rfl) (by decide) (fun q20 => ?_) (fun q20 => ?_)
        · have h := ite_f q20 h
          refine V_iload_n C (dt_at dt_X12_voice_1 4 rfl) 2 rfl rfl ?_
          refine V_iconst C 2 (dt_at dt_X12_voice_1 5 rfl) (by decide) ?_
          refine V_icmp_ne C 91 (dt_at dt_X12_voice_1 6 rfl) (by decide) (fun q21 => ?_) (fun q21 => ?_)
          · have h := ite_f q21 h
            refine V_aload_n C (dt_at dt_X12_voice_1 11 rfl) 0 rfl rfl ?_
            refine V_iload_n C (dt_at dt_X12_voice_1 12 rfl) 3 rfl rfl ?_
            obtain ⟨r22, σ24, e23, h⟩ := bd2_s h
            refine cv_X12_bows C ww_828 x3 e23 (Nat.le_of_ble_eq_true rfl) (Nat.le_of_ble_eq_true rfl) z0 (dt_at dt_X12_voice_1 13 rfl) ?_
            obtain ⟨e1_, e2_⟩ := pin2 h
            subst e1_; subst e2_
            exact V_iret C hR (dt_at dt_X12_voice_1 14 rfl)
          · have h := ite_t q21 h
            refine V_aload_n C (dt_at dt_X12_voice_1 7 rfl) 0 rfl rfl ?_
            refine V_iload_n C (dt_at dt_X12_voice_1 8 rfl) 3 rfl rfl ?_
            obtain ⟨r25, σ27, e26, h⟩ := bd2_s h
            refine cv_X12_dies C ww_600 x3 e26 (Nat.le_of_ble_eq_true rfl) (Nat.le_of_ble_eq_true rfl) z0 (dt_at dt_X12_voice_1 9 rfl) ?_
            refine V_goto C 96 (dt_at dt_X12_voice_1 10 rfl) (by decide) ?_
            obtain ⟨e1_, e2_⟩ := pin2 h
            subst e1_; subst e2_
            exact V_iret C hR (dt_at dt_X12_voice_1 14 rfl)
        · have h := ite_t q20 h
          refine V_aload_n C (dt_at dt_X12_voice_1 0 rfl) 0 rfl rfl ?_
          refine V_iload_n C (dt_at dt_X12_voice_1 1 rfl) 3 rfl rfl ?_
          obtain ⟨r28, σ30, e29, h⟩ := bd2_s h
          refine cv_X12_walks C ww_608 x3 e29 (Nat.le_of_ble_eq_true rfl) (Nat.le_of_ble_eq_true rfl) z0 (dt_at dt_X12_voice_1 2 rfl) ?_
          refine V_goto C 96 (dt_at dt_X12_voice_1 3 rfl) (by decide) ?_
          obtain ⟨e1_, e2_⟩ := pin2 h
          subst e1_; subst e2_
          exact V_iret C hR (dt_at dt_X12_voice_1 14 rfl)
      · have h := ite_t q19 h
        refine V_aload_n C (dt_at dt_X12_voice_0 33 rfl) 0 rfl rfl ?_
        refine V_iload_n C (dt_at dt_X12_voice_0 34 rfl) 3 rfl rfl ?_
        obtain ⟨r31, σ33, e32, h⟩ := bd2_s h
        refine cv_X12_speaks C ww_595 x3 e32 (Nat.le_of_ble_eq_true rfl) (Nat.le_of_ble_eq_true rfl) z0 (dt_at dt_X12_voice_0 35 rfl) ?_
        refine V_goto C 96 (dt_at dt_X12_voice_0 36 rfl) (by decide) ?_
        obtain ⟨e1_, e2_⟩ := pin2 h
        subst e1_; subst e2_
        exact V_iret C hR (dt_at dt_X12_voice_1 14 rfl)
    · have h := ite_t q8 h
      refine V_sub [0] (lv' := [(0, .ref (ga G 6))]) rfl ?_
      exact J_17 σ h
theorem cv_X12_voice (C : Ck X G cc own nL d) {idx : Nat} (hlk : Cond.methodLink own idx yX12_voice ∈ gtb) (x1 : Int32) (x2 : Int32) (x3 : Int32) {r0 : Int32} {σ0 : St} (e : f_X12_voice x1 x2 x3 σ = some (r0, σ0)) (hdd : 10 ≤ d) (hroom : (rest.map fun v => v.category).sum ≤ 8) (hcs : cells ≤ (xR X).cells ∧ slots ≤ (xR X).slots) (hd : decode cc pc = .ok (.invokevirtual idx, 3)) (k : V X G nL cells slots σ0 (pc + 3) lv (.int r0 :: rest)) : V X G nL cells slots σ pc lv (.int x3 :: .int x2 :: .int x1 :: .ref (ga G 6) :: rest) := V_callV C (As := [.int x1, .int x2, .int x3]) (c_X12_voice X.2.1 G x1 x2 x3 σ r0 σ0 e) cal_X12_voice ww_830 ww_831 hlk rfl hdd (lt110 rfl) rfl rfl rfl hroom hcs hd k
theorem dt_X12_wish_0 : dtab cX12_wish [(0, .aload_n 0, 1), (1, .iload_n 1, 1), (2, .invokevirtual 145, 3), (5, .ifCond .eq 20, 3), (8, .aload_n 0, 1), (9, .iload_n 2, 1), (10, .invokevirtual 110, 3), (13, .ifCond .eq 12, 3), (16, .aload_n 0, 1), (17, .iload_n 1, 1), (18, .iload_n 2, 1), (19, .invokevirtual 163, 3), (22, .goto 8, 3), (25, .aload_n 0, 1), (26, .iconst 1, 1), (27, .invokevirtual 95, 3), (30, .ireturn, 1)] = true := by decide +kernel
theorem cal_X12_wish : Cal yX12_wish cX12_wish 3 (some .int) 2 := ⟨ww_832, ww_429, ⟨by decide, by decide, by decide⟩, by decide⟩
set_option maxHeartbeats 4000000 in
set_option maxRecDepth 100000 in
theorem c_X12_wish (l : Launch) (G : Gx) (x1 : Int32) (x2 : Int32) (σ : St) (r0 : Int32) (σ0 : St) (h : f_X12_wish x1 x2 σ = some (r0, σ0)) : MI l G yX12_wish cX12_wish 3 (some .int) 4 [.ref (ga G 6), .int x1, .int x2] σ (some (.int r0)) σ0 := by
  refine MI_of RX12 rfl (by decide) [(0, .ref (ga G 6)), (1, .int x1), (2, .int x2)] rfl (Nat.le_of_ble_eq_true rfl) ?_
  intro X hXl C hR
  unfold f_X12_wish at h
  have J_25 : ∀ (σ : St), f_X12_wish_25 σ = some (r0, σ0) → V X G 3 0 0 σ 25 [(0, .ref (ga G 6))] [] := by
    intro σ h
    unfold f_X12_wish_25 at h
    refine V_aload_n C (dt_at dt_X12_wish_0 13 rfl) 0 rfl rfl ?_
    refine V_iconst C 1 (dt_at dt_X12_wish_0 14 rfl) (by decide) ?_
    obtain ⟨r12, σ14, e13, h⟩ := bd2_s h
    refine cv_X12_finds C ww_462 1 e13 (Nat.le_of_ble_eq_true rfl) (Nat.le_of_ble_eq_true rfl) z0 (dt_at dt_X12_wish_0 15 rfl) ?_
    obtain ⟨e1_, e2_⟩ := pin2 h
    subst e1_; subst e2_
    exact V_iret C hR (dt_at dt_X12_wish_0 16 rfl)
  refine V_aload_n C (dt_at dt_X12_wish_0 0 rfl) 0 rfl rfl ?_
  refine V_iload_n C (dt_at dt_X12_wish_0 1 rfl) 1 rfl rfl ?_
  obtain ⟨r1, e2, h⟩ := bd_s h
  refine cv_X12_isPlayer C ww_626 x1 e2 (Nat.le_of_ble_eq_true rfl) (Nat.le_of_ble_eq_true rfl) z0 (dt_at dt_X12_wish_0 2 rfl) ?_
  refine V_if_eq C 25 (dt_at dt_X12_wish_0 3 rfl) (by decide) (fun q4 => ?_) (fun q4 => ?_)
  · have h := ite_t q4 h
    refine V_sub [0] (lv' := [(0, .ref (ga G 6))]) rfl ?_
    exact J_25 σ h
  · have h := ite_f q4 h
    refine V_aload_n C (dt_at dt_X12_wish_0 4 rfl) 0 rfl rfl ?_
    refine V_iload_n C (dt_at dt_X12_wish_0 5 rfl) 2 rfl rfl ?_
    obtain ⟨r5, e6, h⟩ := bd_s h
    refine cv_X12_isPart C ww_459 x2 e6 (Nat.le_of_ble_eq_true rfl) (Nat.le_of_ble_eq_true rfl) z0 (dt_at dt_X12_wish_0 6 rfl) ?_
    refine V_if_eq C 25 (dt_at dt_X12_wish_0 7 rfl) (by decide) (fun q8 => ?_) (fun q8 => ?_)
    · have h := ite_t q8 h
      refine V_sub [0] (lv' := [(0, .ref (ga G 6))]) rfl ?_
      exact J_25 σ h
    · have h := ite_f q8 h
      refine V_aload_n C (dt_at dt_X12_wish_0 8 rfl) 0 rfl rfl ?_
      refine V_iload_n C (dt_at dt_X12_wish_0 9 rfl) 1 rfl rfl ?_
      refine V_iload_n C (dt_at dt_X12_wish_0 10 rfl) 2 rfl rfl ?_
      obtain ⟨r9, σ11, e10, h⟩ := bd2_s h
      refine cv_X12_wishOf C ww_536 x1 x2 e10 (Nat.le_of_ble_eq_true rfl) (Nat.le_of_ble_eq_true rfl) z0 (dt_at dt_X12_wish_0 11 rfl) ?_
      refine V_goto C 30 (dt_at dt_X12_wish_0 12 rfl) (by decide) ?_
      obtain ⟨e1_, e2_⟩ := pin2 h
      subst e1_; subst e2_
      exact V_iret C hR (dt_at dt_X12_wish_0 16 rfl)
theorem cv_X12_wish (C : Ck X G cc own nL d) {idx : Nat} (hlk : Cond.methodLink own idx yX12_wish ∈ gtb) (x1 : Int32) (x2 : Int32) {r0 : Int32} {σ0 : St} (e : f_X12_wish x1 x2 σ = some (r0, σ0)) (hdd : 5 ≤ d) (hroom : (rest.map fun v => v.category).sum ≤ 8) (hcs : cells ≤ (xR X).cells ∧ slots ≤ (xR X).slots) (hd : decode cc pc = .ok (.invokevirtual idx, 3)) (k : V X G nL cells slots σ0 (pc + 3) lv (.int r0 :: rest)) : V X G nL cells slots σ pc lv (.int x2 :: .int x1 :: .ref (ga G 6) :: rest) := V_callV C (As := [.int x1, .int x2]) (c_X12_wish X.2.1 G x1 x2 σ r0 σ0 e) cal_X12_wish ww_833 ww_834 hlk rfl hdd (lt110 rfl) rfl rfl rfl hroom hcs hd k
theorem dt_X12_without_0 : dtab cX12_without [(0, .aload_n 0, 1), (1, .iload_n 1, 1), (2, .invokevirtual 110, 3), (5, .ifCond .eq 20, 3), (8, .aload_n 0, 1), (9, .aload_n 0, 1), (10, .invokevirtual 249, 3), (13, .iconst 1, 1), (14, .iload_n 1, 1), (15, .ishl, 1), (16, .iconst (-1), 1), (17, .ixor, 1), (18, .iand, 1), (19, .invokevirtual 252, 3), (22, .goto 8, 3), (25, .aload_n 0, 1), (26, .iconst 1, 1), (27, .invokevirtual 95, 3), (30, .ireturn, 1)] = true := by decide +kernel
theorem cal_X12_without : Cal yX12_without cX12_without 2 (some .int) 1 := ⟨ww_835, ww_429, ⟨by decide, by decide, by decide⟩, by decide⟩
set_option maxHeartbeats 4000000 in
set_option maxRecDepth 100000 in
theorem c_X12_without (l : Launch) (G : Gx) (x1 : Int32) (σ : St) (r0 : Int32) (σ0 : St) (h : f_X12_without x1 σ = some (r0, σ0)) : MI l G yX12_without cX12_without 2 (some .int) 8 [.ref (ga G 6), .int x1] σ (some (.int r0)) σ0 := by
  refine MI_of RX12 rfl (by decide) [(0, .ref (ga G 6)), (1, .int x1)] rfl (Nat.le_of_ble_eq_true rfl) ?_
  intro X hXl C hR
  unfold f_X12_without at h
  refine V_aload_n C (dt_at dt_X12_without_0 0 rfl) 0 rfl rfl ?_
  refine V_iload_n C (dt_at dt_X12_without_0 1 rfl) 1 rfl rfl ?_
  obtain ⟨r1, e2, h⟩ := bd_s h
  refine cv_X12_isPart C ww_459 x1 e2 (Nat.le_of_ble_eq_true rfl) (Nat.le_of_ble_eq_true rfl) z0 (dt_at dt_X12_without_0 2 rfl) ?_
  refine V_if_eq C 25 (dt_at dt_X12_without_0 3 rfl) (by decide) (fun q4 => ?_) (fun q4 => ?_)
  · have h := ite_t q4 h
    refine V_aload_n C (dt_at dt_X12_without_0 15 rfl) 0 rfl rfl ?_
    refine V_iconst C 1 (dt_at dt_X12_without_0 16 rfl) (by decide) ?_
    obtain ⟨r5, σ7, e6, h⟩ := bd2_s h
    refine cv_X12_finds C ww_462 1 e6 (Nat.le_of_ble_eq_true rfl) (Nat.le_of_ble_eq_true rfl) z0 (dt_at dt_X12_without_0 17 rfl) ?_
    obtain ⟨e1_, e2_⟩ := pin2 h
    subst e1_; subst e2_
    exact V_iret C hR (dt_at dt_X12_without_0 18 rfl)
  · have h := ite_f q4 h
    refine V_aload_n C (dt_at dt_X12_without_0 4 rfl) 0 rfl rfl ?_
    refine V_aload_n C (dt_at dt_X12_without_0 5 rfl) 0 rfl rfl ?_
    obtain ⟨r8, e9, h⟩ := bd_s h
    refine cv_X12_allParts C ww_527  e9 (Nat.le_of_ble_eq_true rfl) (Nat.le_of_ble_eq_true rfl) z0 (dt_at dt_X12_without_0 6 rfl) ?_
    refine V_iconst C 1 (dt_at dt_X12_without_0 7 rfl) (by decide) ?_
    refine V_iload_n C (dt_at dt_X12_without_0 8 rfl) 1 rfl rfl ?_
    refine V_ishl C (dt_at dt_X12_without_0 9 rfl) ?_
    refine V_iconst C (-1) (dt_at dt_X12_without_0 10 rfl) (by decide) ?_
    refine V_ixor C (dt_at dt_X12_without_0 11 rfl) ?_
    refine V_iand C (dt_at dt_X12_without_0 12 rfl) ?_
    obtain ⟨r11, σ13, e12, h⟩ := bd2_s h
    refine cv_X12_fewestOf C ww_702 (r8 &&& (((1 : Int32) <<< (x1 &&& 31)) ^^^ (-1))) e12 (Nat.le_of_ble_eq_true rfl) (Nat.le_of_ble_eq_true rfl) z0 (dt_at dt_X12_without_0 13 rfl) ?_
    refine V_goto C 30 (dt_at dt_X12_without_0 14 rfl) (by decide) ?_
    obtain ⟨e1_, e2_⟩ := pin2 h
    subst e1_; subst e2_
    exact V_iret C hR (dt_at dt_X12_without_0 18 rfl)
theorem cv_X12_without (C : Ck X G cc own nL d) {idx : Nat} (hlk : Cond.methodLink own idx yX12_without ∈ gtb) (x1 : Int32) {r0 : Int32} {σ0 : St} (e : f_X12_without x1 σ = some (r0, σ0)) (hdd : 9 ≤ d) (hroom : (rest.map fun v => v.category).sum ≤ 8) (hcs : cells ≤ (xR X).cells ∧ slots ≤ (xR X).slots) (hd : decode cc pc = .ok (.invokevirtual idx, 3)) (k : V X G nL cells slots σ0 (pc + 3) lv (.int r0 :: rest)) : V X G nL cells slots σ pc lv (.int x1 :: .ref (ga G 6) :: rest) := V_callV C (As := [.int x1]) (c_X12_without X.2.1 G x1 σ r0 σ0 e) cal_X12_without ww_836 ww_837 hlk rfl hdd (lt110 rfl) rfl rfl rfl hroom hcs hd k
theorem dt_X6_isOf_0 : dtab cX6_isOf [(0, .iload_n 1, 1), (1, .tableswitch 60 1 5 #[35, 40, 45, 50, 55], 35), (36, .aload_n 0, 1), (37, .instanceof 27, 3), (40, .ireturn, 1), (41, .aload_n 0, 1), (42, .instanceof 29, 3), (45, .ireturn, 1), (46, .aload_n 0, 1), (47, .instanceof 31, 3), (50, .ireturn, 1), (51, .aload_n 0, 1), (52, .instanceof 33, 3), (55, .ireturn, 1), (56, .aload_n 0, 1), (57, .instanceof 35, 3), (60, .ireturn, 1), (61, .iconst 1, 1), (62, .ireturn, 1)] = true := by decide +kernel
theorem cal_X6_isOf : Cal yX6_isOf cX6_isOf 2 (some .boolean) 1 := ⟨ww_843, ww_844, ⟨by decide, by decide, by decide⟩, by decide⟩
set_option maxHeartbeats 4000000 in
set_option maxRecDepth 100000 in
theorem c_X6_isOf (l : Launch) (G : Gx) (c0 : Nat) (x1 : Int32) (σ : St) (r0 : Int32) (h : f_X6_isOf c0 x1 σ = some r0) : MI l G yX6_isOf cX6_isOf 2 (some .boolean) 1 [.ref (ga G c0), .int x1] σ (some (.int r0)) σ := by
  refine MI_of RX6 rfl (by decide) [(0, .ref (ga G c0)), (1, .int x1)] rfl (Nat.le_of_ble_eq_true rfl) ?_
  intro X hXl C hR
  unfold f_X6_isOf at h
  refine V_iload_n C (dt_at dt_X6_isOf_0 0 rfl) 1 rfl rfl ?_
  by_cases q1 : x1 = 1
  · have h := ite_t q1 h
    refine V_tin C 0 36 (dt_at dt_X6_isOf_0 1 rfl) ⟨by rw [q1] <;> rfl, by decide⟩ rfl (by decide) ?_
    refine V_aload_n C (dt_at dt_X6_isOf_0 2 rfl) 0 rfl rfl ?_
    obtain ⟨h2, h⟩ := chk_s h
    refine io_X6_27 C (K := c0) h2 (dt_at dt_X6_isOf_0 3 rfl) ?_
    obtain ⟨h3, h⟩ := chk_s h
    have e1_ := Option.some.inj h
    subst e1_
    exact V_zret C (isB_n h3) hR (dt_at dt_X6_isOf_0 4 rfl)
  replace h := ite_f q1 h
  by_cases q4 : x1 = 2
  · have h := ite_t q4 h
    refine V_tin C 1 41 (dt_at dt_X6_isOf_0 1 rfl) ⟨by rw [q4] <;> rfl, by decide⟩ rfl (by decide) ?_
    refine V_aload_n C (dt_at dt_X6_isOf_0 5 rfl) 0 rfl rfl ?_
    obtain ⟨h5, h⟩ := chk_s h
    refine io_X6_29 C (K := c0) h5 (dt_at dt_X6_isOf_0 6 rfl) ?_
    obtain ⟨h6, h⟩ := chk_s h
    have e1_ := Option.some.inj h
    subst e1_
    exact V_zret C (isB_n h6) hR (dt_at dt_X6_isOf_0 7 rfl)
  replace h := ite_f q4 h
  by_cases q7 : x1 = 3
  · have h := ite_t q7 h
    refine V_tin C 2 46 (dt_at dt_X6_isOf_0 1 rfl) ⟨by rw [q7] <;> rfl, by decide⟩ rfl (by decide) ?_
    refine V_aload_n C (dt_at dt_X6_isOf_0 8 rfl) 0 rfl rfl ?_
    obtain ⟨h8, h⟩ := chk_s h
    refine io_X6_31 C (K := c0) h8 (dt_at dt_X6_isOf_0 9 rfl) ?_
    obtain ⟨h9, h⟩ := chk_s h
    have e1_ := Option.some.inj h
    subst e1_
    exact V_zret C (isB_n h9) hR (dt_at dt_X6_isOf_0 10 rfl)
  replace h := ite_f q7 h
  by_cases q10 : x1 = 4
  · have h := ite_t q10 h
    refine V_tin C 3 51 (dt_at dt_X6_isOf_0 1 rfl) ⟨by rw [q10] <;> rfl, by decide⟩ rfl (by decide) ?_
    refine V_aload_n C (dt_at dt_X6_isOf_0 11 rfl) 0 rfl rfl ?_
    obtain ⟨h11, h⟩ := chk_s h
    refine io_X6_33 C (K := c0) h11 (dt_at dt_X6_isOf_0 12 rfl) ?_
    obtain ⟨h12, h⟩ := chk_s h
    have e1_ := Option.some.inj h
    subst e1_
    exact V_zret C (isB_n h12) hR (dt_at dt_X6_isOf_0 13 rfl)
  replace h := ite_f q10 h
  by_cases q13 : x1 = 5
  · have h := ite_t q13 h
    refine V_tin C 4 56 (dt_at dt_X6_isOf_0 1 rfl) ⟨by rw [q13] <;> rfl, by decide⟩ rfl (by decide) ?_
    refine V_aload_n C (dt_at dt_X6_isOf_0 14 rfl) 0 rfl rfl ?_
    obtain ⟨h14, h⟩ := chk_s h
    refine io_X6_35 C (K := c0) h14 (dt_at dt_X6_isOf_0 15 rfl) ?_
    obtain ⟨h15, h⟩ := chk_s h
    have e1_ := Option.some.inj h
    subst e1_
    exact V_zret C (isB_n h15) hR (dt_at dt_X6_isOf_0 16 rfl)
  replace h := ite_f q13 h
  refine V_tout C 61 (dt_at dt_X6_isOf_0 1 rfl) (by have q1t := lv_neT q1 (a := 1) rfl; have q4t := lv_neT q4 (a := 2) rfl; have q7t := lv_neT q7 (a := 3) rfl; have q10t := lv_neT q10 (a := 4) rfl; have q13t := lv_neT q13 (a := 5) rfl; omega) (by decide) ?_
  refine V_iconst C 1 (dt_at dt_X6_isOf_0 17 rfl) (by decide) ?_
  have e1_ := Option.some.inj h
  subst e1_
  exact V_zret C rfl hR (dt_at dt_X6_isOf_0 18 rfl)
theorem dt_X6_speak_0 : dtab cX6_speak [(0, .aload_n 2, 1), (1, .bipush 10, 2), (3, .invokevirtual 37, 3), (6, .iload_n 1, 1), (7, .aload_n 0, 1), (8, .getfield 9, 3), (11, .iadd, 1), (12, .ireturn, 1)] = true := by decide +kernel
theorem cal_X6_speak : Cal yX6_speak cX6_speak 3 (some .int) 2 := ⟨ww_847, ww_844, ⟨by decide, by decide, by decide⟩, by decide⟩
set_option maxHeartbeats 4000000 in
set_option maxRecDepth 100000 in
theorem c_X6_speak (l : Launch) (G : Gx) (c0 : Nat) (x1 : Int32) (σ : St) (r0 : Int32) (σ0 : St) (h : f_X6_speak c0 x1 σ = some (r0, σ0)) : MI l G yX6_speak cX6_speak 3 (some .int) 2 [.ref (ga G c0), .int x1, .ref (ga G 74)] σ (some (.int r0)) σ0 := by
  refine MI_of RX6 rfl (by decide) [(0, .ref (ga G c0)), (1, .int x1), (2, .ref (ga G 74))] rfl (Nat.le_of_ble_eq_true rfl) ?_
  intro X hXl C hR
  unfold f_X6_speak at h
  refine V_aload_n C (dt_at dt_X6_speak_0 0 rfl) 2 rfl rfl ?_
  refine V_bipush C 10 (dt_at dt_X6_speak_0 1 rfl) (by decide) ?_
  obtain ⟨σ3, e2, h⟩ := bd_s h
  refine cv_X7_add C ww_845 74 10 e2 (Nat.le_of_ble_eq_true rfl) (Nat.le_of_ble_eq_true rfl) z0 (dt_at dt_X6_speak_0 2 rfl) ?_
  refine V_iload_n C (dt_at dt_X6_speak_0 3 rfl) 1 rfl rfl ?_
  refine V_aload_n C (dt_at dt_X6_speak_0 4 rfl) 0 rfl rfl ?_
  obtain ⟨h4, h⟩ := chk_s h
  refine gr_X6_9 C (K := c0) h4 (dt_at dt_X6_speak_0 5 rfl) ?_
  refine V_iadd C (dt_at dt_X6_speak_0 6 rfl) ?_
  obtain ⟨e1_, e2_⟩ := pin2 h
  subst e1_; subst e2_
  exact V_iret C hR (dt_at dt_X6_speak_0 7 rfl)
theorem csu_X2_13 (C : Ck X G cc RX2 nL d) (c0 : Nat) (x1 : Int32) {r0 : Int32} {σ0 : St} (hr : isRole σ c0 = true) (e : f_X6_speak c0 x1 σ = some (r0, σ0)) (hdd : 3 ≤ d) (hroom : (rest.map fun v => v.category).sum ≤ 8) (hcs : cells ≤ (xR X).cells ∧ slots ≤ (xR X).slots) (hd : decode cc pc = .ok (.invokespecial 13, 3)) (k : V X G nL cells slots σ0 (pc + 3) lv (.int r0 :: rest)) : V X G nL cells slots σ pc lv (.ref (ga G 74) :: .int x1 :: .ref (ga G c0) :: rest) := by
  have h := of_decide_eq_true hr
  have hK : c0 < 110 + σ.1 := h.2.1
  rcases h.2.2 with q | q | q | q | q | q
  · exact V_callSU C (Cn := RX0) (x := yX6_speak) (As := [.int x1, .ref (ga G 74)]) (K := c0) (c_X6_speak X.2.1 G c0 x1 σ r0 σ0 e) cal_X6_speak ww_853 ww_851 ⟨rfl, rfl⟩ ww_852 ww_854 (Or.inl rfl) (by decide) rfl (Nat.le_trans (Nat.le_of_ble_eq_true rfl) hdd) hK (role_lay h.1 q) (T := TX0) (N := 5) rfl rfl hroom hcs hd k
  · exact V_callSU C (Cn := RX1) (x := yX6_speak) (As := [.int x1, .ref (ga G 74)]) (K := c0) (c_X6_speak X.2.1 G c0 x1 σ r0 σ0 e) cal_X6_speak ww_853 ww_851 ⟨rfl, rfl⟩ ww_852 ww_854 (Or.inl rfl) (by decide) rfl (Nat.le_trans (Nat.le_of_ble_eq_true rfl) hdd) hK (role_lay h.1 q) (T := TX1) (N := 5) rfl rfl hroom hcs hd k
  · exact V_callSU C (Cn := RX2) (x := yX6_speak) (As := [.int x1, .ref (ga G 74)]) (K := c0) (c_X6_speak X.2.1 G c0 x1 σ r0 σ0 e) cal_X6_speak ww_853 ww_851 ⟨rfl, rfl⟩ ww_852 ww_854 (Or.inl rfl) (by decide) rfl (Nat.le_trans (Nat.le_of_ble_eq_true rfl) hdd) hK (role_lay h.1 q) (T := TX2) (N := 5) rfl rfl hroom hcs hd k
  · exact V_callSU C (Cn := RX3) (x := yX6_speak) (As := [.int x1, .ref (ga G 74)]) (K := c0) (c_X6_speak X.2.1 G c0 x1 σ r0 σ0 e) cal_X6_speak ww_853 ww_851 ⟨rfl, rfl⟩ ww_852 ww_854 (Or.inl rfl) (by decide) rfl (Nat.le_trans (Nat.le_of_ble_eq_true rfl) hdd) hK (role_lay h.1 q) (T := TX3) (N := 5) rfl rfl hroom hcs hd k
  · exact V_callSU C (Cn := RX6) (x := yX6_speak) (As := [.int x1, .ref (ga G 74)]) (K := c0) (c_X6_speak X.2.1 G c0 x1 σ r0 σ0 e) cal_X6_speak ww_853 ww_851 ⟨rfl, rfl⟩ ww_852 ww_854 (Or.inl rfl) (by decide) rfl (Nat.le_trans (Nat.le_of_ble_eq_true rfl) hdd) hK (role_lay h.1 q) (T := TX6) (N := 5) rfl rfl hroom hcs hd k
  · exact V_callSU C (Cn := RX9) (x := yX6_speak) (As := [.int x1, .ref (ga G 74)]) (K := c0) (c_X6_speak X.2.1 G c0 x1 σ r0 σ0 e) cal_X6_speak ww_853 ww_851 ⟨rfl, rfl⟩ ww_852 ww_854 (Or.inl rfl) (by decide) rfl (Nat.le_trans (Nat.le_of_ble_eq_true rfl) hdd) hK (role_lay h.1 q) (T := TX9) (N := 5) rfl rfl hroom hcs hd k
theorem dt_X2_speak_0 : dtab cX2_speak [(0, .aload_n 2, 1), (1, .bipush 30, 2), (3, .invokevirtual 7, 3), (6, .aload_n 0, 1), (7, .iload_n 1, 1), (8, .aload_n 2, 1), (9, .invokespecial 13, 3), (12, .iconst 1, 1), (13, .isub, 1), (14, .ireturn, 1)] = true := by decide +kernel
theorem cal_X2_speak : Cal yX2_speak cX2_speak 3 (some .int) 2 := ⟨ww_849, ww_850, ⟨by decide, by decide, by decide⟩, by decide⟩
set_option maxHeartbeats 4000000 in
set_option maxRecDepth 100000 in
theorem c_X2_speak (l : Launch) (G : Gx) (c0 : Nat) (x1 : Int32) (σ : St) (r0 : Int32) (σ0 : St) (h : f_X2_speak c0 x1 σ = some (r0, σ0)) : MI l G yX2_speak cX2_speak 3 (some .int) 3 [.ref (ga G c0), .int x1, .ref (ga G 74)] σ (some (.int r0)) σ0 := by
  refine MI_of RX2 rfl (by decide) [(0, .ref (ga G c0)), (1, .int x1), (2, .ref (ga G 74))] rfl (Nat.le_of_ble_eq_true rfl) ?_
  intro X hXl C hR
  unfold f_X2_speak at h
  refine V_aload_n C (dt_at dt_X2_speak_0 0 rfl) 2 rfl rfl ?_
  refine V_bipush C 30 (dt_at dt_X2_speak_0 1 rfl) (by decide) ?_
  obtain ⟨σ3, e2, h⟩ := bd_s h
  refine cv_X7_add C ww_848 74 30 e2 (Nat.le_of_ble_eq_true rfl) (Nat.le_of_ble_eq_true rfl) z0 (dt_at dt_X2_speak_0 2 rfl) ?_
  refine V_aload_n C (dt_at dt_X2_speak_0 3 rfl) 0 rfl rfl ?_
  refine V_iload_n C (dt_at dt_X2_speak_0 4 rfl) 1 rfl rfl ?_
  refine V_aload_n C (dt_at dt_X2_speak_0 5 rfl) 2 rfl rfl ?_
  obtain ⟨h4, h⟩ := chk_s h
  obtain ⟨r5, σ7, e6, h⟩ := bd2_s h
  refine csu_X2_13 C c0 x1 h4 e6 (Nat.le_of_ble_eq_true rfl) (Nat.le_of_ble_eq_true rfl) z0 (dt_at dt_X2_speak_0 6 rfl) ?_
  refine V_iconst C 1 (dt_at dt_X2_speak_0 7 rfl) (by decide) ?_
  refine V_isub C (dt_at dt_X2_speak_0 8 rfl) ?_
  obtain ⟨e1_, e2_⟩ := pin2 h
  subst e1_; subst e2_
  exact V_iret C hR (dt_at dt_X2_speak_0 9 rfl)
theorem csu_X0_13 (C : Ck X G cc RX0 nL d) (c0 : Nat) (x1 : Int32) {r0 : Int32} {σ0 : St} (hr : isRole σ c0 = true) (e : f_X6_speak c0 x1 σ = some (r0, σ0)) (hdd : 3 ≤ d) (hroom : (rest.map fun v => v.category).sum ≤ 8) (hcs : cells ≤ (xR X).cells ∧ slots ≤ (xR X).slots) (hd : decode cc pc = .ok (.invokespecial 13, 3)) (k : V X G nL cells slots σ0 (pc + 3) lv (.int r0 :: rest)) : V X G nL cells slots σ pc lv (.ref (ga G 74) :: .int x1 :: .ref (ga G c0) :: rest) := by
  have h := of_decide_eq_true hr
  have hK : c0 < 110 + σ.1 := h.2.1
  rcases h.2.2 with q | q | q | q | q | q
  · exact V_callSU C (Cn := RX0) (x := ⟨RX9, "speak", "(ILFivePlayers$Row;)I"⟩) (As := [.int x1, .ref (ga G 74)]) (K := c0) (c_X6_speak X.2.1 G c0 x1 σ r0 σ0 e) cal_X6_speak ww_853 ww_858 ⟨rfl, rfl⟩ ww_859 ww_861 (Or.inr ww_860) (by decide) rfl (Nat.le_trans (Nat.le_of_ble_eq_true rfl) hdd) hK (role_lay h.1 q) (T := TX0) (N := 5) rfl rfl hroom hcs hd k
  · exact V_callSU C (Cn := RX1) (x := ⟨RX9, "speak", "(ILFivePlayers$Row;)I"⟩) (As := [.int x1, .ref (ga G 74)]) (K := c0) (c_X6_speak X.2.1 G c0 x1 σ r0 σ0 e) cal_X6_speak ww_853 ww_858 ⟨rfl, rfl⟩ ww_859 ww_861 (Or.inr ww_860) (by decide) rfl (Nat.le_trans (Nat.le_of_ble_eq_true rfl) hdd) hK (role_lay h.1 q) (T := TX1) (N := 5) rfl rfl hroom hcs hd k
  · exact V_callSU C (Cn := RX2) (x := ⟨RX9, "speak", "(ILFivePlayers$Row;)I"⟩) (As := [.int x1, .ref (ga G 74)]) (K := c0) (c_X6_speak X.2.1 G c0 x1 σ r0 σ0 e) cal_X6_speak ww_853 ww_858 ⟨rfl, rfl⟩ ww_859 ww_861 (Or.inr ww_860) (by decide) rfl (Nat.le_trans (Nat.le_of_ble_eq_true rfl) hdd) hK (role_lay h.1 q) (T := TX2) (N := 5) rfl rfl hroom hcs hd k
  · exact V_callSU C (Cn := RX3) (x := ⟨RX9, "speak", "(ILFivePlayers$Row;)I"⟩) (As := [.int x1, .ref (ga G 74)]) (K := c0) (c_X6_speak X.2.1 G c0 x1 σ r0 σ0 e) cal_X6_speak ww_853 ww_858 ⟨rfl, rfl⟩ ww_859 ww_861 (Or.inr ww_860) (by decide) rfl (Nat.le_trans (Nat.le_of_ble_eq_true rfl) hdd) hK (role_lay h.1 q) (T := TX3) (N := 5) rfl rfl hroom hcs hd k
  · exact V_callSU C (Cn := RX6) (x := ⟨RX9, "speak", "(ILFivePlayers$Row;)I"⟩) (As := [.int x1, .ref (ga G 74)]) (K := c0) (c_X6_speak X.2.1 G c0 x1 σ r0 σ0 e) cal_X6_speak ww_853 ww_858 ⟨rfl, rfl⟩ ww_859 ww_861 (Or.inr ww_860) (by decide) rfl (Nat.le_trans (Nat.le_of_ble_eq_true rfl) hdd) hK (role_lay h.1 q) (T := TX6) (N := 5) rfl rfl hroom hcs hd k
  · exact V_callSU C (Cn := RX9) (x := ⟨RX9, "speak", "(ILFivePlayers$Row;)I"⟩) (As := [.int x1, .ref (ga G 74)]) (K := c0) (c_X6_speak X.2.1 G c0 x1 σ r0 σ0 e) cal_X6_speak ww_853 ww_858 ⟨rfl, rfl⟩ ww_859 ww_861 (Or.inr ww_860) (by decide) rfl (Nat.le_trans (Nat.le_of_ble_eq_true rfl) hdd) hK (role_lay h.1 q) (T := TX9) (N := 5) rfl rfl hroom hcs hd k
theorem dt_X0_speak_0 : dtab cX0_speak [(0, .aload_n 2, 1), (1, .bipush 60, 2), (3, .invokevirtual 7, 3), (6, .aload_n 0, 1), (7, .iload_n 1, 1), (8, .aload_n 2, 1), (9, .invokespecial 13, 3), (12, .iconst 5, 1), (13, .ixor, 1), (14, .ireturn, 1)] = true := by decide +kernel
theorem cal_X0_speak : Cal yX0_speak cX0_speak 3 (some .int) 2 := ⟨ww_856, ww_857, ⟨by decide, by decide, by decide⟩, by decide⟩
set_option maxHeartbeats 4000000 in
set_option maxRecDepth 100000 in
theorem c_X0_speak (l : Launch) (G : Gx) (c0 : Nat) (x1 : Int32) (σ : St) (r0 : Int32) (σ0 : St) (h : f_X0_speak c0 x1 σ = some (r0, σ0)) : MI l G yX0_speak cX0_speak 3 (some .int) 3 [.ref (ga G c0), .int x1, .ref (ga G 74)] σ (some (.int r0)) σ0 := by
  refine MI_of RX0 rfl (by decide) [(0, .ref (ga G c0)), (1, .int x1), (2, .ref (ga G 74))] rfl (Nat.le_of_ble_eq_true rfl) ?_
  intro X hXl C hR
  unfold f_X0_speak at h
  refine V_aload_n C (dt_at dt_X0_speak_0 0 rfl) 2 rfl rfl ?_
  refine V_bipush C 60 (dt_at dt_X0_speak_0 1 rfl) (by decide) ?_
  obtain ⟨σ3, e2, h⟩ := bd_s h
  refine cv_X7_add C ww_855 74 60 e2 (Nat.le_of_ble_eq_true rfl) (Nat.le_of_ble_eq_true rfl) z0 (dt_at dt_X0_speak_0 2 rfl) ?_
  refine V_aload_n C (dt_at dt_X0_speak_0 3 rfl) 0 rfl rfl ?_
  refine V_iload_n C (dt_at dt_X0_speak_0 4 rfl) 1 rfl rfl ?_
  refine V_aload_n C (dt_at dt_X0_speak_0 5 rfl) 2 rfl rfl ?_
  obtain ⟨h4, h⟩ := chk_s h
  obtain ⟨r5, σ7, e6, h⟩ := bd2_s h
  refine csu_X0_13 C c0 x1 h4 e6 (Nat.le_of_ble_eq_true rfl) (Nat.le_of_ble_eq_true rfl) z0 (dt_at dt_X0_speak_0 6 rfl) ?_
  refine V_iconst C 5 (dt_at dt_X0_speak_0 7 rfl) (by decide) ?_
  refine V_ixor C (dt_at dt_X0_speak_0 8 rfl) ?_
  obtain ⟨e1_, e2_⟩ := pin2 h
  subst e1_; subst e2_
  exact V_iret C hR (dt_at dt_X0_speak_0 9 rfl)
theorem dt_X6_die_0 : dtab cX6_die [(0, .aload_n 2, 1), (1, .bipush 12, 2), (3, .invokevirtual 37, 3), (6, .iload_n 1, 1), (7, .aload_n 0, 1), (8, .getfield 24, 3), (11, .isub, 1), (12, .ireturn, 1)] = true := by decide +kernel
theorem cal_X6_die : Cal yX6_die cX6_die 3 (some .int) 2 := ⟨ww_863, ww_844, ⟨by decide, by decide, by decide⟩, by decide⟩
set_option maxHeartbeats 4000000 in
set_option maxRecDepth 100000 in
theorem c_X6_die (l : Launch) (G : Gx) (c0 : Nat) (x1 : Int32) (σ : St) (r0 : Int32) (σ0 : St) (h : f_X6_die c0 x1 σ = some (r0, σ0)) : MI l G yX6_die cX6_die 3 (some .int) 2 [.ref (ga G c0), .int x1, .ref (ga G 74)] σ (some (.int r0)) σ0 := by
  refine MI_of RX6 rfl (by decide) [(0, .ref (ga G c0)), (1, .int x1), (2, .ref (ga G 74))] rfl (Nat.le_of_ble_eq_true rfl) ?_
  intro X hXl C hR
  unfold f_X6_die at h
  refine V_aload_n C (dt_at dt_X6_die_0 0 rfl) 2 rfl rfl ?_
  refine V_bipush C 12 (dt_at dt_X6_die_0 1 rfl) (by decide) ?_
  obtain ⟨σ3, e2, h⟩ := bd_s h
  refine cv_X7_add C ww_845 74 12 e2 (Nat.le_of_ble_eq_true rfl) (Nat.le_of_ble_eq_true rfl) z0 (dt_at dt_X6_die_0 2 rfl) ?_
  refine V_iload_n C (dt_at dt_X6_die_0 3 rfl) 1 rfl rfl ?_
  refine V_aload_n C (dt_at dt_X6_die_0 4 rfl) 0 rfl rfl ?_
  obtain ⟨h4, h⟩ := chk_s h
  refine gr_X6_24 C (K := c0) h4 (dt_at dt_X6_die_0 5 rfl) ?_
  refine V_isub C (dt_at dt_X6_die_0 6 rfl) ?_
  obtain ⟨e1_, e2_⟩ := pin2 h
  subst e1_; subst e2_
  exact V_iret C hR (dt_at dt_X6_die_0 7 rfl)
theorem csu_X3_13 (C : Ck X G cc RX3 nL d) (c0 : Nat) (x1 : Int32) {r0 : Int32} {σ0 : St} (hr : isRole σ c0 = true) (e : f_X6_die c0 x1 σ = some (r0, σ0)) (hdd : 3 ≤ d) (hroom : (rest.map fun v => v.category).sum ≤ 8) (hcs : cells ≤ (xR X).cells ∧ slots ≤ (xR X).slots) (hd : decode cc pc = .ok (.invokespecial 13, 3)) (k : V X G nL cells slots σ0 (pc + 3) lv (.int r0 :: rest)) : V X G nL cells slots σ pc lv (.ref (ga G 74) :: .int x1 :: .ref (ga G c0) :: rest) := by
  have h := of_decide_eq_true hr
  have hK : c0 < 110 + σ.1 := h.2.1
  rcases h.2.2 with q | q | q | q | q | q
  · exact V_callSU C (Cn := RX0) (x := ⟨RX9, "die", "(ILFivePlayers$Row;)I"⟩) (As := [.int x1, .ref (ga G 74)]) (K := c0) (c_X6_die X.2.1 G c0 x1 σ r0 σ0 e) cal_X6_die ww_869 ww_867 ⟨rfl, rfl⟩ ww_868 ww_870 (Or.inr ww_860) (by decide) rfl (Nat.le_trans (Nat.le_of_ble_eq_true rfl) hdd) hK (role_lay h.1 q) (T := TX0) (N := 5) rfl rfl hroom hcs hd k
  · exact V_callSU C (Cn := RX1) (x := ⟨RX9, "die", "(ILFivePlayers$Row;)I"⟩) (As := [.int x1, .ref (ga G 74)]) (K := c0) (c_X6_die X.2.1 G c0 x1 σ r0 σ0 e) cal_X6_die ww_869 ww_867 ⟨rfl, rfl⟩ ww_868 ww_870 (Or.inr ww_860) (by decide) rfl (Nat.le_trans (Nat.le_of_ble_eq_true rfl) hdd) hK (role_lay h.1 q) (T := TX1) (N := 5) rfl rfl hroom hcs hd k
  · exact V_callSU C (Cn := RX2) (x := ⟨RX9, "die", "(ILFivePlayers$Row;)I"⟩) (As := [.int x1, .ref (ga G 74)]) (K := c0) (c_X6_die X.2.1 G c0 x1 σ r0 σ0 e) cal_X6_die ww_869 ww_867 ⟨rfl, rfl⟩ ww_868 ww_870 (Or.inr ww_860) (by decide) rfl (Nat.le_trans (Nat.le_of_ble_eq_true rfl) hdd) hK (role_lay h.1 q) (T := TX2) (N := 5) rfl rfl hroom hcs hd k
  · exact V_callSU C (Cn := RX3) (x := ⟨RX9, "die", "(ILFivePlayers$Row;)I"⟩) (As := [.int x1, .ref (ga G 74)]) (K := c0) (c_X6_die X.2.1 G c0 x1 σ r0 σ0 e) cal_X6_die ww_869 ww_867 ⟨rfl, rfl⟩ ww_868 ww_870 (Or.inr ww_860) (by decide) rfl (Nat.le_trans (Nat.le_of_ble_eq_true rfl) hdd) hK (role_lay h.1 q) (T := TX3) (N := 5) rfl rfl hroom hcs hd k
  · exact V_callSU C (Cn := RX6) (x := ⟨RX9, "die", "(ILFivePlayers$Row;)I"⟩) (As := [.int x1, .ref (ga G 74)]) (K := c0) (c_X6_die X.2.1 G c0 x1 σ r0 σ0 e) cal_X6_die ww_869 ww_867 ⟨rfl, rfl⟩ ww_868 ww_870 (Or.inr ww_860) (by decide) rfl (Nat.le_trans (Nat.le_of_ble_eq_true rfl) hdd) hK (role_lay h.1 q) (T := TX6) (N := 5) rfl rfl hroom hcs hd k
  · exact V_callSU C (Cn := RX9) (x := ⟨RX9, "die", "(ILFivePlayers$Row;)I"⟩) (As := [.int x1, .ref (ga G 74)]) (K := c0) (c_X6_die X.2.1 G c0 x1 σ r0 σ0 e) cal_X6_die ww_869 ww_867 ⟨rfl, rfl⟩ ww_868 ww_870 (Or.inr ww_860) (by decide) rfl (Nat.le_trans (Nat.le_of_ble_eq_true rfl) hdd) hK (role_lay h.1 q) (T := TX9) (N := 5) rfl rfl hroom hcs hd k
theorem dt_X3_die_0 : dtab cX3_die [(0, .aload_n 2, 1), (1, .bipush 40, 2), (3, .invokevirtual 7, 3), (6, .aload_n 0, 1), (7, .iload_n 1, 1), (8, .aload_n 2, 1), (9, .invokespecial 13, 3), (12, .iconst 3, 1), (13, .imul, 1), (14, .ireturn, 1)] = true := by decide +kernel
theorem cal_X3_die : Cal yX3_die cX3_die 3 (some .int) 2 := ⟨ww_865, ww_866, ⟨by decide, by decide, by decide⟩, by decide⟩
set_option maxHeartbeats 4000000 in
set_option maxRecDepth 100000 in
theorem c_X3_die (l : Launch) (G : Gx) (c0 : Nat) (x1 : Int32) (σ : St) (r0 : Int32) (σ0 : St) (h : f_X3_die c0 x1 σ = some (r0, σ0)) : MI l G yX3_die cX3_die 3 (some .int) 3 [.ref (ga G c0), .int x1, .ref (ga G 74)] σ (some (.int r0)) σ0 := by
  refine MI_of RX3 rfl (by decide) [(0, .ref (ga G c0)), (1, .int x1), (2, .ref (ga G 74))] rfl (Nat.le_of_ble_eq_true rfl) ?_
  intro X hXl C hR
  unfold f_X3_die at h
  refine V_aload_n C (dt_at dt_X3_die_0 0 rfl) 2 rfl rfl ?_
  refine V_bipush C 40 (dt_at dt_X3_die_0 1 rfl) (by decide) ?_
  obtain ⟨σ3, e2, h⟩ := bd_s h
  refine cv_X7_add C ww_864 74 40 e2 (Nat.le_of_ble_eq_true rfl) (Nat.le_of_ble_eq_true rfl) z0 (dt_at dt_X3_die_0 2 rfl) ?_
  refine V_aload_n C (dt_at dt_X3_die_0 3 rfl) 0 rfl rfl ?_
  refine V_iload_n C (dt_at dt_X3_die_0 4 rfl) 1 rfl rfl ?_
  refine V_aload_n C (dt_at dt_X3_die_0 5 rfl) 2 rfl rfl ?_
  obtain ⟨h4, h⟩ := chk_s h
  obtain ⟨r5, σ7, e6, h⟩ := bd2_s h
  refine csu_X3_13 C c0 x1 h4 e6 (Nat.le_of_ble_eq_true rfl) (Nat.le_of_ble_eq_true rfl) z0 (dt_at dt_X3_die_0 6 rfl) ?_
  refine V_iconst C 3 (dt_at dt_X3_die_0 7 rfl) (by decide) ?_
  refine V_imul C (dt_at dt_X3_die_0 8 rfl) ?_
  obtain ⟨e1_, e2_⟩ := pin2 h
  subst e1_; subst e2_
  exact V_iret C hR (dt_at dt_X3_die_0 9 rfl)
theorem cvr_X6_43 (C : Ck X G cc RX6 nL d) (c0 : Nat) (x1 : Int32) {r0 : Int32} {σ0 : St} (hr : isRole σ c0 = true) (e : fv_X6_speak c0 x1 σ = some (r0, σ0)) (hdd : 4 ≤ d) (hroom : (rest.map fun v => v.category).sum ≤ 8) (hcs : cells ≤ (xR X).cells ∧ slots ≤ (xR X).slots) (hd : decode cc pc = .ok (.invokevirtual 43, 3)) (k : V X G nL cells slots σ0 (pc + 3) lv (.int r0 :: rest)) : V X G nL cells slots σ pc lv (.ref (ga G 74) :: .int x1 :: .ref (ga G c0) :: rest) := by
  have h := of_decide_eq_true hr
  have hK : c0 < 110 + σ.1 := h.2.1
  rcases h.2.2 with q | q | q | q | q | q
  · have e : f_X0_speak c0 x1 σ = some (r0, σ0) := by
      unfold fv_X6_speak at e
      simpa [q] using e
    exact V_callU C (Cn := RX0) (owner := RX6) (x := yX6_speak) (As := [.int x1, .ref (ga G 74)]) (K := c0) (c_X0_speak X.2.1 G c0 x1 σ r0 σ0 e) cal_X0_speak ww_873 ww_874 ww_872 ww_852 ww_853 ww_847 ⟨by decide, by decide, by decide⟩ rfl (Nat.le_trans (Nat.le_of_ble_eq_true rfl) hdd) hK (role_lay h.1 q) (T := TX0) (N := 5) rfl rfl hroom hcs hd k
  · have e : f_X2_speak c0 x1 σ = some (r0, σ0) := by
      unfold fv_X6_speak at e
      simpa [q] using e
    exact V_callU C (Cn := RX1) (owner := RX6) (x := yX6_speak) (As := [.int x1, .ref (ga G 74)]) (K := c0) (c_X2_speak X.2.1 G c0 x1 σ r0 σ0 e) cal_X2_speak ww_875 ww_876 ww_872 ww_852 ww_853 ww_847 ⟨by decide, by decide, by decide⟩ rfl (Nat.le_trans (Nat.le_of_ble_eq_true rfl) hdd) hK (role_lay h.1 q) (T := TX1) (N := 5) rfl rfl hroom hcs hd k
  · have e : f_X2_speak c0 x1 σ = some (r0, σ0) := by
      unfold fv_X6_speak at e
      simpa [q] using e
    exact V_callU C (Cn := RX2) (owner := RX6) (x := yX6_speak) (As := [.int x1, .ref (ga G 74)]) (K := c0) (c_X2_speak X.2.1 G c0 x1 σ r0 σ0 e) cal_X2_speak ww_875 ww_877 ww_872 ww_852 ww_853 ww_847 ⟨by decide, by decide, by decide⟩ rfl (Nat.le_trans (Nat.le_of_ble_eq_true rfl) hdd) hK (role_lay h.1 q) (T := TX2) (N := 5) rfl rfl hroom hcs hd k
  · have e : f_X6_speak c0 x1 σ = some (r0, σ0) := by
      unfold fv_X6_speak at e
      simpa [q] using e
    exact V_callU C (Cn := RX3) (owner := RX6) (x := yX6_speak) (As := [.int x1, .ref (ga G 74)]) (K := c0) (c_X6_speak X.2.1 G c0 x1 σ r0 σ0 e) cal_X6_speak ww_853 ww_878 ww_872 ww_852 ww_853 ww_847 ⟨by decide, by decide, by decide⟩ rfl (Nat.le_trans (Nat.le_of_ble_eq_true rfl) hdd) hK (role_lay h.1 q) (T := TX3) (N := 5) rfl rfl hroom hcs hd k
  · have e : f_X6_speak c0 x1 σ = some (r0, σ0) := by
      unfold fv_X6_speak at e
      simpa [q] using e
    exact V_callU C (Cn := RX6) (owner := RX6) (x := yX6_speak) (As := [.int x1, .ref (ga G 74)]) (K := c0) (c_X6_speak X.2.1 G c0 x1 σ r0 σ0 e) cal_X6_speak ww_853 ww_879 ww_872 ww_852 ww_853 ww_847 ⟨by decide, by decide, by decide⟩ rfl (Nat.le_trans (Nat.le_of_ble_eq_true rfl) hdd) hK (role_lay h.1 q) (T := TX6) (N := 5) rfl rfl hroom hcs hd k
  · have e : f_X6_speak c0 x1 σ = some (r0, σ0) := by
      unfold fv_X6_speak at e
      simpa [q] using e
    exact V_callU C (Cn := RX9) (owner := RX6) (x := yX6_speak) (As := [.int x1, .ref (ga G 74)]) (K := c0) (c_X6_speak X.2.1 G c0 x1 σ r0 σ0 e) cal_X6_speak ww_853 ww_880 ww_872 ww_852 ww_853 ww_847 ⟨by decide, by decide, by decide⟩ rfl (Nat.le_trans (Nat.le_of_ble_eq_true rfl) hdd) hK (role_lay h.1 q) (T := TX9) (N := 5) rfl rfl hroom hcs hd k
theorem dt_X6_walk_0 : dtab cX6_walk [(0, .aload_n 2, 1), (1, .bipush 11, 2), (3, .invokevirtual 37, 3), (6, .aload_n 0, 1), (7, .iload_n 1, 1), (8, .aload_n 2, 1), (9, .invokevirtual 43, 3), (12, .iconst 2, 1), (13, .imul, 1), (14, .ireturn, 1)] = true := by decide +kernel
theorem cal_X6_walk : Cal yX6_walk cX6_walk 3 (some .int) 2 := ⟨ww_871, ww_844, ⟨by decide, by decide, by decide⟩, by decide⟩
set_option maxHeartbeats 4000000 in
set_option maxRecDepth 100000 in
theorem c_X6_walk (l : Launch) (G : Gx) (c0 : Nat) (x1 : Int32) (σ : St) (r0 : Int32) (σ0 : St) (h : f_X6_walk c0 x1 σ = some (r0, σ0)) : MI l G yX6_walk cX6_walk 3 (some .int) 4 [.ref (ga G c0), .int x1, .ref (ga G 74)] σ (some (.int r0)) σ0 := by
  refine MI_of RX6 rfl (by decide) [(0, .ref (ga G c0)), (1, .int x1), (2, .ref (ga G 74))] rfl (Nat.le_of_ble_eq_true rfl) ?_
  intro X hXl C hR
  unfold f_X6_walk at h
  refine V_aload_n C (dt_at dt_X6_walk_0 0 rfl) 2 rfl rfl ?_
  refine V_bipush C 11 (dt_at dt_X6_walk_0 1 rfl) (by decide) ?_
  obtain ⟨σ3, e2, h⟩ := bd_s h
  refine cv_X7_add C ww_845 74 11 e2 (Nat.le_of_ble_eq_true rfl) (Nat.le_of_ble_eq_true rfl) z0 (dt_at dt_X6_walk_0 2 rfl) ?_
  refine V_aload_n C (dt_at dt_X6_walk_0 3 rfl) 0 rfl rfl ?_
  refine V_iload_n C (dt_at dt_X6_walk_0 4 rfl) 1 rfl rfl ?_
  refine V_aload_n C (dt_at dt_X6_walk_0 5 rfl) 2 rfl rfl ?_
  obtain ⟨h4, h⟩ := chk_s h
  obtain ⟨r5, σ7, e6, h⟩ := bd2_s h
  refine cvr_X6_43 C c0 x1 h4 e6 (Nat.le_of_ble_eq_true rfl) (Nat.le_of_ble_eq_true rfl) z0 (dt_at dt_X6_walk_0 6 rfl) ?_
  refine V_iconst C 2 (dt_at dt_X6_walk_0 7 rfl) (by decide) ?_
  refine V_imul C (dt_at dt_X6_walk_0 8 rfl) ?_
  obtain ⟨e1_, e2_⟩ := pin2 h
  subst e1_; subst e2_
  exact V_iret C hR (dt_at dt_X6_walk_0 9 rfl)
theorem csu_X9_13 (C : Ck X G cc RX9 nL d) (c0 : Nat) (x1 : Int32) {r0 : Int32} {σ0 : St} (hr : isRole σ c0 = true) (e : f_X6_walk c0 x1 σ = some (r0, σ0)) (hdd : 5 ≤ d) (hroom : (rest.map fun v => v.category).sum ≤ 8) (hcs : cells ≤ (xR X).cells ∧ slots ≤ (xR X).slots) (hd : decode cc pc = .ok (.invokespecial 13, 3)) (k : V X G nL cells slots σ0 (pc + 3) lv (.int r0 :: rest)) : V X G nL cells slots σ pc lv (.ref (ga G 74) :: .int x1 :: .ref (ga G c0) :: rest) := by
  have h := of_decide_eq_true hr
  have hK : c0 < 110 + σ.1 := h.2.1
  rcases h.2.2 with q | q | q | q | q | q
  · exact V_callSU C (Cn := RX0) (x := yX6_walk) (As := [.int x1, .ref (ga G 74)]) (K := c0) (c_X6_walk X.2.1 G c0 x1 σ r0 σ0 e) cal_X6_walk ww_886 ww_884 ⟨rfl, rfl⟩ ww_885 ww_860 (Or.inl rfl) (by decide) rfl (Nat.le_trans (Nat.le_of_ble_eq_true rfl) hdd) hK (role_lay h.1 q) (T := TX0) (N := 5) rfl rfl hroom hcs hd k
  · exact V_callSU C (Cn := RX1) (x := yX6_walk) (As := [.int x1, .ref (ga G 74)]) (K := c0) (c_X6_walk X.2.1 G c0 x1 σ r0 σ0 e) cal_X6_walk ww_886 ww_884 ⟨rfl, rfl⟩ ww_885 ww_860 (Or.inl rfl) (by decide) rfl (Nat.le_trans (Nat.le_of_ble_eq_true rfl) hdd) hK (role_lay h.1 q) (T := TX1) (N := 5) rfl rfl hroom hcs hd k
  · exact V_callSU C (Cn := RX2) (x := yX6_walk) (As := [.int x1, .ref (ga G 74)]) (K := c0) (c_X6_walk X.2.1 G c0 x1 σ r0 σ0 e) cal_X6_walk ww_886 ww_884 ⟨rfl, rfl⟩ ww_885 ww_860 (Or.inl rfl) (by decide) rfl (Nat.le_trans (Nat.le_of_ble_eq_true rfl) hdd) hK (role_lay h.1 q) (T := TX2) (N := 5) rfl rfl hroom hcs hd k
  · exact V_callSU C (Cn := RX3) (x := yX6_walk) (As := [.int x1, .ref (ga G 74)]) (K := c0) (c_X6_walk X.2.1 G c0 x1 σ r0 σ0 e) cal_X6_walk ww_886 ww_884 ⟨rfl, rfl⟩ ww_885 ww_860 (Or.inl rfl) (by decide) rfl (Nat.le_trans (Nat.le_of_ble_eq_true rfl) hdd) hK (role_lay h.1 q) (T := TX3) (N := 5) rfl rfl hroom hcs hd k
  · exact V_callSU C (Cn := RX6) (x := yX6_walk) (As := [.int x1, .ref (ga G 74)]) (K := c0) (c_X6_walk X.2.1 G c0 x1 σ r0 σ0 e) cal_X6_walk ww_886 ww_884 ⟨rfl, rfl⟩ ww_885 ww_860 (Or.inl rfl) (by decide) rfl (Nat.le_trans (Nat.le_of_ble_eq_true rfl) hdd) hK (role_lay h.1 q) (T := TX6) (N := 5) rfl rfl hroom hcs hd k
  · exact V_callSU C (Cn := RX9) (x := yX6_walk) (As := [.int x1, .ref (ga G 74)]) (K := c0) (c_X6_walk X.2.1 G c0 x1 σ r0 σ0 e) cal_X6_walk ww_886 ww_884 ⟨rfl, rfl⟩ ww_885 ww_860 (Or.inl rfl) (by decide) rfl (Nat.le_trans (Nat.le_of_ble_eq_true rfl) hdd) hK (role_lay h.1 q) (T := TX9) (N := 5) rfl rfl hroom hcs hd k
theorem cvr_X9_17 (C : Ck X G cc RX9 nL d) (c0 : Nat) (x1 : Int32) {r0 : Int32} {σ0 : St} (hr : isRole σ c0 = true) (e : fv_X9_die c0 x1 σ = some (r0, σ0)) (hdd : 4 ≤ d) (hroom : (rest.map fun v => v.category).sum ≤ 8) (hcs : cells ≤ (xR X).cells ∧ slots ≤ (xR X).slots) (hd : decode cc pc = .ok (.invokevirtual 17, 3)) (k : V X G nL cells slots σ0 (pc + 3) lv (.int r0 :: rest)) : V X G nL cells slots σ pc lv (.ref (ga G 74) :: .int x1 :: .ref (ga G c0) :: rest) := by
  have h := of_decide_eq_true hr
  have hK : c0 < 110 + σ.1 := h.2.1
  rcases h.2.2 with q | q | q | q | q | q
  · have e : f_X6_die c0 x1 σ = some (r0, σ0) := by
      unfold fv_X9_die at e
      simpa [q] using e
    exact V_callU C (Cn := RX0) (owner := RX6) (x := ⟨RX9, "die", "(ILFivePlayers$Row;)I"⟩) (As := [.int x1, .ref (ga G 74)]) (K := c0) (c_X6_die X.2.1 G c0 x1 σ r0 σ0 e) cal_X6_die ww_869 ww_888 ww_887 ww_868 ww_869 ww_863 ⟨by decide, by decide, by decide⟩ rfl (Nat.le_trans (Nat.le_of_ble_eq_true rfl) hdd) hK (role_lay h.1 q) (T := TX0) (N := 5) rfl rfl hroom hcs hd k
  · exact absurd e (by unfold fv_X9_die; simp [q])
  · exact absurd e (by unfold fv_X9_die; simp [q])
  · have e : f_X3_die c0 x1 σ = some (r0, σ0) := by
      unfold fv_X9_die at e
      simpa [q] using e
    exact V_callU C (Cn := RX3) (owner := RX6) (x := ⟨RX9, "die", "(ILFivePlayers$Row;)I"⟩) (As := [.int x1, .ref (ga G 74)]) (K := c0) (c_X3_die X.2.1 G c0 x1 σ r0 σ0 e) cal_X3_die ww_889 ww_890 ww_887 ww_868 ww_869 ww_863 ⟨by decide, by decide, by decide⟩ rfl (Nat.le_trans (Nat.le_of_ble_eq_true rfl) hdd) hK (role_lay h.1 q) (T := TX3) (N := 5) rfl rfl hroom hcs hd k
  · exact absurd e (by unfold fv_X9_die; simp [q])
  · have e : f_X6_die c0 x1 σ = some (r0, σ0) := by
      unfold fv_X9_die at e
      simpa [q] using e
    exact V_callU C (Cn := RX9) (owner := RX6) (x := ⟨RX9, "die", "(ILFivePlayers$Row;)I"⟩) (As := [.int x1, .ref (ga G 74)]) (K := c0) (c_X6_die X.2.1 G c0 x1 σ r0 σ0 e) cal_X6_die ww_869 ww_891 ww_887 ww_868 ww_869 ww_863 ⟨by decide, by decide, by decide⟩ rfl (Nat.le_trans (Nat.le_of_ble_eq_true rfl) hdd) hK (role_lay h.1 q) (T := TX9) (N := 5) rfl rfl hroom hcs hd k
theorem dt_X9_walk_0 : dtab cX9_walk [(0, .aload_n 2, 1), (1, .bipush 20, 2), (3, .invokevirtual 7, 3), (6, .aload_n 0, 1), (7, .iload_n 1, 1), (8, .aload_n 2, 1), (9, .invokespecial 13, 3), (12, .aload_n 0, 1), (13, .iload_n 1, 1), (14, .aload_n 2, 1), (15, .invokevirtual 17, 3), (18, .iadd, 1), (19, .ireturn, 1)] = true := by decide +kernel
theorem cal_X9_walk : Cal yX9_walk cX9_walk 3 (some .int) 2 := ⟨ww_882, ww_883, ⟨by decide, by decide, by decide⟩, by decide⟩
set_option maxHeartbeats 4000000 in
set_option maxRecDepth 100000 in
theorem c_X9_walk (l : Launch) (G : Gx) (c0 : Nat) (x1 : Int32) (σ : St) (r0 : Int32) (σ0 : St) (h : f_X9_walk c0 x1 σ = some (r0, σ0)) : MI l G yX9_walk cX9_walk 3 (some .int) 5 [.ref (ga G c0), .int x1, .ref (ga G 74)] σ (some (.int r0)) σ0 := by
  refine MI_of RX9 rfl (by decide) [(0, .ref (ga G c0)), (1, .int x1), (2, .ref (ga G 74))] rfl (Nat.le_of_ble_eq_true rfl) ?_
  intro X hXl C hR
  unfold f_X9_walk at h
  refine V_aload_n C (dt_at dt_X9_walk_0 0 rfl) 2 rfl rfl ?_
  refine V_bipush C 20 (dt_at dt_X9_walk_0 1 rfl) (by decide) ?_
  obtain ⟨σ3, e2, h⟩ := bd_s h
  refine cv_X7_add C ww_881 74 20 e2 (Nat.le_of_ble_eq_true rfl) (Nat.le_of_ble_eq_true rfl) z0 (dt_at dt_X9_walk_0 2 rfl) ?_
  refine V_aload_n C (dt_at dt_X9_walk_0 3 rfl) 0 rfl rfl ?_
  refine V_iload_n C (dt_at dt_X9_walk_0 4 rfl) 1 rfl rfl ?_
  refine V_aload_n C (dt_at dt_X9_walk_0 5 rfl) 2 rfl rfl ?_
  obtain ⟨h4, h⟩ := chk_s h
  obtain ⟨r5, σ7, e6, h⟩ := bd2_s h
  refine csu_X9_13 C c0 x1 h4 e6 (Nat.le_of_ble_eq_true rfl) (Nat.le_of_ble_eq_true rfl) z0 (dt_at dt_X9_walk_0 6 rfl) ?_
  refine V_aload_n C (dt_at dt_X9_walk_0 7 rfl) 0 rfl rfl ?_
  refine V_iload_n C (dt_at dt_X9_walk_0 8 rfl) 1 rfl rfl ?_
  refine V_aload_n C (dt_at dt_X9_walk_0 9 rfl) 2 rfl rfl ?_
  obtain ⟨h8, h⟩ := chk_s h
  obtain ⟨r9, σ11, e10, h⟩ := bd2_s h
  refine cvr_X9_17 C c0 x1 h8 e10 (Nat.le_of_ble_eq_true rfl) (Nat.le_of_ble_eq_true rfl) z0 (dt_at dt_X9_walk_0 10 rfl) ?_
  refine V_iadd C (dt_at dt_X9_walk_0 11 rfl) ?_
  obtain ⟨e1_, e2_⟩ := pin2 h
  subst e1_; subst e2_
  exact V_iret C hR (dt_at dt_X9_walk_0 12 rfl)
theorem csu_X3_23 (C : Ck X G cc RX3 nL d) (c0 : Nat) (x1 : Int32) {r0 : Int32} {σ0 : St} (hr : isRole σ c0 = true) (e : f_X9_walk c0 x1 σ = some (r0, σ0)) (hdd : 6 ≤ d) (hroom : (rest.map fun v => v.category).sum ≤ 8) (hcs : cells ≤ (xR X).cells ∧ slots ≤ (xR X).slots) (hd : decode cc pc = .ok (.invokespecial 23, 3)) (k : V X G nL cells slots σ0 (pc + 3) lv (.int r0 :: rest)) : V X G nL cells slots σ pc lv (.ref (ga G 74) :: .int x1 :: .ref (ga G c0) :: rest) := by
  have h := of_decide_eq_true hr
  have hK : c0 < 110 + σ.1 := h.2.1
  rcases h.2.2 with q | q | q | q | q | q
  · exact V_callSU C (Cn := RX0) (x := yX9_walk) (As := [.int x1, .ref (ga G 74)]) (K := c0) (c_X9_walk X.2.1 G c0 x1 σ r0 σ0 e) cal_X9_walk ww_897 ww_895 ⟨rfl, rfl⟩ ww_896 ww_870 (Or.inl rfl) (by decide) rfl (Nat.le_trans (Nat.le_of_ble_eq_true rfl) hdd) hK (role_lay h.1 q) (T := TX0) (N := 5) rfl rfl hroom hcs hd k
  · exact V_callSU C (Cn := RX1) (x := yX9_walk) (As := [.int x1, .ref (ga G 74)]) (K := c0) (c_X9_walk X.2.1 G c0 x1 σ r0 σ0 e) cal_X9_walk ww_897 ww_895 ⟨rfl, rfl⟩ ww_896 ww_870 (Or.inl rfl) (by decide) rfl (Nat.le_trans (Nat.le_of_ble_eq_true rfl) hdd) hK (role_lay h.1 q) (T := TX1) (N := 5) rfl rfl hroom hcs hd k
  · exact V_callSU C (Cn := RX2) (x := yX9_walk) (As := [.int x1, .ref (ga G 74)]) (K := c0) (c_X9_walk X.2.1 G c0 x1 σ r0 σ0 e) cal_X9_walk ww_897 ww_895 ⟨rfl, rfl⟩ ww_896 ww_870 (Or.inl rfl) (by decide) rfl (Nat.le_trans (Nat.le_of_ble_eq_true rfl) hdd) hK (role_lay h.1 q) (T := TX2) (N := 5) rfl rfl hroom hcs hd k
  · exact V_callSU C (Cn := RX3) (x := yX9_walk) (As := [.int x1, .ref (ga G 74)]) (K := c0) (c_X9_walk X.2.1 G c0 x1 σ r0 σ0 e) cal_X9_walk ww_897 ww_895 ⟨rfl, rfl⟩ ww_896 ww_870 (Or.inl rfl) (by decide) rfl (Nat.le_trans (Nat.le_of_ble_eq_true rfl) hdd) hK (role_lay h.1 q) (T := TX3) (N := 5) rfl rfl hroom hcs hd k
  · exact V_callSU C (Cn := RX6) (x := yX9_walk) (As := [.int x1, .ref (ga G 74)]) (K := c0) (c_X9_walk X.2.1 G c0 x1 σ r0 σ0 e) cal_X9_walk ww_897 ww_895 ⟨rfl, rfl⟩ ww_896 ww_870 (Or.inl rfl) (by decide) rfl (Nat.le_trans (Nat.le_of_ble_eq_true rfl) hdd) hK (role_lay h.1 q) (T := TX6) (N := 5) rfl rfl hroom hcs hd k
  · exact V_callSU C (Cn := RX9) (x := yX9_walk) (As := [.int x1, .ref (ga G 74)]) (K := c0) (c_X9_walk X.2.1 G c0 x1 σ r0 σ0 e) cal_X9_walk ww_897 ww_895 ⟨rfl, rfl⟩ ww_896 ww_870 (Or.inl rfl) (by decide) rfl (Nat.le_trans (Nat.le_of_ble_eq_true rfl) hdd) hK (role_lay h.1 q) (T := TX9) (N := 5) rfl rfl hroom hcs hd k
theorem dt_X3_walk_0 : dtab cX3_walk [(0, .aload_n 2, 1), (1, .bipush 41, 2), (3, .invokevirtual 7, 3), (6, .aload_n 0, 1), (7, .iload_n 1, 1), (8, .aload_n 0, 1), (9, .getfield 17, 3), (12, .isub, 1), (13, .aload_n 2, 1), (14, .invokespecial 23, 3), (17, .ireturn, 1)] = true := by decide +kernel
theorem cal_X3_walk : Cal yX3_walk cX3_walk 3 (some .int) 2 := ⟨ww_894, ww_866, ⟨by decide, by decide, by decide⟩, by decide⟩
set_option maxHeartbeats 4000000 in
set_option maxRecDepth 100000 in
theorem c_X3_walk (l : Launch) (G : Gx) (c0 : Nat) (x1 : Int32) (σ : St) (r0 : Int32) (σ0 : St) (h : f_X3_walk c0 x1 σ = some (r0, σ0)) : MI l G yX3_walk cX3_walk 3 (some .int) 6 [.ref (ga G c0), .int x1, .ref (ga G 74)] σ (some (.int r0)) σ0 := by
  refine MI_of RX3 rfl (by decide) [(0, .ref (ga G c0)), (1, .int x1), (2, .ref (ga G 74))] rfl (Nat.le_of_ble_eq_true rfl) ?_
  intro X hXl C hR
  unfold f_X3_walk at h
  refine V_aload_n C (dt_at dt_X3_walk_0 0 rfl) 2 rfl rfl ?_
  refine V_bipush C 41 (dt_at dt_X3_walk_0 1 rfl) (by decide) ?_
  obtain ⟨σ3, e2, h⟩ := bd_s h
  refine cv_X7_add C ww_864 74 41 e2 (Nat.le_of_ble_eq_true rfl) (Nat.le_of_ble_eq_true rfl) z0 (dt_at dt_X3_walk_0 2 rfl) ?_
  refine V_aload_n C (dt_at dt_X3_walk_0 3 rfl) 0 rfl rfl ?_
  refine V_iload_n C (dt_at dt_X3_walk_0 4 rfl) 1 rfl rfl ?_
  refine V_aload_n C (dt_at dt_X3_walk_0 5 rfl) 0 rfl rfl ?_
  obtain ⟨h4, h⟩ := chk_s h
  refine gr_X3_17 C (K := c0) h4 (dt_at dt_X3_walk_0 6 rfl) ?_
  refine V_isub C (dt_at dt_X3_walk_0 7 rfl) ?_
  refine V_aload_n C (dt_at dt_X3_walk_0 8 rfl) 2 rfl rfl ?_
  obtain ⟨r5, σ7, e6, h⟩ := bd2_s h
  refine csu_X3_23 C c0 (x1 - (fd σ3 c0 4)) h4 e6 (Nat.le_of_ble_eq_true rfl) (Nat.le_of_ble_eq_true rfl) z0 (dt_at dt_X3_walk_0 9 rfl) ?_
  obtain ⟨e1_, e2_⟩ := pin2 h
  subst e1_; subst e2_
  exact V_iret C hR (dt_at dt_X3_walk_0 10 rfl)
end WK
