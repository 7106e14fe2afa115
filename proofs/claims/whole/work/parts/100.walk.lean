section WK
variable {X : Xx} {G : Gx} {cc : ByteArray} {own : String} {nL d cells slots pc : Nat} {σ : St} {lv : List (Nat × Value)} {rest : List Value}
theorem dt_J6_bitCount_0f7a4_0 : dtab cJ6_bitCount_0f7a4 [(0, .iload_n 0, 1), (1, .iload_n 0, 1), (2, .iconst 1, 1), (3, .iushr, 1), (4, .ldc_w 265, 3), (7, .iand, 1), (8, .isub, 1), (9, .istore_n 0, 1), (10, .iload_n 0, 1), (11, .ldc_w 266, 3), (14, .iand, 1), (15, .iload_n 0, 1), (16, .iconst 2, 1), (17, .iushr, 1), (18, .ldc_w 266, 3), (21, .iand, 1), (22, .iadd, 1), (23, .istore_n 0, 1), (24, .iload_n 0, 1), (25, .iload_n 0, 1), (26, .iconst 4, 1), (27, .iushr, 1), (28, .iadd, 1), (29, .ldc_w 267, 3), (32, .iand, 1), (33, .istore_n 0, 1), (34, .iload_n 0, 1), (35, .iload_n 0, 1), (36, .bipush 8, 2), (38, .iushr, 1), (39, .iadd, 1), (40, .istore_n 0, 1), (41, .iload_n 0, 1), (42, .iload_n 0, 1), (43, .bipush 16, 2), (45, .iushr, 1), (46, .iadd, 1), (47, .istore_n 0, 1), (48, .iload_n 0, 1), (49, .bipush 63, 2)] = true := by decide +kernel
theorem dt_J6_bitCount_0f7a4_1 : dtab cJ6_bitCount_0f7a4 [(51, .iand, 1), (52, .ireturn, 1)] = true := by decide +kernel
theorem cal_J6_bitCount_0f7a4 : Cal yJ6_bitCount_0f7a4 cJ6_bitCount_0f7a4 1 (some .int) 1 := ⟨ww_3, ww_4, ⟨by decide, by decide, by decide⟩, by decide⟩
set_option maxHeartbeats 4000000 in
set_option maxRecDepth 100000 in
theorem c_J6_bitCount_0f7a4 (l : Launch) (G : Gx) (x0 : Int32) (σ : St) (r0 : Int32) (h : f_J6_bitCount_0f7a4 x0 = some r0) : MI l G yJ6_bitCount_0f7a4 cJ6_bitCount_0f7a4 1 (some .int) 1 [.int x0] σ (some (.int r0)) σ := by
  refine MI_of RJ6 rfl (by decide) [(0, .int x0)] rfl (Nat.le_of_ble_eq_true rfl) ?_
  intro X hXl C hR
  unfold f_J6_bitCount_0f7a4 at h
  refine V_iload_n C (dt_at dt_J6_bitCount_0f7a4_0 0 rfl) 0 rfl rfl ?_
  refine V_iload_n C (dt_at dt_J6_bitCount_0f7a4_0 1 rfl) 0 rfl rfl ?_
  refine V_iconst C 1 (dt_at dt_J6_bitCount_0f7a4_0 2 rfl) (by decide) ?_
  refine V_iushr C (dt_at dt_J6_bitCount_0f7a4_0 3 rfl) ?_
  refine V_ldcw C 1431655765 (dt_at dt_J6_bitCount_0f7a4_0 4 rfl) ww_0 ?_
  refine V_iand C (dt_at dt_J6_bitCount_0f7a4_0 5 rfl) ?_
  refine V_isub C (dt_at dt_J6_bitCount_0f7a4_0 6 rfl) ?_
  obtain ⟨y1, ey1, h⟩ := nm_s h
  refine V_nmi ey1 ?_
  refine V_istore_n C [0] (lv' := [(0, .int y1)]) (dt_at dt_J6_bitCount_0f7a4_0 7 rfl) rfl (by decide) rfl ?_
  refine V_iload_n C (dt_at dt_J6_bitCount_0f7a4_0 8 rfl) 0 rfl rfl ?_
  refine V_ldcw C 858993459 (dt_at dt_J6_bitCount_0f7a4_0 9 rfl) ww_1 ?_
  refine V_iand C (dt_at dt_J6_bitCount_0f7a4_0 10 rfl) ?_
  refine V_iload_n C (dt_at dt_J6_bitCount_0f7a4_0 11 rfl) 0 rfl rfl ?_
  refine V_iconst C 2 (dt_at dt_J6_bitCount_0f7a4_0 12 rfl) (by decide) ?_
  refine V_iushr C (dt_at dt_J6_bitCount_0f7a4_0 13 rfl) ?_
  refine V_ldcw C 858993459 (dt_at dt_J6_bitCount_0f7a4_0 14 rfl) ww_1 ?_
  refine V_iand C (dt_at dt_J6_bitCount_0f7a4_0 15 rfl) ?_
  refine V_iadd C (dt_at dt_J6_bitCount_0f7a4_0 16 rfl) ?_
  obtain ⟨y2, ey2, h⟩ := nm_s h
  refine V_nmi ey2 ?_
  refine V_istore_n C [0] (lv' := [(0, .int y2)]) (dt_at dt_J6_bitCount_0f7a4_0 17 rfl) rfl (by decide) rfl ?_
  refine V_iload_n C (dt_at dt_J6_bitCount_0f7a4_0 18 rfl) 0 rfl rfl ?_
  refine V_iload_n C (dt_at dt_J6_bitCount_0f7a4_0 19 rfl) 0 rfl rfl ?_
  refine V_iconst C 4 (dt_at dt_J6_bitCount_0f7a4_0 20 rfl) (by decide) ?_
  refine V_iushr C (dt_at dt_J6_bitCount_0f7a4_0 21 rfl) ?_
  refine V_iadd C (dt_at dt_J6_bitCount_0f7a4_0 22 rfl) ?_
  refine V_ldcw C 252645135 (dt_at dt_J6_bitCount_0f7a4_0 23 rfl) ww_2 ?_
  refine V_iand C (dt_at dt_J6_bitCount_0f7a4_0 24 rfl) ?_
  obtain ⟨y3, ey3, h⟩ := nm_s h
  refine V_nmi ey3 ?_
  refine V_istore_n C [0] (lv' := [(0, .int y3)]) (dt_at dt_J6_bitCount_0f7a4_0 25 rfl) rfl (by decide) rfl ?_
  refine V_iload_n C (dt_at dt_J6_bitCount_0f7a4_0 26 rfl) 0 rfl rfl ?_
  refine V_iload_n C (dt_at dt_J6_bitCount_0f7a4_0 27 rfl) 0 rfl rfl ?_
  refine V_bipush C 8 (dt_at dt_J6_bitCount_0f7a4_0 28 rfl) (by decide) ?_
  refine V_iushr C (dt_at dt_J6_bitCount_0f7a4_0 29 rfl) ?_
  refine V_iadd C (dt_at dt_J6_bitCount_0f7a4_0 30 rfl) ?_
  obtain ⟨y4, ey4, h⟩ := nm_s h
  refine V_nmi ey4 ?_
  refine V_istore_n C [0] (lv' := [(0, .int y4)]) (dt_at dt_J6_bitCount_0f7a4_0 31 rfl) rfl (by decide) rfl ?_
  refine V_iload_n C (dt_at dt_J6_bitCount_0f7a4_0 32 rfl) 0 rfl rfl ?_
  refine V_iload_n C (dt_at dt_J6_bitCount_0f7a4_0 33 rfl) 0 rfl rfl ?_
  refine V_bipush C 16 (dt_at dt_J6_bitCount_0f7a4_0 34 rfl) (by decide) ?_
  refine V_iushr C (dt_at dt_J6_bitCount_0f7a4_0 35 rfl) ?_
  refine V_iadd C (dt_at dt_J6_bitCount_0f7a4_0 36 rfl) ?_
  obtain ⟨y5, ey5, h⟩ := nm_s h
  refine V_nmi ey5 ?_
  refine V_istore_n C [0] (lv' := [(0, .int y5)]) (dt_at dt_J6_bitCount_0f7a4_0 37 rfl) rfl (by decide) rfl ?_
  refine V_iload_n C (dt_at dt_J6_bitCount_0f7a4_0 38 rfl) 0 rfl rfl ?_
  refine V_bipush C 63 (dt_at dt_J6_bitCount_0f7a4_0 39 rfl) (by decide) ?_
  refine V_iand C (dt_at dt_J6_bitCount_0f7a4_1 0 rfl) ?_
  have e1_ := Option.some.inj h
  subst e1_
  exact V_iret C hR (dt_at dt_J6_bitCount_0f7a4_1 1 rfl)
theorem cv_J6_bitCount_0f7a4 (C : Ck X G cc own nL d) {idx : Nat} (hlk : Cond.methodLink own idx yJ6_bitCount_0f7a4 ∈ gtb) (x0 : Int32) {r0 : Int32} (e : f_J6_bitCount_0f7a4 x0 = some r0) (hdd : 2 ≤ d) (hroom : (rest.map fun v => v.category).sum ≤ 8) (hcs : cells ≤ (xR X).cells ∧ slots ≤ (xR X).slots) (hd : decode cc pc = .ok (.invokestatic idx, 3)) (k : V X G nL cells slots σ (pc + 3) lv (.int r0 :: rest)) : V X G nL cells slots σ pc lv (.int x0 :: rest) := V_callS C (As := [.int x0]) (c_J6_bitCount_0f7a4 X.2.1 G x0 σ r0 e) cal_J6_bitCount_0f7a4 ww_5 hlk rfl hdd rfl hroom hcs hd k
theorem dt_J7_fill_53178_0 : dtab cJ7_fill_53178 [(0, .iconst 0, 1), (1, .istore_n 2, 1), (2, .aload_n 0, 1), (3, .arraylength, 1), (4, .istore_n 3, 1), (5, .iload_n 2, 1), (6, .iload_n 3, 1), (7, .if_icmp .ge 13, 3), (10, .aload_n 0, 1), (11, .iload_n 2, 1), (12, .iload_n 1, 1), (13, .iastore, 1), (14, .iinc 2 1, 3), (17, .goto (-12), 3), (20, .return_, 1)] = true := by decide +kernel
theorem cal_J7_fill_53178 : Cal yJ7_fill_53178 cJ7_fill_53178 4 none 2 := ⟨ww_6, ww_7, ⟨by decide, by decide, by decide⟩, by decide⟩
set_option maxHeartbeats 4000000 in
set_option maxRecDepth 100000 in
theorem c_J7_fill_53178 (l : Launch) (G : Gx) (c0 : Nat) (x1 : Int32) (σ : St) (σ0 : St) (h : f_J7_fill_53178 c0 x1 σ = some σ0) : MI l G yJ7_fill_53178 cJ7_fill_53178 4 none 1 [.ref (ga G c0), .int x1] σ none σ0 := by
  refine MI_of RJ7 rfl (by decide) [(0, .ref (ga G c0)), (1, .int x1)] rfl (Nat.le_of_ble_eq_true rfl) ?_
  intro X hXl C hR
  unfold f_J7_fill_53178 at h
  obtain ⟨hc_c0, h⟩ := chk_s h
  have J_5 : ∀ (x2 : Int32) (x3 : Int32) (σ : St), f_J7_fill_53178_5 c0 x1 x2 x3 σ = some σ0 → V X G 4 0 0 σ 5 [(0, .ref (ga G c0)), (1, .int x1), (2, .int x2), (3, .int x3)] [] := by
    intro x2 x3 σ h
    refine it_v (P := fun z : Int32 × St => V X G 4 0 0 z.2 5 [(0, .ref (ga G c0)), (1, .int x1), (2, .int z.1), (3, .int x3)] []) ?_ (x2, σ) h
    clear h
    intro z w_5 h ih_5 ex_5
    obtain ⟨x2, σ⟩ := z
    have h : b_J7_fill_53178_5 c0 x1 x2 x3 σ = some w_5 := h
    show V X G 4 0 0 σ 5 [(0, .ref (ga G c0)), (1, .int x1), (2, .int x2), (3, .int x3)] []
    unfold b_J7_fill_53178_5 at h
    refine V_iload_n C (dt_at dt_J7_fill_53178_0 5 rfl) 2 rfl rfl ?_
    refine V_iload_n C (dt_at dt_J7_fill_53178_0 6 rfl) 3 rfl rfl ?_
    refine V_icmp_ge C 20 (dt_at dt_J7_fill_53178_0 7 rfl) (by decide) (fun q1 => ?_) (fun q1 => ?_)
    · have h := ite_f q1 h
      have e_5 := ex_5 _ (Option.some.inj h).symm
      subst e_5
      exact V_vret C hR (dt_at dt_J7_fill_53178_0 14 rfl)
    · have h := ite_t q1 h
      refine V_aload_n C (dt_at dt_J7_fill_53178_0 8 rfl) 0 rfl rfl ?_
      refine V_iload_n C (dt_at dt_J7_fill_53178_0 9 rfl) 2 rfl rfl ?_
      refine V_iload_n C (dt_at dt_J7_fill_53178_0 10 rfl) 1 rfl rfl ?_
      obtain ⟨h3, h⟩ := chk_s h
      obtain ⟨σ2, eσ2, h⟩ := nm_s h
      refine V_st eσ2 ?_ (fun k => V_iast C (K := c0) (isIA_lt hc_c0) (fun f => (lay_IA G hc_c0 f _)) h3 (dt_at dt_J7_fill_53178_0 11 rfl) k)
      refine V_iinc C (x2 + 1) 2 [1, 2, 0, 3] (lv' := [(0, .ref (ga G c0)), (1, .int x1), (2, .int (x2 + 1)), (3, .int x3)]) (dt_at dt_J7_fill_53178_0 12 rfl) rfl (by rfl) (by decide) rfl ?_
      refine V_goto C 5 (dt_at dt_J7_fill_53178_0 13 rfl) (by decide) ?_
      exact ih_5 ((x2 + 1), σ2) (Option.some.inj h).symm
  refine V_iconst C 0 (dt_at dt_J7_fill_53178_0 0 rfl) (by decide) ?_
  refine V_istore_n C [1, 2, 0] (lv' := [(0, .ref (ga G c0)), (1, .int x1), (2, .int 0)]) (dt_at dt_J7_fill_53178_0 1 rfl) rfl (by decide) rfl ?_
  refine V_aload_n C (dt_at dt_J7_fill_53178_0 2 rfl) 0 rfl rfl ?_
  refine V_alen C (K := c0) (isIA_lt hc_c0) (lay_IA G hc_c0 _ _) (dt_at dt_J7_fill_53178_0 3 rfl) ?_
  refine V_istore_n C [1, 2, 3, 0] (lv' := [(0, .ref (ga G c0)), (1, .int x1), (2, .int 0), (3, .int (Int32.ofNat (alen c0)))]) (dt_at dt_J7_fill_53178_0 4 rfl) rfl (by decide) rfl ?_
  exact J_5 0 (Int32.ofNat (alen c0)) σ h
theorem cv_J7_fill_53178 (C : Ck X G cc own nL d) {idx : Nat} (hlk : Cond.methodLink own idx yJ7_fill_53178 ∈ gtb) (c0 : Nat) (x1 : Int32) {σ0 : St} (e : f_J7_fill_53178 c0 x1 σ = some σ0) (hdd : 2 ≤ d) (hroom : (rest.map fun v => v.category).sum ≤ 8) (hcs : cells ≤ (xR X).cells ∧ slots ≤ (xR X).slots) (hd : decode cc pc = .ok (.invokestatic idx, 3)) (k : V X G nL cells slots σ0 (pc + 3) lv (rest)) : V X G nL cells slots σ pc lv (.int x1 :: .ref (ga G c0) :: rest) := V_callS C (As := [.ref (ga G c0), .int x1]) (c_J7_fill_53178 X.2.1 G c0 x1 σ σ0 e) cal_J7_fill_53178 ww_8 hlk rfl hdd rfl hroom hcs hd k
theorem dt_J7_rangeCheck_23922_0 : dtab cJ7_rangeCheck_23922 [(0, .iload_n 1, 1), (1, .iload_n 2, 1), (2, .if_icmp .le 44, 3), (5, .new 43, 3), (8, .dup, 1), (9, .new 45, 3), (12, .dup, 1), (13, .invokespecial 47, 3), (16, .ldc 48, 2), (18, .invokevirtual 50, 3), (21, .iload_n 1, 1), (22, .invokevirtual 54, 3), (25, .ldc 57, 2), (27, .invokevirtual 50, 3), (30, .iload_n 2, 1), (31, .invokevirtual 54, 3), (34, .ldc 59, 2), (36, .invokevirtual 50, 3), (39, .invokevirtual 61, 3), (42, .invokespecial 65, 3), (45, .athrow, 1), (46, .iload_n 1, 1), (47, .ifCond .ge 12, 3), (50, .new 68, 3), (53, .dup, 1), (54, .iload_n 1, 1), (55, .invokespecial 70, 3), (58, .athrow, 1), (59, .iload_n 2, 1), (60, .iload_n 0, 1), (61, .if_icmp .le 12, 3), (64, .new 68, 3), (67, .dup, 1), (68, .iload_n 2, 1), (69, .invokespecial 70, 3), (72, .athrow, 1), (73, .return_, 1)] = true := by decide +kernel
theorem cal_J7_rangeCheck_23922 : Cal yJ7_rangeCheck_23922 cJ7_rangeCheck_23922 3 none 3 := ⟨ww_9, ww_7, ⟨by decide, by decide, by decide⟩, by decide⟩
set_option maxHeartbeats 4000000 in
set_option maxRecDepth 100000 in
theorem c_J7_rangeCheck_23922 (l : Launch) (G : Gx) (x0 : Int32) (x1 : Int32) (x2 : Int32) (σ : St) (h : f_J7_rangeCheck_23922 x0 x1 x2 = some ()) : MI l G yJ7_rangeCheck_23922 cJ7_rangeCheck_23922 3 none 1 [.int x0, .int x1, .int x2] σ none σ := by
  refine MI_of RJ7 rfl (by decide) [(0, .int x0), (1, .int x1), (2, .int x2)] rfl (Nat.le_of_ble_eq_true rfl) ?_
  intro X hXl C hR
  unfold f_J7_rangeCheck_23922 at h
  refine V_iload_n C (dt_at dt_J7_rangeCheck_23922_0 0 rfl) 1 rfl rfl ?_
  refine V_iload_n C (dt_at dt_J7_rangeCheck_23922_0 1 rfl) 2 rfl rfl ?_
  refine V_icmp_le C 46 (dt_at dt_J7_rangeCheck_23922_0 2 rfl) (by decide) (fun q1 => ?_) (fun q1 => ?_)
  · have h := ite_f q1 h
    refine V_iload_n C (dt_at dt_J7_rangeCheck_23922_0 21 rfl) 1 rfl rfl ?_
    refine V_if_ge C 59 (dt_at dt_J7_rangeCheck_23922_0 22 rfl) (by decide) (fun q2 => ?_) (fun q2 => ?_)
    · have h := ite_f q2 h
      refine V_iload_n C (dt_at dt_J7_rangeCheck_23922_0 28 rfl) 2 rfl rfl ?_
      refine V_iload_n C (dt_at dt_J7_rangeCheck_23922_0 29 rfl) 0 rfl rfl ?_
      refine V_icmp_le C 73 (dt_at dt_J7_rangeCheck_23922_0 30 rfl) (by decide) (fun q3 => ?_) (fun q3 => ?_)
      · have h := ite_f q3 h
        exact V_vret C hR (dt_at dt_J7_rangeCheck_23922_0 36 rfl)
      · have h := ite_t q3 h
        cases h
    · have h := ite_t q2 h
      cases h
  · have h := ite_t q1 h
    cases h
theorem cv_J7_rangeCheck_23922 (C : Ck X G cc own nL d) {idx : Nat} (hlk : Cond.methodLink own idx yJ7_rangeCheck_23922 ∈ gtb) (x0 : Int32) (x1 : Int32) (x2 : Int32) (e : f_J7_rangeCheck_23922 x0 x1 x2 = some ()) (hdd : 2 ≤ d) (hroom : (rest.map fun v => v.category).sum ≤ 8) (hcs : cells ≤ (xR X).cells ∧ slots ≤ (xR X).slots) (hd : decode cc pc = .ok (.invokestatic idx, 3)) (k : V X G nL cells slots σ (pc + 3) lv (rest)) : V X G nL cells slots σ pc lv (.int x2 :: .int x1 :: .int x0 :: rest) := V_callS C (As := [.int x0, .int x1, .int x2]) (c_J7_rangeCheck_23922 X.2.1 G x0 x1 x2 σ e) cal_J7_rangeCheck_23922 ww_10 hlk rfl hdd rfl hroom hcs hd k
theorem dt_J7_fill_fda19_0 : dtab cJ7_fill_fda19 [(0, .aload_n 0, 1), (1, .arraylength, 1), (2, .iload_n 1, 1), (3, .iload_n 2, 1), (4, .invokestatic 13, 3), (7, .iload_n 1, 1), (8, .istore 4, 2), (10, .iload 4, 2), (12, .iload_n 2, 1), (13, .if_icmp .ge 14, 3), (16, .aload_n 0, 1), (17, .iload 4, 2), (19, .iload_n 3, 1), (20, .iastore, 1), (21, .iinc 4 1, 3), (24, .goto (-14), 3), (27, .return_, 1)] = true := by decide +kernel
theorem cal_J7_fill_fda19 : Cal yJ7_fill_fda19 cJ7_fill_fda19 5 none 4 := ⟨ww_12, ww_7, ⟨by decide, by decide, by decide⟩, by decide⟩
set_option maxHeartbeats 4000000 in
set_option maxRecDepth 100000 in
theorem c_J7_fill_fda19 (l : Launch) (G : Gx) (c0 : Nat) (x1 : Int32) (x2 : Int32) (x3 : Int32) (σ : St) (σ0 : St) (h : f_J7_fill_fda19 c0 x1 x2 x3 σ = some σ0) : MI l G yJ7_fill_fda19 cJ7_fill_fda19 5 none 2 [.ref (ga G c0), .int x1, .int x2, .int x3] σ none σ0 := by
  refine MI_of RJ7 rfl (by decide) [(0, .ref (ga G c0)), (1, .int x1), (2, .int x2), (3, .int x3)] rfl (Nat.le_of_ble_eq_true rfl) ?_
  intro X hXl C hR
  unfold f_J7_fill_fda19 at h
  obtain ⟨hc_c0, h⟩ := chk_s h
  have J_10 : ∀ (x4 : Int32) (σ : St), f_J7_fill_fda19_10 c0 x2 x3 x4 σ = some σ0 → V X G 5 0 0 σ 10 [(0, .ref (ga G c0)), (2, .int x2), (3, .int x3), (4, .int x4)] [] := by
    intro x4 σ h
    refine it_v (P := fun z : Int32 × St => V X G 5 0 0 z.2 10 [(0, .ref (ga G c0)), (2, .int x2), (3, .int x3), (4, .int z.1)] []) ?_ (x4, σ) h
    clear h
    intro z w_10 h ih_10 ex_10
    obtain ⟨x4, σ⟩ := z
    have h : b_J7_fill_fda19_10 c0 x2 x3 x4 σ = some w_10 := h
    show V X G 5 0 0 σ 10 [(0, .ref (ga G c0)), (2, .int x2), (3, .int x3), (4, .int x4)] []
    unfold b_J7_fill_fda19_10 at h
    refine V_iload C (dt_at dt_J7_fill_fda19_0 7 rfl) 3 rfl ?_
    refine V_iload_n C (dt_at dt_J7_fill_fda19_0 8 rfl) 1 rfl rfl ?_
    refine V_icmp_ge C 27 (dt_at dt_J7_fill_fda19_0 9 rfl) (by decide) (fun q4 => ?_) (fun q4 => ?_)
    · have h := ite_f q4 h
      have e_10 := ex_10 _ (Option.some.inj h).symm
      subst e_10
      exact V_vret C hR (dt_at dt_J7_fill_fda19_0 16 rfl)
    · have h := ite_t q4 h
      refine V_aload_n C (dt_at dt_J7_fill_fda19_0 10 rfl) 0 rfl rfl ?_
      refine V_iload C (dt_at dt_J7_fill_fda19_0 11 rfl) 3 rfl ?_
      refine V_iload_n C (dt_at dt_J7_fill_fda19_0 12 rfl) 2 rfl rfl ?_
      obtain ⟨h6, h⟩ := chk_s h
      obtain ⟨σ5, eσ5, h⟩ := nm_s h
      refine V_st eσ5 ?_ (fun k => V_iast C (K := c0) (isIA_lt hc_c0) (fun f => (lay_IA G hc_c0 f _)) h6 (dt_at dt_J7_fill_fda19_0 13 rfl) k)
      refine V_iinc C (x4 + 1) 3 [1, 2, 3, 0] (lv' := [(0, .ref (ga G c0)), (2, .int x2), (3, .int x3), (4, .int (x4 + 1))]) (dt_at dt_J7_fill_fda19_0 14 rfl) rfl (by rfl) (by decide) rfl ?_
      refine V_goto C 10 (dt_at dt_J7_fill_fda19_0 15 rfl) (by decide) ?_
      exact ih_10 ((x4 + 1), σ5) (Option.some.inj h).symm
  refine V_aload_n C (dt_at dt_J7_fill_fda19_0 0 rfl) 0 rfl rfl ?_
  refine V_alen C (K := c0) (isIA_lt hc_c0) (lay_IA G hc_c0 _ _) (dt_at dt_J7_fill_fda19_0 1 rfl) ?_
  refine V_iload_n C (dt_at dt_J7_fill_fda19_0 2 rfl) 1 rfl rfl ?_
  refine V_iload_n C (dt_at dt_J7_fill_fda19_0 3 rfl) 2 rfl rfl ?_
  obtain ⟨r1, e2, h⟩ := bd_s h
  refine cv_J7_rangeCheck_23922 C ww_11 (Int32.ofNat (alen c0)) x1 x2 e2 (Nat.le_of_ble_eq_true rfl) (Nat.le_of_ble_eq_true rfl) z0 (dt_at dt_J7_fill_fda19_0 4 rfl) ?_
  refine V_iload_n C (dt_at dt_J7_fill_fda19_0 5 rfl) 1 rfl rfl ?_
  refine V_istore C [1, 2, 3, 4, 0] (lv' := [(0, .ref (ga G c0)), (1, .int x1), (2, .int x2), (3, .int x3), (4, .int x1)]) (dt_at dt_J7_fill_fda19_0 6 rfl) (by decide) rfl ?_
  refine V_sub [0, 2, 3, 4] (lv' := [(0, .ref (ga G c0)), (2, .int x2), (3, .int x3), (4, .int x1)]) rfl ?_
  exact J_10 x1 σ h
theorem cv_J7_fill_fda19 (C : Ck X G cc own nL d) {idx : Nat} (hlk : Cond.methodLink own idx yJ7_fill_fda19 ∈ gtb) (c0 : Nat) (x1 : Int32) (x2 : Int32) (x3 : Int32) {σ0 : St} (e : f_J7_fill_fda19 c0 x1 x2 x3 σ = some σ0) (hdd : 3 ≤ d) (hroom : (rest.map fun v => v.category).sum ≤ 8) (hcs : cells ≤ (xR X).cells ∧ slots ≤ (xR X).slots) (hd : decode cc pc = .ok (.invokestatic idx, 3)) (k : V X G nL cells slots σ0 (pc + 3) lv (rest)) : V X G nL cells slots σ pc lv (.int x3 :: .int x2 :: .int x1 :: .ref (ga G c0) :: rest) := V_callS C (As := [.ref (ga G c0), .int x1, .int x2, .int x3]) (c_J7_fill_fda19 X.2.1 G c0 x1 x2 x3 σ σ0 e) cal_J7_fill_fda19 ww_13 hlk rfl hdd rfl hroom hcs hd k
theorem dt_X7_add_0 : dtab cX7_add [(0, .aload_n 0, 1), (1, .getfield 7, 3), (4, .aload_n 0, 1), (5, .getfield 13, 3), (8, .arraylength, 1), (9, .if_icmp .ge 23, 3), (12, .aload_n 0, 1), (13, .getfield 13, 3), (16, .aload_n 0, 1), (17, .getfield 7, 3), (20, .iload_n 1, 1), (21, .iastore, 1), (22, .aload_n 0, 1), (23, .dup, 1), (24, .getfield 7, 3), (27, .iconst 1, 1), (28, .iadd, 1), (29, .putfield 7, 3), (32, .return_, 1)] = true := by decide +kernel
theorem cal_X7_add : Cal yX7_add cX7_add 2 none 1 := ⟨ww_16, ww_17, ⟨by decide, by decide, by decide⟩, by decide⟩
set_option maxHeartbeats 4000000 in
set_option maxRecDepth 100000 in
theorem c_X7_add (l : Launch) (G : Gx) (c0 : Nat) (x1 : Int32) (σ : St) (σ0 : St) (h : f_X7_add c0 x1 σ = some σ0) : MI l G yX7_add cX7_add 2 none 1 [.ref (ga G c0), .int x1] σ none σ0 := by
  refine MI_of RX7 rfl (by decide) [(0, .ref (ga G c0)), (1, .int x1)] rfl (Nat.le_of_ble_eq_true rfl) ?_
  intro X hXl C hR
  unfold f_X7_add at h
  obtain ⟨hc_c0, h⟩ := chk_s h
  refine V_aload_n C (dt_at dt_X7_add_0 0 rfl) 0 rfl rfl ?_
  refine gw_X7_7 C (K := c0) hc_c0 (dt_at dt_X7_add_0 1 rfl) ?_
  refine V_aload_n C (dt_at dt_X7_add_0 2 rfl) 0 rfl rfl ?_
  refine gw_X7_13 C (K := c0) hc_c0 (dt_at dt_X7_add_0 3 rfl) ?_
  refine V_alen C (K := c0 + 1) (isRowA_lt hc_c0) (lay_rowA G hc_c0 _ _) (dt_at dt_X7_add_0 4 rfl) ?_
  refine V_icmp_ge C 32 (dt_at dt_X7_add_0 5 rfl) (by decide) (fun q1 => ?_) (fun q1 => ?_)
  · have h := ite_f q1 h
    have e1_ := Option.some.inj h
    subst e1_
    exact V_vret C hR (dt_at dt_X7_add_0 18 rfl)
  · have h := ite_t q1 h
    refine V_aload_n C (dt_at dt_X7_add_0 6 rfl) 0 rfl rfl ?_
    refine gw_X7_13 C (K := c0) hc_c0 (dt_at dt_X7_add_0 7 rfl) ?_
    refine V_aload_n C (dt_at dt_X7_add_0 8 rfl) 0 rfl rfl ?_
    refine gw_X7_7 C (K := c0) hc_c0 (dt_at dt_X7_add_0 9 rfl) ?_
    refine V_iload_n C (dt_at dt_X7_add_0 10 rfl) 1 rfl rfl ?_
    obtain ⟨h3, h⟩ := chk_s h
    obtain ⟨σ2, eσ2, h⟩ := nm_s h
    refine V_st eσ2 ?_ (fun k => V_iast C (K := c0 + 1) (isRowA_lt hc_c0) (fun f => (lay_rowA G hc_c0 f _)) h3 (dt_at dt_X7_add_0 11 rfl) k)
    refine V_aload_n C (dt_at dt_X7_add_0 12 rfl) 0 rfl rfl ?_
    refine V_dup C (dt_at dt_X7_add_0 13 rfl) rfl ?_
    refine gw_X7_7 C (K := c0) hc_c0 (dt_at dt_X7_add_0 14 rfl) ?_
    refine V_iconst C 1 (dt_at dt_X7_add_0 15 rfl) (by decide) ?_
    refine V_iadd C (dt_at dt_X7_add_0 16 rfl) ?_
    obtain ⟨σ4, eσ4, h⟩ := nm_s h
    refine V_st eσ4 ?_ (fun k => p_X7_7_row C (K := c0) hc_c0 (dt_at dt_X7_add_0 17 rfl) k)
    have e1_ := Option.some.inj h
    subst e1_
    exact V_vret C hR (dt_at dt_X7_add_0 18 rfl)
theorem cv_X7_add (C : Ck X G cc own nL d) {idx : Nat} (hlk : Cond.methodLink own idx yX7_add ∈ gtb) (c0 : Nat) (x1 : Int32) {σ0 : St} (e : f_X7_add c0 x1 σ = some σ0) (hdd : 2 ≤ d) (hroom : (rest.map fun v => v.category).sum ≤ 8) (hcs : cells ≤ (xR X).cells ∧ slots ≤ (xR X).slots) (hd : decode cc pc = .ok (.invokevirtual idx, 3)) (k : V X G nL cells slots σ0 (pc + 3) lv (rest)) : V X G nL cells slots σ pc lv (.int x1 :: .ref (ga G c0) :: rest) := by
  have hr9 : isRow c0 = true := by
    have e9 := e
    unfold f_X7_add at e9
    obtain ⟨q9, -⟩ := chk_s e9
    exact q9
  exact V_callV C (As := [.int x1]) (c_X7_add X.2.1 G c0 x1 σ σ0 e) cal_X7_add ww_18 ww_19 hlk rfl hdd (isRow_lt hr9) (lay_row G hr9 _ _) rfl rfl hroom hcs hd k
theorem dt_X10_isOff_0 : dtab cX10_isOff [(0, .aload_n 0, 1), (1, .getfield 31, 3), (4, .getfield 49, 3), (7, .iload_n 1, 1), (8, .aaload, 1), (9, .getfield 86, 3), (12, .iconst 3, 1), (13, .if_icmp .ne 7, 3), (16, .iconst 1, 1), (17, .goto 4, 3), (20, .iconst 0, 1), (21, .ireturn, 1)] = true := by decide +kernel
theorem cal_X10_isOff : Cal yX10_isOff cX10_isOff 2 (some .boolean) 1 := ⟨ww_23, ww_24, ⟨by decide, by decide, by decide⟩, by decide⟩
set_option maxHeartbeats 4000000 in
set_option maxRecDepth 100000 in
theorem c_X10_isOff (l : Launch) (G : Gx) (x1 : Int32) (σ : St) (r0 : Int32) (h : f_X10_isOff x1 σ = some r0) : MI l G yX10_isOff cX10_isOff 2 (some .boolean) 1 [.ref (ga G 3), .int x1] σ (some (.int r0)) σ := by
  refine MI_of RX10 rfl (by decide) [(0, .ref (ga G 3)), (1, .int x1)] rfl (Nat.le_of_ble_eq_true rfl) ?_
  intro X hXl C hR
  unfold f_X10_isOff at h
  refine V_aload_n C (dt_at dt_X10_isOff_0 0 rfl) 0 rfl rfl ?_
  refine g_X10_31_3 C (dt_at dt_X10_isOff_0 1 rfl) ?_
  refine g_X10_49_1 C (dt_at dt_X10_isOff_0 2 rfl) ?_
  refine V_iload_n C (dt_at dt_X10_isOff_0 3 rfl) 1 rfl rfl ?_
  obtain ⟨h1, h⟩ := chk_s h
  obtain ⟨h2, h⟩ := chk_s h
  refine V_aaR10 C h1 h2 (dt_at dt_X10_isOff_0 4 rfl) ?_
  refine gr_X10_86 C (K := (rd σ 10 x1).toNatClampNeg) h2 (dt_at dt_X10_isOff_0 5 rfl) ?_
  refine V_iconst C 3 (dt_at dt_X10_isOff_0 6 rfl) (by decide) ?_
  refine V_icmp_ne C 20 (dt_at dt_X10_isOff_0 7 rfl) (by decide) (fun q3 => ?_) (fun q3 => ?_)
  · have h := ite_f q3 h
    refine V_iconst C 0 (dt_at dt_X10_isOff_0 10 rfl) (by decide) ?_
    have e1_ := Option.some.inj h
    subst e1_
    exact V_zret C rfl hR (dt_at dt_X10_isOff_0 11 rfl)
  · have h := ite_t q3 h
    refine V_iconst C 1 (dt_at dt_X10_isOff_0 8 rfl) (by decide) ?_
    refine V_goto C 21 (dt_at dt_X10_isOff_0 9 rfl) (by decide) ?_
    have e1_ := Option.some.inj h
    subst e1_
    exact V_zret C rfl hR (dt_at dt_X10_isOff_0 11 rfl)
theorem cv_X10_isOff (C : Ck X G cc own nL d) {idx : Nat} (hlk : Cond.methodLink own idx yX10_isOff ∈ gtb) (x1 : Int32) {r0 : Int32} (e : f_X10_isOff x1 σ = some r0) (hdd : 2 ≤ d) (hroom : (rest.map fun v => v.category).sum ≤ 8) (hcs : cells ≤ (xR X).cells ∧ slots ≤ (xR X).slots) (hd : decode cc pc = .ok (.invokevirtual idx, 3)) (k : V X G nL cells slots σ (pc + 3) lv (.int r0 :: rest)) : V X G nL cells slots σ pc lv (.int x1 :: .ref (ga G 3) :: rest) := V_callV C (As := [.int x1]) (c_X10_isOff X.2.1 G x1 σ r0 e) cal_X10_isOff ww_25 ww_26 hlk rfl hdd (lt110 rfl) rfl rfl rfl hroom hcs hd k
theorem dt_X10_name_0 : dtab cX10_name [(0, .aload_n 0, 1), (1, .getfield 9, 3), (4, .iload_n 1, 1), (5, .bipush 97, 2), (7, .isub, 1), (8, .iload_n 2, 1), (9, .iastore, 1), (10, .return_, 1)] = true := by decide +kernel
theorem cal_X10_name : Cal yX10_name cX10_name 3 none 2 := ⟨ww_28, ww_24, ⟨by decide, by decide, by decide⟩, by decide⟩
set_option maxHeartbeats 4000000 in
set_option maxRecDepth 100000 in
theorem c_X10_name (l : Launch) (G : Gx) (x1 : Int32) (x2 : Int32) (σ : St) (σ0 : St) (h : f_X10_name x1 x2 σ = some σ0) : MI l G yX10_name cX10_name 3 none 1 [.ref (ga G 3), .int x1, .int x2] σ none σ0 := by
  refine MI_of RX10 rfl (by decide) [(0, .ref (ga G 3)), (1, .int x1), (2, .int x2)] rfl (Nat.le_of_ble_eq_true rfl) ?_
  intro X hXl C hR
  unfold f_X10_name at h
  refine V_aload_n C (dt_at dt_X10_name_0 0 rfl) 0 rfl rfl ?_
  refine g_X10_9_3 C (dt_at dt_X10_name_0 1 rfl) ?_
  refine V_iload_n C (dt_at dt_X10_name_0 2 rfl) 1 rfl rfl ?_
  refine V_bipush C 97 (dt_at dt_X10_name_0 3 rfl) (by decide) ?_
  refine V_isub C (dt_at dt_X10_name_0 4 rfl) ?_
  refine V_iload_n C (dt_at dt_X10_name_0 5 rfl) 2 rfl rfl ?_
  obtain ⟨h2, h⟩ := chk_s h
  obtain ⟨σ1, eσ1, h⟩ := nm_s h
  refine V_st eσ1 ?_ (fun k => as_30 C h2 (dt_at dt_X10_name_0 6 rfl) k)
  have e1_ := Option.some.inj h
  subst e1_
  exact V_vret C hR (dt_at dt_X10_name_0 7 rfl)
theorem cv_X10_name (C : Ck X G cc own nL d) {idx : Nat} (hlk : Cond.methodLink own idx yX10_name ∈ gtb) (x1 : Int32) (x2 : Int32) {σ0 : St} (e : f_X10_name x1 x2 σ = some σ0) (hdd : 2 ≤ d) (hroom : (rest.map fun v => v.category).sum ≤ 8) (hcs : cells ≤ (xR X).cells ∧ slots ≤ (xR X).slots) (hd : decode cc pc = .ok (.invokevirtual idx, 3)) (k : V X G nL cells slots σ0 (pc + 3) lv (rest)) : V X G nL cells slots σ pc lv (.int x2 :: .int x1 :: .ref (ga G 3) :: rest) := V_callV C (As := [.int x1, .int x2]) (c_X10_name X.2.1 G x1 x2 σ σ0 e) cal_X10_name ww_29 ww_30 hlk rfl hdd (lt110 rfl) rfl rfl rfl hroom hcs hd k
theorem dt_X10_joined_0 : dtab cX10_joined [(0, .iload_n 0, 1), (1, .lookupswitch 168 #[(38, 97), (42, 152), (43, 144), (45, 148), (47, 156), (60, 111), (61, 122), (62, 133), (124, 83)], 83), (84, .iload_n 1, 1), (85, .ifCond .ne 7, 3), (88, .iload_n 2, 1), (89, .ifCond .eq 7, 3), (92, .iconst 1, 1), (93, .goto 4, 3), (96, .iconst 0, 1), (97, .ireturn, 1), (98, .iload_n 1, 1), (99, .ifCond .eq 11, 3), (102, .iload_n 2, 1), (103, .ifCond .eq 7, 3), (106, .iconst 1, 1), (107, .goto 4, 3), (110, .iconst 0, 1), (111, .ireturn, 1), (112, .iload_n 1, 1), (113, .iload_n 2, 1), (114, .if_icmp .ge 7, 3), (117, .iconst 1, 1), (118, .goto 4, 3), (121, .iconst 0, 1), (122, .ireturn, 1), (123, .iload_n 1, 1), (124, .iload_n 2, 1), (125, .if_icmp .ne 7, 3), (128, .iconst 1, 1), (129, .goto 4, 3), (132, .iconst 0, 1), (133, .ireturn, 1), (134, .iload_n 1, 1), (135, .iload_n 2, 1), (136, .if_icmp .le 7, 3), (139, .iconst 1, 1), (140, .goto 4, 3), (143, .iconst 0, 1), (144, .ireturn, 1), (145, .iload_n 1, 1)] = true := by decide +kernel
theorem dt_X10_joined_1 : dtab cX10_joined [(146, .iload_n 2, 1), (147, .iadd, 1), (148, .ireturn, 1), (149, .iload_n 1, 1), (150, .iload_n 2, 1), (151, .isub, 1), (152, .ireturn, 1), (153, .iload_n 1, 1), (154, .iload_n 2, 1), (155, .imul, 1), (156, .ireturn, 1), (157, .iload_n 2, 1), (158, .ifCond .ne 7, 3), (161, .iconst 0, 1), (162, .goto 6, 3), (165, .iload_n 1, 1), (166, .iload_n 2, 1), (167, .idiv, 1), (168, .ireturn, 1), (169, .iload_n 2, 1), (170, .ifCond .ne 7, 3), (173, .iconst 0, 1), (174, .goto 6, 3), (177, .iload_n 1, 1), (178, .iload_n 2, 1), (179, .irem, 1), (180, .ireturn, 1)] = true := by decide +kernel
theorem cal_X10_joined : Cal yX10_joined cX10_joined 3 (some .int) 3 := ⟨ww_31, ww_24, ⟨by decide, by decide, by decide⟩, by decide⟩
set_option maxHeartbeats 4000000 in
set_option maxRecDepth 100000 in
theorem c_X10_joined (l : Launch) (G : Gx) (x0 : Int32) (x1 : Int32) (x2 : Int32) (σ : St) (r0 : Int32) (h : f_X10_joined x0 x1 x2 = some r0) : MI l G yX10_joined cX10_joined 3 (some .int) 1 [.int x0, .int x1, .int x2] σ (some (.int r0)) σ := by
  refine MI_of RX10 rfl (by decide) [(0, .int x0), (1, .int x1), (2, .int x2)] rfl (Nat.le_of_ble_eq_true rfl) ?_
  intro X hXl C hR
  unfold f_X10_joined at h
  have J_92 : f_X10_joined_92  = some r0 → V X G 3 0 0 σ 92 [] [] := by
    intro  h
    unfold f_X10_joined_92 at h
    refine V_iconst C 1 (dt_at dt_X10_joined_0 6 rfl) (by decide) ?_
    refine V_goto C 97 (dt_at dt_X10_joined_0 7 rfl) (by decide) ?_
    have e1_ := Option.some.inj h
    subst e1_
    exact V_iret C hR (dt_at dt_X10_joined_0 9 rfl)
  refine V_iload_n C (dt_at dt_X10_joined_0 0 rfl) 0 rfl rfl ?_
  by_cases q1 : x0 = 38
  · have h := ite_t q1 h
    refine V_lkp C 98 (dt_at dt_X10_joined_0 1 rfl) rfl (by rw [q1] <;> rfl) (by decide) ?_
    refine V_iload_n C (dt_at dt_X10_joined_0 10 rfl) 1 rfl rfl ?_
    refine V_if_eq C 110 (dt_at dt_X10_joined_0 11 rfl) (by decide) (fun q2 => ?_) (fun q2 => ?_)
    · have h := ite_t q2 h
      refine V_iconst C 0 (dt_at dt_X10_joined_0 16 rfl) (by decide) ?_
      have e1_ := Option.some.inj h
      subst e1_
      exact V_iret C hR (dt_at dt_X10_joined_0 17 rfl)
    · have h := ite_f q2 h
      refine V_iload_n C (dt_at dt_X10_joined_0 12 rfl) 2 rfl rfl ?_
      refine V_if_eq C 110 (dt_at dt_X10_joined_0 13 rfl) (by decide) (fun q3 => ?_) (fun q3 => ?_)
      · have h := ite_t q3 h
        refine V_iconst C 0 (dt_at dt_X10_joined_0 16 rfl) (by decide) ?_
        have e1_ := Option.some.inj h
        subst e1_
        exact V_iret C hR (dt_at dt_X10_joined_0 17 rfl)
      · have h := ite_f q3 h
        refine V_iconst C 1 (dt_at dt_X10_joined_0 14 rfl) (by decide) ?_
        refine V_goto C 111 (dt_at dt_X10_joined_0 15 rfl) (by decide) ?_
        have e1_ := Option.some.inj h
        subst e1_
        exact V_iret C hR (dt_at dt_X10_joined_0 17 rfl)
  replace h := ite_f q1 h
  by_cases q4 : x0 = 42
  · have h := ite_t q4 h
    refine V_lkp C 153 (dt_at dt_X10_joined_0 1 rfl) rfl (by rw [q4] <;> rfl) (by decide) ?_
    refine V_iload_n C (dt_at dt_X10_joined_1 7 rfl) 1 rfl rfl ?_
    refine V_iload_n C (dt_at dt_X10_joined_1 8 rfl) 2 rfl rfl ?_
    refine V_imul C (dt_at dt_X10_joined_1 9 rfl) ?_
    have e1_ := Option.some.inj h
    subst e1_
    exact V_iret C hR (dt_at dt_X10_joined_1 10 rfl)
  replace h := ite_f q4 h
  by_cases q5 : x0 = 43
  · have h := ite_t q5 h
    refine V_lkp C 145 (dt_at dt_X10_joined_0 1 rfl) rfl (by rw [q5] <;> rfl) (by decide) ?_
    refine V_iload_n C (dt_at dt_X10_joined_0 39 rfl) 1 rfl rfl ?_
    refine V_iload_n C (dt_at dt_X10_joined_1 0 rfl) 2 rfl rfl ?_
    refine V_iadd C (dt_at dt_X10_joined_1 1 rfl) ?_
    have e1_ := Option.some.inj h
    subst e1_
    exact V_iret C hR (dt_at dt_X10_joined_1 2 rfl)
  replace h := ite_f q5 h
  by_cases q6 : x0 = 45
  · have h := ite_t q6 h
    refine V_lkp C 149 (dt_at dt_X10_joined_0 1 rfl) rfl (by rw [q6] <;> rfl) (by decide) ?_
    refine V_iload_n C (dt_at dt_X10_joined_1 3 rfl) 1 rfl rfl ?_
    refine V_iload_n C (dt_at dt_X10_joined_1 4 rfl) 2 rfl rfl ?_
    refine V_isub C (dt_at dt_X10_joined_1 5 rfl) ?_
    have e1_ := Option.some.inj h
    subst e1_
    exact V_iret C hR (dt_at dt_X10_joined_1 6 rfl)
  replace h := ite_f q6 h
  by_cases q7 : x0 = 47
  · have h := ite_t q7 h
    refine V_lkp C 157 (dt_at dt_X10_joined_0 1 rfl) rfl (by rw [q7] <;> rfl) (by decide) ?_
    refine V_iload_n C (dt_at dt_X10_joined_1 11 rfl) 2 rfl rfl ?_
    refine V_if_ne C 165 (dt_at dt_X10_joined_1 12 rfl) (by decide) (fun q8 => ?_) (fun q8 => ?_)
    · have h := ite_f q8 h
      refine V_iload_n C (dt_at dt_X10_joined_1 15 rfl) 1 rfl rfl ?_
      refine V_iload_n C (dt_at dt_X10_joined_1 16 rfl) 2 rfl rfl ?_
      refine V_idiv C (dt_at dt_X10_joined_1 17 rfl) q8 ?_
      have e1_ := Option.some.inj h
      subst e1_
      exact V_iret C hR (dt_at dt_X10_joined_1 18 rfl)
    · have h := ite_t q8 h
      refine V_iconst C 0 (dt_at dt_X10_joined_1 13 rfl) (by decide) ?_
      refine V_goto C 168 (dt_at dt_X10_joined_1 14 rfl) (by decide) ?_
      have e1_ := Option.some.inj h
      subst e1_
      exact V_iret C hR (dt_at dt_X10_joined_1 18 rfl)
  replace h := ite_f q7 h
  by_cases q9 : x0 = 60
  · have h := ite_t q9 h
    refine V_lkp C 112 (dt_at dt_X10_joined_0 1 rfl) rfl (by rw [q9] <;> rfl) (by decide) ?_
    refine V_iload_n C (dt_at dt_X10_joined_0 18 rfl) 1 rfl rfl ?_
    refine V_iload_n C (dt_at dt_X10_joined_0 19 rfl) 2 rfl rfl ?_
    refine V_icmp_ge C 121 (dt_at dt_X10_joined_0 20 rfl) (by decide) (fun q10 => ?_) (fun q10 => ?_)
    · have h := ite_f q10 h
      refine V_iconst C 0 (dt_at dt_X10_joined_0 23 rfl) (by decide) ?_
      have e1_ := Option.some.inj h
      subst e1_
      exact V_iret C hR (dt_at dt_X10_joined_0 24 rfl)
    · have h := ite_t q10 h
      refine V_iconst C 1 (dt_at dt_X10_joined_0 21 rfl) (by decide) ?_
      refine V_goto C 122 (dt_at dt_X10_joined_0 22 rfl) (by decide) ?_
      have e1_ := Option.some.inj h
      subst e1_
      exact V_iret C hR (dt_at dt_X10_joined_0 24 rfl)
  replace h := ite_f q9 h
  by_cases q11 : x0 = 61
  · have h := ite_t q11 h
    refine V_lkp C 123 (dt_at dt_X10_joined_0 1 rfl) rfl (by rw [q11] <;> rfl) (by decide) ?_
    refine V_iload_n C (dt_at dt_X10_joined_0 25 rfl) 1 rfl rfl ?_
    refine V_iload_n C (dt_at dt_X10_joined_0 26 rfl) 2 rfl rfl ?_
    refine V_icmp_ne C 132 (dt_at dt_X10_joined_0 27 rfl) (by decide) (fun q12 => ?_) (fun q12 => ?_)
    · have h := ite_f q12 h
      refine V_iconst C 0 (dt_at dt_X10_joined_0 30 rfl) (by decide) ?_
      have e1_ := Option.some.inj h
      subst e1_
      exact V_iret C hR (dt_at dt_X10_joined_0 31 rfl)
    · have h := ite_t q12 h
      refine V_iconst C 1 (dt_at dt_X10_joined_0 28 rfl) (by decide) ?_
      refine V_goto C 133 (dt_at dt_X10_joined_0 29 rfl) (by decide) ?_
      have e1_ := Option.some.inj h
      subst e1_
      exact V_iret C hR (dt_at dt_X10_joined_0 31 rfl)
  replace h := ite_f q11 h
  by_cases q13 : x0 = 62
  · have h := ite_t q13 h
    refine V_lkp C 134 (dt_at dt_X10_joined_0 1 rfl) rfl (by rw [q13] <;> rfl) (by decide) ?_
    refine V_iload_n C (dt_at dt_X10_joined_0 32 rfl) 1 rfl rfl ?_
    refine V_iload_n C (dt_at dt_X10_joined_0 33 rfl) 2 rfl rfl ?_
    refine V_icmp_le C 143 (dt_at dt_X10_joined_0 34 rfl) (by decide) (fun q14 => ?_) (fun q14 => ?_)
    · have h := ite_f q14 h
      refine V_iconst C 0 (dt_at dt_X10_joined_0 37 rfl) (by decide) ?_
      have e1_ := Option.some.inj h
      subst e1_
      exact V_iret C hR (dt_at dt_X10_joined_0 38 rfl)
    · have h := ite_t q14 h
      refine V_iconst C 1 (dt_at dt_X10_joined_0 35 rfl) (by decide) ?_
      refine V_goto C 144 (dt_at dt_X10_joined_0 36 rfl) (by decide) ?_
      have e1_ := Option.some.inj h
      subst e1_
      exact V_iret C hR (dt_at dt_X10_joined_0 38 rfl)
  replace h := ite_f q13 h
  by_cases q15 : x0 = 124
  · have h := ite_t q15 h
    refine V_lkp C 84 (dt_at dt_X10_joined_0 1 rfl) rfl (by rw [q15] <;> rfl) (by decide) ?_
    refine V_iload_n C (dt_at dt_X10_joined_0 2 rfl) 1 rfl rfl ?_
    refine V_if_ne C 92 (dt_at dt_X10_joined_0 3 rfl) (by decide) (fun q16 => ?_) (fun q16 => ?_)
    · have h := ite_f q16 h
      refine V_sub [] (lv' := []) rfl ?_
      exact J_92  h
    · have h := ite_t q16 h
      refine V_iload_n C (dt_at dt_X10_joined_0 4 rfl) 2 rfl rfl ?_
      refine V_if_eq C 96 (dt_at dt_X10_joined_0 5 rfl) (by decide) (fun q17 => ?_) (fun q17 => ?_)
      · have h := ite_t q17 h
        refine V_iconst C 0 (dt_at dt_X10_joined_0 8 rfl) (by decide) ?_
        have e1_ := Option.some.inj h
        subst e1_
        exact V_iret C hR (dt_at dt_X10_joined_0 9 rfl)
      · have h := ite_f q17 h
        refine V_sub [] (lv' := []) rfl ?_
        exact J_92  h
  replace h := ite_f q15 h
  refine V_lkp C (off := 168) 169 (dt_at dt_X10_joined_0 1 rfl) rfl ((lv_osw q1 (a := 38) rfl).trans ((lv_osw q4 (a := 42) rfl).trans ((lv_osw q5 (a := 43) rfl).trans ((lv_osw q6 (a := 45) rfl).trans ((lv_osw q7 (a := 47) rfl).trans ((lv_osw q9 (a := 60) rfl).trans ((lv_osw q11 (a := 61) rfl).trans ((lv_osw q13 (a := 62) rfl).trans ((lv_osw q15 (a := 124) rfl).trans (rfl)))))))))) (by decide) ?_
  refine V_iload_n C (dt_at dt_X10_joined_1 19 rfl) 2 rfl rfl ?_
  refine V_if_ne C 177 (dt_at dt_X10_joined_1 20 rfl) (by decide) (fun q18 => ?_) (fun q18 => ?_)
  · have h := ite_f q18 h
    refine V_iload_n C (dt_at dt_X10_joined_1 23 rfl) 1 rfl rfl ?_
    refine V_iload_n C (dt_at dt_X10_joined_1 24 rfl) 2 rfl rfl ?_
    refine V_irem C (dt_at dt_X10_joined_1 25 rfl) q18 ?_
    have e1_ := Option.some.inj h
    subst e1_
    exact V_iret C hR (dt_at dt_X10_joined_1 26 rfl)
  · have h := ite_t q18 h
    refine V_iconst C 0 (dt_at dt_X10_joined_1 21 rfl) (by decide) ?_
    refine V_goto C 180 (dt_at dt_X10_joined_1 22 rfl) (by decide) ?_
    have e1_ := Option.some.inj h
    subst e1_
    exact V_iret C hR (dt_at dt_X10_joined_1 26 rfl)
theorem cv_X10_joined (C : Ck X G cc own nL d) {idx : Nat} (hlk : Cond.methodLink own idx yX10_joined ∈ gtb) (x0 : Int32) (x1 : Int32) (x2 : Int32) {r0 : Int32} (e : f_X10_joined x0 x1 x2 = some r0) (hdd : 2 ≤ d) (hroom : (rest.map fun v => v.category).sum ≤ 8) (hcs : cells ≤ (xR X).cells ∧ slots ≤ (xR X).slots) (hd : decode cc pc = .ok (.invokestatic idx, 3)) (k : V X G nL cells slots σ (pc + 3) lv (.int r0 :: rest)) : V X G nL cells slots σ pc lv (.int x2 :: .int x1 :: .int x0 :: rest) := V_callS C (As := [.int x0, .int x1, .int x2]) (c_X10_joined X.2.1 G x0 x1 x2 σ r0 e) cal_X10_joined ww_32 hlk rfl hdd rfl hroom hcs hd k
theorem dt_X10_worthOf_0 : dtab cX10_worthOf [(0, .iconst 0, 1), (1, .istore_n 2, 1), (2, .iconst 0, 1), (3, .istore_n 3, 1), (4, .iload_n 3, 1), (5, .aload_n 1, 1), (6, .getfield 41, 3), (9, .if_icmp .ge 153, 3), (12, .aload_n 1, 1), (13, .getfield 100, 3), (16, .iload_n 3, 1), (17, .iaload, 1), (18, .istore 4, 2), (20, .iload 4, 2), (22, .sipush 256, 3), (25, .if_icmp .lt 21, 3), (28, .aload_n 0, 1), (29, .getfield 15, 3), (32, .iload_n 2, 1), (33, .iload 4, 2), (35, .sipush 256, 3), (38, .isub, 1), (39, .iastore, 1), (40, .iinc 2 1, 3), (43, .goto 113, 3), (46, .iload 4, 2), (48, .bipush 97, 2), (50, .if_icmp .lt 32, 3), (53, .iload 4, 2), (55, .bipush 122, 2), (57, .if_icmp .gt 25, 3), (60, .aload_n 0, 1), (61, .getfield 15, 3), (64, .iload_n 2, 1), (65, .aload_n 0, 1), (66, .getfield 9, 3), (69, .iload 4, 2), (71, .bipush 97, 2), (73, .isub, 1), (74, .iaload, 1)] = true := by decide +kernel
theorem dt_X10_worthOf_1 : dtab cX10_worthOf [(75, .iastore, 1), (76, .iinc 2 1, 3), (79, .goto 77, 3), (82, .iload 4, 2), (84, .bipush 33, 2), (86, .if_icmp .ne 35, 3), (89, .iload_n 2, 1), (90, .iconst 1, 1), (91, .if_icmp .lt 30, 3), (94, .aload_n 0, 1), (95, .getfield 15, 3), (98, .iload_n 2, 1), (99, .iconst 1, 1), (100, .isub, 1), (101, .aload_n 0, 1), (102, .getfield 15, 3), (105, .iload_n 2, 1), (106, .iconst 1, 1), (107, .isub, 1), (108, .iaload, 1), (109, .ifCond .ne 7, 3), (112, .iconst 1, 1), (113, .goto 4, 3), (116, .iconst 0, 1), (117, .iastore, 1), (118, .goto 38, 3), (121, .iload_n 2, 1), (122, .iconst 2, 1), (123, .if_icmp .lt 33, 3), (126, .iinc 2 (-1), 3), (129, .aload_n 0, 1), (130, .getfield 15, 3), (133, .iload_n 2, 1), (134, .iconst 1, 1), (135, .isub, 1), (136, .iload 4, 2), (138, .aload_n 0, 1), (139, .getfield 15, 3), (142, .iload_n 2, 1), (143, .iconst 1, 1)] = true := by decide +kernel
theorem dt_X10_worthOf_2 : dtab cX10_worthOf [(144, .isub, 1), (145, .iaload, 1), (146, .aload_n 0, 1), (147, .getfield 15, 3), (150, .iload_n 2, 1), (151, .iaload, 1), (152, .invokestatic 105, 3), (155, .iastore, 1), (156, .iinc 3 1, 3), (159, .goto (-155), 3), (162, .aload_n 0, 1), (163, .getfield 15, 3), (166, .iconst 0, 1), (167, .iaload, 1), (168, .ireturn, 1)] = true := by decide +kernel
theorem cal_X10_worthOf : Cal yX10_worthOf cX10_worthOf 5 (some .int) 1 := ⟨ww_37, ww_24, ⟨by decide, by decide, by decide⟩, by decide⟩
set_option maxHeartbeats 4000000 in
set_option maxRecDepth 100000 in
theorem c_X10_worthOf (l : Launch) (G : Gx) (c1 : Nat) (σ : St) (r0 : Int32) (σ0 : St) (h : f_X10_worthOf c1 σ = some (r0, σ0)) : MI l G yX10_worthOf cX10_worthOf 5 (some .int) 2 [.ref (ga G 3), .ref (ga G c1)] σ (some (.int r0)) σ0 := by
  refine MI_of RX10 rfl (by decide) [(0, .ref (ga G 3)), (1, .ref (ga G c1))] rfl (Nat.le_of_ble_eq_true rfl) ?_
  intro X hXl C hR
  unfold f_X10_worthOf at h
  obtain ⟨hc_c1, h⟩ := chk_s h
  have J_162 : ∀ (σ : St), f_X10_worthOf_162 σ = some (r0, σ0) → V X G 5 0 0 σ 162 [(0, .ref (ga G 3))] [] := by
    intro σ h
    unfold f_X10_worthOf_162 at h
    refine V_aload_n C (dt_at dt_X10_worthOf_2 10 rfl) 0 rfl rfl ?_
    refine g_X10_15_3 C (dt_at dt_X10_worthOf_2 11 rfl) ?_
    refine V_iconst C 0 (dt_at dt_X10_worthOf_2 12 rfl) (by decide) ?_
    obtain ⟨h25, h⟩ := chk_s h
    refine al_31 C h25 (dt_at dt_X10_worthOf_2 13 rfl) ?_
    obtain ⟨e1_, e2_⟩ := pin2 h
    subst e1_; subst e2_
    exact V_iret C hR (dt_at dt_X10_worthOf_2 14 rfl)
  have J_4 : ∀ (x2 : Int32) (x3 : Int32) (σ : St), f_X10_worthOf_4 c1 x2 x3 σ = some (r0, σ0) → V X G 5 0 0 σ 4 [(0, .ref (ga G 3)), (1, .ref (ga G c1)), (2, .int x2), (3, .int x3)] [] := by
    intro x2 x3 σ h
    refine it_v (P := fun z : Int32 × Int32 × St => V X G 5 0 0 z.2.2 4 [(0, .ref (ga G 3)), (1, .ref (ga G c1)), (2, .int z.1), (3, .int z.2.1)] []) ?_ (x2, x3, σ) h
    clear h
    intro z w_4 h ih_4 ex_4
    obtain ⟨x2, x3, σ⟩ := z
    have h : b_X10_worthOf_4 c1 x2 x3 σ = some w_4 := h
    show V X G 5 0 0 σ 4 [(0, .ref (ga G 3)), (1, .ref (ga G c1)), (2, .int x2), (3, .int x3)] []
    unfold b_X10_worthOf_4 at h
    have J_156 : ∀ (x2 : Int32) (x3 : Int32) (σ : St), f_X10_worthOf_156 c1 x2 x3 σ = some w_4 → V X G 5 0 0 σ 156 [(0, .ref (ga G 3)), (1, .ref (ga G c1)), (2, .int x2), (3, .int x3)] [] := by
      intro x2 x3 σ h
      unfold f_X10_worthOf_156 at h
      refine V_iinc C (x3 + 1) 3 [1, 2, 3, 0] (lv' := [(0, .ref (ga G 3)), (1, .ref (ga G c1)), (2, .int x2), (3, .int (x3 + 1))]) (dt_at dt_X10_worthOf_2 8 rfl) rfl (by rfl) (by decide) rfl ?_
      refine V_goto C 4 (dt_at dt_X10_worthOf_2 9 rfl) (by decide) ?_
      exact ih_4 (x2, (x3 + 1), σ) (Option.some.inj h).symm
    have J_121 : ∀ (x2 : Int32) (x3 : Int32) (x4 : Int32) (σ : St), f_X10_worthOf_121 c1 x2 x3 x4 σ = some w_4 → V X G 5 0 0 σ 121 [(0, .ref (ga G 3)), (1, .ref (ga G c1)), (2, .int x2), (3, .int x3), (4, .int x4)] [] := by
      intro x2 x3 x4 σ h
      unfold f_X10_worthOf_121 at h
      refine V_iload_n C (dt_at dt_X10_worthOf_1 26 rfl) 2 rfl rfl ?_
      refine V_iconst C 2 (dt_at dt_X10_worthOf_1 27 rfl) (by decide) ?_
      refine V_icmp_lt C 156 (dt_at dt_X10_worthOf_1 28 rfl) (by decide) (fun q18 => ?_) (fun q18 => ?_)
      · have h := ite_t q18 h
        refine V_sub [0, 1, 2, 3] (lv' := [(0, .ref (ga G 3)), (1, .ref (ga G c1)), (2, .int x2), (3, .int x3)]) rfl ?_
        exact J_156 x2 x3 σ h
      · have h := ite_f q18 h
        refine V_iinc C (x2 + (-1)) 2 [1, 2, 0, 3, 4] (lv' := [(0, .ref (ga G 3)), (1, .ref (ga G c1)), (2, .int (x2 + (-1))), (3, .int x3), (4, .int x4)]) (dt_at dt_X10_worthOf_1 29 rfl) rfl (by rfl) (by decide) rfl ?_
        refine V_aload_n C (dt_at dt_X10_worthOf_1 30 rfl) 0 rfl rfl ?_
        refine g_X10_15_3 C (dt_at dt_X10_worthOf_1 31 rfl) ?_
        refine V_iload_n C (dt_at dt_X10_worthOf_1 32 rfl) 2 rfl rfl ?_
        refine V_iconst C 1 (dt_at dt_X10_worthOf_1 33 rfl) (by decide) ?_
        refine V_isub C (dt_at dt_X10_worthOf_1 34 rfl) ?_
        refine V_iload C (dt_at dt_X10_worthOf_1 35 rfl) 4 rfl ?_
        refine V_aload_n C (dt_at dt_X10_worthOf_1 36 rfl) 0 rfl rfl ?_
        refine g_X10_15_3 C (dt_at dt_X10_worthOf_1 37 rfl) ?_
        refine V_iload_n C (dt_at dt_X10_worthOf_1 38 rfl) 2 rfl rfl ?_
        refine V_iconst C 1 (dt_at dt_X10_worthOf_1 39 rfl) (by decide) ?_
        refine V_isub C (dt_at dt_X10_worthOf_2 0 rfl) ?_
        obtain ⟨h19, h⟩ := chk_s h
        refine al_31 C h19 (dt_at dt_X10_worthOf_2 1 rfl) ?_
        refine V_aload_n C (dt_at dt_X10_worthOf_2 2 rfl) 0 rfl rfl ?_
        refine g_X10_15_3 C (dt_at dt_X10_worthOf_2 3 rfl) ?_
        refine V_iload_n C (dt_at dt_X10_worthOf_2 4 rfl) 2 rfl rfl ?_
        obtain ⟨h20, h⟩ := chk_s h
        refine al_31 C h20 (dt_at dt_X10_worthOf_2 5 rfl) ?_
        obtain ⟨r21, e22, h⟩ := bd_s h
        refine cv_X10_joined C ww_36 x4 (rd σ 31 ((x2 + (-1)) - 1)) (rd σ 31 (x2 + (-1))) e22 (Nat.le_of_ble_eq_true rfl) (Nat.le_of_ble_eq_true rfl) z0 (dt_at dt_X10_worthOf_2 6 rfl) ?_
        obtain ⟨σ24, eσ24, h⟩ := nm_s h
        refine V_st eσ24 ?_ (fun k => as_31 C h19 (dt_at dt_X10_worthOf_2 7 rfl) k)
        refine V_sub [0, 1, 2, 3] (lv' := [(0, .ref (ga G 3)), (1, .ref (ga G c1)), (2, .int (x2 + (-1))), (3, .int x3)]) rfl ?_
        exact J_156 (x2 + (-1)) x3 σ24 h
    have J_117 : ∀ (x2 : Int32) (x3 : Int32) (s0 : Int32) (s1 : Int32) (σ : St), f_X10_worthOf_117 c1 x2 x3 s0 s1 σ = some w_4 → V X G 5 0 0 σ 117 [(0, .ref (ga G 3)), (1, .ref (ga G c1)), (2, .int x2), (3, .int x3)] [.int s0, .int s1, .ref (ga G 31)] := by
      intro x2 x3 s0 s1 σ h
      unfold f_X10_worthOf_117 at h
      obtain ⟨h17, h⟩ := chk_s h
      obtain ⟨σ16, eσ16, h⟩ := nm_s h
      refine V_st eσ16 ?_ (fun k => as_31 C h17 (dt_at dt_X10_worthOf_1 24 rfl) k)
      refine V_goto C 156 (dt_at dt_X10_worthOf_1 25 rfl) (by decide) ?_
      exact J_156 x2 x3 σ16 h
    have J_82 : ∀ (x2 : Int32) (x3 : Int32) (x4 : Int32) (σ : St), f_X10_worthOf_82 c1 x2 x3 x4 σ = some w_4 → V X G 5 0 0 σ 82 [(0, .ref (ga G 3)), (1, .ref (ga G c1)), (2, .int x2), (3, .int x3), (4, .int x4)] [] := by
      intro x2 x3 x4 σ h
      unfold f_X10_worthOf_82 at h
      refine V_iload C (dt_at dt_X10_worthOf_1 3 rfl) 4 rfl ?_
      refine V_bipush C 33 (dt_at dt_X10_worthOf_1 4 rfl) (by decide) ?_
      refine V_icmp_ne C 121 (dt_at dt_X10_worthOf_1 5 rfl) (by decide) (fun q12 => ?_) (fun q12 => ?_)
      · have h := ite_f q12 h
        exact J_121 x2 x3 x4 σ h
      · have h := ite_t q12 h
        refine V_iload_n C (dt_at dt_X10_worthOf_1 6 rfl) 2 rfl rfl ?_
        refine V_iconst C 1 (dt_at dt_X10_worthOf_1 7 rfl) (by decide) ?_
        refine V_icmp_lt C 121 (dt_at dt_X10_worthOf_1 8 rfl) (by decide) (fun q13 => ?_) (fun q13 => ?_)
        · have h := ite_t q13 h
          exact J_121 x2 x3 x4 σ h
        · have h := ite_f q13 h
          refine V_aload_n C (dt_at dt_X10_worthOf_1 9 rfl) 0 rfl rfl ?_
          refine g_X10_15_3 C (dt_at dt_X10_worthOf_1 10 rfl) ?_
          refine V_iload_n C (dt_at dt_X10_worthOf_1 11 rfl) 2 rfl rfl ?_
          refine V_iconst C 1 (dt_at dt_X10_worthOf_1 12 rfl) (by decide) ?_
          refine V_isub C (dt_at dt_X10_worthOf_1 13 rfl) ?_
          refine V_aload_n C (dt_at dt_X10_worthOf_1 14 rfl) 0 rfl rfl ?_
          refine g_X10_15_3 C (dt_at dt_X10_worthOf_1 15 rfl) ?_
          refine V_iload_n C (dt_at dt_X10_worthOf_1 16 rfl) 2 rfl rfl ?_
          refine V_iconst C 1 (dt_at dt_X10_worthOf_1 17 rfl) (by decide) ?_
          refine V_isub C (dt_at dt_X10_worthOf_1 18 rfl) ?_
          obtain ⟨h14, h⟩ := chk_s h
          refine al_31 C h14 (dt_at dt_X10_worthOf_1 19 rfl) ?_
          refine V_if_ne C 116 (dt_at dt_X10_worthOf_1 20 rfl) (by decide) (fun q15 => ?_) (fun q15 => ?_)
          · have h := ite_f q15 h
            refine V_iconst C 0 (dt_at dt_X10_worthOf_1 23 rfl) (by decide) ?_
            refine V_sub [0, 1, 2, 3] (lv' := [(0, .ref (ga G 3)), (1, .ref (ga G c1)), (2, .int x2), (3, .int x3)]) rfl ?_
            exact J_117 x2 x3 0 (x2 - 1) σ h
          · have h := ite_t q15 h
            refine V_iconst C 1 (dt_at dt_X10_worthOf_1 21 rfl) (by decide) ?_
            refine V_goto C 117 (dt_at dt_X10_worthOf_1 22 rfl) (by decide) ?_
            refine V_sub [0, 1, 2, 3] (lv' := [(0, .ref (ga G 3)), (1, .ref (ga G c1)), (2, .int x2), (3, .int x3)]) rfl ?_
            exact J_117 x2 x3 1 (x2 - 1) σ h
    refine V_iload_n C (dt_at dt_X10_worthOf_0 4 rfl) 3 rfl rfl ?_
    refine V_aload_n C (dt_at dt_X10_worthOf_0 5 rfl) 1 rfl rfl ?_
    refine gw_X10_41 C (K := c1) hc_c1 (dt_at dt_X10_worthOf_0 6 rfl) ?_
    refine V_icmp_ge C 162 (dt_at dt_X10_worthOf_0 7 rfl) (by decide) (fun q1 => ?_) (fun q1 => ?_)
    · have h := ite_f q1 h
      refine V_sub [0] (lv' := [(0, .ref (ga G 3))]) rfl ?_
      obtain ⟨t2, h, e_4⟩ := map_s h
      have e_4 := ex_4 _ e_4
      rw [e_4] at h
      exact J_162 σ h
    · have h := ite_t q1 h
      refine V_aload_n C (dt_at dt_X10_worthOf_0 8 rfl) 1 rfl rfl ?_
      refine gw_X10_100 C (K := c1) hc_c1 (dt_at dt_X10_worthOf_0 9 rfl) ?_
      refine V_iload_n C (dt_at dt_X10_worthOf_0 10 rfl) 3 rfl rfl ?_
      obtain ⟨h3, h⟩ := chk_s h
      refine V_iald C (K := c1 + 1) (isRowA_lt hc_c1) (lay_rowA G hc_c1 (_) _) h3 (dt_at dt_X10_worthOf_0 11 rfl) ?_
      refine V_istore C [1, 2, 3, 4, 0] (lv' := [(0, .ref (ga G 3)), (1, .ref (ga G c1)), (2, .int x2), (3, .int x3), (4, .int (rd σ (c1 + 1) x3))]) (dt_at dt_X10_worthOf_0 12 rfl) (by decide) rfl ?_
      refine V_iload C (dt_at dt_X10_worthOf_0 13 rfl) 4 rfl ?_
      refine V_sipush C 256 (dt_at dt_X10_worthOf_0 14 rfl) (by decide) ?_
      refine V_icmp_lt C 46 (dt_at dt_X10_worthOf_0 15 rfl) (by decide) (fun q4 => ?_) (fun q4 => ?_)
      · have h := ite_t q4 h
        refine V_iload C (dt_at dt_X10_worthOf_0 25 rfl) 4 rfl ?_
        refine V_bipush C 97 (dt_at dt_X10_worthOf_0 26 rfl) (by decide) ?_
        refine V_icmp_lt C 82 (dt_at dt_X10_worthOf_0 27 rfl) (by decide) (fun q5 => ?_) (fun q5 => ?_)
        · have h := ite_t q5 h
          exact J_82 x2 x3 (rd σ (c1 + 1) x3) σ h
        · have h := ite_f q5 h
          refine V_iload C (dt_at dt_X10_worthOf_0 28 rfl) 4 rfl ?_
          refine V_bipush C 122 (dt_at dt_X10_worthOf_0 29 rfl) (by decide) ?_
          refine V_icmp_gt C 82 (dt_at dt_X10_worthOf_0 30 rfl) (by decide) (fun q6 => ?_) (fun q6 => ?_)
          · have h := ite_t q6 h
            exact J_82 x2 x3 (rd σ (c1 + 1) x3) σ h
          · have h := ite_f q6 h
            refine V_aload_n C (dt_at dt_X10_worthOf_0 31 rfl) 0 rfl rfl ?_
            refine g_X10_15_3 C (dt_at dt_X10_worthOf_0 32 rfl) ?_
            refine V_iload_n C (dt_at dt_X10_worthOf_0 33 rfl) 2 rfl rfl ?_
            refine V_aload_n C (dt_at dt_X10_worthOf_0 34 rfl) 0 rfl rfl ?_
            refine g_X10_9_3 C (dt_at dt_X10_worthOf_0 35 rfl) ?_
            refine V_iload C (dt_at dt_X10_worthOf_0 36 rfl) 4 rfl ?_
            refine V_bipush C 97 (dt_at dt_X10_worthOf_0 37 rfl) (by decide) ?_
            refine V_isub C (dt_at dt_X10_worthOf_0 38 rfl) ?_
            obtain ⟨h7, h⟩ := chk_s h
            refine al_30 C h7 (dt_at dt_X10_worthOf_0 39 rfl) ?_
            obtain ⟨h9, h⟩ := chk_s h
            obtain ⟨σ8, eσ8, h⟩ := nm_s h
            refine V_st eσ8 ?_ (fun k => as_31 C h9 (dt_at dt_X10_worthOf_1 0 rfl) k)
            refine V_iinc C (x2 + 1) 2 [1, 2, 0, 3, 4] (lv' := [(0, .ref (ga G 3)), (1, .ref (ga G c1)), (2, .int (x2 + 1)), (3, .int x3), (4, .int (rd σ (c1 + 1) x3))]) (dt_at dt_X10_worthOf_1 1 rfl) rfl (by rfl) (by decide) rfl ?_
            refine V_goto C 156 (dt_at dt_X10_worthOf_1 2 rfl) (by decide) ?_
            refine V_sub [0, 1, 2, 3] (lv' := [(0, .ref (ga G 3)), (1, .ref (ga G c1)), (2, .int (x2 + 1)), (3, .int x3)]) rfl ?_
            exact J_156 (x2 + 1) x3 σ8 h
      · have h := ite_f q4 h
        refine V_aload_n C (dt_at dt_X10_worthOf_0 16 rfl) 0 rfl rfl ?_
        refine g_X10_15_3 C (dt_at dt_X10_worthOf_0 17 rfl) ?_
        refine V_iload_n C (dt_at dt_X10_worthOf_0 18 rfl) 2 rfl rfl ?_
        refine V_iload C (dt_at dt_X10_worthOf_0 19 rfl) 4 rfl ?_
        refine V_sipush C 256 (dt_at dt_X10_worthOf_0 20 rfl) (by decide) ?_
        refine V_isub C (dt_at dt_X10_worthOf_0 21 rfl) ?_
        obtain ⟨h11, h⟩ := chk_s h
        obtain ⟨σ10, eσ10, h⟩ := nm_s h
        refine V_st eσ10 ?_ (fun k => as_31 C h11 (dt_at dt_X10_worthOf_0 22 rfl) k)
        refine V_iinc C (x2 + 1) 2 [1, 2, 0, 3, 4] (lv' := [(0, .ref (ga G 3)), (1, .ref (ga G c1)), (2, .int (x2 + 1)), (3, .int x3), (4, .int (rd σ (c1 + 1) x3))]) (dt_at dt_X10_worthOf_0 23 rfl) rfl (by rfl) (by decide) rfl ?_
        refine V_goto C 156 (dt_at dt_X10_worthOf_0 24 rfl) (by decide) ?_
        refine V_sub [0, 1, 2, 3] (lv' := [(0, .ref (ga G 3)), (1, .ref (ga G c1)), (2, .int (x2 + 1)), (3, .int x3)]) rfl ?_
        exact J_156 (x2 + 1) x3 σ10 h
  refine V_iconst C 0 (dt_at dt_X10_worthOf_0 0 rfl) (by decide) ?_
  refine V_istore_n C [1, 2, 0] (lv' := [(0, .ref (ga G 3)), (1, .ref (ga G c1)), (2, .int 0)]) (dt_at dt_X10_worthOf_0 1 rfl) rfl (by decide) rfl ?_
  refine V_iconst C 0 (dt_at dt_X10_worthOf_0 2 rfl) (by decide) ?_
  refine V_istore_n C [1, 2, 3, 0] (lv' := [(0, .ref (ga G 3)), (1, .ref (ga G c1)), (2, .int 0), (3, .int 0)]) (dt_at dt_X10_worthOf_0 3 rfl) rfl (by decide) rfl ?_
  exact J_4 0 0 σ h
theorem cv_X10_worthOf (C : Ck X G cc own nL d) {idx : Nat} (hlk : Cond.methodLink own idx yX10_worthOf ∈ gtb) (c1 : Nat) {r0 : Int32} {σ0 : St} (e : f_X10_worthOf c1 σ = some (r0, σ0)) (hdd : 3 ≤ d) (hroom : (rest.map fun v => v.category).sum ≤ 8) (hcs : cells ≤ (xR X).cells ∧ slots ≤ (xR X).slots) (hd : decode cc pc = .ok (.invokevirtual idx, 3)) (k : V X G nL cells slots σ0 (pc + 3) lv (.int r0 :: rest)) : V X G nL cells slots σ pc lv (.ref (ga G c1) :: .ref (ga G 3) :: rest) := V_callV C (As := [.ref (ga G c1)]) (c_X10_worthOf X.2.1 G c1 σ r0 σ0 e) cal_X10_worthOf ww_38 ww_39 hlk rfl hdd (lt110 rfl) rfl rfl rfl hroom hcs hd k
theorem dt_X10_held_0 : dtab cX10_held [(0, .iconst 0, 1), (1, .iload_n 1, 1), (2, .iload_n 0, 1), (3, .invokestatic 94, 3), (6, .invokestatic 97, 3), (9, .ireturn, 1)] = true := by decide +kernel
theorem cal_X10_held : Cal yX10_held cX10_held 2 (some .int) 2 := ⟨ww_42, ww_24, ⟨by decide, by decide, by decide⟩, by decide⟩
set_option maxHeartbeats 4000000 in
set_option maxRecDepth 100000 in
theorem c_X10_held (l : Launch) (G : Gx) (x0 : Int32) (x1 : Int32) (σ : St) (r0 : Int32) (h : f_X10_held x0 x1 = some r0) : MI l G yX10_held cX10_held 2 (some .int) 1 [.int x0, .int x1] σ (some (.int r0)) σ := by
  refine MI_of RX10 rfl (by decide) [(0, .int x0), (1, .int x1)] rfl (Nat.le_of_ble_eq_true rfl) ?_
  intro X hXl C hR
  unfold f_X10_held at h
  refine V_iconst C 0 (dt_at dt_X10_held_0 0 rfl) (by decide) ?_
  refine V_iload_n C (dt_at dt_X10_held_0 1 rfl) 1 rfl rfl ?_
  refine V_iload_n C (dt_at dt_X10_held_0 2 rfl) 0 rfl rfl ?_
  refine V_min C ww_40 w_min (Nat.le_of_ble_eq_true rfl) (Nat.le_of_ble_eq_true rfl) z0 (dt_at dt_X10_held_0 3 rfl) ?_
  refine V_max C ww_41 w_max (Nat.le_of_ble_eq_true rfl) (Nat.le_of_ble_eq_true rfl) z0 (dt_at dt_X10_held_0 4 rfl) ?_
  have e1_ := Option.some.inj h
  subst e1_
  exact V_iret C hR (dt_at dt_X10_held_0 5 rfl)
theorem cv_X10_held (C : Ck X G cc own nL d) {idx : Nat} (hlk : Cond.methodLink own idx yX10_held ∈ gtb) (x0 : Int32) (x1 : Int32) {r0 : Int32} (e : f_X10_held x0 x1 = some r0) (hdd : 2 ≤ d) (hroom : (rest.map fun v => v.category).sum ≤ 8) (hcs : cells ≤ (xR X).cells ∧ slots ≤ (xR X).slots) (hd : decode cc pc = .ok (.invokestatic idx, 3)) (k : V X G nL cells slots σ (pc + 3) lv (.int r0 :: rest)) : V X G nL cells slots σ pc lv (.int x1 :: .int x0 :: rest) := V_callS C (As := [.int x0, .int x1]) (c_X10_held X.2.1 G x0 x1 σ r0 e) cal_X10_held ww_43 hlk rfl hdd rfl hroom hcs hd k
theorem dt_X10_changeOf_0 : dtab cX10_changeOf [(0, .aload_n 0, 1), (1, .getfield 31, 3), (4, .getfield 35, 3), (7, .iconst 1, 1), (8, .aaload, 1), (9, .astore 4, 2), (11, .aload_n 0, 1), (12, .getfield 31, 3), (15, .getfield 49, 3), (18, .iload_n 1, 1), (19, .aaload, 1), (20, .astore 5, 2), (22, .aload_n 0, 1), (23, .getfield 31, 3), (26, .getfield 49, 3), (29, .iload_n 2, 1), (30, .aaload, 1), (31, .astore 6, 2), (33, .aload 4, 2), (35, .getfield 41, 3), (38, .ifCond .ne 20, 3), (41, .iconst 2, 1), (42, .aload 5, 2), (44, .getfield 78, 3), (47, .aload 6, 2), (49, .getfield 78, 3), (52, .isub, 1), (53, .invokestatic 81, 3), (56, .iadd, 1), (57, .ireturn, 1), (58, .aload_n 0, 1), (59, .bipush 119, 2), (61, .aload 5, 2), (63, .getfield 78, 3), (66, .invokevirtual 70, 3), (69, .aload_n 0, 1), (70, .bipush 118, 2), (72, .aload 6, 2), (74, .getfield 78, 3), (77, .invokevirtual 70, 3)] = true := by decide +kernel
theorem dt_X10_changeOf_1 : dtab cX10_changeOf [(80, .aload_n 0, 1), (81, .bipush 107, 2), (83, .aload 5, 2), (85, .getfield 86, 3), (88, .invokevirtual 70, 3), (91, .aload_n 0, 1), (92, .bipush 113, 2), (94, .aload 6, 2), (96, .getfield 86, 3), (99, .invokevirtual 70, 3), (102, .aload_n 0, 1), (103, .bipush 115, 2), (105, .iload_n 3, 1), (106, .invokevirtual 70, 3), (109, .aload_n 0, 1), (110, .aload 4, 2), (112, .invokevirtual 62, 3), (115, .bipush 99, 2), (117, .invokestatic 74, 3), (120, .ireturn, 1)] = true := by decide +kernel
theorem cal_X10_changeOf : Cal yX10_changeOf cX10_changeOf 7 (some .int) 3 := ⟨ww_50, ww_24, ⟨by decide, by decide, by decide⟩, by decide⟩
set_option maxHeartbeats 4000000 in
set_option maxRecDepth 100000 in
theorem c_X10_changeOf (l : Launch) (G : Gx) (x1 : Int32) (x2 : Int32) (x3 : Int32) (σ : St) (r0 : Int32) (σ0 : St) (h : f_X10_changeOf x1 x2 x3 σ = some (r0, σ0)) : MI l G yX10_changeOf cX10_changeOf 7 (some .int) 3 [.ref (ga G 3), .int x1, .int x2, .int x3] σ (some (.int r0)) σ0 := by
  refine MI_of RX10 rfl (by decide) [(0, .ref (ga G 3)), (1, .int x1), (2, .int x2), (3, .int x3)] rfl (Nat.le_of_ble_eq_true rfl) ?_
  intro X hXl C hR
  unfold f_X10_changeOf at h
  refine V_aload_n C (dt_at dt_X10_changeOf_0 0 rfl) 0 rfl rfl ?_
  refine g_X10_31_3 C (dt_at dt_X10_changeOf_0 1 rfl) ?_
  refine g_X10_35_1 C (dt_at dt_X10_changeOf_0 2 rfl) ?_
  refine V_iconst C 1 (dt_at dt_X10_changeOf_0 3 rfl) (by decide) ?_
  refine V_aa19_1 C (dt_at dt_X10_changeOf_0 4 rfl) ?_
  refine V_astore C [1, 2, 3, 4, 0] (lv' := [(0, .ref (ga G 3)), (1, .int x1), (2, .int x2), (3, .int x3), (4, .ref (ga G 58))]) (dt_at dt_X10_changeOf_0 5 rfl) (by decide) rfl ?_
  refine V_aload_n C (dt_at dt_X10_changeOf_0 6 rfl) 0 rfl rfl ?_
  refine g_X10_31_3 C (dt_at dt_X10_changeOf_0 7 rfl) ?_
  refine g_X10_49_1 C (dt_at dt_X10_changeOf_0 8 rfl) ?_
  refine V_iload_n C (dt_at dt_X10_changeOf_0 9 rfl) 1 rfl rfl ?_
  obtain ⟨h1, h⟩ := chk_s h
  obtain ⟨h2, h⟩ := chk_s h
  refine V_aaR10 C h1 h2 (dt_at dt_X10_changeOf_0 10 rfl) ?_
  refine V_astore C [1, 2, 3, 4, 5, 0] (lv' := [(0, .ref (ga G 3)), (1, .int x1), (2, .int x2), (3, .int x3), (4, .ref (ga G 58)), (5, .ref (ga G ((rd σ 10 x1).toNatClampNeg)))]) (dt_at dt_X10_changeOf_0 11 rfl) (by decide) rfl ?_
  refine V_aload_n C (dt_at dt_X10_changeOf_0 12 rfl) 0 rfl rfl ?_
  refine g_X10_31_3 C (dt_at dt_X10_changeOf_0 13 rfl) ?_
  refine g_X10_49_1 C (dt_at dt_X10_changeOf_0 14 rfl) ?_
  refine V_iload_n C (dt_at dt_X10_changeOf_0 15 rfl) 2 rfl rfl ?_
  obtain ⟨h3, h⟩ := chk_s h
  obtain ⟨h4, h⟩ := chk_s h
  refine V_aaR10 C h3 h4 (dt_at dt_X10_changeOf_0 16 rfl) ?_
  refine V_astore C [1, 2, 3, 4, 5, 6, 0] (lv' := [(0, .ref (ga G 3)), (1, .int x1), (2, .int x2), (3, .int x3), (4, .ref (ga G 58)), (5, .ref (ga G ((rd σ 10 x1).toNatClampNeg))), (6, .ref (ga G ((rd σ 10 x2).toNatClampNeg)))]) (dt_at dt_X10_changeOf_0 17 rfl) (by decide) rfl ?_
  refine V_aload C (dt_at dt_X10_changeOf_0 18 rfl) 4 rfl ?_
  refine g_X10_41_58 C (dt_at dt_X10_changeOf_0 19 rfl) ?_
  refine V_if_ne C 58 (dt_at dt_X10_changeOf_0 20 rfl) (by decide) (fun q5 => ?_) (fun q5 => ?_)
  · have h := ite_f q5 h
    refine V_aload_n C (dt_at dt_X10_changeOf_0 30 rfl) 0 rfl rfl ?_
    refine V_bipush C 119 (dt_at dt_X10_changeOf_0 31 rfl) (by decide) ?_
    refine V_aload C (dt_at dt_X10_changeOf_0 32 rfl) 5 rfl ?_
    refine gr_X10_78 C (K := (rd σ 10 x1).toNatClampNeg) h2 (dt_at dt_X10_changeOf_0 33 rfl) ?_
    obtain ⟨σ8, e7, h⟩ := bd_s h
    refine cv_X10_name C ww_46 119 (fd σ ((rd σ 10 x1).toNatClampNeg) 4) e7 (Nat.le_of_ble_eq_true rfl) (Nat.le_of_ble_eq_true rfl) z0 (dt_at dt_X10_changeOf_0 34 rfl) ?_
    refine V_aload_n C (dt_at dt_X10_changeOf_0 35 rfl) 0 rfl rfl ?_
    refine V_bipush C 118 (dt_at dt_X10_changeOf_0 36 rfl) (by decide) ?_
    refine V_aload C (dt_at dt_X10_changeOf_0 37 rfl) 6 rfl ?_
    obtain ⟨h9, h⟩ := chk_s h
    refine gr_X10_78 C (K := (rd σ 10 x2).toNatClampNeg) h9 (dt_at dt_X10_changeOf_0 38 rfl) ?_
    obtain ⟨σ12, e11, h⟩ := bd_s h
    refine cv_X10_name C ww_46 118 (fd σ8 ((rd σ 10 x2).toNatClampNeg) 4) e11 (Nat.le_of_ble_eq_true rfl) (Nat.le_of_ble_eq_true rfl) z0 (dt_at dt_X10_changeOf_0 39 rfl) ?_
    refine V_aload_n C (dt_at dt_X10_changeOf_1 0 rfl) 0 rfl rfl ?_
    refine V_bipush C 107 (dt_at dt_X10_changeOf_1 1 rfl) (by decide) ?_
    refine V_aload C (dt_at dt_X10_changeOf_1 2 rfl) 5 rfl ?_
    obtain ⟨h13, h⟩ := chk_s h
    refine gr_X10_86 C (K := (rd σ 10 x1).toNatClampNeg) h13 (dt_at dt_X10_changeOf_1 3 rfl) ?_
    obtain ⟨σ16, e15, h⟩ := bd_s h
    refine cv_X10_name C ww_46 107 (fd σ12 ((rd σ 10 x1).toNatClampNeg) 1) e15 (Nat.le_of_ble_eq_true rfl) (Nat.le_of_ble_eq_true rfl) z0 (dt_at dt_X10_changeOf_1 4 rfl) ?_
    refine V_aload_n C (dt_at dt_X10_changeOf_1 5 rfl) 0 rfl rfl ?_
    refine V_bipush C 113 (dt_at dt_X10_changeOf_1 6 rfl) (by decide) ?_
    refine V_aload C (dt_at dt_X10_changeOf_1 7 rfl) 6 rfl ?_
    obtain ⟨h17, h⟩ := chk_s h
    refine gr_X10_86 C (K := (rd σ 10 x2).toNatClampNeg) h17 (dt_at dt_X10_changeOf_1 8 rfl) ?_
    obtain ⟨σ20, e19, h⟩ := bd_s h
    refine cv_X10_name C ww_46 113 (fd σ16 ((rd σ 10 x2).toNatClampNeg) 1) e19 (Nat.le_of_ble_eq_true rfl) (Nat.le_of_ble_eq_true rfl) z0 (dt_at dt_X10_changeOf_1 9 rfl) ?_
    refine V_aload_n C (dt_at dt_X10_changeOf_1 10 rfl) 0 rfl rfl ?_
    refine V_bipush C 115 (dt_at dt_X10_changeOf_1 11 rfl) (by decide) ?_
    refine V_iload_n C (dt_at dt_X10_changeOf_1 12 rfl) 3 rfl rfl ?_
    obtain ⟨σ23, e22, h⟩ := bd_s h
    refine cv_X10_name C ww_46 115 x3 e22 (Nat.le_of_ble_eq_true rfl) (Nat.le_of_ble_eq_true rfl) z0 (dt_at dt_X10_changeOf_1 13 rfl) ?_
    refine V_aload_n C (dt_at dt_X10_changeOf_1 14 rfl) 0 rfl rfl ?_
    refine V_aload C (dt_at dt_X10_changeOf_1 15 rfl) 4 rfl ?_
    obtain ⟨r24, σ26, e25, h⟩ := bd2_s h
    refine cv_X10_worthOf C ww_47 58 e25 (Nat.le_of_ble_eq_true rfl) (Nat.le_of_ble_eq_true rfl) z0 (dt_at dt_X10_changeOf_1 16 rfl) ?_
    refine V_bipush C 99 (dt_at dt_X10_changeOf_1 17 rfl) (by decide) ?_
    obtain ⟨r27, e28, h⟩ := bd_s h
    refine cv_X10_held C ww_48 r24 99 e28 (Nat.le_of_ble_eq_true rfl) (Nat.le_of_ble_eq_true rfl) z0 (dt_at dt_X10_changeOf_1 18 rfl) ?_
    obtain ⟨e1_, e2_⟩ := pin2 h
    subst e1_; subst e2_
    exact V_iret C hR (dt_at dt_X10_changeOf_1 19 rfl)
  · have h := ite_t q5 h
    refine V_iconst C 2 (dt_at dt_X10_changeOf_0 21 rfl) (by decide) ?_
    refine V_aload C (dt_at dt_X10_changeOf_0 22 rfl) 5 rfl ?_
    refine gr_X10_78 C (K := (rd σ 10 x1).toNatClampNeg) h2 (dt_at dt_X10_changeOf_0 23 rfl) ?_
    refine V_aload C (dt_at dt_X10_changeOf_0 24 rfl) 6 rfl ?_
    refine gr_X10_78 C (K := (rd σ 10 x2).toNatClampNeg) h4 (dt_at dt_X10_changeOf_0 25 rfl) ?_
    refine V_isub C (dt_at dt_X10_changeOf_0 26 rfl) ?_
    refine V_abs C ww_49 w_abs (Nat.le_of_ble_eq_true rfl) (Nat.le_of_ble_eq_true rfl) z0 (dt_at dt_X10_changeOf_0 27 rfl) ?_
    refine V_iadd C (dt_at dt_X10_changeOf_0 28 rfl) ?_
    obtain ⟨e1_, e2_⟩ := pin2 h
    subst e1_; subst e2_
    exact V_iret C hR (dt_at dt_X10_changeOf_0 29 rfl)
theorem cv_X10_changeOf (C : Ck X G cc own nL d) {idx : Nat} (hlk : Cond.methodLink own idx yX10_changeOf ∈ gtb) (x1 : Int32) (x2 : Int32) (x3 : Int32) {r0 : Int32} {σ0 : St} (e : f_X10_changeOf x1 x2 x3 σ = some (r0, σ0)) (hdd : 4 ≤ d) (hroom : (rest.map fun v => v.category).sum ≤ 8) (hcs : cells ≤ (xR X).cells ∧ slots ≤ (xR X).slots) (hd : decode cc pc = .ok (.invokevirtual idx, 3)) (k : V X G nL cells slots σ0 (pc + 3) lv (.int r0 :: rest)) : V X G nL cells slots σ pc lv (.int x3 :: .int x2 :: .int x1 :: .ref (ga G 3) :: rest) := V_callV C (As := [.int x1, .int x2, .int x3]) (c_X10_changeOf X.2.1 G x1 x2 x3 σ r0 σ0 e) cal_X10_changeOf ww_51 ww_52 hlk rfl hdd (lt110 rfl) rfl rfl rfl hroom hcs hd k
theorem dt_X10_earlier_0 : dtab cX10_earlier [(0, .iload_n 0, 1), (1, .iconst (-1), 1), (2, .if_icmp .eq 8, 3), (5, .iload_n 1, 1), (6, .iconst (-1), 1), (7, .if_icmp .ne 9, 3), (10, .iload_n 0, 1), (11, .iload_n 1, 1), (12, .invokestatic 97, 3), (15, .ireturn, 1), (16, .iload_n 0, 1), (17, .iload_n 1, 1), (18, .invokestatic 94, 3), (21, .ireturn, 1)] = true := by decide +kernel
theorem cal_X10_earlier : Cal yX10_earlier cX10_earlier 2 (some .int) 2 := ⟨ww_53, ww_24, ⟨by decide, by decide, by decide⟩, by decide⟩
set_option maxHeartbeats 4000000 in
set_option maxRecDepth 100000 in
theorem c_X10_earlier (l : Launch) (G : Gx) (x0 : Int32) (x1 : Int32) (σ : St) (r0 : Int32) (h : f_X10_earlier x0 x1 = some r0) : MI l G yX10_earlier cX10_earlier 2 (some .int) 1 [.int x0, .int x1] σ (some (.int r0)) σ := by
  refine MI_of RX10 rfl (by decide) [(0, .int x0), (1, .int x1)] rfl (Nat.le_of_ble_eq_true rfl) ?_
  intro X hXl C hR
  unfold f_X10_earlier at h
  have J_10 : f_X10_earlier_10 x0 x1 = some r0 → V X G 2 0 0 σ 10 [(0, .int x0), (1, .int x1)] [] := by
    intro  h
    unfold f_X10_earlier_10 at h
    refine V_iload_n C (dt_at dt_X10_earlier_0 6 rfl) 0 rfl rfl ?_
    refine V_iload_n C (dt_at dt_X10_earlier_0 7 rfl) 1 rfl rfl ?_
    refine V_max C ww_41 w_max (Nat.le_of_ble_eq_true rfl) (Nat.le_of_ble_eq_true rfl) z0 (dt_at dt_X10_earlier_0 8 rfl) ?_
    have e1_ := Option.some.inj h
    subst e1_
    exact V_iret C hR (dt_at dt_X10_earlier_0 9 rfl)
  refine V_iload_n C (dt_at dt_X10_earlier_0 0 rfl) 0 rfl rfl ?_
  refine V_iconst C (-1) (dt_at dt_X10_earlier_0 1 rfl) (by decide) ?_
  refine V_icmp_eq C 10 (dt_at dt_X10_earlier_0 2 rfl) (by decide) (fun q1 => ?_) (fun q1 => ?_)
  · have h := ite_t q1 h
    exact J_10  h
  · have h := ite_f q1 h
    refine V_iload_n C (dt_at dt_X10_earlier_0 3 rfl) 1 rfl rfl ?_
    refine V_iconst C (-1) (dt_at dt_X10_earlier_0 4 rfl) (by decide) ?_
    refine V_icmp_ne C 16 (dt_at dt_X10_earlier_0 5 rfl) (by decide) (fun q2 => ?_) (fun q2 => ?_)
    · have h := ite_f q2 h
      refine V_iload_n C (dt_at dt_X10_earlier_0 10 rfl) 0 rfl rfl ?_
      refine V_iload_n C (dt_at dt_X10_earlier_0 11 rfl) 1 rfl rfl ?_
      refine V_min C ww_40 w_min (Nat.le_of_ble_eq_true rfl) (Nat.le_of_ble_eq_true rfl) z0 (dt_at dt_X10_earlier_0 12 rfl) ?_
      have e1_ := Option.some.inj h
      subst e1_
      exact V_iret C hR (dt_at dt_X10_earlier_0 13 rfl)
    · have h := ite_t q2 h
      exact J_10  h
theorem cv_X10_earlier (C : Ck X G cc own nL d) {idx : Nat} (hlk : Cond.methodLink own idx yX10_earlier ∈ gtb) (x0 : Int32) (x1 : Int32) {r0 : Int32} (e : f_X10_earlier x0 x1 = some r0) (hdd : 2 ≤ d) (hroom : (rest.map fun v => v.category).sum ≤ 8) (hcs : cells ≤ (xR X).cells ∧ slots ≤ (xR X).slots) (hd : decode cc pc = .ok (.invokestatic idx, 3)) (k : V X G nL cells slots σ (pc + 3) lv (.int r0 :: rest)) : V X G nL cells slots σ pc lv (.int x1 :: .int x0 :: rest) := V_callS C (As := [.int x0, .int x1]) (c_X10_earlier X.2.1 G x0 x1 σ r0 e) cal_X10_earlier ww_54 hlk rfl hdd rfl hroom hcs hd k
theorem dt_X10_namePlayerAndPart_0 : dtab cX10_namePlayerAndPart [(0, .aload_n 0, 1), (1, .getfield 31, 3), (4, .getfield 49, 3), (7, .iload_n 2, 1), (8, .aaload, 1), (9, .astore_n 3, 1), (10, .aload_n 0, 1), (11, .bipush 103, 2), (13, .aload_n 0, 1), (14, .getfield 31, 3), (17, .getfield 46, 3), (20, .iload_n 1, 1), (21, .iaload, 1), (22, .invokevirtual 70, 3), (25, .aload_n 0, 1), (26, .bipush 97, 2), (28, .aload_n 0, 1), (29, .getfield 31, 3), (32, .getfield 89, 3), (35, .iload_n 1, 1), (36, .iaload, 1), (37, .invokevirtual 70, 3), (40, .aload_n 0, 1), (41, .bipush 110, 2), (43, .aload_n 3, 1), (44, .getfield 53, 3), (47, .invokevirtual 70, 3), (50, .aload_n 0, 1), (51, .bipush 121, 2), (53, .aload_n 3, 1), (54, .getfield 92, 3), (57, .invokevirtual 70, 3), (60, .aload_n 0, 1), (61, .bipush 107, 2), (63, .aload_n 3, 1), (64, .getfield 86, 3), (67, .invokevirtual 70, 3), (70, .return_, 1)] = true := by decide +kernel
theorem cal_X10_namePlayerAndPart : Cal yX10_namePlayerAndPart cX10_namePlayerAndPart 4 none 2 := ⟨ww_59, ww_24, ⟨by decide, by decide, by decide⟩, by decide⟩
set_option maxHeartbeats 4000000 in
set_option maxRecDepth 100000 in
theorem c_X10_namePlayerAndPart (l : Launch) (G : Gx) (x1 : Int32) (x2 : Int32) (σ : St) (σ0 : St) (h : f_X10_namePlayerAndPart x1 x2 σ = some σ0) : MI l G yX10_namePlayerAndPart cX10_namePlayerAndPart 4 none 2 [.ref (ga G 3), .int x1, .int x2] σ none σ0 := by
  refine MI_of RX10 rfl (by decide) [(0, .ref (ga G 3)), (1, .int x1), (2, .int x2)] rfl (Nat.le_of_ble_eq_true rfl) ?_
  intro X hXl C hR
  unfold f_X10_namePlayerAndPart at h
  refine V_aload_n C (dt_at dt_X10_namePlayerAndPart_0 0 rfl) 0 rfl rfl ?_
  refine g_X10_31_3 C (dt_at dt_X10_namePlayerAndPart_0 1 rfl) ?_
  refine g_X10_49_1 C (dt_at dt_X10_namePlayerAndPart_0 2 rfl) ?_
  refine V_iload_n C (dt_at dt_X10_namePlayerAndPart_0 3 rfl) 2 rfl rfl ?_
  obtain ⟨h1, h⟩ := chk_s h
  obtain ⟨h2, h⟩ := chk_s h
  refine V_aaR10 C h1 h2 (dt_at dt_X10_namePlayerAndPart_0 4 rfl) ?_
  refine V_astore_n C [1, 2, 3, 0] (lv' := [(0, .ref (ga G 3)), (1, .int x1), (2, .int x2), (3, .ref (ga G ((rd σ 10 x2).toNatClampNeg)))]) (dt_at dt_X10_namePlayerAndPart_0 5 rfl) rfl (by decide) rfl ?_
  refine V_aload_n C (dt_at dt_X10_namePlayerAndPart_0 6 rfl) 0 rfl rfl ?_
  refine V_bipush C 103 (dt_at dt_X10_namePlayerAndPart_0 7 rfl) (by decide) ?_
  refine V_aload_n C (dt_at dt_X10_namePlayerAndPart_0 8 rfl) 0 rfl rfl ?_
  refine g_X10_31_3 C (dt_at dt_X10_namePlayerAndPart_0 9 rfl) ?_
  refine g_X10_46_1 C (dt_at dt_X10_namePlayerAndPart_0 10 rfl) ?_
  refine V_iload_n C (dt_at dt_X10_namePlayerAndPart_0 11 rfl) 1 rfl rfl ?_
  obtain ⟨h3, h⟩ := chk_s h
  refine al_16 C h3 (dt_at dt_X10_namePlayerAndPart_0 12 rfl) ?_
  obtain ⟨σ6, e5, h⟩ := bd_s h
  refine cv_X10_name C ww_46 103 (rd σ 16 x1) e5 (Nat.le_of_ble_eq_true rfl) (Nat.le_of_ble_eq_true rfl) z0 (dt_at dt_X10_namePlayerAndPart_0 13 rfl) ?_
  refine V_aload_n C (dt_at dt_X10_namePlayerAndPart_0 14 rfl) 0 rfl rfl ?_
  refine V_bipush C 97 (dt_at dt_X10_namePlayerAndPart_0 15 rfl) (by decide) ?_
  refine V_aload_n C (dt_at dt_X10_namePlayerAndPart_0 16 rfl) 0 rfl rfl ?_
  refine g_X10_31_3 C (dt_at dt_X10_namePlayerAndPart_0 17 rfl) ?_
  refine g_X10_89_1 C (dt_at dt_X10_namePlayerAndPart_0 18 rfl) ?_
  refine V_iload_n C (dt_at dt_X10_namePlayerAndPart_0 19 rfl) 1 rfl rfl ?_
  refine al_17 C h3 (dt_at dt_X10_namePlayerAndPart_0 20 rfl) ?_
  obtain ⟨σ9, e8, h⟩ := bd_s h
  refine cv_X10_name C ww_46 97 (rd σ6 17 x1) e8 (Nat.le_of_ble_eq_true rfl) (Nat.le_of_ble_eq_true rfl) z0 (dt_at dt_X10_namePlayerAndPart_0 21 rfl) ?_
  refine V_aload_n C (dt_at dt_X10_namePlayerAndPart_0 22 rfl) 0 rfl rfl ?_
  refine V_bipush C 110 (dt_at dt_X10_namePlayerAndPart_0 23 rfl) (by decide) ?_
  refine V_aload_n C (dt_at dt_X10_namePlayerAndPart_0 24 rfl) 3 rfl rfl ?_
  obtain ⟨h10, h⟩ := chk_s h
  refine gr_X10_53 C (K := (rd σ 10 x2).toNatClampNeg) h10 (dt_at dt_X10_namePlayerAndPart_0 25 rfl) ?_
  obtain ⟨σ13, e12, h⟩ := bd_s h
  refine cv_X10_name C ww_46 110 (fd σ9 ((rd σ 10 x2).toNatClampNeg) 2) e12 (Nat.le_of_ble_eq_true rfl) (Nat.le_of_ble_eq_true rfl) z0 (dt_at dt_X10_namePlayerAndPart_0 26 rfl) ?_
  refine V_aload_n C (dt_at dt_X10_namePlayerAndPart_0 27 rfl) 0 rfl rfl ?_
  refine V_bipush C 121 (dt_at dt_X10_namePlayerAndPart_0 28 rfl) (by decide) ?_
  refine V_aload_n C (dt_at dt_X10_namePlayerAndPart_0 29 rfl) 3 rfl rfl ?_
  obtain ⟨h14, h⟩ := chk_s h
  refine gr_X10_92 C (K := (rd σ 10 x2).toNatClampNeg) h14 (dt_at dt_X10_namePlayerAndPart_0 30 rfl) ?_
  obtain ⟨σ17, e16, h⟩ := bd_s h
  refine cv_X10_name C ww_46 121 (fd σ13 ((rd σ 10 x2).toNatClampNeg) 3) e16 (Nat.le_of_ble_eq_true rfl) (Nat.le_of_ble_eq_true rfl) z0 (dt_at dt_X10_namePlayerAndPart_0 31 rfl) ?_
  refine V_aload_n C (dt_at dt_X10_namePlayerAndPart_0 32 rfl) 0 rfl rfl ?_
  refine V_bipush C 107 (dt_at dt_X10_namePlayerAndPart_0 33 rfl) (by decide) ?_
  refine V_aload_n C (dt_at dt_X10_namePlayerAndPart_0 34 rfl) 3 rfl rfl ?_
  obtain ⟨h18, h⟩ := chk_s h
  refine gr_X10_86 C (K := (rd σ 10 x2).toNatClampNeg) h18 (dt_at dt_X10_namePlayerAndPart_0 35 rfl) ?_
  obtain ⟨σ21, e20, h⟩ := bd_s h
  refine cv_X10_name C ww_46 107 (fd σ17 ((rd σ 10 x2).toNatClampNeg) 1) e20 (Nat.le_of_ble_eq_true rfl) (Nat.le_of_ble_eq_true rfl) z0 (dt_at dt_X10_namePlayerAndPart_0 36 rfl) ?_
  have e1_ := Option.some.inj h
  subst e1_
  exact V_vret C hR (dt_at dt_X10_namePlayerAndPart_0 37 rfl)
theorem cv_X10_namePlayerAndPart (C : Ck X G cc own nL d) {idx : Nat} (hlk : Cond.methodLink own idx yX10_namePlayerAndPart ∈ gtb) (x1 : Int32) (x2 : Int32) {σ0 : St} (e : f_X10_namePlayerAndPart x1 x2 σ = some σ0) (hdd : 3 ≤ d) (hroom : (rest.map fun v => v.category).sum ≤ 8) (hcs : cells ≤ (xR X).cells ∧ slots ≤ (xR X).slots) (hd : decode cc pc = .ok (.invokevirtual idx, 3)) (k : V X G nL cells slots σ0 (pc + 3) lv (rest)) : V X G nL cells slots σ pc lv (.int x2 :: .int x1 :: .ref (ga G 3) :: rest) := V_callV C (As := [.int x1, .int x2]) (c_X10_namePlayerAndPart X.2.1 G x1 x2 σ σ0 e) cal_X10_namePlayerAndPart ww_60 ww_61 hlk rfl hdd (lt110 rfl) rfl rfl rfl hroom hcs hd k
theorem dt_X10_isAble_0 : dtab cX10_isAble [(0, .aload_n 0, 1), (1, .getfield 31, 3), (4, .getfield 35, 3), (7, .iconst 0, 1), (8, .aaload, 1), (9, .astore_n 3, 1), (10, .aload_n 3, 1), (11, .getfield 41, 3), (14, .ifCond .ne 33, 3), (17, .aload_n 0, 1), (18, .getfield 31, 3), (21, .getfield 46, 3), (24, .iload_n 1, 1), (25, .iaload, 1), (26, .aload_n 0, 1), (27, .getfield 31, 3), (30, .getfield 49, 3), (33, .iload_n 2, 1), (34, .aaload, 1), (35, .getfield 53, 3), (38, .if_icmp .lt 7, 3), (41, .iconst 1, 1), (42, .goto 4, 3), (45, .iconst 0, 1), (46, .ireturn, 1), (47, .aload_n 0, 1), (48, .iload_n 1, 1), (49, .iload_n 2, 1), (50, .invokevirtual 58, 3), (53, .aload_n 0, 1), (54, .aload_n 3, 1), (55, .invokevirtual 62, 3), (58, .ifCond .eq 7, 3), (61, .iconst 1, 1), (62, .goto 4, 3), (65, .iconst 0, 1), (66, .ireturn, 1)] = true := by decide +kernel
theorem cal_X10_isAble : Cal yX10_isAble cX10_isAble 4 (some .boolean) 2 := ⟨ww_63, ww_24, ⟨by decide, by decide, by decide⟩, by decide⟩
set_option maxHeartbeats 4000000 in
set_option maxRecDepth 100000 in
theorem c_X10_isAble (l : Launch) (G : Gx) (x1 : Int32) (x2 : Int32) (σ : St) (r0 : Int32) (σ0 : St) (h : f_X10_isAble x1 x2 σ = some (r0, σ0)) : MI l G yX10_isAble cX10_isAble 4 (some .boolean) 3 [.ref (ga G 3), .int x1, .int x2] σ (some (.int r0)) σ0 := by
  refine MI_of RX10 rfl (by decide) [(0, .ref (ga G 3)), (1, .int x1), (2, .int x2)] rfl (Nat.le_of_ble_eq_true rfl) ?_
  intro X hXl C hR
  unfold f_X10_isAble at h
  refine V_aload_n C (dt_at dt_X10_isAble_0 0 rfl) 0 rfl rfl ?_
  refine g_X10_31_3 C (dt_at dt_X10_isAble_0 1 rfl) ?_
  refine g_X10_35_1 C (dt_at dt_X10_isAble_0 2 rfl) ?_
  refine V_iconst C 0 (dt_at dt_X10_isAble_0 3 rfl) (by decide) ?_
  refine V_aa19_0 C (dt_at dt_X10_isAble_0 4 rfl) ?_
  refine V_astore_n C [1, 2, 3, 0] (lv' := [(0, .ref (ga G 3)), (1, .int x1), (2, .int x2), (3, .ref (ga G 56))]) (dt_at dt_X10_isAble_0 5 rfl) rfl (by decide) rfl ?_
  refine V_aload_n C (dt_at dt_X10_isAble_0 6 rfl) 3 rfl rfl ?_
  refine g_X10_41_56 C (dt_at dt_X10_isAble_0 7 rfl) ?_
  refine V_if_ne C 47 (dt_at dt_X10_isAble_0 8 rfl) (by decide) (fun q1 => ?_) (fun q1 => ?_)
  · have h := ite_f q1 h
    refine V_aload_n C (dt_at dt_X10_isAble_0 25 rfl) 0 rfl rfl ?_
    refine V_iload_n C (dt_at dt_X10_isAble_0 26 rfl) 1 rfl rfl ?_
    refine V_iload_n C (dt_at dt_X10_isAble_0 27 rfl) 2 rfl rfl ?_
    obtain ⟨σ4, e3, h⟩ := bd_s h
    refine cv_X10_namePlayerAndPart C ww_62 x1 x2 e3 (Nat.le_of_ble_eq_true rfl) (Nat.le_of_ble_eq_true rfl) z0 (dt_at dt_X10_isAble_0 28 rfl) ?_
    refine V_aload_n C (dt_at dt_X10_isAble_0 29 rfl) 0 rfl rfl ?_
    refine V_aload_n C (dt_at dt_X10_isAble_0 30 rfl) 3 rfl rfl ?_
    obtain ⟨r5, σ7, e6, h⟩ := bd2_s h
    refine cv_X10_worthOf C ww_47 56 e6 (Nat.le_of_ble_eq_true rfl) (Nat.le_of_ble_eq_true rfl) z0 (dt_at dt_X10_isAble_0 31 rfl) ?_
    refine V_if_eq C 65 (dt_at dt_X10_isAble_0 32 rfl) (by decide) (fun q8 => ?_) (fun q8 => ?_)
    · have h := ite_t q8 h
      refine V_iconst C 0 (dt_at dt_X10_isAble_0 35 rfl) (by decide) ?_
      obtain ⟨e1_, e2_⟩ := pin2 h
      subst e1_; subst e2_
      exact V_zret C rfl hR (dt_at dt_X10_isAble_0 36 rfl)
    · have h := ite_f q8 h
      refine V_iconst C 1 (dt_at dt_X10_isAble_0 33 rfl) (by decide) ?_
      refine V_goto C 66 (dt_at dt_X10_isAble_0 34 rfl) (by decide) ?_
      obtain ⟨e1_, e2_⟩ := pin2 h
      subst e1_; subst e2_
      exact V_zret C rfl hR (dt_at dt_X10_isAble_0 36 rfl)
  · have h := ite_t q1 h
    refine V_aload_n C (dt_at dt_X10_isAble_0 9 rfl) 0 rfl rfl ?_
    refine g_X10_31_3 C (dt_at dt_X10_isAble_0 10 rfl) ?_
    refine g_X10_46_1 C (dt_at dt_X10_isAble_0 11 rfl) ?_
    refine V_iload_n C (dt_at dt_X10_isAble_0 12 rfl) 1 rfl rfl ?_
    obtain ⟨h9, h⟩ := chk_s h
    refine al_16 C h9 (dt_at dt_X10_isAble_0 13 rfl) ?_
    refine V_aload_n C (dt_at dt_X10_isAble_0 14 rfl) 0 rfl rfl ?_
    refine g_X10_31_3 C (dt_at dt_X10_isAble_0 15 rfl) ?_
    refine g_X10_49_1 C (dt_at dt_X10_isAble_0 16 rfl) ?_
    refine V_iload_n C (dt_at dt_X10_isAble_0 17 rfl) 2 rfl rfl ?_
    obtain ⟨h10, h⟩ := chk_s h
    obtain ⟨h11, h⟩ := chk_s h
    refine V_aaR10 C h10 h11 (dt_at dt_X10_isAble_0 18 rfl) ?_
    refine gr_X10_53 C (K := (rd σ 10 x2).toNatClampNeg) h11 (dt_at dt_X10_isAble_0 19 rfl) ?_
    refine V_icmp_lt C 45 (dt_at dt_X10_isAble_0 20 rfl) (by decide) (fun q12 => ?_) (fun q12 => ?_)
    · have h := ite_t q12 h
      refine V_iconst C 0 (dt_at dt_X10_isAble_0 23 rfl) (by decide) ?_
      obtain ⟨e1_, e2_⟩ := pin2 h
      subst e1_; subst e2_
      exact V_zret C rfl hR (dt_at dt_X10_isAble_0 24 rfl)
    · have h := ite_f q12 h
      refine V_iconst C 1 (dt_at dt_X10_isAble_0 21 rfl) (by decide) ?_
      refine V_goto C 46 (dt_at dt_X10_isAble_0 22 rfl) (by decide) ?_
      obtain ⟨e1_, e2_⟩ := pin2 h
      subst e1_; subst e2_
      exact V_zret C rfl hR (dt_at dt_X10_isAble_0 24 rfl)
theorem cv_X10_isAble (C : Ck X G cc own nL d) {idx : Nat} (hlk : Cond.methodLink own idx yX10_isAble ∈ gtb) (x1 : Int32) (x2 : Int32) {r0 : Int32} {σ0 : St} (e : f_X10_isAble x1 x2 σ = some (r0, σ0)) (hdd : 4 ≤ d) (hroom : (rest.map fun v => v.category).sum ≤ 8) (hcs : cells ≤ (xR X).cells ∧ slots ≤ (xR X).slots) (hd : decode cc pc = .ok (.invokevirtual idx, 3)) (k : V X G nL cells slots σ0 (pc + 3) lv (.int r0 :: rest)) : V X G nL cells slots σ pc lv (.int x2 :: .int x1 :: .ref (ga G 3) :: rest) := V_callV C (As := [.int x1, .int x2]) (c_X10_isAble X.2.1 G x1 x2 σ r0 σ0 e) cal_X10_isAble ww_64 ww_65 hlk rfl hdd (lt110 rfl) rfl rfl rfl hroom hcs hd k
theorem dt_X10_meetingLine_0 : dtab cX10_meetingLine [(0, .iconst (-1), 1), (1, .istore_n 3, 1), (2, .iconst 0, 1), (3, .istore 4, 2), (5, .iload 4, 2), (7, .aload_n 0, 1), (8, .getfield 31, 3), (11, .getfield 129, 3), (14, .if_icmp .ge 118, 3), (17, .iconst 0, 1), (18, .istore 5, 2), (20, .iload 5, 2), (22, .aload_n 0, 1), (23, .getfield 31, 3), (26, .getfield 129, 3), (29, .if_icmp .ge 97, 3), (32, .aload_n 0, 1), (33, .getfield 31, 3), (36, .getfield 132, 3), (39, .iload 4, 2), (41, .iaload, 1), (42, .iload_n 1, 1), (43, .if_icmp .ne 83, 3), (46, .aload_n 0, 1), (47, .getfield 31, 3), (50, .getfield 135, 3), (53, .iload 4, 2), (55, .iaload, 1), (56, .aload_n 0, 1), (57, .getfield 31, 3), (60, .getfield 135, 3), (63, .iload 5, 2), (65, .iaload, 1), (66, .invokestatic 97, 3), (69, .istore 6, 2), (71, .aload_n 0, 1), (72, .getfield 31, 3), (75, .getfield 132, 3), (78, .iload 5, 2), (80, .iaload, 1)] = true := by decide +kernel
theorem dt_X10_meetingLine_1 : dtab cX10_meetingLine [(81, .iload_n 2, 1), (82, .if_icmp .ne 38, 3), (85, .iload 6, 2), (87, .aload_n 0, 1), (88, .getfield 31, 3), (91, .getfield 138, 3), (94, .iload 4, 2), (96, .iaload, 1), (97, .aload_n 0, 1), (98, .getfield 31, 3), (101, .getfield 138, 3), (104, .iload 5, 2), (106, .iaload, 1), (107, .invokestatic 94, 3), (110, .if_icmp .gt 10, 3), (113, .iload_n 3, 1), (114, .iload 6, 2), (116, .invokestatic 123, 3), (119, .istore_n 3, 1), (120, .iinc 5 1, 3), (123, .goto (-103), 3), (126, .iinc 4 1, 3), (129, .goto (-124), 3), (132, .iload_n 3, 1), (133, .ireturn, 1)] = true := by decide +kernel
theorem cal_X10_meetingLine : Cal yX10_meetingLine cX10_meetingLine 7 (some .int) 2 := ⟨ww_71, ww_24, ⟨by decide, by decide, by decide⟩, by decide⟩
set_option maxHeartbeats 4000000 in
set_option maxRecDepth 100000 in
theorem c_X10_meetingLine (l : Launch) (G : Gx) (x1 : Int32) (x2 : Int32) (σ : St) (r0 : Int32) (h : f_X10_meetingLine x1 x2 σ = some r0) : MI l G yX10_meetingLine cX10_meetingLine 7 (some .int) 2 [.ref (ga G 3), .int x1, .int x2] σ (some (.int r0)) σ := by
  refine MI_of RX10 rfl (by decide) [(0, .ref (ga G 3)), (1, .int x1), (2, .int x2)] rfl (Nat.le_of_ble_eq_true rfl) ?_
  intro X hXl C hR
  unfold f_X10_meetingLine at h
  have J_5 : ∀ (x3 : Int32) (x4 : Int32), f_X10_meetingLine_5 x1 x2 x3 x4 σ = some r0 → V X G 7 0 0 σ 5 [(0, .ref (ga G 3)), (1, .int x1), (2, .int x2), (3, .int x3), (4, .int x4)] [] := by
    intro x3 x4 h
    refine it_v (P := fun z : Int32 × Int32 => V X G 7 0 0 σ 5 [(0, .ref (ga G 3)), (1, .int x1), (2, .int x2), (3, .int z.1), (4, .int z.2)] []) ?_ (x3, x4) h
    clear h
    intro z w_5 h ih_5 ex_5
    obtain ⟨x3, x4⟩ := z
    have h : b_X10_meetingLine_5 x1 x2 x3 x4 σ = some w_5 := h
    show V X G 7 0 0 σ 5 [(0, .ref (ga G 3)), (1, .int x1), (2, .int x2), (3, .int x3), (4, .int x4)] []
    unfold b_X10_meetingLine_5 at h
    have J_126 : ∀ (x3 : Int32) (x4 : Int32), f_X10_meetingLine_126 x1 x2 x3 x4 σ = some w_5 → V X G 7 0 0 σ 126 [(0, .ref (ga G 3)), (1, .int x1), (2, .int x2), (3, .int x3), (4, .int x4)] [] := by
      intro x3 x4 h
      unfold f_X10_meetingLine_126 at h
      refine V_iinc C (x4 + 1) 4 [1, 2, 3, 4, 0] (lv' := [(0, .ref (ga G 3)), (1, .int x1), (2, .int x2), (3, .int x3), (4, .int (x4 + 1))]) (dt_at dt_X10_meetingLine_1 21 rfl) rfl (by rfl) (by decide) rfl ?_
      refine V_goto C 5 (dt_at dt_X10_meetingLine_1 22 rfl) (by decide) ?_
      exact ih_5 (x3, (x4 + 1)) (Option.some.inj h).symm
    have J_20 : ∀ (x3 : Int32) (x4 : Int32) (x5 : Int32), f_X10_meetingLine_20 x1 x2 x3 x4 x5 σ = some w_5 → V X G 7 0 0 σ 20 [(0, .ref (ga G 3)), (1, .int x1), (2, .int x2), (3, .int x3), (4, .int x4), (5, .int x5)] [] := by
      intro x3 x4 x5 h
      refine it_v (P := fun z : Int32 × Int32 => V X G 7 0 0 σ 20 [(0, .ref (ga G 3)), (1, .int x1), (2, .int x2), (3, .int z.1), (4, .int x4), (5, .int z.2)] []) ?_ (x3, x5) h
      clear h
      intro z w_20 h ih_20 ex_20
      obtain ⟨x3, x5⟩ := z
      have h : b_X10_meetingLine_20 x1 x2 x3 x4 x5 σ = some w_20 := h
      show V X G 7 0 0 σ 20 [(0, .ref (ga G 3)), (1, .int x1), (2, .int x2), (3, .int x3), (4, .int x4), (5, .int x5)] []
      unfold b_X10_meetingLine_20 at h
      have J_120 : ∀ (x3 : Int32) (x5 : Int32), f_X10_meetingLine_120 x1 x2 x3 x4 x5 σ = some w_20 → V X G 7 0 0 σ 120 [(0, .ref (ga G 3)), (1, .int x1), (2, .int x2), (3, .int x3), (4, .int x4), (5, .int x5)] [] := by
        intro x3 x5 h
        unfold f_X10_meetingLine_120 at h
        refine V_iinc C (x5 + 1) 5 [1, 2, 3, 4, 5, 0] (lv' := [(0, .ref (ga G 3)), (1, .int x1), (2, .int x2), (3, .int x3), (4, .int x4), (5, .int (x5 + 1))]) (dt_at dt_X10_meetingLine_1 19 rfl) rfl (by rfl) (by decide) rfl ?_
        refine V_goto C 20 (dt_at dt_X10_meetingLine_1 20 rfl) (by decide) ?_
        exact ih_20 (x3, (x5 + 1)) (Option.some.inj h).symm
      refine V_iload C (dt_at dt_X10_meetingLine_0 11 rfl) 5 rfl ?_
      refine V_aload_n C (dt_at dt_X10_meetingLine_0 12 rfl) 0 rfl rfl ?_
      refine g_X10_31_3 C (dt_at dt_X10_meetingLine_0 13 rfl) ?_
      refine g_X10_129_1 C (dt_at dt_X10_meetingLine_0 14 rfl) ?_
      refine V_icmp_ge C 126 (dt_at dt_X10_meetingLine_0 15 rfl) (by decide) (fun q2 => ?_) (fun q2 => ?_)
      · have h := ite_f q2 h
        refine V_sub [0, 1, 2, 3, 4] (lv' := [(0, .ref (ga G 3)), (1, .int x1), (2, .int x2), (3, .int x3), (4, .int x4)]) rfl ?_
        obtain ⟨t3, h, e_20⟩ := map_s h
        have e_20 := ex_20 _ e_20
        rw [e_20] at h
        exact J_126 x3 x4 h
      · have h := ite_t q2 h
        refine V_aload_n C (dt_at dt_X10_meetingLine_0 16 rfl) 0 rfl rfl ?_
        refine g_X10_31_3 C (dt_at dt_X10_meetingLine_0 17 rfl) ?_
        refine g_X10_132_1 C (dt_at dt_X10_meetingLine_0 18 rfl) ?_
        refine V_iload C (dt_at dt_X10_meetingLine_0 19 rfl) 4 rfl ?_
        obtain ⟨h4, h⟩ := chk_s h
        refine al_12 C h4 (dt_at dt_X10_meetingLine_0 20 rfl) ?_
        refine V_iload_n C (dt_at dt_X10_meetingLine_0 21 rfl) 1 rfl rfl ?_
        refine V_icmp_ne C 126 (dt_at dt_X10_meetingLine_0 22 rfl) (by decide) (fun q5 => ?_) (fun q5 => ?_)
        · have h := ite_f q5 h
          refine V_sub [0, 1, 2, 3, 4] (lv' := [(0, .ref (ga G 3)), (1, .int x1), (2, .int x2), (3, .int x3), (4, .int x4)]) rfl ?_
          obtain ⟨t6, h, e_20⟩ := map_s h
          have e_20 := ex_20 _ e_20
          rw [e_20] at h
          exact J_126 x3 x4 h
        · have h := ite_t q5 h
          refine V_aload_n C (dt_at dt_X10_meetingLine_0 23 rfl) 0 rfl rfl ?_
          refine g_X10_31_3 C (dt_at dt_X10_meetingLine_0 24 rfl) ?_
          refine g_X10_135_1 C (dt_at dt_X10_meetingLine_0 25 rfl) ?_
          refine V_iload C (dt_at dt_X10_meetingLine_0 26 rfl) 4 rfl ?_
          refine al_13 C h4 (dt_at dt_X10_meetingLine_0 27 rfl) ?_
          refine V_aload_n C (dt_at dt_X10_meetingLine_0 28 rfl) 0 rfl rfl ?_
          refine g_X10_31_3 C (dt_at dt_X10_meetingLine_0 29 rfl) ?_
          refine g_X10_135_1 C (dt_at dt_X10_meetingLine_0 30 rfl) ?_
          refine V_iload C (dt_at dt_X10_meetingLine_0 31 rfl) 5 rfl ?_
          obtain ⟨h7, h⟩ := chk_s h
          refine al_13 C h7 (dt_at dt_X10_meetingLine_0 32 rfl) ?_
          refine V_max C ww_41 w_max (Nat.le_of_ble_eq_true rfl) (Nat.le_of_ble_eq_true rfl) z0 (dt_at dt_X10_meetingLine_0 33 rfl) ?_
          obtain ⟨y8, ey8, h⟩ := nm_s h
          refine V_nmi ey8 ?_
          refine V_istore C [1, 2, 3, 4, 5, 6, 0] (lv' := [(0, .ref (ga G 3)), (1, .int x1), (2, .int x2), (3, .int x3), (4, .int x4), (5, .int x5), (6, .int y8)]) (dt_at dt_X10_meetingLine_0 34 rfl) (by decide) rfl ?_
          refine V_aload_n C (dt_at dt_X10_meetingLine_0 35 rfl) 0 rfl rfl ?_
          refine g_X10_31_3 C (dt_at dt_X10_meetingLine_0 36 rfl) ?_
          refine g_X10_132_1 C (dt_at dt_X10_meetingLine_0 37 rfl) ?_
          refine V_iload C (dt_at dt_X10_meetingLine_0 38 rfl) 5 rfl ?_
          refine al_12 C h7 (dt_at dt_X10_meetingLine_0 39 rfl) ?_
          refine V_iload_n C (dt_at dt_X10_meetingLine_1 0 rfl) 2 rfl rfl ?_
          refine V_icmp_ne C 120 (dt_at dt_X10_meetingLine_1 1 rfl) (by decide) (fun q9 => ?_) (fun q9 => ?_)
          · have h := ite_f q9 h
            refine V_sub [0, 1, 2, 3, 4, 5] (lv' := [(0, .ref (ga G 3)), (1, .int x1), (2, .int x2), (3, .int x3), (4, .int x4), (5, .int x5)]) rfl ?_
            exact J_120 x3 x5 h
          · have h := ite_t q9 h
            refine V_iload C (dt_at dt_X10_meetingLine_1 2 rfl) 6 rfl ?_
            refine V_aload_n C (dt_at dt_X10_meetingLine_1 3 rfl) 0 rfl rfl ?_
            refine g_X10_31_3 C (dt_at dt_X10_meetingLine_1 4 rfl) ?_
            refine g_X10_138_1 C (dt_at dt_X10_meetingLine_1 5 rfl) ?_
            refine V_iload C (dt_at dt_X10_meetingLine_1 6 rfl) 4 rfl ?_
            refine al_14 C h4 (dt_at dt_X10_meetingLine_1 7 rfl) ?_
            refine V_aload_n C (dt_at dt_X10_meetingLine_1 8 rfl) 0 rfl rfl ?_
            refine g_X10_31_3 C (dt_at dt_X10_meetingLine_1 9 rfl) ?_
            refine g_X10_138_1 C (dt_at dt_X10_meetingLine_1 10 rfl) ?_
            refine V_iload C (dt_at dt_X10_meetingLine_1 11 rfl) 5 rfl ?_
            refine al_14 C h7 (dt_at dt_X10_meetingLine_1 12 rfl) ?_
            refine V_min C ww_40 w_min (Nat.le_of_ble_eq_true rfl) (Nat.le_of_ble_eq_true rfl) z0 (dt_at dt_X10_meetingLine_1 13 rfl) ?_
            refine V_icmp_gt C 120 (dt_at dt_X10_meetingLine_1 14 rfl) (by decide) (fun q10 => ?_) (fun q10 => ?_)
            · have h := ite_t q10 h
              refine V_sub [0, 1, 2, 3, 4, 5] (lv' := [(0, .ref (ga G 3)), (1, .int x1), (2, .int x2), (3, .int x3), (4, .int x4), (5, .int x5)]) rfl ?_
              exact J_120 x3 x5 h
            · have h := ite_f q10 h
              refine V_iload_n C (dt_at dt_X10_meetingLine_1 15 rfl) 3 rfl rfl ?_
              refine V_iload C (dt_at dt_X10_meetingLine_1 16 rfl) 6 rfl ?_
              obtain ⟨r11, e12, h⟩ := bd_s h
              refine cv_X10_earlier C ww_70 x3 y8 e12 (Nat.le_of_ble_eq_true rfl) (Nat.le_of_ble_eq_true rfl) z0 (dt_at dt_X10_meetingLine_1 17 rfl) ?_
              refine V_istore_n C [1, 2, 3, 0, 4, 5, 6] (lv' := [(0, .ref (ga G 3)), (1, .int x1), (2, .int x2), (3, .int r11), (4, .int x4), (5, .int x5), (6, .int y8)]) (dt_at dt_X10_meetingLine_1 18 rfl) rfl (by decide) rfl ?_
              refine V_sub [0, 1, 2, 3, 4, 5] (lv' := [(0, .ref (ga G 3)), (1, .int x1), (2, .int x2), (3, .int r11), (4, .int x4), (5, .int x5)]) rfl ?_
              exact J_120 r11 x5 h
    refine V_iload C (dt_at dt_X10_meetingLine_0 4 rfl) 4 rfl ?_
    refine V_aload_n C (dt_at dt_X10_meetingLine_0 5 rfl) 0 rfl rfl ?_
    refine g_X10_31_3 C (dt_at dt_X10_meetingLine_0 6 rfl) ?_
    refine g_X10_129_1 C (dt_at dt_X10_meetingLine_0 7 rfl) ?_
    refine V_icmp_ge C 132 (dt_at dt_X10_meetingLine_0 8 rfl) (by decide) (fun q1 => ?_) (fun q1 => ?_)
    · have h := ite_f q1 h
      refine V_iload_n C (dt_at dt_X10_meetingLine_1 23 rfl) 3 rfl rfl ?_
      have e_5 := ex_5 _ (Option.some.inj h).symm
      subst e_5
      exact V_iret C hR (dt_at dt_X10_meetingLine_1 24 rfl)
    · have h := ite_t q1 h
      refine V_iconst C 0 (dt_at dt_X10_meetingLine_0 9 rfl) (by decide) ?_
      refine V_istore C [1, 2, 3, 4, 5, 0] (lv' := [(0, .ref (ga G 3)), (1, .int x1), (2, .int x2), (3, .int x3), (4, .int x4), (5, .int 0)]) (dt_at dt_X10_meetingLine_0 10 rfl) (by decide) rfl ?_
      exact J_20 x3 x4 0 h
  refine V_iconst C (-1) (dt_at dt_X10_meetingLine_0 0 rfl) (by decide) ?_
  refine V_istore_n C [1, 2, 3, 0] (lv' := [(0, .ref (ga G 3)), (1, .int x1), (2, .int x2), (3, .int (-1))]) (dt_at dt_X10_meetingLine_0 1 rfl) rfl (by decide) rfl ?_
  refine V_iconst C 0 (dt_at dt_X10_meetingLine_0 2 rfl) (by decide) ?_
  refine V_istore C [1, 2, 3, 4, 0] (lv' := [(0, .ref (ga G 3)), (1, .int x1), (2, .int x2), (3, .int (-1)), (4, .int 0)]) (dt_at dt_X10_meetingLine_0 3 rfl) (by decide) rfl ?_
  exact J_5 (-1) 0 h
theorem cv_X10_meetingLine (C : Ck X G cc own nL d) {idx : Nat} (hlk : Cond.methodLink own idx yX10_meetingLine ∈ gtb) (x1 : Int32) (x2 : Int32) {r0 : Int32} (e : f_X10_meetingLine x1 x2 σ = some r0) (hdd : 3 ≤ d) (hroom : (rest.map fun v => v.category).sum ≤ 8) (hcs : cells ≤ (xR X).cells ∧ slots ≤ (xR X).slots) (hd : decode cc pc = .ok (.invokevirtual idx, 3)) (k : V X G nL cells slots σ (pc + 3) lv (.int r0 :: rest)) : V X G nL cells slots σ pc lv (.int x2 :: .int x1 :: .ref (ga G 3) :: rest) := V_callV C (As := [.int x1, .int x2]) (c_X10_meetingLine X.2.1 G x1 x2 σ r0 e) cal_X10_meetingLine ww_72 ww_73 hlk rfl hdd (lt110 rfl) rfl rfl rfl hroom hcs hd k
theorem dt_X10_shareOf_0 : dtab cX10_shareOf [(0, .aload_n 0, 1), (1, .getfield 31, 3), (4, .getfield 49, 3), (7, .iload_n 1, 1), (8, .aaload, 1), (9, .getfield 86, 3), (12, .iconst 4, 1), (13, .if_icmp .eq 19, 3), (16, .aload_n 0, 1), (17, .getfield 31, 3), (20, .getfield 49, 3), (23, .iload_n 2, 1), (24, .aaload, 1), (25, .getfield 86, 3), (28, .iconst 4, 1), (29, .if_icmp .ne 7, 3), (32, .iconst 2, 1), (33, .goto 4, 3), (36, .iconst 1, 1), (37, .ireturn, 1)] = true := by decide +kernel
theorem cal_X10_shareOf : Cal yX10_shareOf cX10_shareOf 3 (some .int) 2 := ⟨ww_74, ww_24, ⟨by decide, by decide, by decide⟩, by decide⟩
set_option maxHeartbeats 4000000 in
set_option maxRecDepth 100000 in
theorem c_X10_shareOf (l : Launch) (G : Gx) (x1 : Int32) (x2 : Int32) (σ : St) (r0 : Int32) (h : f_X10_shareOf x1 x2 σ = some r0) : MI l G yX10_shareOf cX10_shareOf 3 (some .int) 1 [.ref (ga G 3), .int x1, .int x2] σ (some (.int r0)) σ := by
  refine MI_of RX10 rfl (by decide) [(0, .ref (ga G 3)), (1, .int x1), (2, .int x2)] rfl (Nat.le_of_ble_eq_true rfl) ?_
  intro X hXl C hR
  unfold f_X10_shareOf at h
  have J_32 : f_X10_shareOf_32 σ = some r0 → V X G 3 0 0 σ 32 [] [] := by
    intro  h
    unfold f_X10_shareOf_32 at h
    refine V_iconst C 2 (dt_at dt_X10_shareOf_0 16 rfl) (by decide) ?_
    refine V_goto C 37 (dt_at dt_X10_shareOf_0 17 rfl) (by decide) ?_
    have e1_ := Option.some.inj h
    subst e1_
    exact V_iret C hR (dt_at dt_X10_shareOf_0 19 rfl)
  refine V_aload_n C (dt_at dt_X10_shareOf_0 0 rfl) 0 rfl rfl ?_
  refine g_X10_31_3 C (dt_at dt_X10_shareOf_0 1 rfl) ?_
  refine g_X10_49_1 C (dt_at dt_X10_shareOf_0 2 rfl) ?_
  refine V_iload_n C (dt_at dt_X10_shareOf_0 3 rfl) 1 rfl rfl ?_
  obtain ⟨h1, h⟩ := chk_s h
  obtain ⟨h2, h⟩ := chk_s h
  refine V_aaR10 C h1 h2 (dt_at dt_X10_shareOf_0 4 rfl) ?_
  refine gr_X10_86 C (K := (rd σ 10 x1).toNatClampNeg) h2 (dt_at dt_X10_shareOf_0 5 rfl) ?_
  refine V_iconst C 4 (dt_at dt_X10_shareOf_0 6 rfl) (by decide) ?_
  refine V_icmp_eq C 32 (dt_at dt_X10_shareOf_0 7 rfl) (by decide) (fun q3 => ?_) (fun q3 => ?_)
  · have h := ite_t q3 h
    refine V_sub [] (lv' := []) rfl ?_
    exact J_32  h
  · have h := ite_f q3 h
    refine V_aload_n C (dt_at dt_X10_shareOf_0 8 rfl) 0 rfl rfl ?_
    refine g_X10_31_3 C (dt_at dt_X10_shareOf_0 9 rfl) ?_
    refine g_X10_49_1 C (dt_at dt_X10_shareOf_0 10 rfl) ?_
    refine V_iload_n C (dt_at dt_X10_shareOf_0 11 rfl) 2 rfl rfl ?_
    obtain ⟨h4, h⟩ := chk_s h
    obtain ⟨h5, h⟩ := chk_s h
    refine V_aaR10 C h4 h5 (dt_at dt_X10_shareOf_0 12 rfl) ?_
    refine gr_X10_86 C (K := (rd σ 10 x2).toNatClampNeg) h5 (dt_at dt_X10_shareOf_0 13 rfl) ?_
    refine V_iconst C 4 (dt_at dt_X10_shareOf_0 14 rfl) (by decide) ?_
    refine V_icmp_ne C 36 (dt_at dt_X10_shareOf_0 15 rfl) (by decide) (fun q6 => ?_) (fun q6 => ?_)
    · have h := ite_f q6 h
      refine V_iconst C 1 (dt_at dt_X10_shareOf_0 18 rfl) (by decide) ?_
      have e1_ := Option.some.inj h
      subst e1_
      exact V_iret C hR (dt_at dt_X10_shareOf_0 19 rfl)
    · have h := ite_t q6 h
      refine V_sub [] (lv' := []) rfl ?_
      exact J_32  h
theorem cv_X10_shareOf (C : Ck X G cc own nL d) {idx : Nat} (hlk : Cond.methodLink own idx yX10_shareOf ∈ gtb) (x1 : Int32) (x2 : Int32) {r0 : Int32} (e : f_X10_shareOf x1 x2 σ = some r0) (hdd : 2 ≤ d) (hroom : (rest.map fun v => v.category).sum ≤ 8) (hcs : cells ≤ (xR X).cells ∧ slots ≤ (xR X).slots) (hd : decode cc pc = .ok (.invokevirtual idx, 3)) (k : V X G nL cells slots σ (pc + 3) lv (.int r0 :: rest)) : V X G nL cells slots σ pc lv (.int x2 :: .int x1 :: .ref (ga G 3) :: rest) := V_callV C (As := [.int x1, .int x2]) (c_X10_shareOf X.2.1 G x1 x2 σ r0 e) cal_X10_shareOf ww_75 ww_76 hlk rfl hdd (lt110 rfl) rfl rfl rfl hroom hcs hd k
theorem dt_X10_isSameSide_0 : dtab cX10_isSameSide [(0, .aload_n 0, 1), (1, .getfield 31, 3), (4, .getfield 150, 3), (7, .iload_n 1, 1), (8, .iaload, 1), (9, .iconst 1, 1), (10, .iand, 1), (11, .aload_n 0, 1), (12, .getfield 31, 3), (15, .getfield 150, 3), (18, .iload_n 2, 1), (19, .iaload, 1), (20, .iconst 1, 1), (21, .ishr, 1), (22, .if_icmp .ne 7, 3), (25, .iconst 1, 1), (26, .goto 4, 3), (29, .iconst 0, 1), (30, .ireturn, 1)] = true := by decide +kernel
theorem cal_X10_isSameSide : Cal yX10_isSameSide cX10_isSameSide 3 (some .boolean) 2 := ⟨ww_78, ww_24, ⟨by decide, by decide, by decide⟩, by decide⟩
set_option maxHeartbeats 4000000 in
set_option maxRecDepth 100000 in
theorem c_X10_isSameSide (l : Launch) (G : Gx) (x1 : Int32) (x2 : Int32) (σ : St) (r0 : Int32) (h : f_X10_isSameSide x1 x2 σ = some r0) : MI l G yX10_isSameSide cX10_isSameSide 3 (some .boolean) 1 [.ref (ga G 3), .int x1, .int x2] σ (some (.int r0)) σ := by
  refine MI_of RX10 rfl (by decide) [(0, .ref (ga G 3)), (1, .int x1), (2, .int x2)] rfl (Nat.le_of_ble_eq_true rfl) ?_
  intro X hXl C hR
  unfold f_X10_isSameSide at h
  refine V_aload_n C (dt_at dt_X10_isSameSide_0 0 rfl) 0 rfl rfl ?_
  refine g_X10_31_3 C (dt_at dt_X10_isSameSide_0 1 rfl) ?_
  refine g_X10_150_1 C (dt_at dt_X10_isSameSide_0 2 rfl) ?_
  refine V_iload_n C (dt_at dt_X10_isSameSide_0 3 rfl) 1 rfl rfl ?_
  obtain ⟨h1, h⟩ := chk_s h
  refine al_15 C h1 (dt_at dt_X10_isSameSide_0 4 rfl) ?_
  refine V_iconst C 1 (dt_at dt_X10_isSameSide_0 5 rfl) (by decide) ?_
  refine V_iand C (dt_at dt_X10_isSameSide_0 6 rfl) ?_
  refine V_aload_n C (dt_at dt_X10_isSameSide_0 7 rfl) 0 rfl rfl ?_
  refine g_X10_31_3 C (dt_at dt_X10_isSameSide_0 8 rfl) ?_
  refine g_X10_150_1 C (dt_at dt_X10_isSameSide_0 9 rfl) ?_
  refine V_iload_n C (dt_at dt_X10_isSameSide_0 10 rfl) 2 rfl rfl ?_
  obtain ⟨h2, h⟩ := chk_s h
  refine al_15 C h2 (dt_at dt_X10_isSameSide_0 11 rfl) ?_
  refine V_iconst C 1 (dt_at dt_X10_isSameSide_0 12 rfl) (by decide) ?_
  refine V_ishr C (dt_at dt_X10_isSameSide_0 13 rfl) ?_
  refine V_icmp_ne C 29 (dt_at dt_X10_isSameSide_0 14 rfl) (by decide) (fun q3 => ?_) (fun q3 => ?_)
  · have h := ite_f q3 h
    refine V_iconst C 0 (dt_at dt_X10_isSameSide_0 17 rfl) (by decide) ?_
    have e1_ := Option.some.inj h
    subst e1_
    exact V_zret C rfl hR (dt_at dt_X10_isSameSide_0 18 rfl)
  · have h := ite_t q3 h
    refine V_iconst C 1 (dt_at dt_X10_isSameSide_0 15 rfl) (by decide) ?_
    refine V_goto C 30 (dt_at dt_X10_isSameSide_0 16 rfl) (by decide) ?_
    have e1_ := Option.some.inj h
    subst e1_
    exact V_zret C rfl hR (dt_at dt_X10_isSameSide_0 18 rfl)
theorem cv_X10_isSameSide (C : Ck X G cc own nL d) {idx : Nat} (hlk : Cond.methodLink own idx yX10_isSameSide ∈ gtb) (x1 : Int32) (x2 : Int32) {r0 : Int32} (e : f_X10_isSameSide x1 x2 σ = some r0) (hdd : 2 ≤ d) (hroom : (rest.map fun v => v.category).sum ≤ 8) (hcs : cells ≤ (xR X).cells ∧ slots ≤ (xR X).slots) (hd : decode cc pc = .ok (.invokevirtual idx, 3)) (k : V X G nL cells slots σ (pc + 3) lv (.int r0 :: rest)) : V X G nL cells slots σ pc lv (.int x2 :: .int x1 :: .ref (ga G 3) :: rest) := V_callV C (As := [.int x1, .int x2]) (c_X10_isSameSide X.2.1 G x1 x2 σ r0 e) cal_X10_isSameSide ww_79 ww_80 hlk rfl hdd (lt110 rfl) rfl rfl rfl hroom hcs hd k
theorem dt_X10_nearLine_0 : dtab cX10_nearLine [(0, .aload_n 0, 1), (1, .iload_n 1, 1), (2, .iload_n 2, 1), (3, .iconst 0, 1), (4, .invokevirtual 141, 3), (7, .aload_n 0, 1), (8, .iload_n 1, 1), (9, .iload_n 2, 1), (10, .invokevirtual 144, 3), (13, .idiv, 1), (14, .istore_n 3, 1), (15, .aload_n 0, 1), (16, .iload_n 1, 1), (17, .iload_n 2, 1), (18, .iconst 1, 1), (19, .invokevirtual 141, 3), (22, .aload_n 0, 1), (23, .iload_n 1, 1), (24, .iload_n 2, 1), (25, .invokevirtual 144, 3), (28, .idiv, 1), (29, .istore 4, 2), (31, .iconst (-1), 1), (32, .istore 5, 2), (34, .iconst 0, 1), (35, .istore 6, 2), (37, .iload 6, 2), (39, .aload_n 0, 1), (40, .getfield 31, 3), (43, .getfield 129, 3), (46, .if_icmp .ge 131, 3), (49, .iconst 0, 1), (50, .istore 7, 2), (52, .iload 7, 2), (54, .aload_n 0, 1), (55, .getfield 31, 3), (58, .getfield 129, 3), (61, .if_icmp .ge 110, 3), (64, .aload_n 0, 1), (65, .getfield 31, 3)] = true := by decide +kernel
theorem dt_X10_nearLine_1 : dtab cX10_nearLine [(68, .getfield 132, 3), (71, .iload 6, 2), (73, .iaload, 1), (74, .iload_n 1, 1), (75, .if_icmp .ne 96, 3), (78, .aload_n 0, 1), (79, .getfield 31, 3), (82, .getfield 135, 3), (85, .iload 7, 2), (87, .iaload, 1), (88, .aload_n 0, 1), (89, .getfield 31, 3), (92, .getfield 138, 3), (95, .iload 6, 2), (97, .iaload, 1), (98, .isub, 1), (99, .iconst 1, 1), (100, .isub, 1), (101, .istore 8, 2), (103, .aload_n 0, 1), (104, .iload 6, 2), (106, .iload 7, 2), (108, .invokevirtual 147, 3), (111, .ifCond .eq 8, 3), (114, .iload 4, 2), (116, .goto 4, 3), (119, .iload_n 3, 1), (120, .istore 9, 2), (122, .aload_n 0, 1), (123, .getfield 31, 3), (126, .getfield 132, 3), (129, .iload 7, 2), (131, .iaload, 1), (132, .iload_n 2, 1), (133, .if_icmp .ne 32, 3), (136, .iload 8, 2), (138, .ifCond .lt 27, 3), (141, .iload 8, 2), (143, .iload 9, 2), (145, .if_icmp .ge 20, 3)] = true := by decide +kernel
theorem dt_X10_nearLine_2 : dtab cX10_nearLine [(148, .iload 5, 2), (150, .aload_n 0, 1), (151, .getfield 31, 3), (154, .getfield 135, 3), (157, .iload 7, 2), (159, .iaload, 1), (160, .invokestatic 123, 3), (163, .istore 5, 2), (165, .iinc 7 1, 3), (168, .goto (-116), 3), (171, .iinc 6 1, 3), (174, .goto (-137), 3), (177, .iload 5, 2), (179, .ireturn, 1)] = true := by decide +kernel
theorem cal_X10_nearLine : Cal yX10_nearLine cX10_nearLine 10 (some .int) 2 := ⟨ww_84, ww_24, ⟨by decide, by decide, by decide⟩, by decide⟩
set_option maxHeartbeats 4000000 in
set_option maxRecDepth 100000 in
theorem c_X10_nearLine (l : Launch) (G : Gx) (x1 : Int32) (x2 : Int32) (σ : St) (r0 : Int32) (σ0 : St) (h : f_X10_nearLine x1 x2 σ = some (r0, σ0)) : MI l G yX10_nearLine cX10_nearLine 10 (some .int) 4 [.ref (ga G 3), .int x1, .int x2] σ (some (.int r0)) σ0 := by
  refine MI_of RX10 rfl (by decide) [(0, .ref (ga G 3)), (1, .int x1), (2, .int x2)] rfl (Nat.le_of_ble_eq_true rfl) ?_
  intro X hXl C hR
  unfold f_X10_nearLine at h
  have J_37 : ∀ (x3 : Int32) (x4 : Int32) (x5 : Int32) (x6 : Int32) (σ : St), f_X10_nearLine_37 x1 x2 x3 x4 x5 x6 σ = some (r0, σ0) → V X G 10 0 0 σ 37 [(0, .ref (ga G 3)), (1, .int x1), (2, .int x2), (3, .int x3), (4, .int x4), (5, .int x5), (6, .int x6)] [] := by
    intro x3 x4 x5 x6 σ h
    refine it_v (P := fun z : Int32 × Int32 => V X G 10 0 0 σ 37 [(0, .ref (ga G 3)), (1, .int x1), (2, .int x2), (3, .int x3), (4, .int x4), (5, .int z.1), (6, .int z.2)] []) ?_ (x5, x6) h
    clear h
    intro z w_37 h ih_37 ex_37
    obtain ⟨x5, x6⟩ := z
    have h : b_X10_nearLine_37 x1 x2 x3 x4 x5 x6 σ = some w_37 := h
    show V X G 10 0 0 σ 37 [(0, .ref (ga G 3)), (1, .int x1), (2, .int x2), (3, .int x3), (4, .int x4), (5, .int x5), (6, .int x6)] []
    unfold b_X10_nearLine_37 at h
    have J_171 : ∀ (x5 : Int32) (x6 : Int32), f_X10_nearLine_171 x1 x2 x3 x4 x5 x6 σ = some w_37 → V X G 10 0 0 σ 171 [(0, .ref (ga G 3)), (1, .int x1), (2, .int x2), (3, .int x3), (4, .int x4), (5, .int x5), (6, .int x6)] [] := by
      intro x5 x6 h
      unfold f_X10_nearLine_171 at h
      refine V_iinc C (x6 + 1) 6 [1, 2, 3, 4, 5, 6, 0] (lv' := [(0, .ref (ga G 3)), (1, .int x1), (2, .int x2), (3, .int x3), (4, .int x4), (5, .int x5), (6, .int (x6 + 1))]) (dt_at dt_X10_nearLine_2 10 rfl) rfl (by rfl) (by decide) rfl ?_
      refine V_goto C 37 (dt_at dt_X10_nearLine_2 11 rfl) (by decide) ?_
      exact ih_37 (x5, (x6 + 1)) (Option.some.inj h).symm
    have J_52 : ∀ (x5 : Int32) (x6 : Int32) (x7 : Int32), f_X10_nearLine_52 x1 x2 x3 x4 x5 x6 x7 σ = some w_37 → V X G 10 0 0 σ 52 [(0, .ref (ga G 3)), (1, .int x1), (2, .int x2), (3, .int x3), (4, .int x4), (5, .int x5), (6, .int x6), (7, .int x7)] [] := by
      intro x5 x6 x7 h
      refine it_v (P := fun z : Int32 × Int32 => V X G 10 0 0 σ 52 [(0, .ref (ga G 3)), (1, .int x1), (2, .int x2), (3, .int x3), (4, .int x4), (5, .int z.1), (6, .int x6), (7, .int z.2)] []) ?_ (x5, x7) h
      clear h
      intro z w_52 h ih_52 ex_52
      obtain ⟨x5, x7⟩ := z
      have h : b_X10_nearLine_52 x1 x2 x3 x4 x5 x6 x7 σ = some w_52 := h
      show V X G 10 0 0 σ 52 [(0, .ref (ga G 3)), (1, .int x1), (2, .int x2), (3, .int x3), (4, .int x4), (5, .int x5), (6, .int x6), (7, .int x7)] []
      unfold b_X10_nearLine_52 at h
      have J_165 : ∀ (x5 : Int32) (x7 : Int32), f_X10_nearLine_165 x1 x2 x3 x4 x5 x6 x7 σ = some w_52 → V X G 10 0 0 σ 165 [(0, .ref (ga G 3)), (1, .int x1), (2, .int x2), (3, .int x3), (4, .int x4), (5, .int x5), (6, .int x6), (7, .int x7)] [] := by
        intro x5 x7 h
        unfold f_X10_nearLine_165 at h
        refine V_iinc C (x7 + 1) 7 [1, 2, 3, 4, 5, 6, 7, 0] (lv' := [(0, .ref (ga G 3)), (1, .int x1), (2, .int x2), (3, .int x3), (4, .int x4), (5, .int x5), (6, .int x6), (7, .int (x7 + 1))]) (dt_at dt_X10_nearLine_2 8 rfl) rfl (by rfl) (by decide) rfl ?_
        refine V_goto C 52 (dt_at dt_X10_nearLine_2 9 rfl) (by decide) ?_
        exact ih_52 (x5, (x7 + 1)) (Option.some.inj h).symm
      have J_120 : ∀ (x5 : Int32) (x7 : Int32) (x8 : Int32) (s0 : Int32), f_X10_nearLine_120 x1 x2 x3 x4 x5 x6 x7 x8 s0 σ = some w_52 → V X G 10 0 0 σ 120 [(0, .ref (ga G 3)), (1, .int x1), (2, .int x2), (3, .int x3), (4, .int x4), (5, .int x5), (6, .int x6), (7, .int x7), (8, .int x8)] [.int s0] := by
        intro x5 x7 x8 s0 h
        unfold f_X10_nearLine_120 at h
        refine V_istore C [1, 2, 3, 4, 5, 6, 7, 8, 9, 0] (lv' := [(0, .ref (ga G 3)), (1, .int x1), (2, .int x2), (3, .int x3), (4, .int x4), (5, .int x5), (6, .int x6), (7, .int x7), (8, .int x8), (9, .int s0)]) (dt_at dt_X10_nearLine_1 27 rfl) (by decide) rfl ?_
        refine V_aload_n C (dt_at dt_X10_nearLine_1 28 rfl) 0 rfl rfl ?_
        refine g_X10_31_3 C (dt_at dt_X10_nearLine_1 29 rfl) ?_
        refine g_X10_132_1 C (dt_at dt_X10_nearLine_1 30 rfl) ?_
        refine V_iload C (dt_at dt_X10_nearLine_1 31 rfl) 7 rfl ?_
        obtain ⟨h26, h⟩ := chk_s h
        refine al_12 C h26 (dt_at dt_X10_nearLine_1 32 rfl) ?_
        refine V_iload_n C (dt_at dt_X10_nearLine_1 33 rfl) 2 rfl rfl ?_
        refine V_icmp_ne C 165 (dt_at dt_X10_nearLine_1 34 rfl) (by decide) (fun q27 => ?_) (fun q27 => ?_)
        · have h := ite_f q27 h
          refine V_sub [0, 1, 2, 3, 4, 5, 6, 7] (lv' := [(0, .ref (ga G 3)), (1, .int x1), (2, .int x2), (3, .int x3), (4, .int x4), (5, .int x5), (6, .int x6), (7, .int x7)]) rfl ?_
          exact J_165 x5 x7 h
        · have h := ite_t q27 h
          refine V_iload C (dt_at dt_X10_nearLine_1 35 rfl) 8 rfl ?_
          refine V_if_lt C 165 (dt_at dt_X10_nearLine_1 36 rfl) (by decide) (fun q28 => ?_) (fun q28 => ?_)
          · have h := ite_t q28 h
            refine V_sub [0, 1, 2, 3, 4, 5, 6, 7] (lv' := [(0, .ref (ga G 3)), (1, .int x1), (2, .int x2), (3, .int x3), (4, .int x4), (5, .int x5), (6, .int x6), (7, .int x7)]) rfl ?_
            exact J_165 x5 x7 h
          · have h := ite_f q28 h
            refine V_iload C (dt_at dt_X10_nearLine_1 37 rfl) 8 rfl ?_
            refine V_iload C (dt_at dt_X10_nearLine_1 38 rfl) 9 rfl ?_
            refine V_icmp_ge C 165 (dt_at dt_X10_nearLine_1 39 rfl) (by decide) (fun q29 => ?_) (fun q29 => ?_)
            · have h := ite_f q29 h
              refine V_sub [0, 1, 2, 3, 4, 5, 6, 7] (lv' := [(0, .ref (ga G 3)), (1, .int x1), (2, .int x2), (3, .int x3), (4, .int x4), (5, .int x5), (6, .int x6), (7, .int x7)]) rfl ?_
              exact J_165 x5 x7 h
            · have h := ite_t q29 h
              refine V_iload C (dt_at dt_X10_nearLine_2 0 rfl) 5 rfl ?_
              refine V_aload_n C (dt_at dt_X10_nearLine_2 1 rfl) 0 rfl rfl ?_
              refine g_X10_31_3 C (dt_at dt_X10_nearLine_2 2 rfl) ?_
              refine g_X10_135_1 C (dt_at dt_X10_nearLine_2 3 rfl) ?_
              refine V_iload C (dt_at dt_X10_nearLine_2 4 rfl) 7 rfl ?_
              refine al_13 C h26 (dt_at dt_X10_nearLine_2 5 rfl) ?_
              obtain ⟨r30, e31, h⟩ := bd_s h
              refine cv_X10_earlier C ww_70 x5 (rd σ 13 x7) e31 (Nat.le_of_ble_eq_true rfl) (Nat.le_of_ble_eq_true rfl) z0 (dt_at dt_X10_nearLine_2 6 rfl) ?_
              refine V_istore C [1, 2, 3, 4, 5, 0, 6, 7, 8, 9] (lv' := [(0, .ref (ga G 3)), (1, .int x1), (2, .int x2), (3, .int x3), (4, .int x4), (5, .int r30), (6, .int x6), (7, .int x7), (8, .int x8), (9, .int s0)]) (dt_at dt_X10_nearLine_2 7 rfl) (by decide) rfl ?_
              refine V_sub [0, 1, 2, 3, 4, 5, 6, 7] (lv' := [(0, .ref (ga G 3)), (1, .int x1), (2, .int x2), (3, .int x3), (4, .int x4), (5, .int r30), (6, .int x6), (7, .int x7)]) rfl ?_
              exact J_165 r30 x7 h
      refine V_iload C (dt_at dt_X10_nearLine_0 33 rfl) 7 rfl ?_
      refine V_aload_n C (dt_at dt_X10_nearLine_0 34 rfl) 0 rfl rfl ?_
      refine g_X10_31_3 C (dt_at dt_X10_nearLine_0 35 rfl) ?_
      refine g_X10_129_1 C (dt_at dt_X10_nearLine_0 36 rfl) ?_
      refine V_icmp_ge C 171 (dt_at dt_X10_nearLine_0 37 rfl) (by decide) (fun q16 => ?_) (fun q16 => ?_)
      · have h := ite_f q16 h
        refine V_sub [0, 1, 2, 3, 4, 5, 6] (lv' := [(0, .ref (ga G 3)), (1, .int x1), (2, .int x2), (3, .int x3), (4, .int x4), (5, .int x5), (6, .int x6)]) rfl ?_
        obtain ⟨t17, h, e_52⟩ := map_s h
        have e_52 := ex_52 _ e_52
        rw [e_52] at h
        exact J_171 x5 x6 h
      · have h := ite_t q16 h
        refine V_aload_n C (dt_at dt_X10_nearLine_0 38 rfl) 0 rfl rfl ?_
        refine g_X10_31_3 C (dt_at dt_X10_nearLine_0 39 rfl) ?_
        refine g_X10_132_1 C (dt_at dt_X10_nearLine_1 0 rfl) ?_
        refine V_iload C (dt_at dt_X10_nearLine_1 1 rfl) 6 rfl ?_
        obtain ⟨h18, h⟩ := chk_s h
        refine al_12 C h18 (dt_at dt_X10_nearLine_1 2 rfl) ?_
        refine V_iload_n C (dt_at dt_X10_nearLine_1 3 rfl) 1 rfl rfl ?_
        refine V_icmp_ne C 171 (dt_at dt_X10_nearLine_1 4 rfl) (by decide) (fun q19 => ?_) (fun q19 => ?_)
        · have h := ite_f q19 h
          refine V_sub [0, 1, 2, 3, 4, 5, 6] (lv' := [(0, .ref (ga G 3)), (1, .int x1), (2, .int x2), (3, .int x3), (4, .int x4), (5, .int x5), (6, .int x6)]) rfl ?_
          obtain ⟨t20, h, e_52⟩ := map_s h
          have e_52 := ex_52 _ e_52
          rw [e_52] at h
          exact J_171 x5 x6 h
        · have h := ite_t q19 h
          refine V_aload_n C (dt_at dt_X10_nearLine_1 5 rfl) 0 rfl rfl ?_
          refine g_X10_31_3 C (dt_at dt_X10_nearLine_1 6 rfl) ?_
          refine g_X10_135_1 C (dt_at dt_X10_nearLine_1 7 rfl) ?_
          refine V_iload C (dt_at dt_X10_nearLine_1 8 rfl) 7 rfl ?_
          obtain ⟨h21, h⟩ := chk_s h
          refine al_13 C h21 (dt_at dt_X10_nearLine_1 9 rfl) ?_
          refine V_aload_n C (dt_at dt_X10_nearLine_1 10 rfl) 0 rfl rfl ?_
          refine g_X10_31_3 C (dt_at dt_X10_nearLine_1 11 rfl) ?_
          refine g_X10_138_1 C (dt_at dt_X10_nearLine_1 12 rfl) ?_
          refine V_iload C (dt_at dt_X10_nearLine_1 13 rfl) 6 rfl ?_
          refine al_14 C h18 (dt_at dt_X10_nearLine_1 14 rfl) ?_
          refine V_isub C (dt_at dt_X10_nearLine_1 15 rfl) ?_
          refine V_iconst C 1 (dt_at dt_X10_nearLine_1 16 rfl) (by decide) ?_
          refine V_isub C (dt_at dt_X10_nearLine_1 17 rfl) ?_
          refine V_istore C [1, 2, 3, 4, 5, 6, 7, 8, 0] (lv' := [(0, .ref (ga G 3)), (1, .int x1), (2, .int x2), (3, .int x3), (4, .int x4), (5, .int x5), (6, .int x6), (7, .int x7), (8, .int (((rd σ 13 x7) - (rd σ 14 x6)) - 1))]) (dt_at dt_X10_nearLine_1 18 rfl) (by decide) rfl ?_
          refine V_aload_n C (dt_at dt_X10_nearLine_1 19 rfl) 0 rfl rfl ?_
          refine V_iload C (dt_at dt_X10_nearLine_1 20 rfl) 6 rfl ?_
          refine V_iload C (dt_at dt_X10_nearLine_1 21 rfl) 7 rfl ?_
          obtain ⟨r22, e23, h⟩ := bd_s h
          refine cv_X10_isSameSide C ww_83 x6 x7 e23 (Nat.le_of_ble_eq_true rfl) (Nat.le_of_ble_eq_true rfl) z0 (dt_at dt_X10_nearLine_1 22 rfl) ?_
          refine V_if_eq C 119 (dt_at dt_X10_nearLine_1 23 rfl) (by decide) (fun q25 => ?_) (fun q25 => ?_)
          · have h := ite_t q25 h
            refine V_iload_n C (dt_at dt_X10_nearLine_1 26 rfl) 3 rfl rfl ?_
            exact J_120 x5 x7 (((rd σ 13 x7) - (rd σ 14 x6)) - 1) x3 h
          · have h := ite_f q25 h
            refine V_iload C (dt_at dt_X10_nearLine_1 24 rfl) 4 rfl ?_
            refine V_goto C 120 (dt_at dt_X10_nearLine_1 25 rfl) (by decide) ?_
            exact J_120 x5 x7 (((rd σ 13 x7) - (rd σ 14 x6)) - 1) x4 h
    refine V_iload C (dt_at dt_X10_nearLine_0 26 rfl) 6 rfl ?_
    refine V_aload_n C (dt_at dt_X10_nearLine_0 27 rfl) 0 rfl rfl ?_
    refine g_X10_31_3 C (dt_at dt_X10_nearLine_0 28 rfl) ?_
    refine g_X10_129_1 C (dt_at dt_X10_nearLine_0 29 rfl) ?_
    refine V_icmp_ge C 177 (dt_at dt_X10_nearLine_0 30 rfl) (by decide) (fun q15 => ?_) (fun q15 => ?_)
    · have h := ite_f q15 h
      refine V_iload C (dt_at dt_X10_nearLine_2 12 rfl) 5 rfl ?_
      have e_37 := ex_37 _ (Option.some.inj h).symm
      obtain ⟨e1_, e2_⟩ := Prod.mk.inj e_37
      subst e1_; subst e2_
      exact V_iret C hR (dt_at dt_X10_nearLine_2 13 rfl)
    · have h := ite_t q15 h
      refine V_iconst C 0 (dt_at dt_X10_nearLine_0 31 rfl) (by decide) ?_
      refine V_istore C [1, 2, 3, 4, 5, 6, 7, 0] (lv' := [(0, .ref (ga G 3)), (1, .int x1), (2, .int x2), (3, .int x3), (4, .int x4), (5, .int x5), (6, .int x6), (7, .int 0)]) (dt_at dt_X10_nearLine_0 32 rfl) (by decide) rfl ?_
      exact J_52 x5 x6 0 h
  refine V_aload_n C (dt_at dt_X10_nearLine_0 0 rfl) 0 rfl rfl ?_
  refine V_iload_n C (dt_at dt_X10_nearLine_0 1 rfl) 1 rfl rfl ?_
  refine V_iload_n C (dt_at dt_X10_nearLine_0 2 rfl) 2 rfl rfl ?_
  refine V_iconst C 0 (dt_at dt_X10_nearLine_0 3 rfl) (by decide) ?_
  obtain ⟨r1, σ3, e2, h⟩ := bd2_s h
  refine cv_X10_changeOf C ww_81 x1 x2 0 e2 (Nat.le_of_ble_eq_true rfl) (Nat.le_of_ble_eq_true rfl) z0 (dt_at dt_X10_nearLine_0 4 rfl) ?_
  refine V_aload_n C (dt_at dt_X10_nearLine_0 5 rfl) 0 rfl rfl ?_
  refine V_iload_n C (dt_at dt_X10_nearLine_0 6 rfl) 1 rfl rfl ?_
  refine V_iload_n C (dt_at dt_X10_nearLine_0 7 rfl) 2 rfl rfl ?_
  obtain ⟨r4, e5, h⟩ := bd_s h
  refine cv_X10_shareOf C ww_82 x1 x2 e5 (Nat.le_of_ble_eq_true rfl) (Nat.le_of_ble_eq_true rfl) z0 (dt_at dt_X10_nearLine_0 8 rfl) ?_
  obtain ⟨h7, h⟩ := chk_s h
  refine V_idiv C (dt_at dt_X10_nearLine_0 9 rfl) (of_decide_eq_true h7) ?_
  refine V_istore_n C [1, 2, 3, 0] (lv' := [(0, .ref (ga G 3)), (1, .int x1), (2, .int x2), (3, .int (r1 / r4))]) (dt_at dt_X10_nearLine_0 10 rfl) rfl (by decide) rfl ?_
  refine V_aload_n C (dt_at dt_X10_nearLine_0 11 rfl) 0 rfl rfl ?_
  refine V_iload_n C (dt_at dt_X10_nearLine_0 12 rfl) 1 rfl rfl ?_
  refine V_iload_n C (dt_at dt_X10_nearLine_0 13 rfl) 2 rfl rfl ?_
  refine V_iconst C 1 (dt_at dt_X10_nearLine_0 14 rfl) (by decide) ?_
  obtain ⟨r8, σ10, e9, h⟩ := bd2_s h
  refine cv_X10_changeOf C ww_81 x1 x2 1 e9 (Nat.le_of_ble_eq_true rfl) (Nat.le_of_ble_eq_true rfl) z0 (dt_at dt_X10_nearLine_0 15 rfl) ?_
  refine V_aload_n C (dt_at dt_X10_nearLine_0 16 rfl) 0 rfl rfl ?_
  refine V_iload_n C (dt_at dt_X10_nearLine_0 17 rfl) 1 rfl rfl ?_
  refine V_iload_n C (dt_at dt_X10_nearLine_0 18 rfl) 2 rfl rfl ?_
  obtain ⟨r11, e12, h⟩ := bd_s h
  refine cv_X10_shareOf C ww_82 x1 x2 e12 (Nat.le_of_ble_eq_true rfl) (Nat.le_of_ble_eq_true rfl) z0 (dt_at dt_X10_nearLine_0 19 rfl) ?_
  obtain ⟨h14, h⟩ := chk_s h
  refine V_idiv C (dt_at dt_X10_nearLine_0 20 rfl) (of_decide_eq_true h14) ?_
  refine V_istore C [1, 2, 3, 4, 0] (lv' := [(0, .ref (ga G 3)), (1, .int x1), (2, .int x2), (3, .int (r1 / r4)), (4, .int (r8 / r11))]) (dt_at dt_X10_nearLine_0 21 rfl) (by decide) rfl ?_
  refine V_iconst C (-1) (dt_at dt_X10_nearLine_0 22 rfl) (by decide) ?_
  refine V_istore C [1, 2, 3, 4, 5, 0] (lv' := [(0, .ref (ga G 3)), (1, .int x1), (2, .int x2), (3, .int (r1 / r4)), (4, .int (r8 / r11)), (5, .int (-1))]) (dt_at dt_X10_nearLine_0 23 rfl) (by decide) rfl ?_
  refine V_iconst C 0 (dt_at dt_X10_nearLine_0 24 rfl) (by decide) ?_
  refine V_istore C [1, 2, 3, 4, 5, 6, 0] (lv' := [(0, .ref (ga G 3)), (1, .int x1), (2, .int x2), (3, .int (r1 / r4)), (4, .int (r8 / r11)), (5, .int (-1)), (6, .int 0)]) (dt_at dt_X10_nearLine_0 25 rfl) (by decide) rfl ?_
  exact J_37 (r1 / r4) (r8 / r11) (-1) 0 σ10 h
theorem cv_X10_nearLine (C : Ck X G cc own nL d) {idx : Nat} (hlk : Cond.methodLink own idx yX10_nearLine ∈ gtb) (x1 : Int32) (x2 : Int32) {r0 : Int32} {σ0 : St} (e : f_X10_nearLine x1 x2 σ = some (r0, σ0)) (hdd : 5 ≤ d) (hroom : (rest.map fun v => v.category).sum ≤ 8) (hcs : cells ≤ (xR X).cells ∧ slots ≤ (xR X).slots) (hd : decode cc pc = .ok (.invokevirtual idx, 3)) (k : V X G nL cells slots σ0 (pc + 3) lv (.int r0 :: rest)) : V X G nL cells slots σ pc lv (.int x2 :: .int x1 :: .ref (ga G 3) :: rest) := V_callV C (As := [.int x1, .int x2]) (c_X10_nearLine X.2.1 G x1 x2 σ r0 σ0 e) cal_X10_nearLine ww_85 ww_86 hlk rfl hdd (lt110 rfl) rfl rfl rfl hroom hcs hd k
theorem dt_X4_weight_0 : dtab cX4_weight [(0, .iconst 0, 1), (1, .istore_n 2, 1), (2, .iconst 0, 1), (3, .istore_n 3, 1), (4, .iload_n 3, 1), (5, .aload_n 0, 1), (6, .getfield 18, 3), (9, .if_icmp .ge 37, 3), (12, .aload_n 0, 1), (13, .getfield 34, 3), (16, .iload_n 3, 1), (17, .iaload, 1), (18, .iload_n 1, 1), (19, .if_icmp .ne 21, 3), (22, .iload_n 2, 1), (23, .aload_n 0, 1), (24, .getfield 40, 3), (27, .iload_n 3, 1), (28, .iaload, 1), (29, .aload_n 0, 1), (30, .getfield 37, 3), (33, .iload_n 3, 1), (34, .iaload, 1), (35, .isub, 1), (36, .iconst 1, 1), (37, .iadd, 1), (38, .iadd, 1), (39, .istore_n 2, 1), (40, .iinc 3 1, 3), (43, .goto (-39), 3), (46, .iload_n 2, 1), (47, .ireturn, 1)] = true := by decide +kernel
theorem cal_X4_weight : Cal yX4_weight cX4_weight 4 (some .int) 1 := ⟨ww_91, ww_92, ⟨by decide, by decide, by decide⟩, by decide⟩
set_option maxHeartbeats 4000000 in
set_option maxRecDepth 100000 in
theorem c_X4_weight (l : Launch) (G : Gx) (x1 : Int32) (σ : St) (r0 : Int32) (h : f_X4_weight x1 σ = some r0) : MI l G yX4_weight cX4_weight 4 (some .int) 1 [.ref (ga G 1), .int x1] σ (some (.int r0)) σ := by
  refine MI_of RX4 rfl (by decide) [(0, .ref (ga G 1)), (1, .int x1)] rfl (Nat.le_of_ble_eq_true rfl) ?_
  intro X hXl C hR
  unfold f_X4_weight at h
  have J_4 : ∀ (x2 : Int32) (x3 : Int32), f_X4_weight_4 x1 x2 x3 σ = some r0 → V X G 4 0 0 σ 4 [(0, .ref (ga G 1)), (1, .int x1), (2, .int x2), (3, .int x3)] [] := by
    intro x2 x3 h
    refine it_v (P := fun z : Int32 × Int32 => V X G 4 0 0 σ 4 [(0, .ref (ga G 1)), (1, .int x1), (2, .int z.1), (3, .int z.2)] []) ?_ (x2, x3) h
    clear h
    intro z w_4 h ih_4 ex_4
    obtain ⟨x2, x3⟩ := z
    have h : b_X4_weight_4 x1 x2 x3 σ = some w_4 := h
    show V X G 4 0 0 σ 4 [(0, .ref (ga G 1)), (1, .int x1), (2, .int x2), (3, .int x3)] []
    unfold b_X4_weight_4 at h
    have J_40 : ∀ (x2 : Int32) (x3 : Int32), f_X4_weight_40 x1 x2 x3 σ = some w_4 → V X G 4 0 0 σ 40 [(0, .ref (ga G 1)), (1, .int x1), (2, .int x2), (3, .int x3)] [] := by
      intro x2 x3 h
      unfold f_X4_weight_40 at h
      refine V_iinc C (x3 + 1) 3 [1, 2, 3, 0] (lv' := [(0, .ref (ga G 1)), (1, .int x1), (2, .int x2), (3, .int (x3 + 1))]) (dt_at dt_X4_weight_0 28 rfl) rfl (by rfl) (by decide) rfl ?_
      refine V_goto C 4 (dt_at dt_X4_weight_0 29 rfl) (by decide) ?_
      exact ih_4 (x2, (x3 + 1)) (Option.some.inj h).symm
    refine V_iload_n C (dt_at dt_X4_weight_0 4 rfl) 3 rfl rfl ?_
    refine V_aload_n C (dt_at dt_X4_weight_0 5 rfl) 0 rfl rfl ?_
    refine g_X4_18_1 C (dt_at dt_X4_weight_0 6 rfl) ?_
    refine V_icmp_ge C 46 (dt_at dt_X4_weight_0 7 rfl) (by decide) (fun q1 => ?_) (fun q1 => ?_)
    · have h := ite_f q1 h
      refine V_iload_n C (dt_at dt_X4_weight_0 30 rfl) 2 rfl rfl ?_
      have e_4 := ex_4 _ (Option.some.inj h).symm
      subst e_4
      exact V_iret C hR (dt_at dt_X4_weight_0 31 rfl)
    · have h := ite_t q1 h
      refine V_aload_n C (dt_at dt_X4_weight_0 8 rfl) 0 rfl rfl ?_
      refine g_X4_34_1 C (dt_at dt_X4_weight_0 9 rfl) ?_
      refine V_iload_n C (dt_at dt_X4_weight_0 10 rfl) 3 rfl rfl ?_
      obtain ⟨h2, h⟩ := chk_s h
      refine al_12 C h2 (dt_at dt_X4_weight_0 11 rfl) ?_
      refine V_iload_n C (dt_at dt_X4_weight_0 12 rfl) 1 rfl rfl ?_
      refine V_icmp_ne C 40 (dt_at dt_X4_weight_0 13 rfl) (by decide) (fun q3 => ?_) (fun q3 => ?_)
      · have h := ite_f q3 h
        exact J_40 x2 x3 h
      · have h := ite_t q3 h
        refine V_iload_n C (dt_at dt_X4_weight_0 14 rfl) 2 rfl rfl ?_
        refine V_aload_n C (dt_at dt_X4_weight_0 15 rfl) 0 rfl rfl ?_
        refine g_X4_40_1 C (dt_at dt_X4_weight_0 16 rfl) ?_
        refine V_iload_n C (dt_at dt_X4_weight_0 17 rfl) 3 rfl rfl ?_
        refine al_14 C h2 (dt_at dt_X4_weight_0 18 rfl) ?_
        refine V_aload_n C (dt_at dt_X4_weight_0 19 rfl) 0 rfl rfl ?_
        refine g_X4_37_1 C (dt_at dt_X4_weight_0 20 rfl) ?_
        refine V_iload_n C (dt_at dt_X4_weight_0 21 rfl) 3 rfl rfl ?_
        refine al_13 C h2 (dt_at dt_X4_weight_0 22 rfl) ?_
        refine V_isub C (dt_at dt_X4_weight_0 23 rfl) ?_
        refine V_iconst C 1 (dt_at dt_X4_weight_0 24 rfl) (by decide) ?_
        refine V_iadd C (dt_at dt_X4_weight_0 25 rfl) ?_
        refine V_iadd C (dt_at dt_X4_weight_0 26 rfl) ?_
        refine V_istore_n C [1, 2, 0, 3] (lv' := [(0, .ref (ga G 1)), (1, .int x1), (2, .int (x2 + (((rd σ 14 x3) - (rd σ 13 x3)) + 1))), (3, .int x3)]) (dt_at dt_X4_weight_0 27 rfl) rfl (by decide) rfl ?_
        exact J_40 (x2 + (((rd σ 14 x3) - (rd σ 13 x3)) + 1)) x3 h
  refine V_iconst C 0 (dt_at dt_X4_weight_0 0 rfl) (by decide) ?_
  refine V_istore_n C [1, 2, 0] (lv' := [(0, .ref (ga G 1)), (1, .int x1), (2, .int 0)]) (dt_at dt_X4_weight_0 1 rfl) rfl (by decide) rfl ?_
  refine V_iconst C 0 (dt_at dt_X4_weight_0 2 rfl) (by decide) ?_
  refine V_istore_n C [1, 2, 3, 0] (lv' := [(0, .ref (ga G 1)), (1, .int x1), (2, .int 0), (3, .int 0)]) (dt_at dt_X4_weight_0 3 rfl) rfl (by decide) rfl ?_
  exact J_4 0 0 h
theorem cv_X4_weight (C : Ck X G cc own nL d) {idx : Nat} (hlk : Cond.methodLink own idx yX4_weight ∈ gtb) (x1 : Int32) {r0 : Int32} (e : f_X4_weight x1 σ = some r0) (hdd : 2 ≤ d) (hroom : (rest.map fun v => v.category).sum ≤ 8) (hcs : cells ≤ (xR X).cells ∧ slots ≤ (xR X).slots) (hd : decode cc pc = .ok (.invokevirtual idx, 3)) (k : V X G nL cells slots σ (pc + 3) lv (.int r0 :: rest)) : V X G nL cells slots σ pc lv (.int x1 :: .ref (ga G 1) :: rest) := V_callV C (As := [.int x1]) (c_X4_weight X.2.1 G x1 σ r0 e) cal_X4_weight ww_93 ww_94 hlk rfl hdd (lt110 rfl) rfl rfl rfl hroom hcs hd k
theorem dt_X10_wishOf_0 : dtab cX10_wishOf [(0, .aload_n 0, 1), (1, .getfield 31, 3), (4, .getfield 35, 3), (7, .iconst 2, 1), (8, .aaload, 1), (9, .astore_n 3, 1), (10, .aload_n 3, 1), (11, .getfield 41, 3), (14, .ifCond .ne 13, 3), (17, .aload_n 0, 1), (18, .getfield 31, 3), (21, .getfield 46, 3), (24, .iload_n 1, 1), (25, .iaload, 1), (26, .ireturn, 1), (27, .aload_n 0, 1), (28, .iload_n 1, 1), (29, .iload_n 2, 1), (30, .invokevirtual 58, 3), (33, .aload_n 0, 1), (34, .bipush 108, 2), (36, .aload_n 0, 1), (37, .getfield 31, 3), (40, .iload_n 2, 1), (41, .invokevirtual 66, 3), (44, .invokevirtual 70, 3), (47, .aload_n 0, 1), (48, .aload_n 3, 1), (49, .invokevirtual 62, 3), (52, .sipush 999, 3), (55, .invokestatic 74, 3), (58, .ireturn, 1)] = true := by decide +kernel
theorem cal_X10_wishOf : Cal yX10_wishOf cX10_wishOf 4 (some .int) 2 := ⟨ww_96, ww_24, ⟨by decide, by decide, by decide⟩, by decide⟩
set_option maxHeartbeats 4000000 in
set_option maxRecDepth 100000 in
theorem c_X10_wishOf (l : Launch) (G : Gx) (x1 : Int32) (x2 : Int32) (σ : St) (r0 : Int32) (σ0 : St) (h : f_X10_wishOf x1 x2 σ = some (r0, σ0)) : MI l G yX10_wishOf cX10_wishOf 4 (some .int) 3 [.ref (ga G 3), .int x1, .int x2] σ (some (.int r0)) σ0 := by
  refine MI_of RX10 rfl (by decide) [(0, .ref (ga G 3)), (1, .int x1), (2, .int x2)] rfl (Nat.le_of_ble_eq_true rfl) ?_
  intro X hXl C hR
  unfold f_X10_wishOf at h
  refine V_aload_n C (dt_at dt_X10_wishOf_0 0 rfl) 0 rfl rfl ?_
  refine g_X10_31_3 C (dt_at dt_X10_wishOf_0 1 rfl) ?_
  refine g_X10_35_1 C (dt_at dt_X10_wishOf_0 2 rfl) ?_
  refine V_iconst C 2 (dt_at dt_X10_wishOf_0 3 rfl) (by decide) ?_
  refine V_aa19_2 C (dt_at dt_X10_wishOf_0 4 rfl) ?_
  refine V_astore_n C [1, 2, 3, 0] (lv' := [(0, .ref (ga G 3)), (1, .int x1), (2, .int x2), (3, .ref (ga G 60))]) (dt_at dt_X10_wishOf_0 5 rfl) rfl (by decide) rfl ?_
  refine V_aload_n C (dt_at dt_X10_wishOf_0 6 rfl) 3 rfl rfl ?_
  refine g_X10_41_60 C (dt_at dt_X10_wishOf_0 7 rfl) ?_
  refine V_if_ne C 27 (dt_at dt_X10_wishOf_0 8 rfl) (by decide) (fun q1 => ?_) (fun q1 => ?_)
  · have h := ite_f q1 h
    refine V_aload_n C (dt_at dt_X10_wishOf_0 15 rfl) 0 rfl rfl ?_
    refine V_iload_n C (dt_at dt_X10_wishOf_0 16 rfl) 1 rfl rfl ?_
    refine V_iload_n C (dt_at dt_X10_wishOf_0 17 rfl) 2 rfl rfl ?_
    obtain ⟨σ4, e3, h⟩ := bd_s h
    refine cv_X10_namePlayerAndPart C ww_62 x1 x2 e3 (Nat.le_of_ble_eq_true rfl) (Nat.le_of_ble_eq_true rfl) z0 (dt_at dt_X10_wishOf_0 18 rfl) ?_
    refine V_aload_n C (dt_at dt_X10_wishOf_0 19 rfl) 0 rfl rfl ?_
    refine V_bipush C 108 (dt_at dt_X10_wishOf_0 20 rfl) (by decide) ?_
    refine V_aload_n C (dt_at dt_X10_wishOf_0 21 rfl) 0 rfl rfl ?_
    refine g_X10_31_3 C (dt_at dt_X10_wishOf_0 22 rfl) ?_
    refine V_iload_n C (dt_at dt_X10_wishOf_0 23 rfl) 2 rfl rfl ?_
    obtain ⟨r5, e6, h⟩ := bd_s h
    refine cv_X4_weight C ww_95 x2 e6 (Nat.le_of_ble_eq_true rfl) (Nat.le_of_ble_eq_true rfl) z0 (dt_at dt_X10_wishOf_0 24 rfl) ?_
    obtain ⟨σ10, e9, h⟩ := bd_s h
    refine cv_X10_name C ww_46 108 r5 e9 (Nat.le_of_ble_eq_true rfl) (Nat.le_of_ble_eq_true rfl) z0 (dt_at dt_X10_wishOf_0 25 rfl) ?_
    refine V_aload_n C (dt_at dt_X10_wishOf_0 26 rfl) 0 rfl rfl ?_
    refine V_aload_n C (dt_at dt_X10_wishOf_0 27 rfl) 3 rfl rfl ?_
    obtain ⟨r11, σ13, e12, h⟩ := bd2_s h
    refine cv_X10_worthOf C ww_47 60 e12 (Nat.le_of_ble_eq_true rfl) (Nat.le_of_ble_eq_true rfl) z0 (dt_at dt_X10_wishOf_0 28 rfl) ?_
    refine V_sipush C 999 (dt_at dt_X10_wishOf_0 29 rfl) (by decide) ?_
    obtain ⟨r14, e15, h⟩ := bd_s h
    refine cv_X10_held C ww_48 r11 999 e15 (Nat.le_of_ble_eq_true rfl) (Nat.le_of_ble_eq_true rfl) z0 (dt_at dt_X10_wishOf_0 30 rfl) ?_
    obtain ⟨e1_, e2_⟩ := pin2 h
    subst e1_; subst e2_
    exact V_iret C hR (dt_at dt_X10_wishOf_0 31 rfl)
  · have h := ite_t q1 h
    refine V_aload_n C (dt_at dt_X10_wishOf_0 9 rfl) 0 rfl rfl ?_
    refine g_X10_31_3 C (dt_at dt_X10_wishOf_0 10 rfl) ?_
    refine g_X10_46_1 C (dt_at dt_X10_wishOf_0 11 rfl) ?_
    refine V_iload_n C (dt_at dt_X10_wishOf_0 12 rfl) 1 rfl rfl ?_
    obtain ⟨h17, h⟩ := chk_s h
    refine al_16 C h17 (dt_at dt_X10_wishOf_0 13 rfl) ?_
    obtain ⟨e1_, e2_⟩ := pin2 h
    subst e1_; subst e2_
    exact V_iret C hR (dt_at dt_X10_wishOf_0 14 rfl)
theorem cv_X10_wishOf (C : Ck X G cc own nL d) {idx : Nat} (hlk : Cond.methodLink own idx yX10_wishOf ∈ gtb) (x1 : Int32) (x2 : Int32) {r0 : Int32} {σ0 : St} (e : f_X10_wishOf x1 x2 σ = some (r0, σ0)) (hdd : 4 ≤ d) (hroom : (rest.map fun v => v.category).sum ≤ 8) (hcs : cells ≤ (xR X).cells ∧ slots ≤ (xR X).slots) (hd : decode cc pc = .ok (.invokevirtual idx, 3)) (k : V X G nL cells slots σ0 (pc + 3) lv (.int r0 :: rest)) : V X G nL cells slots σ pc lv (.int x2 :: .int x1 :: .ref (ga G 3) :: rest) := V_callV C (As := [.int x1, .int x2]) (c_X10_wishOf X.2.1 G x1 x2 σ r0 σ0 e) cal_X10_wishOf ww_97 ww_98 hlk rfl hdd (lt110 rfl) rfl rfl rfl hroom hcs hd k
theorem dt_X11_isWithin_0 : dtab cX11_isWithin [(0, .iload_n 0, 1), (1, .ifCond .lt 12, 3), (4, .iload_n 0, 1), (5, .iload_n 1, 1), (6, .if_icmp .ge 7, 3), (9, .iconst 1, 1), (10, .goto 4, 3), (13, .iconst 0, 1), (14, .ireturn, 1)] = true := by decide +kernel
theorem cal_X11_isWithin : Cal yX11_isWithin cX11_isWithin 2 (some .boolean) 2 := ⟨ww_99, ww_100, ⟨by decide, by decide, by decide⟩, by decide⟩
set_option maxHeartbeats 4000000 in
set_option maxRecDepth 100000 in
theorem c_X11_isWithin (l : Launch) (G : Gx) (x0 : Int32) (x1 : Int32) (σ : St) (r0 : Int32) (h : f_X11_isWithin x0 x1 = some r0) : MI l G yX11_isWithin cX11_isWithin 2 (some .boolean) 1 [.int x0, .int x1] σ (some (.int r0)) σ := by
  refine MI_of RX11 rfl (by decide) [(0, .int x0), (1, .int x1)] rfl (Nat.le_of_ble_eq_true rfl) ?_
  intro X hXl C hR
  unfold f_X11_isWithin at h
  refine V_iload_n C (dt_at dt_X11_isWithin_0 0 rfl) 0 rfl rfl ?_
  refine V_if_lt C 13 (dt_at dt_X11_isWithin_0 1 rfl) (by decide) (fun q1 => ?_) (fun q1 => ?_)
  · have h := ite_t q1 h
    refine V_iconst C 0 (dt_at dt_X11_isWithin_0 7 rfl) (by decide) ?_
    have e1_ := Option.some.inj h
    subst e1_
    exact V_zret C rfl hR (dt_at dt_X11_isWithin_0 8 rfl)
  · have h := ite_f q1 h
    refine V_iload_n C (dt_at dt_X11_isWithin_0 2 rfl) 0 rfl rfl ?_
    refine V_iload_n C (dt_at dt_X11_isWithin_0 3 rfl) 1 rfl rfl ?_
    refine V_icmp_ge C 13 (dt_at dt_X11_isWithin_0 4 rfl) (by decide) (fun q2 => ?_) (fun q2 => ?_)
    · have h := ite_f q2 h
      refine V_iconst C 0 (dt_at dt_X11_isWithin_0 7 rfl) (by decide) ?_
      have e1_ := Option.some.inj h
      subst e1_
      exact V_zret C rfl hR (dt_at dt_X11_isWithin_0 8 rfl)
    · have h := ite_t q2 h
      refine V_iconst C 1 (dt_at dt_X11_isWithin_0 5 rfl) (by decide) ?_
      refine V_goto C 14 (dt_at dt_X11_isWithin_0 6 rfl) (by decide) ?_
      have e1_ := Option.some.inj h
      subst e1_
      exact V_zret C rfl hR (dt_at dt_X11_isWithin_0 8 rfl)
theorem cv_X11_isWithin (C : Ck X G cc own nL d) {idx : Nat} (hlk : Cond.methodLink own idx yX11_isWithin ∈ gtb) (x0 : Int32) (x1 : Int32) {r0 : Int32} (e : f_X11_isWithin x0 x1 = some r0) (hdd : 2 ≤ d) (hroom : (rest.map fun v => v.category).sum ≤ 8) (hcs : cells ≤ (xR X).cells ∧ slots ≤ (xR X).slots) (hd : decode cc pc = .ok (.invokestatic idx, 3)) (k : V X G nL cells slots σ (pc + 3) lv (.int r0 :: rest)) : V X G nL cells slots σ pc lv (.int x1 :: .int x0 :: rest) := V_callS C (As := [.int x0, .int x1]) (c_X11_isWithin X.2.1 G x0 x1 σ r0 e) cal_X11_isWithin ww_101 hlk rfl hdd rfl hroom hcs hd k
theorem cn_X11_isWithin (C : Ck X G cc RX4 nL d) (x0 : Int32) (x1 : Int32) {r0 : Int32} (e : f_X11_isWithin x0 x1 = some r0) (hdd : 2 ≤ d) (hroom : (rest.map fun v => v.category).sum ≤ 8) (hcs : cells ≤ (xR X).cells ∧ slots ≤ (xR X).slots) (hd : decode cc pc = .ok (.invokestatic 81, 3)) (k : V X G nL cells slots σ (pc + 3) lv (.int r0 :: rest)) : V X G nL cells slots σ pc lv (.int x1 :: .int x0 :: rest) := V_callN C (As := [.int x0, .int x1]) (c_X11_isWithin X.2.1 G x0 x1 σ r0 e) cal_X11_isWithin ww_101 rfl hdd rfl hroom hcs hd k
theorem dt_X4_hasPart_0 : dtab cX4_hasPart [(0, .iload_n 1, 1), (1, .aload_n 0, 1), (2, .getfield 15, 3), (5, .invokestatic 81, 3), (8, .ireturn, 1)] = true := by decide +kernel
theorem cal_X4_hasPart : Cal yX4_hasPart cX4_hasPart 2 (some .boolean) 1 := ⟨ww_103, ww_92, ⟨by decide, by decide, by decide⟩, by decide⟩
set_option maxHeartbeats 4000000 in
set_option maxRecDepth 100000 in
theorem c_X4_hasPart (l : Launch) (G : Gx) (x1 : Int32) (σ : St) (r0 : Int32) (h : f_X4_hasPart x1 σ = some r0) : MI l G yX4_hasPart cX4_hasPart 2 (some .boolean) 2 [.ref (ga G 1), .int x1] σ (some (.int r0)) σ := by
  refine MI_of RX4 rfl (by decide) [(0, .ref (ga G 1)), (1, .int x1)] rfl (Nat.le_of_ble_eq_true rfl) ?_
  intro X hXl C hR
  unfold f_X4_hasPart at h
  refine V_iload_n C (dt_at dt_X4_hasPart_0 0 rfl) 1 rfl rfl ?_
  refine V_aload_n C (dt_at dt_X4_hasPart_0 1 rfl) 0 rfl rfl ?_
  refine g_X4_15_1 C (dt_at dt_X4_hasPart_0 2 rfl) ?_
  obtain ⟨r1, e2, h⟩ := bd_s h
  refine cn_X11_isWithin C x1 (fd σ 1 1) e2 (Nat.le_of_ble_eq_true rfl) (Nat.le_of_ble_eq_true rfl) z0 (dt_at dt_X4_hasPart_0 3 rfl) ?_
  obtain ⟨h4, h⟩ := chk_s h
  have e1_ := Option.some.inj h
  subst e1_
  exact V_zret C (isB_n h4) hR (dt_at dt_X4_hasPart_0 4 rfl)
theorem cv_X4_hasPart (C : Ck X G cc own nL d) {idx : Nat} (hlk : Cond.methodLink own idx yX4_hasPart ∈ gtb) (x1 : Int32) {r0 : Int32} (e : f_X4_hasPart x1 σ = some r0) (hdd : 3 ≤ d) (hroom : (rest.map fun v => v.category).sum ≤ 8) (hcs : cells ≤ (xR X).cells ∧ slots ≤ (xR X).slots) (hd : decode cc pc = .ok (.invokevirtual idx, 3)) (k : V X G nL cells slots σ (pc + 3) lv (.int r0 :: rest)) : V X G nL cells slots σ pc lv (.int x1 :: .ref (ga G 1) :: rest) := V_callV C (As := [.int x1]) (c_X4_hasPart X.2.1 G x1 σ r0 e) cal_X4_hasPart ww_104 ww_105 hlk rfl hdd (lt110 rfl) rfl rfl rfl hroom hcs hd k
theorem dt_X11_error_0 : dtab cX11_error [(0, .aload_n 0, 1), (1, .getfield 61, 3), (4, .iload_n 1, 1), (5, .dup2, 1), (6, .iaload, 1), (7, .iconst 1, 1), (8, .iadd, 1), (9, .iastore, 1), (10, .ldc_w 348, 3), (13, .iload_n 1, 1), (14, .isub, 1), (15, .ireturn, 1)] = true := by decide +kernel
theorem cal_X11_error : Cal yX11_error cX11_error 2 (some .int) 1 := ⟨ww_108, ww_100, ⟨by decide, by decide, by decide⟩, by decide⟩
set_option maxHeartbeats 4000000 in
set_option maxRecDepth 100000 in
theorem c_X11_error (l : Launch) (G : Gx) (x1 : Int32) (σ : St) (r0 : Int32) (σ0 : St) (h : f_X11_error x1 σ = some (r0, σ0)) : MI l G yX11_error cX11_error 2 (some .int) 1 [.ref (ga G 0), .int x1] σ (some (.int r0)) σ0 := by
  refine MI_of RX11 rfl (by decide) [(0, .ref (ga G 0)), (1, .int x1)] rfl (Nat.le_of_ble_eq_true rfl) ?_
  intro X hXl C hR
  unfold f_X11_error at h
  refine V_aload_n C (dt_at dt_X11_error_0 0 rfl) 0 rfl rfl ?_
  refine g_X11_61_0 C (dt_at dt_X11_error_0 1 rfl) ?_
  refine V_iload_n C (dt_at dt_X11_error_0 2 rfl) 1 rfl rfl ?_
  refine V_dup2 C (dt_at dt_X11_error_0 3 rfl) rfl rfl ?_
  obtain ⟨h1, h⟩ := chk_s h
  refine al_9 C h1 (dt_at dt_X11_error_0 4 rfl) ?_
  refine V_iconst C 1 (dt_at dt_X11_error_0 5 rfl) (by decide) ?_
  refine V_iadd C (dt_at dt_X11_error_0 6 rfl) ?_
  obtain ⟨σ2, eσ2, h⟩ := nm_s h
  refine V_st eσ2 ?_ (fun k => as_9 C h1 (dt_at dt_X11_error_0 7 rfl) k)
  refine V_ldcw C (-1000000) (dt_at dt_X11_error_0 8 rfl) ww_107 ?_
  refine V_iload_n C (dt_at dt_X11_error_0 9 rfl) 1 rfl rfl ?_
  refine V_isub C (dt_at dt_X11_error_0 10 rfl) ?_
  obtain ⟨e1_, e2_⟩ := pin2 h
  subst e1_; subst e2_
  exact V_iret C hR (dt_at dt_X11_error_0 11 rfl)
theorem cv_X11_error (C : Ck X G cc own nL d) {idx : Nat} (hlk : Cond.methodLink own idx yX11_error ∈ gtb) (x1 : Int32) {r0 : Int32} {σ0 : St} (e : f_X11_error x1 σ = some (r0, σ0)) (hdd : 2 ≤ d) (hroom : (rest.map fun v => v.category).sum ≤ 8) (hcs : cells ≤ (xR X).cells ∧ slots ≤ (xR X).slots) (hd : decode cc pc = .ok (.invokevirtual idx, 3)) (k : V X G nL cells slots σ0 (pc + 3) lv (.int r0 :: rest)) : V X G nL cells slots σ pc lv (.int x1 :: .ref (ga G 0) :: rest) := V_callV C (As := [.int x1]) (c_X11_error X.2.1 G x1 σ r0 σ0 e) cal_X11_error ww_109 ww_110 hlk rfl hdd (lt110 rfl) rfl rfl rfl hroom hcs hd k
theorem dt_X4_isSet_0 : dtab cX4_isSet [(0, .iload_n 1, 1), (1, .iconst 1, 1), (2, .aload_n 0, 1), (3, .getfield 21, 3), (6, .ishl, 1), (7, .invokestatic 81, 3), (10, .ireturn, 1)] = true := by decide +kernel
theorem cal_X4_isSet : Cal yX4_isSet cX4_isSet 2 (some .boolean) 1 := ⟨ww_112, ww_92, ⟨by decide, by decide, by decide⟩, by decide⟩
set_option maxHeartbeats 4000000 in
set_option maxRecDepth 100000 in
theorem c_X4_isSet (l : Launch) (G : Gx) (x1 : Int32) (σ : St) (r0 : Int32) (h : f_X4_isSet x1 σ = some r0) : MI l G yX4_isSet cX4_isSet 2 (some .boolean) 2 [.ref (ga G 1), .int x1] σ (some (.int r0)) σ := by
  refine MI_of RX4 rfl (by decide) [(0, .ref (ga G 1)), (1, .int x1)] rfl (Nat.le_of_ble_eq_true rfl) ?_
  intro X hXl C hR
  unfold f_X4_isSet at h
  refine V_iload_n C (dt_at dt_X4_isSet_0 0 rfl) 1 rfl rfl ?_
  refine V_iconst C 1 (dt_at dt_X4_isSet_0 1 rfl) (by decide) ?_
  refine V_aload_n C (dt_at dt_X4_isSet_0 2 rfl) 0 rfl rfl ?_
  refine g_X4_21_1 C (dt_at dt_X4_isSet_0 3 rfl) ?_
  refine V_ishl C (dt_at dt_X4_isSet_0 4 rfl) ?_
  obtain ⟨r1, e2, h⟩ := bd_s h
  refine cn_X11_isWithin C x1 ((1 : Int32) <<< ((fd σ 1 3) &&& 31)) e2 (Nat.le_of_ble_eq_true rfl) (Nat.le_of_ble_eq_true rfl) z0 (dt_at dt_X4_isSet_0 5 rfl) ?_
  obtain ⟨h4, h⟩ := chk_s h
  have e1_ := Option.some.inj h
  subst e1_
  exact V_zret C (isB_n h4) hR (dt_at dt_X4_isSet_0 6 rfl)
theorem cv_X4_isSet (C : Ck X G cc own nL d) {idx : Nat} (hlk : Cond.methodLink own idx yX4_isSet ∈ gtb) (x1 : Int32) {r0 : Int32} (e : f_X4_isSet x1 σ = some r0) (hdd : 3 ≤ d) (hroom : (rest.map fun v => v.category).sum ≤ 8) (hcs : cells ≤ (xR X).cells ∧ slots ≤ (xR X).slots) (hd : decode cc pc = .ok (.invokevirtual idx, 3)) (k : V X G nL cells slots σ (pc + 3) lv (.int r0 :: rest)) : V X G nL cells slots σ pc lv (.int x1 :: .ref (ga G 1) :: rest) := V_callV C (As := [.int x1]) (c_X4_isSet X.2.1 G x1 σ r0 e) cal_X4_isSet ww_113 ww_114 hlk rfl hdd (lt110 rfl) rfl rfl rfl hroom hcs hd k
theorem dt_X4_allParts_0 : dtab cX4_allParts [(0, .iconst 1, 1), (1, .aload_n 0, 1), (2, .getfield 15, 3), (5, .ishl, 1), (6, .iconst 1, 1), (7, .isub, 1), (8, .ireturn, 1)] = true := by decide +kernel
theorem cal_X4_allParts : Cal yX4_allParts cX4_allParts 1 (some .int) 0 := ⟨ww_115, ww_92, ⟨by decide, by decide, by decide⟩, by decide⟩
set_option maxHeartbeats 4000000 in
set_option maxRecDepth 100000 in
theorem c_X4_allParts (l : Launch) (G : Gx) (σ : St) (r0 : Int32) (h : f_X4_allParts σ = some r0) : MI l G yX4_allParts cX4_allParts 1 (some .int) 1 [.ref (ga G 1)] σ (some (.int r0)) σ := by
  refine MI_of RX4 rfl (by decide) [(0, .ref (ga G 1))] rfl (Nat.le_of_ble_eq_true rfl) ?_
  intro X hXl C hR
  unfold f_X4_allParts at h
  refine V_iconst C 1 (dt_at dt_X4_allParts_0 0 rfl) (by decide) ?_
  refine V_aload_n C (dt_at dt_X4_allParts_0 1 rfl) 0 rfl rfl ?_
  refine g_X4_15_1 C (dt_at dt_X4_allParts_0 2 rfl) ?_
  refine V_ishl C (dt_at dt_X4_allParts_0 3 rfl) ?_
  refine V_iconst C 1 (dt_at dt_X4_allParts_0 4 rfl) (by decide) ?_
  refine V_isub C (dt_at dt_X4_allParts_0 5 rfl) ?_
  have e1_ := Option.some.inj h
  subst e1_
  exact V_iret C hR (dt_at dt_X4_allParts_0 6 rfl)
theorem cv_X4_allParts (C : Ck X G cc own nL d) {idx : Nat} (hlk : Cond.methodLink own idx yX4_allParts ∈ gtb) {r0 : Int32} (e : f_X4_allParts σ = some r0) (hdd : 2 ≤ d) (hroom : (rest.map fun v => v.category).sum ≤ 8) (hcs : cells ≤ (xR X).cells ∧ slots ≤ (xR X).slots) (hd : decode cc pc = .ok (.invokevirtual idx, 3)) (k : V X G nL cells slots σ (pc + 3) lv (.int r0 :: rest)) : V X G nL cells slots σ pc lv (.ref (ga G 1) :: rest) := V_callV C (As := []) (c_X4_allParts X.2.1 G  σ r0 e) cal_X4_allParts ww_116 ww_117 hlk rfl hdd (lt110 rfl) rfl rfl rfl hroom hcs hd k
theorem dt_X4_knows_0 : dtab cX4_knows [(0, .aload_n 0, 1), (1, .getfield 52, 3), (4, .iload_n 1, 1), (5, .iaload, 1), (6, .iload_n 2, 1), (7, .ishr, 1), (8, .iconst 1, 1), (9, .iand, 1), (10, .ifCond .eq 7, 3), (13, .iconst 1, 1), (14, .goto 4, 3), (17, .iconst 0, 1), (18, .ireturn, 1)] = true := by decide +kernel
theorem cal_X4_knows : Cal yX4_knows cX4_knows 3 (some .boolean) 2 := ⟨ww_119, ww_92, ⟨by decide, by decide, by decide⟩, by decide⟩
set_option maxHeartbeats 4000000 in
set_option maxRecDepth 100000 in
theorem c_X4_knows (l : Launch) (G : Gx) (x1 : Int32) (x2 : Int32) (σ : St) (r0 : Int32) (h : f_X4_knows x1 x2 σ = some r0) : MI l G yX4_knows cX4_knows 3 (some .boolean) 1 [.ref (ga G 1), .int x1, .int x2] σ (some (.int r0)) σ := by
  refine MI_of RX4 rfl (by decide) [(0, .ref (ga G 1)), (1, .int x1), (2, .int x2)] rfl (Nat.le_of_ble_eq_true rfl) ?_
  intro X hXl C hR
  unfold f_X4_knows at h
  refine V_aload_n C (dt_at dt_X4_knows_0 0 rfl) 0 rfl rfl ?_
  refine g_X4_52_1 C (dt_at dt_X4_knows_0 1 rfl) ?_
  refine V_iload_n C (dt_at dt_X4_knows_0 2 rfl) 1 rfl rfl ?_
  obtain ⟨h1, h⟩ := chk_s h
  refine al_18 C h1 (dt_at dt_X4_knows_0 3 rfl) ?_
  refine V_iload_n C (dt_at dt_X4_knows_0 4 rfl) 2 rfl rfl ?_
  refine V_ishr C (dt_at dt_X4_knows_0 5 rfl) ?_
  refine V_iconst C 1 (dt_at dt_X4_knows_0 6 rfl) (by decide) ?_
  refine V_iand C (dt_at dt_X4_knows_0 7 rfl) ?_
  refine V_if_eq C 17 (dt_at dt_X4_knows_0 8 rfl) (by decide) (fun q2 => ?_) (fun q2 => ?_)
  · have h := ite_t q2 h
    refine V_iconst C 0 (dt_at dt_X4_knows_0 11 rfl) (by decide) ?_
    have e1_ := Option.some.inj h
    subst e1_
    exact V_zret C rfl hR (dt_at dt_X4_knows_0 12 rfl)
  · have h := ite_f q2 h
    refine V_iconst C 1 (dt_at dt_X4_knows_0 9 rfl) (by decide) ?_
    refine V_goto C 18 (dt_at dt_X4_knows_0 10 rfl) (by decide) ?_
    have e1_ := Option.some.inj h
    subst e1_
    exact V_zret C rfl hR (dt_at dt_X4_knows_0 12 rfl)
theorem cv_X4_knows (C : Ck X G cc own nL d) {idx : Nat} (hlk : Cond.methodLink own idx yX4_knows ∈ gtb) (x1 : Int32) (x2 : Int32) {r0 : Int32} (e : f_X4_knows x1 x2 σ = some r0) (hdd : 2 ≤ d) (hroom : (rest.map fun v => v.category).sum ≤ 8) (hcs : cells ≤ (xR X).cells ∧ slots ≤ (xR X).slots) (hd : decode cc pc = .ok (.invokevirtual idx, 3)) (k : V X G nL cells slots σ (pc + 3) lv (.int r0 :: rest)) : V X G nL cells slots σ pc lv (.int x2 :: .int x1 :: .ref (ga G 1) :: rest) := V_callV C (As := [.int x1, .int x2]) (c_X4_knows X.2.1 G x1 x2 σ r0 e) cal_X4_knows ww_120 ww_121 hlk rfl hdd (lt110 rfl) rfl rfl rfl hroom hcs hd k
theorem dt_X8_costOf_0 : dtab cX8_costOf [(0, .iload_n 1, 1), (1, .tableswitch 72 0 2 #[27, 38, 63], 27), (28, .aload_n 0, 1), (29, .getfield 55, 3), (32, .iload_n 2, 1), (33, .iload_n 3, 1), (34, .invokevirtual 98, 3), (37, .ineg, 1), (38, .ireturn, 1), (39, .aload_n 0, 1), (40, .getfield 51, 3), (43, .iload_n 2, 1), (44, .iload_n 3, 1), (45, .invokevirtual 102, 3), (48, .ifCond .eq 7, 3), (51, .iconst 0, 1), (52, .goto 11, 3), (55, .aload_n 0, 1), (56, .getfield 51, 3), (59, .iload_n 3, 1), (60, .invokevirtual 105, 3), (63, .ireturn, 1), (64, .aload_n 0, 1), (65, .getfield 51, 3), (68, .iload_n 3, 1), (69, .invokevirtual 105, 3), (72, .ireturn, 1), (73, .aload_n 0, 1), (74, .getfield 51, 3), (77, .getfield 109, 3), (80, .iload_n 3, 1), (81, .iaload, 1), (82, .iload_n 2, 1), (83, .if_icmp .ne 7, 3), (86, .iconst 0, 1), (87, .goto 4, 3), (90, .iconst 1, 1), (91, .ireturn, 1)] = true := by decide +kernel
theorem cal_X8_costOf : Cal yX8_costOf cX8_costOf 4 (some .int) 3 := ⟨ww_128, ww_129, ⟨by decide, by decide, by decide⟩, by decide⟩
set_option maxHeartbeats 4000000 in
set_option maxRecDepth 100000 in
theorem c_X8_costOf (l : Launch) (G : Gx) (x1 : Int32) (x2 : Int32) (x3 : Int32) (σ : St) (r0 : Int32) (σ0 : St) (h : f_X8_costOf x1 x2 x3 σ = some (r0, σ0)) : MI l G yX8_costOf cX8_costOf 4 (some .int) 4 [.ref (ga G 4), .int x1, .int x2, .int x3] σ (some (.int r0)) σ0 := by
  refine MI_of RX8 rfl (by decide) [(0, .ref (ga G 4)), (1, .int x1), (2, .int x2), (3, .int x3)] rfl (Nat.le_of_ble_eq_true rfl) ?_
  intro X hXl C hR
  unfold f_X8_costOf at h
  refine V_iload_n C (dt_at dt_X8_costOf_0 0 rfl) 1 rfl rfl ?_
  by_cases q1 : x1 = 0
  · have h := ite_t q1 h
    refine V_tin C 0 28 (dt_at dt_X8_costOf_0 1 rfl) ⟨by rw [q1] <;> rfl, by decide⟩ rfl (by decide) ?_
    refine V_aload_n C (dt_at dt_X8_costOf_0 2 rfl) 0 rfl rfl ?_
    refine g_X8_55_4 C (dt_at dt_X8_costOf_0 3 rfl) ?_
    refine V_iload_n C (dt_at dt_X8_costOf_0 4 rfl) 2 rfl rfl ?_
    refine V_iload_n C (dt_at dt_X8_costOf_0 5 rfl) 3 rfl rfl ?_
    obtain ⟨r2, σ4, e3, h⟩ := bd2_s h
    refine cv_X10_wishOf C ww_123 x2 x3 e3 (Nat.le_of_ble_eq_true rfl) (Nat.le_of_ble_eq_true rfl) z0 (dt_at dt_X8_costOf_0 6 rfl) ?_
    refine V_ineg C (dt_at dt_X8_costOf_0 7 rfl) ?_
    obtain ⟨e1_, e2_⟩ := pin2 h
    subst e1_; subst e2_
    exact V_iret C hR (dt_at dt_X8_costOf_0 8 rfl)
  replace h := ite_f q1 h
  by_cases q5 : x1 = 1
  · have h := ite_t q5 h
    refine V_tin C 1 39 (dt_at dt_X8_costOf_0 1 rfl) ⟨by rw [q5] <;> rfl, by decide⟩ rfl (by decide) ?_
    refine V_aload_n C (dt_at dt_X8_costOf_0 9 rfl) 0 rfl rfl ?_
    refine g_X8_51_4 C (dt_at dt_X8_costOf_0 10 rfl) ?_
    refine V_iload_n C (dt_at dt_X8_costOf_0 11 rfl) 2 rfl rfl ?_
    refine V_iload_n C (dt_at dt_X8_costOf_0 12 rfl) 3 rfl rfl ?_
    obtain ⟨r6, e7, h⟩ := bd_s h
    refine cv_X4_knows C ww_125 x2 x3 e7 (Nat.le_of_ble_eq_true rfl) (Nat.le_of_ble_eq_true rfl) z0 (dt_at dt_X8_costOf_0 13 rfl) ?_
    refine V_if_eq C 55 (dt_at dt_X8_costOf_0 14 rfl) (by decide) (fun q9 => ?_) (fun q9 => ?_)
    · have h := ite_t q9 h
      refine V_aload_n C (dt_at dt_X8_costOf_0 17 rfl) 0 rfl rfl ?_
      refine g_X8_51_4 C (dt_at dt_X8_costOf_0 18 rfl) ?_
      refine V_iload_n C (dt_at dt_X8_costOf_0 19 rfl) 3 rfl rfl ?_
      obtain ⟨r10, e11, h⟩ := bd_s h
      refine cv_X4_weight C ww_126 x3 e11 (Nat.le_of_ble_eq_true rfl) (Nat.le_of_ble_eq_true rfl) z0 (dt_at dt_X8_costOf_0 20 rfl) ?_
      obtain ⟨e1_, e2_⟩ := pin2 h
      subst e1_; subst e2_
      exact V_iret C hR (dt_at dt_X8_costOf_0 21 rfl)
    · have h := ite_f q9 h
      refine V_iconst C 0 (dt_at dt_X8_costOf_0 15 rfl) (by decide) ?_
      refine V_goto C 63 (dt_at dt_X8_costOf_0 16 rfl) (by decide) ?_
      obtain ⟨e1_, e2_⟩ := pin2 h
      subst e1_; subst e2_
      exact V_iret C hR (dt_at dt_X8_costOf_0 21 rfl)
  replace h := ite_f q5 h
  by_cases q13 : x1 = 2
  · have h := ite_t q13 h
    refine V_tin C 2 64 (dt_at dt_X8_costOf_0 1 rfl) ⟨by rw [q13] <;> rfl, by decide⟩ rfl (by decide) ?_
    refine V_aload_n C (dt_at dt_X8_costOf_0 22 rfl) 0 rfl rfl ?_
    refine g_X8_51_4 C (dt_at dt_X8_costOf_0 23 rfl) ?_
    refine V_iload_n C (dt_at dt_X8_costOf_0 24 rfl) 3 rfl rfl ?_
    obtain ⟨r14, e15, h⟩ := bd_s h
    refine cv_X4_weight C ww_126 x3 e15 (Nat.le_of_ble_eq_true rfl) (Nat.le_of_ble_eq_true rfl) z0 (dt_at dt_X8_costOf_0 25 rfl) ?_
    obtain ⟨e1_, e2_⟩ := pin2 h
    subst e1_; subst e2_
    exact V_iret C hR (dt_at dt_X8_costOf_0 26 rfl)
  replace h := ite_f q13 h
  refine V_tout C 73 (dt_at dt_X8_costOf_0 1 rfl) (by have q1t := lv_neT q1 (a := 0) rfl; have q5t := lv_neT q5 (a := 1) rfl; have q13t := lv_neT q13 (a := 2) rfl; omega) (by decide) ?_
  refine V_aload_n C (dt_at dt_X8_costOf_0 27 rfl) 0 rfl rfl ?_
  refine g_X8_51_4 C (dt_at dt_X8_costOf_0 28 rfl) ?_
  refine g_X8_109_1 C (dt_at dt_X8_costOf_0 29 rfl) ?_
  refine V_iload_n C (dt_at dt_X8_costOf_0 30 rfl) 3 rfl rfl ?_
  obtain ⟨h17, h⟩ := chk_s h
  refine al_11 C h17 (dt_at dt_X8_costOf_0 31 rfl) ?_
  refine V_iload_n C (dt_at dt_X8_costOf_0 32 rfl) 2 rfl rfl ?_
  refine V_icmp_ne C 90 (dt_at dt_X8_costOf_0 33 rfl) (by decide) (fun q18 => ?_) (fun q18 => ?_)
  · have h := ite_f q18 h
    refine V_iconst C 1 (dt_at dt_X8_costOf_0 36 rfl) (by decide) ?_
    obtain ⟨e1_, e2_⟩ := pin2 h
    subst e1_; subst e2_
    exact V_iret C hR (dt_at dt_X8_costOf_0 37 rfl)
  · have h := ite_t q18 h
    refine V_iconst C 0 (dt_at dt_X8_costOf_0 34 rfl) (by decide) ?_
    refine V_goto C 91 (dt_at dt_X8_costOf_0 35 rfl) (by decide) ?_
    obtain ⟨e1_, e2_⟩ := pin2 h
    subst e1_; subst e2_
    exact V_iret C hR (dt_at dt_X8_costOf_0 37 rfl)
theorem cv_X8_costOf (C : Ck X G cc own nL d) {idx : Nat} (hlk : Cond.methodLink own idx yX8_costOf ∈ gtb) (x1 : Int32) (x2 : Int32) (x3 : Int32) {r0 : Int32} {σ0 : St} (e : f_X8_costOf x1 x2 x3 σ = some (r0, σ0)) (hdd : 5 ≤ d) (hroom : (rest.map fun v => v.category).sum ≤ 8) (hcs : cells ≤ (xR X).cells ∧ slots ≤ (xR X).slots) (hd : decode cc pc = .ok (.invokevirtual idx, 3)) (k : V X G nL cells slots σ0 (pc + 3) lv (.int r0 :: rest)) : V X G nL cells slots σ pc lv (.int x3 :: .int x2 :: .int x1 :: .ref (ga G 4) :: rest) := V_callV C (As := [.int x1, .int x2, .int x3]) (c_X8_costOf X.2.1 G x1 x2 x3 σ r0 σ0 e) cal_X8_costOf ww_130 ww_131 hlk rfl hdd (lt110 rfl) rfl rfl rfl hroom hcs hd k
theorem dt_X8_ask_0 : dtab cX8_ask [(0, .iconst 0, 1), (1, .istore_n 3, 1), (2, .iload_n 3, 1), (3, .aload_n 0, 1), (4, .getfield 51, 3), (7, .getfield 64, 3), (10, .if_icmp .ge 41, 3), (13, .aload_n 0, 1), (14, .getfield 27, 3), (17, .iload_n 1, 1), (18, .aaload, 1), (19, .iload_n 3, 1), (20, .aload_n 0, 1), (21, .getfield 55, 3), (24, .iload_n 1, 1), (25, .iload_n 3, 1), (26, .invokevirtual 89, 3), (29, .ifCond .eq 13, 3), (32, .aload_n 0, 1), (33, .iload_n 2, 1), (34, .iload_n 1, 1), (35, .iload_n 3, 1), (36, .invokevirtual 93, 3), (39, .goto 5, 3), (42, .ldc 97, 2), (44, .iastore, 1), (45, .iinc 3 1, 3), (48, .goto (-46), 3), (51, .return_, 1)] = true := by decide +kernel
theorem cal_X8_ask : Cal yX8_ask cX8_ask 4 none 2 := ⟨ww_137, ww_129, ⟨by decide, by decide, by decide⟩, by decide⟩
set_option maxHeartbeats 4000000 in
set_option maxRecDepth 100000 in
theorem c_X8_ask (l : Launch) (G : Gx) (x1 : Int32) (x2 : Int32) (σ : St) (σ0 : St) (h : f_X8_ask x1 x2 σ = some σ0) : MI l G yX8_ask cX8_ask 4 none 5 [.ref (ga G 4), .int x1, .int x2] σ none σ0 := by
  refine MI_of RX8 rfl (by decide) [(0, .ref (ga G 4)), (1, .int x1), (2, .int x2)] rfl (Nat.le_of_ble_eq_true rfl) ?_
  intro X hXl C hR
  unfold f_X8_ask at h
  have J_2 : ∀ (x3 : Int32) (σ : St), f_X8_ask_2 x1 x2 x3 σ = some σ0 → V X G 4 0 0 σ 2 [(0, .ref (ga G 4)), (1, .int x1), (2, .int x2), (3, .int x3)] [] := by
    intro x3 σ h
    refine it_v (P := fun z : Int32 × St => V X G 4 0 0 z.2 2 [(0, .ref (ga G 4)), (1, .int x1), (2, .int x2), (3, .int z.1)] []) ?_ (x3, σ) h
    clear h
    intro z w_2 h ih_2 ex_2
    obtain ⟨x3, σ⟩ := z
    have h : b_X8_ask_2 x1 x2 x3 σ = some w_2 := h
    show V X G 4 0 0 σ 2 [(0, .ref (ga G 4)), (1, .int x1), (2, .int x2), (3, .int x3)] []
    unfold b_X8_ask_2 at h
    have J_44 : ∀ (x3 : Int32) (s0 : Int32) (s1 : Int32) (cs2 : Nat) (σ : St) (hf_cs2 : isSingle cs2 = true), f_X8_ask_44 x1 x2 x3 s0 s1 cs2 σ = some w_2 → V X G 4 0 0 σ 44 [(0, .ref (ga G 4)), (1, .int x1), (2, .int x2), (3, .int x3)] [.int s0, .int s1, .ref (ga G cs2)] := by
      intro x3 s0 s1 cs2 σ hf_cs2 h
      unfold f_X8_ask_44 at h
      obtain ⟨h12, h⟩ := chk_s h
      obtain ⟨σ11, eσ11, h⟩ := nm_s h
      refine V_st eσ11 ?_ (fun k => V_iast C (K := cs2) (isSingle_lt hf_cs2) (fun f => (lay_single G hf_cs2 f _)) h12 (dt_at dt_X8_ask_0 25 rfl) k)
      refine V_iinc C (x3 + 1) 3 [1, 2, 3, 0] (lv' := [(0, .ref (ga G 4)), (1, .int x1), (2, .int x2), (3, .int (x3 + 1))]) (dt_at dt_X8_ask_0 26 rfl) rfl (by rfl) (by decide) rfl ?_
      refine V_goto C 2 (dt_at dt_X8_ask_0 27 rfl) (by decide) ?_
      exact ih_2 ((x3 + 1), σ11) (Option.some.inj h).symm
    refine V_iload_n C (dt_at dt_X8_ask_0 2 rfl) 3 rfl rfl ?_
    refine V_aload_n C (dt_at dt_X8_ask_0 3 rfl) 0 rfl rfl ?_
    refine g_X8_51_4 C (dt_at dt_X8_ask_0 4 rfl) ?_
    refine g_X8_64_1 C (dt_at dt_X8_ask_0 5 rfl) ?_
    refine V_icmp_ge C 51 (dt_at dt_X8_ask_0 6 rfl) (by decide) (fun q1 => ?_) (fun q1 => ?_)
    · have h := ite_f q1 h
      have e_2 := ex_2 _ (Option.some.inj h).symm
      subst e_2
      exact V_vret C hR (dt_at dt_X8_ask_0 28 rfl)
    · have h := ite_t q1 h
      refine V_aload_n C (dt_at dt_X8_ask_0 7 rfl) 0 rfl rfl ?_
      refine g_X8_27_4 C (dt_at dt_X8_ask_0 8 rfl) ?_
      refine V_iload_n C (dt_at dt_X8_ask_0 9 rfl) 1 rfl rfl ?_
      obtain ⟨h2, h⟩ := chk_s h
      refine V_aa36 C h2 (dt_at dt_X8_ask_0 10 rfl) ?_
      have h3 : isSingle (40 + x1.toNatClampNeg) = true := ok_36 h2
      refine V_iload_n C (dt_at dt_X8_ask_0 11 rfl) 3 rfl rfl ?_
      refine V_aload_n C (dt_at dt_X8_ask_0 12 rfl) 0 rfl rfl ?_
      refine g_X8_55_4 C (dt_at dt_X8_ask_0 13 rfl) ?_
      refine V_iload_n C (dt_at dt_X8_ask_0 14 rfl) 1 rfl rfl ?_
      refine V_iload_n C (dt_at dt_X8_ask_0 15 rfl) 3 rfl rfl ?_
      obtain ⟨r4, σ6, e5, h⟩ := bd2_s h
      refine cv_X10_isAble C ww_134 x1 x3 e5 (Nat.le_of_ble_eq_true rfl) (Nat.le_of_ble_eq_true rfl) z0 (dt_at dt_X8_ask_0 16 rfl) ?_
      refine V_if_eq C 42 (dt_at dt_X8_ask_0 17 rfl) (by decide) (fun q7 => ?_) (fun q7 => ?_)
      · have h := ite_t q7 h
        refine V_ldc C 100000000 (dt_at dt_X8_ask_0 24 rfl) ww_135 ?_
        exact J_44 x3 100000000 x3 (40 + x1.toNatClampNeg) σ6 h3 h
      · have h := ite_f q7 h
        refine V_aload_n C (dt_at dt_X8_ask_0 18 rfl) 0 rfl rfl ?_
        refine V_iload_n C (dt_at dt_X8_ask_0 19 rfl) 2 rfl rfl ?_
        refine V_iload_n C (dt_at dt_X8_ask_0 20 rfl) 1 rfl rfl ?_
        refine V_iload_n C (dt_at dt_X8_ask_0 21 rfl) 3 rfl rfl ?_
        obtain ⟨r8, σ10, e9, h⟩ := bd2_s h
        refine cv_X8_costOf C ww_136 x2 x1 x3 e9 (Nat.le_of_ble_eq_true rfl) (Nat.le_of_ble_eq_true rfl) z0 (dt_at dt_X8_ask_0 22 rfl) ?_
        refine V_goto C 44 (dt_at dt_X8_ask_0 23 rfl) (by decide) ?_
        exact J_44 x3 r8 x3 (40 + x1.toNatClampNeg) σ10 h3 h
  refine V_iconst C 0 (dt_at dt_X8_ask_0 0 rfl) (by decide) ?_
  refine V_istore_n C [1, 2, 3, 0] (lv' := [(0, .ref (ga G 4)), (1, .int x1), (2, .int x2), (3, .int 0)]) (dt_at dt_X8_ask_0 1 rfl) rfl (by decide) rfl ?_
  exact J_2 0 σ h
theorem cv_X8_ask (C : Ck X G cc own nL d) {idx : Nat} (hlk : Cond.methodLink own idx yX8_ask ∈ gtb) (x1 : Int32) (x2 : Int32) {σ0 : St} (e : f_X8_ask x1 x2 σ = some σ0) (hdd : 6 ≤ d) (hroom : (rest.map fun v => v.category).sum ≤ 8) (hcs : cells ≤ (xR X).cells ∧ slots ≤ (xR X).slots) (hd : decode cc pc = .ok (.invokevirtual idx, 3)) (k : V X G nL cells slots σ0 (pc + 3) lv (rest)) : V X G nL cells slots σ pc lv (.int x2 :: .int x1 :: .ref (ga G 4) :: rest) := V_callV C (As := [.int x1, .int x2]) (c_X8_ask X.2.1 G x1 x2 σ σ0 e) cal_X8_ask ww_138 ww_139 hlk rfl hdd (lt110 rfl) rfl rfl rfl hroom hcs hd k
theorem dt_X8_gather_0 : dtab cX8_gather [(0, .aload_n 0, 1), (1, .iconst 0, 1), (2, .putfield 21, 3), (5, .iconst 0, 1), (6, .istore_n 3, 1), (7, .iload_n 3, 1), (8, .aload_n 0, 1), (9, .getfield 51, 3), (12, .getfield 82, 3), (15, .if_icmp .ge 43, 3), (18, .iload_n 1, 1), (19, .iload_n 3, 1), (20, .ishr, 1), (21, .iconst 1, 1), (22, .iand, 1), (23, .ifCond .eq 29, 3), (26, .aload_n 0, 1), (27, .getfield 18, 3), (30, .aload_n 0, 1), (31, .getfield 21, 3), (34, .iload_n 3, 1), (35, .iastore, 1), (36, .aload_n 0, 1), (37, .dup, 1), (38, .getfield 21, 3), (41, .iconst 1, 1), (42, .iadd, 1), (43, .putfield 21, 3), (46, .aload_n 0, 1), (47, .iload_n 3, 1), (48, .iload_n 2, 1), (49, .invokevirtual 85, 3), (52, .iinc 3 1, 3), (55, .goto (-48), 3), (58, .return_, 1)] = true := by decide +kernel
theorem cal_X8_gather : Cal yX8_gather cX8_gather 4 none 2 := ⟨ww_144, ww_129, ⟨by decide, by decide, by decide⟩, by decide⟩
set_option maxHeartbeats 4000000 in
set_option maxRecDepth 100000 in
theorem c_X8_gather (l : Launch) (G : Gx) (x1 : Int32) (x2 : Int32) (σ : St) (σ0 : St) (h : f_X8_gather x1 x2 σ = some σ0) : MI l G yX8_gather cX8_gather 4 none 6 [.ref (ga G 4), .int x1, .int x2] σ none σ0 := by
  refine MI_of RX8 rfl (by decide) [(0, .ref (ga G 4)), (1, .int x1), (2, .int x2)] rfl (Nat.le_of_ble_eq_true rfl) ?_
  intro X hXl C hR
  unfold f_X8_gather at h
  have J_7 : ∀ (x3 : Int32) (σ : St), f_X8_gather_7 x1 x2 x3 σ = some σ0 → V X G 4 0 0 σ 7 [(0, .ref (ga G 4)), (1, .int x1), (2, .int x2), (3, .int x3)] [] := by
    intro x3 σ h
    refine it_v (P := fun z : Int32 × St => V X G 4 0 0 z.2 7 [(0, .ref (ga G 4)), (1, .int x1), (2, .int x2), (3, .int z.1)] []) ?_ (x3, σ) h
    clear h
    intro z w_7 h ih_7 ex_7
    obtain ⟨x3, σ⟩ := z
    have h : b_X8_gather_7 x1 x2 x3 σ = some w_7 := h
    show V X G 4 0 0 σ 7 [(0, .ref (ga G 4)), (1, .int x1), (2, .int x2), (3, .int x3)] []
    unfold b_X8_gather_7 at h
    have J_52 : ∀ (x3 : Int32) (σ : St), f_X8_gather_52 x1 x2 x3 σ = some w_7 → V X G 4 0 0 σ 52 [(0, .ref (ga G 4)), (1, .int x1), (2, .int x2), (3, .int x3)] [] := by
      intro x3 σ h
      unfold f_X8_gather_52 at h
      refine V_iinc C (x3 + 1) 3 [1, 2, 3, 0] (lv' := [(0, .ref (ga G 4)), (1, .int x1), (2, .int x2), (3, .int (x3 + 1))]) (dt_at dt_X8_gather_0 32 rfl) rfl (by rfl) (by decide) rfl ?_
      refine V_goto C 7 (dt_at dt_X8_gather_0 33 rfl) (by decide) ?_
      exact ih_7 ((x3 + 1), σ) (Option.some.inj h).symm
    refine V_iload_n C (dt_at dt_X8_gather_0 5 rfl) 3 rfl rfl ?_
    refine V_aload_n C (dt_at dt_X8_gather_0 6 rfl) 0 rfl rfl ?_
    refine g_X8_51_4 C (dt_at dt_X8_gather_0 7 rfl) ?_
    refine g_X8_82_1 C (dt_at dt_X8_gather_0 8 rfl) ?_
    refine V_icmp_ge C 58 (dt_at dt_X8_gather_0 9 rfl) (by decide) (fun q2 => ?_) (fun q2 => ?_)
    · have h := ite_f q2 h
      have e_7 := ex_7 _ (Option.some.inj h).symm
      subst e_7
      exact V_vret C hR (dt_at dt_X8_gather_0 34 rfl)
    · have h := ite_t q2 h
      refine V_iload_n C (dt_at dt_X8_gather_0 10 rfl) 1 rfl rfl ?_
      refine V_iload_n C (dt_at dt_X8_gather_0 11 rfl) 3 rfl rfl ?_
      refine V_ishr C (dt_at dt_X8_gather_0 12 rfl) ?_
      refine V_iconst C 1 (dt_at dt_X8_gather_0 13 rfl) (by decide) ?_
      refine V_iand C (dt_at dt_X8_gather_0 14 rfl) ?_
      refine V_if_eq C 52 (dt_at dt_X8_gather_0 15 rfl) (by decide) (fun q3 => ?_) (fun q3 => ?_)
      · have h := ite_t q3 h
        exact J_52 x3 σ h
      · have h := ite_f q3 h
        refine V_aload_n C (dt_at dt_X8_gather_0 16 rfl) 0 rfl rfl ?_
        refine g_X8_18_4 C (dt_at dt_X8_gather_0 17 rfl) ?_
        refine V_aload_n C (dt_at dt_X8_gather_0 18 rfl) 0 rfl rfl ?_
        refine g_X8_21_4 C (dt_at dt_X8_gather_0 19 rfl) ?_
        refine V_iload_n C (dt_at dt_X8_gather_0 20 rfl) 3 rfl rfl ?_
        obtain ⟨h5, h⟩ := chk_s h
        obtain ⟨σ4, eσ4, h⟩ := nm_s h
        refine V_st eσ4 ?_ (fun k => as_35 C h5 (dt_at dt_X8_gather_0 21 rfl) k)
        refine V_aload_n C (dt_at dt_X8_gather_0 22 rfl) 0 rfl rfl ?_
        refine V_dup C (dt_at dt_X8_gather_0 23 rfl) rfl ?_
        refine g_X8_21_4 C (dt_at dt_X8_gather_0 24 rfl) ?_
        refine V_iconst C 1 (dt_at dt_X8_gather_0 25 rfl) (by decide) ?_
        refine V_iadd C (dt_at dt_X8_gather_0 26 rfl) ?_
        obtain ⟨σ6, eσ6, h⟩ := nm_s h
        refine V_st eσ6 ?_ (fun k => p_X8_21_4 C (dt_at dt_X8_gather_0 27 rfl) k)
        refine V_aload_n C (dt_at dt_X8_gather_0 28 rfl) 0 rfl rfl ?_
        refine V_iload_n C (dt_at dt_X8_gather_0 29 rfl) 3 rfl rfl ?_
        refine V_iload_n C (dt_at dt_X8_gather_0 30 rfl) 2 rfl rfl ?_
        obtain ⟨σ9, e8, h⟩ := bd_s h
        refine cv_X8_ask C ww_143 x3 x2 e8 (Nat.le_of_ble_eq_true rfl) (Nat.le_of_ble_eq_true rfl) z0 (dt_at dt_X8_gather_0 31 rfl) ?_
        exact J_52 x3 σ9 h
  refine V_aload_n C (dt_at dt_X8_gather_0 0 rfl) 0 rfl rfl ?_
  refine V_iconst C 0 (dt_at dt_X8_gather_0 1 rfl) (by decide) ?_
  obtain ⟨σ1, eσ1, h⟩ := nm_s h
  refine V_st eσ1 ?_ (fun k => p_X8_21_4 C (dt_at dt_X8_gather_0 2 rfl) k)
  refine V_iconst C 0 (dt_at dt_X8_gather_0 3 rfl) (by decide) ?_
  refine V_istore_n C [1, 2, 3, 0] (lv' := [(0, .ref (ga G 4)), (1, .int x1), (2, .int x2), (3, .int 0)]) (dt_at dt_X8_gather_0 4 rfl) rfl (by decide) rfl ?_
  exact J_7 0 σ1 h
theorem cv_X8_gather (C : Ck X G cc own nL d) {idx : Nat} (hlk : Cond.methodLink own idx yX8_gather ∈ gtb) (x1 : Int32) (x2 : Int32) {σ0 : St} (e : f_X8_gather x1 x2 σ = some σ0) (hdd : 7 ≤ d) (hroom : (rest.map fun v => v.category).sum ≤ 8) (hcs : cells ≤ (xR X).cells ∧ slots ≤ (xR X).slots) (hd : decode cc pc = .ok (.invokevirtual idx, 3)) (k : V X G nL cells slots σ0 (pc + 3) lv (rest)) : V X G nL cells slots σ pc lv (.int x2 :: .int x1 :: .ref (ga G 4) :: rest) := V_callV C (As := [.int x1, .int x2]) (c_X8_gather X.2.1 G x1 x2 σ σ0 e) cal_X8_gather ww_145 ww_146 hlk rfl hdd (lt110 rfl) rfl rfl rfl hroom hcs hd k
theorem dt_X8_price_0 : dtab cX8_price [(0, .aload_n 0, 1), (1, .getfield 30, 3), (4, .iconst 0, 1), (5, .iconst 0, 1), (6, .iastore, 1), (7, .iconst 0, 1), (8, .istore_n 2, 1), (9, .iload_n 2, 1), (10, .aload_n 0, 1), (11, .getfield 51, 3), (14, .getfield 64, 3), (17, .if_icmp .ge 112, 3), (20, .iconst 1, 1), (21, .iload_n 2, 1), (22, .ishl, 1), (23, .istore_n 3, 1), (24, .aload_n 0, 1), (25, .getfield 27, 3), (28, .iload_n 1, 1), (29, .aaload, 1), (30, .iload_n 2, 1), (31, .iaload, 1), (32, .istore 4, 2), (34, .aload_n 0, 1), (35, .getfield 55, 3), (38, .getfield 79, 3), (41, .iload_n 2, 1), (42, .iaload, 1), (43, .istore 5, 2), (45, .iconst 0, 1), (46, .istore 6, 2), (48, .iload 6, 2), (50, .iload_n 3, 1), (51, .if_icmp .ge 72, 3), (54, .iload 4, 2), (56, .ldc 97, 2), (58, .if_icmp .ge 27, 3), (61, .aload_n 0, 1), (62, .getfield 30, 3), (65, .iload 6, 2)] = true := by decide +kernel
theorem dt_X8_price_1 : dtab cX8_price [(67, .iaload, 1), (68, .ldc 97, 2), (70, .if_icmp .ge 15, 3), (73, .iload 5, 2), (75, .iload 6, 2), (77, .iand, 1), (78, .ifCond .ne 7, 3), (81, .iconst 1, 1), (82, .goto 4, 3), (85, .iconst 0, 1), (86, .istore 7, 2), (88, .aload_n 0, 1), (89, .getfield 30, 3), (92, .iload 6, 2), (94, .iload_n 3, 1), (95, .ior, 1), (96, .iload 7, 2), (98, .ifCond .eq 16, 3), (101, .aload_n 0, 1), (102, .getfield 30, 3), (105, .iload 6, 2), (107, .iaload, 1), (108, .iload 4, 2), (110, .iadd, 1), (111, .goto 5, 3), (114, .ldc 97, 2), (116, .iastore, 1), (117, .iinc 6 1, 3), (120, .goto (-72), 3), (123, .iinc 2 1, 3), (126, .goto (-117), 3), (129, .return_, 1)] = true := by decide +kernel
theorem cal_X8_price : Cal yX8_price cX8_price 8 none 1 := ⟨ww_149, ww_129, ⟨by decide, by decide, by decide⟩, by decide⟩
set_option maxHeartbeats 4000000 in
set_option maxRecDepth 100000 in
theorem c_X8_price (l : Launch) (G : Gx) (x1 : Int32) (σ : St) (σ0 : St) (h : f_X8_price x1 σ = some σ0) : MI l G yX8_price cX8_price 8 none 1 [.ref (ga G 4), .int x1] σ none σ0 := by
  refine MI_of RX8 rfl (by decide) [(0, .ref (ga G 4)), (1, .int x1)] rfl (Nat.le_of_ble_eq_true rfl) ?_
  intro X hXl C hR
  unfold f_X8_price at h
  have J_9 : ∀ (x2 : Int32) (σ : St), f_X8_price_9 x1 x2 σ = some σ0 → V X G 8 0 0 σ 9 [(0, .ref (ga G 4)), (1, .int x1), (2, .int x2)] [] := by
    intro x2 σ h
    refine it_v (P := fun z : Int32 × St => V X G 8 0 0 z.2 9 [(0, .ref (ga G 4)), (1, .int x1), (2, .int z.1)] []) ?_ (x2, σ) h
    clear h
    intro z w_9 h ih_9 ex_9
    obtain ⟨x2, σ⟩ := z
    have h : b_X8_price_9 x1 x2 σ = some w_9 := h
    show V X G 8 0 0 σ 9 [(0, .ref (ga G 4)), (1, .int x1), (2, .int x2)] []
    unfold b_X8_price_9 at h
    have J_123 : ∀ (x2 : Int32) (σ : St), f_X8_price_123 x1 x2 σ = some w_9 → V X G 8 0 0 σ 123 [(0, .ref (ga G 4)), (1, .int x1), (2, .int x2)] [] := by
      intro x2 σ h
      unfold f_X8_price_123 at h
      refine V_iinc C (x2 + 1) 2 [1, 2, 0] (lv' := [(0, .ref (ga G 4)), (1, .int x1), (2, .int (x2 + 1))]) (dt_at dt_X8_price_1 29 rfl) rfl (by rfl) (by decide) rfl ?_
      refine V_goto C 9 (dt_at dt_X8_price_1 30 rfl) (by decide) ?_
      exact ih_9 ((x2 + 1), σ) (Option.some.inj h).symm
    have J_48 : ∀ (x2 : Int32) (x3 : Int32) (x4 : Int32) (x5 : Int32) (x6 : Int32) (σ : St), f_X8_price_48 x1 x2 x3 x4 x5 x6 σ = some w_9 → V X G 8 0 0 σ 48 [(0, .ref (ga G 4)), (1, .int x1), (2, .int x2), (3, .int x3), (4, .int x4), (5, .int x5), (6, .int x6)] [] := by
      intro x2 x3 x4 x5 x6 σ h
      refine it_v (P := fun z : Int32 × St => V X G 8 0 0 z.2 48 [(0, .ref (ga G 4)), (1, .int x1), (2, .int x2), (3, .int x3), (4, .int x4), (5, .int x5), (6, .int z.1)] []) ?_ (x6, σ) h
      clear h
      intro z w_48 h ih_48 ex_48
      obtain ⟨x6, σ⟩ := z
      have h : b_X8_price_48 x1 x2 x3 x4 x5 x6 σ = some w_48 := h
      show V X G 8 0 0 σ 48 [(0, .ref (ga G 4)), (1, .int x1), (2, .int x2), (3, .int x3), (4, .int x4), (5, .int x5), (6, .int x6)] []
      unfold b_X8_price_48 at h
      have J_116 : ∀ (x6 : Int32) (s0 : Int32) (s1 : Int32) (σ : St), f_X8_price_116 x1 x2 x3 x4 x5 x6 s0 s1 σ = some w_48 → V X G 8 0 0 σ 116 [(0, .ref (ga G 4)), (1, .int x1), (2, .int x2), (3, .int x3), (4, .int x4), (5, .int x5), (6, .int x6)] [.int s0, .int s1, .ref (ga G 37)] := by
        intro x6 s0 s1 σ h
        unfold f_X8_price_116 at h
        obtain ⟨h16, h⟩ := chk_s h
        obtain ⟨σ15, eσ15, h⟩ := nm_s h
        refine V_st eσ15 ?_ (fun k => as_37 C h16 (dt_at dt_X8_price_1 26 rfl) k)
        refine V_iinc C (x6 + 1) 6 [1, 2, 3, 4, 5, 6, 0] (lv' := [(0, .ref (ga G 4)), (1, .int x1), (2, .int x2), (3, .int x3), (4, .int x4), (5, .int x5), (6, .int (x6 + 1))]) (dt_at dt_X8_price_1 27 rfl) rfl (by rfl) (by decide) rfl ?_
        refine V_goto C 48 (dt_at dt_X8_price_1 28 rfl) (by decide) ?_
        exact ih_48 ((x6 + 1), σ15) (Option.some.inj h).symm
      have J_86 : ∀ (x6 : Int32) (s0 : Int32) (σ : St), f_X8_price_86 x1 x2 x3 x4 x5 x6 s0 σ = some w_48 → V X G 8 0 0 σ 86 [(0, .ref (ga G 4)), (1, .int x1), (2, .int x2), (3, .int x3), (4, .int x4), (5, .int x5), (6, .int x6)] [.int s0] := by
        intro x6 s0 σ h
        unfold f_X8_price_86 at h
        refine V_istore C [1, 2, 3, 4, 5, 6, 7, 0] (lv' := [(0, .ref (ga G 4)), (1, .int x1), (2, .int x2), (3, .int x3), (4, .int x4), (5, .int x5), (6, .int x6), (7, .int s0)]) (dt_at dt_X8_price_1 10 rfl) (by decide) rfl ?_
        refine V_aload_n C (dt_at dt_X8_price_1 11 rfl) 0 rfl rfl ?_
        refine g_X8_30_4 C (dt_at dt_X8_price_1 12 rfl) ?_
        refine V_iload C (dt_at dt_X8_price_1 13 rfl) 6 rfl ?_
        refine V_iload_n C (dt_at dt_X8_price_1 14 rfl) 3 rfl rfl ?_
        refine V_ior C (dt_at dt_X8_price_1 15 rfl) ?_
        refine V_iload C (dt_at dt_X8_price_1 16 rfl) 7 rfl ?_
        refine V_if_eq C 114 (dt_at dt_X8_price_1 17 rfl) (by decide) (fun q13 => ?_) (fun q13 => ?_)
        · have h := ite_t q13 h
          refine V_ldc C 100000000 (dt_at dt_X8_price_1 25 rfl) ww_135 ?_
          refine V_sub [0, 1, 2, 3, 4, 5, 6] (lv' := [(0, .ref (ga G 4)), (1, .int x1), (2, .int x2), (3, .int x3), (4, .int x4), (5, .int x5), (6, .int x6)]) rfl ?_
          exact J_116 x6 100000000 (x6 ||| x3) σ h
        · have h := ite_f q13 h
          refine V_aload_n C (dt_at dt_X8_price_1 18 rfl) 0 rfl rfl ?_
          refine g_X8_30_4 C (dt_at dt_X8_price_1 19 rfl) ?_
          refine V_iload C (dt_at dt_X8_price_1 20 rfl) 6 rfl ?_
          obtain ⟨h14, h⟩ := chk_s h
          refine al_37 C h14 (dt_at dt_X8_price_1 21 rfl) ?_
          refine V_iload C (dt_at dt_X8_price_1 22 rfl) 4 rfl ?_
          refine V_iadd C (dt_at dt_X8_price_1 23 rfl) ?_
          refine V_goto C 116 (dt_at dt_X8_price_1 24 rfl) (by decide) ?_
          refine V_sub [0, 1, 2, 3, 4, 5, 6] (lv' := [(0, .ref (ga G 4)), (1, .int x1), (2, .int x2), (3, .int x3), (4, .int x4), (5, .int x5), (6, .int x6)]) rfl ?_
          exact J_116 x6 ((rd σ 37 x6) + x4) (x6 ||| x3) σ h
      have J_85 : ∀ (x6 : Int32) (σ : St), f_X8_price_85 x1 x2 x3 x4 x5 x6 σ = some w_48 → V X G 8 0 0 σ 85 [(0, .ref (ga G 4)), (1, .int x1), (2, .int x2), (3, .int x3), (4, .int x4), (5, .int x5), (6, .int x6)] [] := by
        intro x6 σ h
        unfold f_X8_price_85 at h
        refine V_iconst C 0 (dt_at dt_X8_price_1 9 rfl) (by decide) ?_
        exact J_86 x6 0 σ h
      refine V_iload C (dt_at dt_X8_price_0 31 rfl) 6 rfl ?_
      refine V_iload_n C (dt_at dt_X8_price_0 32 rfl) 3 rfl rfl ?_
      refine V_icmp_ge C 123 (dt_at dt_X8_price_0 33 rfl) (by decide) (fun q7 => ?_) (fun q7 => ?_)
      · have h := ite_f q7 h
        refine V_sub [0, 1, 2] (lv' := [(0, .ref (ga G 4)), (1, .int x1), (2, .int x2)]) rfl ?_
        obtain ⟨t8, h, e_48⟩ := map_s h
        have e_48 := ex_48 _ e_48
        rw [e_48] at h
        exact J_123 x2 σ h
      · have h := ite_t q7 h
        refine V_iload C (dt_at dt_X8_price_0 34 rfl) 4 rfl ?_
        refine V_ldc C 100000000 (dt_at dt_X8_price_0 35 rfl) ww_135 ?_
        refine V_icmp_ge C 85 (dt_at dt_X8_price_0 36 rfl) (by decide) (fun q9 => ?_) (fun q9 => ?_)
        · have h := ite_f q9 h
          exact J_85 x6 σ h
        · have h := ite_t q9 h
          refine V_aload_n C (dt_at dt_X8_price_0 37 rfl) 0 rfl rfl ?_
          refine g_X8_30_4 C (dt_at dt_X8_price_0 38 rfl) ?_
          refine V_iload C (dt_at dt_X8_price_0 39 rfl) 6 rfl ?_
          obtain ⟨h10, h⟩ := chk_s h
          refine al_37 C h10 (dt_at dt_X8_price_1 0 rfl) ?_
          refine V_ldc C 100000000 (dt_at dt_X8_price_1 1 rfl) ww_135 ?_
          refine V_icmp_ge C 85 (dt_at dt_X8_price_1 2 rfl) (by decide) (fun q11 => ?_) (fun q11 => ?_)
          · have h := ite_f q11 h
            exact J_85 x6 σ h
          · have h := ite_t q11 h
            refine V_iload C (dt_at dt_X8_price_1 3 rfl) 5 rfl ?_
            refine V_iload C (dt_at dt_X8_price_1 4 rfl) 6 rfl ?_
            refine V_iand C (dt_at dt_X8_price_1 5 rfl) ?_
            refine V_if_ne C 85 (dt_at dt_X8_price_1 6 rfl) (by decide) (fun q12 => ?_) (fun q12 => ?_)
            · have h := ite_f q12 h
              exact J_85 x6 σ h
            · have h := ite_t q12 h
              refine V_iconst C 1 (dt_at dt_X8_price_1 7 rfl) (by decide) ?_
              refine V_goto C 86 (dt_at dt_X8_price_1 8 rfl) (by decide) ?_
              exact J_86 x6 1 σ h
    refine V_iload_n C (dt_at dt_X8_price_0 7 rfl) 2 rfl rfl ?_
    refine V_aload_n C (dt_at dt_X8_price_0 8 rfl) 0 rfl rfl ?_
    refine g_X8_51_4 C (dt_at dt_X8_price_0 9 rfl) ?_
    refine g_X8_64_1 C (dt_at dt_X8_price_0 10 rfl) ?_
    refine V_icmp_ge C 129 (dt_at dt_X8_price_0 11 rfl) (by decide) (fun q3 => ?_) (fun q3 => ?_)
    · have h := ite_f q3 h
      have e_9 := ex_9 _ (Option.some.inj h).symm
      subst e_9
      exact V_vret C hR (dt_at dt_X8_price_1 31 rfl)
    · have h := ite_t q3 h
      refine V_iconst C 1 (dt_at dt_X8_price_0 12 rfl) (by decide) ?_
      refine V_iload_n C (dt_at dt_X8_price_0 13 rfl) 2 rfl rfl ?_
      refine V_ishl C (dt_at dt_X8_price_0 14 rfl) ?_
      refine V_istore_n C [1, 2, 3, 0] (lv' := [(0, .ref (ga G 4)), (1, .int x1), (2, .int x2), (3, .int ((1 : Int32) <<< (x2 &&& 31)))]) (dt_at dt_X8_price_0 15 rfl) rfl (by decide) rfl ?_
      refine V_aload_n C (dt_at dt_X8_price_0 16 rfl) 0 rfl rfl ?_
      refine g_X8_27_4 C (dt_at dt_X8_price_0 17 rfl) ?_
      refine V_iload_n C (dt_at dt_X8_price_0 18 rfl) 1 rfl rfl ?_
      obtain ⟨h4, h⟩ := chk_s h
      refine V_aa36 C h4 (dt_at dt_X8_price_0 19 rfl) ?_
      have h5 : isSingle (40 + x1.toNatClampNeg) = true := ok_36 h4
      refine V_iload_n C (dt_at dt_X8_price_0 20 rfl) 2 rfl rfl ?_
      obtain ⟨h6, h⟩ := chk_s h
      refine V_iald C (K := (40 + x1.toNatClampNeg)) (isSingle_lt h5) (lay_single G h5 (_) _) h6 (dt_at dt_X8_price_0 21 rfl) ?_
      refine V_istore C [1, 2, 3, 4, 0] (lv' := [(0, .ref (ga G 4)), (1, .int x1), (2, .int x2), (3, .int ((1 : Int32) <<< (x2 &&& 31))), (4, .int (rd σ (40 + x1.toNatClampNeg) x2))]) (dt_at dt_X8_price_0 22 rfl) (by decide) rfl ?_
      refine V_aload_n C (dt_at dt_X8_price_0 23 rfl) 0 rfl rfl ?_
      refine g_X8_55_4 C (dt_at dt_X8_price_0 24 rfl) ?_
      refine g_X8_79_3 C (dt_at dt_X8_price_0 25 rfl) ?_
      refine V_iload_n C (dt_at dt_X8_price_0 26 rfl) 2 rfl rfl ?_
      refine al_32 C h6 (dt_at dt_X8_price_0 27 rfl) ?_
      refine V_istore C [1, 2, 3, 4, 5, 0] (lv' := [(0, .ref (ga G 4)), (1, .int x1), (2, .int x2), (3, .int ((1 : Int32) <<< (x2 &&& 31))), (4, .int (rd σ (40 + x1.toNatClampNeg) x2)), (5, .int (rd σ 32 x2))]) (dt_at dt_X8_price_0 28 rfl) (by decide) rfl ?_
      refine V_iconst C 0 (dt_at dt_X8_price_0 29 rfl) (by decide) ?_
      refine V_istore C [1, 2, 3, 4, 5, 6, 0] (lv' := [(0, .ref (ga G 4)), (1, .int x1), (2, .int x2), (3, .int ((1 : Int32) <<< (x2 &&& 31))), (4, .int (rd σ (40 + x1.toNatClampNeg) x2)), (5, .int (rd σ 32 x2)), (6, .int 0)]) (dt_at dt_X8_price_0 30 rfl) (by decide) rfl ?_
      exact J_48 x2 ((1 : Int32) <<< (x2 &&& 31)) (rd σ (40 + x1.toNatClampNeg) x2) (rd σ 32 x2) 0 σ h
  refine V_aload_n C (dt_at dt_X8_price_0 0 rfl) 0 rfl rfl ?_
  refine g_X8_30_4 C (dt_at dt_X8_price_0 1 rfl) ?_
  refine V_iconst C 0 (dt_at dt_X8_price_0 2 rfl) (by decide) ?_
  refine V_iconst C 0 (dt_at dt_X8_price_0 3 rfl) (by decide) ?_
  obtain ⟨h2, h⟩ := chk_s h
  obtain ⟨σ1, eσ1, h⟩ := nm_s h
  refine V_st eσ1 ?_ (fun k => as_37 C h2 (dt_at dt_X8_price_0 4 rfl) k)
  refine V_iconst C 0 (dt_at dt_X8_price_0 5 rfl) (by decide) ?_
  refine V_istore_n C [1, 2, 0] (lv' := [(0, .ref (ga G 4)), (1, .int x1), (2, .int 0)]) (dt_at dt_X8_price_0 6 rfl) rfl (by decide) rfl ?_
  exact J_9 0 σ1 h
theorem cv_X8_price (C : Ck X G cc own nL d) {idx : Nat} (hlk : Cond.methodLink own idx yX8_price ∈ gtb) (x1 : Int32) {σ0 : St} (e : f_X8_price x1 σ = some σ0) (hdd : 2 ≤ d) (hroom : (rest.map fun v => v.category).sum ≤ 8) (hcs : cells ≤ (xR X).cells ∧ slots ≤ (xR X).slots) (hd : decode cc pc = .ok (.invokevirtual idx, 3)) (k : V X G nL cells slots σ0 (pc + 3) lv (rest)) : V X G nL cells slots σ pc lv (.int x1 :: .ref (ga G 4) :: rest) := V_callV C (As := [.int x1]) (c_X8_price X.2.1 G x1 σ σ0 e) cal_X8_price ww_150 ww_151 hlk rfl hdd (lt110 rfl) rfl rfl rfl hroom hcs hd k
end WK
