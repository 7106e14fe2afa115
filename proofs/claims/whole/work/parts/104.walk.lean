section WK
variable {X : Xx} {G : Gx} {cc : ByteArray} {own : String} {nL d cells slots pc : Nat} {σ : St} {lv : List (Nat × Value)} {rest : List Value}
theorem dt_X12_bars_0 : dtab cX12_bars [(0, .iload_n 1, 1), (1, .iconst 0, 1), (2, .iconst 3, 1), (3, .invokestatic 91, 3), (6, .ifCond .ne 9, 3), (9, .aload_n 0, 1), (10, .iconst 1, 1), (11, .invokevirtual 95, 3), (14, .ireturn, 1), (15, .aload_n 0, 1), (16, .invokevirtual 243, 3), (19, .iload_n 1, 1), (20, .ifCond .ne 10, 3), (23, .aload_n 0, 1), (24, .getfield 40, 3), (27, .iconst 0, 1), (28, .iaload, 1), (29, .ireturn, 1), (30, .aload_n 0, 1), (31, .getfield 40, 3), (34, .iconst 0, 1), (35, .iaload, 1), (36, .ifCond .eq 18, 3), (39, .aload_n 0, 1), (40, .getfield 40, 3), (43, .iconst 0, 1), (44, .iaload, 1), (45, .iconst 1, 1), (46, .if_icmp .ne 16, 3), (49, .iload_n 1, 1), (50, .iconst 1, 1), (51, .if_icmp .le 11, 3), (54, .aload_n 0, 1), (55, .iconst 2, 1), (56, .invokevirtual 95, 3), (59, .goto 9, 3), (62, .aload_n 0, 1), (63, .getfield 40, 3), (66, .iload_n 1, 1), (67, .iaload, 1)] = true := by decide +kernel
theorem dt_X12_bars_1 : dtab cX12_bars [(68, .ireturn, 1)] = true := by decide +kernel
theorem cal_X12_bars : Cal yX12_bars cX12_bars 2 (some .int) 1 := ⟨ww_520, ww_429, ⟨by decide, by decide, by decide⟩, by decide⟩
set_option maxHeartbeats 4000000 in
set_option maxRecDepth 100000 in
theorem c_X12_bars (l : Launch) (G : Gx) (x1 : Int32) (σ : St) (r0 : Int32) (σ0 : St) (h : f_X12_bars x1 σ = some (r0, σ0)) : MI l G yX12_bars cX12_bars 2 (some .int) 8 [.ref (ga G 6), .int x1] σ (some (.int r0)) σ0 := by
  refine MI_of RX12 rfl (by decide) [(0, .ref (ga G 6)), (1, .int x1)] rfl (Nat.le_of_ble_eq_true rfl) ?_
  intro X hXl C hR
  unfold f_X12_bars at h
  have J_62 : ∀ (σ : St), f_X12_bars_62 x1 σ = some (r0, σ0) → V X G 2 0 0 σ 62 [(0, .ref (ga G 6)), (1, .int x1)] [] := by
    intro σ h
    unfold f_X12_bars_62 at h
    refine V_aload_n C (dt_at dt_X12_bars_0 36 rfl) 0 rfl rfl ?_
    refine g_X12_40_6 C (dt_at dt_X12_bars_0 37 rfl) ?_
    refine V_iload_n C (dt_at dt_X12_bars_0 38 rfl) 1 rfl rfl ?_
    obtain ⟨h20, h⟩ := chk_s h
    refine al_94 C h20 (dt_at dt_X12_bars_0 39 rfl) ?_
    obtain ⟨e1_, e2_⟩ := pin2 h
    subst e1_; subst e2_
    exact V_iret C hR (dt_at dt_X12_bars_1 0 rfl)
  have J_54 : ∀ (σ : St), f_X12_bars_54 σ = some (r0, σ0) → V X G 2 0 0 σ 54 [(0, .ref (ga G 6))] [] := by
    intro σ h
    unfold f_X12_bars_54 at h
    refine V_aload_n C (dt_at dt_X12_bars_0 32 rfl) 0 rfl rfl ?_
    refine V_iconst C 2 (dt_at dt_X12_bars_0 33 rfl) (by decide) ?_
    obtain ⟨r17, σ19, e18, h⟩ := bd2_s h
    refine cv_X12_finds C ww_462 2 e18 (Nat.le_of_ble_eq_true rfl) (Nat.le_of_ble_eq_true rfl) z0 (dt_at dt_X12_bars_0 34 rfl) ?_
    refine V_goto C 68 (dt_at dt_X12_bars_0 35 rfl) (by decide) ?_
    obtain ⟨e1_, e2_⟩ := pin2 h
    subst e1_; subst e2_
    exact V_iret C hR (dt_at dt_X12_bars_1 0 rfl)
  refine V_iload_n C (dt_at dt_X12_bars_0 0 rfl) 1 rfl rfl ?_
  refine V_iconst C 0 (dt_at dt_X12_bars_0 1 rfl) (by decide) ?_
  refine V_iconst C 3 (dt_at dt_X12_bars_0 2 rfl) (by decide) ?_
  obtain ⟨r1, e2, h⟩ := bd_s h
  refine cv_X12_in C ww_437 x1 0 3 e2 (Nat.le_of_ble_eq_true rfl) (Nat.le_of_ble_eq_true rfl) z0 (dt_at dt_X12_bars_0 3 rfl) ?_
  refine V_if_ne C 15 (dt_at dt_X12_bars_0 4 rfl) (by decide) (fun q4 => ?_) (fun q4 => ?_)
  · have h := ite_f q4 h
    refine V_aload_n C (dt_at dt_X12_bars_0 9 rfl) 0 rfl rfl ?_
    obtain ⟨σ7, e6, h⟩ := bd_s h
    refine cv_X12_findBar C ww_519  e6 (Nat.le_of_ble_eq_true rfl) (Nat.le_of_ble_eq_true rfl) z0 (dt_at dt_X12_bars_0 10 rfl) ?_
    refine V_iload_n C (dt_at dt_X12_bars_0 11 rfl) 1 rfl rfl ?_
    refine V_if_ne C 30 (dt_at dt_X12_bars_0 12 rfl) (by decide) (fun q8 => ?_) (fun q8 => ?_)
    · have h := ite_f q8 h
      refine V_aload_n C (dt_at dt_X12_bars_0 18 rfl) 0 rfl rfl ?_
      refine g_X12_40_6 C (dt_at dt_X12_bars_0 19 rfl) ?_
      refine V_iconst C 0 (dt_at dt_X12_bars_0 20 rfl) (by decide) ?_
      obtain ⟨h9, h⟩ := chk_s h
      refine al_94 C h9 (dt_at dt_X12_bars_0 21 rfl) ?_
      refine V_if_eq C 54 (dt_at dt_X12_bars_0 22 rfl) (by decide) (fun q10 => ?_) (fun q10 => ?_)
      · have h := ite_t q10 h
        refine V_sub [0] (lv' := [(0, .ref (ga G 6))]) rfl ?_
        exact J_54 σ7 h
      · have h := ite_f q10 h
        refine V_aload_n C (dt_at dt_X12_bars_0 23 rfl) 0 rfl rfl ?_
        refine g_X12_40_6 C (dt_at dt_X12_bars_0 24 rfl) ?_
        refine V_iconst C 0 (dt_at dt_X12_bars_0 25 rfl) (by decide) ?_
        refine al_94 C h9 (dt_at dt_X12_bars_0 26 rfl) ?_
        refine V_iconst C 1 (dt_at dt_X12_bars_0 27 rfl) (by decide) ?_
        refine V_icmp_ne C 62 (dt_at dt_X12_bars_0 28 rfl) (by decide) (fun q11 => ?_) (fun q11 => ?_)
        · have h := ite_f q11 h
          exact J_62 σ7 h
        · have h := ite_t q11 h
          refine V_iload_n C (dt_at dt_X12_bars_0 29 rfl) 1 rfl rfl ?_
          refine V_iconst C 1 (dt_at dt_X12_bars_0 30 rfl) (by decide) ?_
          refine V_icmp_le C 62 (dt_at dt_X12_bars_0 31 rfl) (by decide) (fun q12 => ?_) (fun q12 => ?_)
          · have h := ite_f q12 h
            exact J_62 σ7 h
          · have h := ite_t q12 h
            refine V_sub [0] (lv' := [(0, .ref (ga G 6))]) rfl ?_
            exact J_54 σ7 h
    · have h := ite_t q8 h
      refine V_aload_n C (dt_at dt_X12_bars_0 13 rfl) 0 rfl rfl ?_
      refine g_X12_40_6 C (dt_at dt_X12_bars_0 14 rfl) ?_
      refine V_iconst C 0 (dt_at dt_X12_bars_0 15 rfl) (by decide) ?_
      obtain ⟨h13, h⟩ := chk_s h
      refine al_94 C h13 (dt_at dt_X12_bars_0 16 rfl) ?_
      obtain ⟨e1_, e2_⟩ := pin2 h
      subst e1_; subst e2_
      exact V_iret C hR (dt_at dt_X12_bars_0 17 rfl)
  · have h := ite_t q4 h
    refine V_aload_n C (dt_at dt_X12_bars_0 5 rfl) 0 rfl rfl ?_
    refine V_iconst C 1 (dt_at dt_X12_bars_0 6 rfl) (by decide) ?_
    obtain ⟨r14, σ16, e15, h⟩ := bd2_s h
    refine cv_X12_finds C ww_462 1 e15 (Nat.le_of_ble_eq_true rfl) (Nat.le_of_ble_eq_true rfl) z0 (dt_at dt_X12_bars_0 7 rfl) ?_
    obtain ⟨e1_, e2_⟩ := pin2 h
    subst e1_; subst e2_
    exact V_iret C hR (dt_at dt_X12_bars_0 8 rfl)
theorem cv_X12_bars (C : Ck X G cc own nL d) {idx : Nat} (hlk : Cond.methodLink own idx yX12_bars ∈ gtb) (x1 : Int32) {r0 : Int32} {σ0 : St} (e : f_X12_bars x1 σ = some (r0, σ0)) (hdd : 9 ≤ d) (hroom : (rest.map fun v => v.category).sum ≤ 8) (hcs : cells ≤ (xR X).cells ∧ slots ≤ (xR X).slots) (hd : decode cc pc = .ok (.invokevirtual idx, 3)) (k : V X G nL cells slots σ0 (pc + 3) lv (.int r0 :: rest)) : V X G nL cells slots σ pc lv (.int x1 :: .ref (ga G 6) :: rest) := V_callV C (As := [.int x1]) (c_X12_bars X.2.1 G x1 σ r0 σ0 e) cal_X12_bars ww_521 ww_522 hlk rfl hdd (lt110 rfl) rfl rfl rfl hroom hcs hd k
theorem dt_X12_isTroupe_0 : dtab cX12_isTroupe [(0, .iload_n 1, 1), (1, .ifCond .lt 18, 3), (4, .iload_n 1, 1), (5, .aload_n 0, 1), (6, .getfield 7, 3), (9, .iconst 3, 1), (10, .iaload, 1), (11, .ishr, 1), (12, .ifCond .ne 7, 3), (15, .iconst 1, 1), (16, .goto 4, 3), (19, .iconst 0, 1), (20, .ireturn, 1)] = true := by decide +kernel
theorem cal_X12_isTroupe : Cal yX12_isTroupe cX12_isTroupe 2 (some .boolean) 1 := ⟨ww_523, ww_429, ⟨by decide, by decide, by decide⟩, by decide⟩
set_option maxHeartbeats 4000000 in
set_option maxRecDepth 100000 in
theorem c_X12_isTroupe (l : Launch) (G : Gx) (x1 : Int32) (σ : St) (r0 : Int32) (h : f_X12_isTroupe x1 σ = some r0) : MI l G yX12_isTroupe cX12_isTroupe 2 (some .boolean) 1 [.ref (ga G 6), .int x1] σ (some (.int r0)) σ := by
  refine MI_of RX12 rfl (by decide) [(0, .ref (ga G 6)), (1, .int x1)] rfl (Nat.le_of_ble_eq_true rfl) ?_
  intro X hXl C hR
  unfold f_X12_isTroupe at h
  refine V_iload_n C (dt_at dt_X12_isTroupe_0 0 rfl) 1 rfl rfl ?_
  refine V_if_lt C 19 (dt_at dt_X12_isTroupe_0 1 rfl) (by decide) (fun q1 => ?_) (fun q1 => ?_)
  · have h := ite_t q1 h
    refine V_iconst C 0 (dt_at dt_X12_isTroupe_0 11 rfl) (by decide) ?_
    have e1_ := Option.some.inj h
    subst e1_
    exact V_zret C rfl hR (dt_at dt_X12_isTroupe_0 12 rfl)
  · have h := ite_f q1 h
    refine V_iload_n C (dt_at dt_X12_isTroupe_0 2 rfl) 1 rfl rfl ?_
    refine V_aload_n C (dt_at dt_X12_isTroupe_0 3 rfl) 0 rfl rfl ?_
    refine g_X12_7_6 C (dt_at dt_X12_isTroupe_0 4 rfl) ?_
    refine V_iconst C 3 (dt_at dt_X12_isTroupe_0 5 rfl) (by decide) ?_
    obtain ⟨h2, h⟩ := chk_s h
    refine al_84 C h2 (dt_at dt_X12_isTroupe_0 6 rfl) ?_
    refine V_ishr C (dt_at dt_X12_isTroupe_0 7 rfl) ?_
    refine V_if_ne C 19 (dt_at dt_X12_isTroupe_0 8 rfl) (by decide) (fun q3 => ?_) (fun q3 => ?_)
    · have h := ite_f q3 h
      refine V_iconst C 0 (dt_at dt_X12_isTroupe_0 11 rfl) (by decide) ?_
      have e1_ := Option.some.inj h
      subst e1_
      exact V_zret C rfl hR (dt_at dt_X12_isTroupe_0 12 rfl)
    · have h := ite_t q3 h
      refine V_iconst C 1 (dt_at dt_X12_isTroupe_0 9 rfl) (by decide) ?_
      refine V_goto C 20 (dt_at dt_X12_isTroupe_0 10 rfl) (by decide) ?_
      have e1_ := Option.some.inj h
      subst e1_
      exact V_zret C rfl hR (dt_at dt_X12_isTroupe_0 12 rfl)
theorem cv_X12_isTroupe (C : Ck X G cc own nL d) {idx : Nat} (hlk : Cond.methodLink own idx yX12_isTroupe ∈ gtb) (x1 : Int32) {r0 : Int32} (e : f_X12_isTroupe x1 σ = some r0) (hdd : 2 ≤ d) (hroom : (rest.map fun v => v.category).sum ≤ 8) (hcs : cells ≤ (xR X).cells ∧ slots ≤ (xR X).slots) (hd : decode cc pc = .ok (.invokevirtual idx, 3)) (k : V X G nL cells slots σ (pc + 3) lv (.int r0 :: rest)) : V X G nL cells slots σ pc lv (.int x1 :: .ref (ga G 6) :: rest) := V_callV C (As := [.int x1]) (c_X12_isTroupe X.2.1 G x1 σ r0 e) cal_X12_isTroupe ww_524 ww_525 hlk rfl hdd (lt110 rfl) rfl rfl rfl hroom hcs hd k
theorem dt_X12_findSets_0 : dtab cX12_findSets [(0, .iconst 0, 1), (1, .istore_n 2, 1), (2, .iconst 0, 1), (3, .istore_n 3, 1), (4, .iload_n 3, 1), (5, .aload_n 0, 1), (6, .getfield 7, 3), (9, .iconst 1, 1), (10, .iaload, 1), (11, .if_icmp .ge 28, 3), (14, .iload_n 2, 1), (15, .aload_n 0, 1), (16, .iload_n 1, 1), (17, .iload_n 3, 1), (18, .invokevirtual 160, 3), (21, .ifCond .eq 9, 3), (24, .iconst 1, 1), (25, .iload_n 3, 1), (26, .ishl, 1), (27, .goto 4, 3), (30, .iconst 0, 1), (31, .ior, 1), (32, .istore_n 2, 1), (33, .iinc 3 1, 3), (36, .goto (-32), 3), (39, .aload_n 0, 1), (40, .getfield 52, 3), (43, .iconst 0, 1), (44, .iconst 1, 1), (45, .bastore, 1), (46, .iconst 1, 1), (47, .istore_n 3, 1), (48, .iload_n 3, 1), (49, .aload_n 0, 1), (50, .invokevirtual 249, 3), (53, .if_icmp .gt 80, 3), (56, .iconst 0, 1), (57, .istore 4, 2), (59, .iload_n 3, 1), (60, .iload 4, 2)] = true := by decide +kernel
theorem dt_X12_findSets_1 : dtab cX12_findSets [(62, .ishr, 1), (63, .iconst 1, 1), (64, .if_icmp .le 9, 3), (67, .iinc 4 1, 3), (70, .goto (-11), 3), (73, .iload_n 3, 1), (74, .iconst 1, 1), (75, .iload 4, 2), (77, .ishl, 1), (78, .iconst (-1), 1), (79, .ixor, 1), (80, .iand, 1), (81, .istore 5, 2), (83, .aload_n 0, 1), (84, .getfield 52, 3), (87, .iload_n 3, 1), (88, .aload_n 0, 1), (89, .getfield 52, 3), (92, .iload 5, 2), (94, .baload, 1), (95, .ifCond .eq 30, 3), (98, .iload_n 2, 1), (99, .iload 4, 2), (101, .ishr, 1), (102, .iconst 1, 1), (103, .iand, 1), (104, .iconst 1, 1), (105, .if_icmp .ne 20, 3), (108, .aload_n 0, 1), (109, .getfield 19, 3), (112, .iload 4, 2), (114, .iaload, 1), (115, .iload 5, 2), (117, .iand, 1), (118, .ifCond .ne 7, 3), (121, .iconst 1, 1), (122, .goto 4, 3), (125, .iconst 0, 1), (126, .bastore, 1), (127, .iinc 3 1, 3)] = true := by decide +kernel
theorem dt_X12_findSets_2 : dtab cX12_findSets [(130, .goto (-82), 3), (133, .return_, 1)] = true := by decide +kernel
theorem cal_X12_findSets : Cal yX12_findSets cX12_findSets 6 none 1 := ⟨ww_528, ww_429, ⟨by decide, by decide, by decide⟩, by decide⟩
set_option maxHeartbeats 4000000 in
set_option maxRecDepth 100000 in
theorem c_X12_findSets (l : Launch) (G : Gx) (x1 : Int32) (σ : St) (σ0 : St) (h : f_X12_findSets x1 σ = some σ0) : MI l G yX12_findSets cX12_findSets 6 none 4 [.ref (ga G 6), .int x1] σ none σ0 := by
  refine MI_of RX12 rfl (by decide) [(0, .ref (ga G 6)), (1, .int x1)] rfl (Nat.le_of_ble_eq_true rfl) ?_
  intro X hXl C hR
  unfold f_X12_findSets at h
  have J_48 : ∀ (x2 : Int32) (x3 : Int32) (σ : St), f_X12_findSets_48 x2 x3 σ = some σ0 → V X G 6 0 0 σ 48 [(0, .ref (ga G 6)), (2, .int x2), (3, .int x3)] [] := by
    intro x2 x3 σ h
    refine it_v (P := fun z : Int32 × St => V X G 6 0 0 z.2 48 [(0, .ref (ga G 6)), (2, .int x2), (3, .int z.1)] []) ?_ (x3, σ) h
    clear h
    intro z w_48 h ih_48 ex_48
    obtain ⟨x3, σ⟩ := z
    have h : b_X12_findSets_48 x2 x3 σ = some w_48 := h
    show V X G 6 0 0 σ 48 [(0, .ref (ga G 6)), (2, .int x2), (3, .int x3)] []
    unfold b_X12_findSets_48 at h
    have J_126 : ∀ (x3 : Int32) (s0 : Int32) (s1 : Int32) (σ : St), f_X12_findSets_126 x2 x3 s0 s1 σ = some w_48 → V X G 6 0 0 σ 126 [(0, .ref (ga G 6)), (2, .int x2), (3, .int x3)] [.int s0, .int s1, .ref (ga G 98)] := by
      intro x3 s0 s1 σ h
      unfold f_X12_findSets_126 at h
      obtain ⟨h22, h⟩ := chk_s h
      obtain ⟨σ21, eσ21, h⟩ := nm_s h
      refine V_st eσ21 ?_ (fun k => V_zast C h22 (dt_at dt_X12_findSets_1 38 rfl) k)
      refine V_iinc C (x3 + 1) 2 [1, 2, 0] (lv' := [(0, .ref (ga G 6)), (2, .int x2), (3, .int (x3 + 1))]) (dt_at dt_X12_findSets_1 39 rfl) rfl (by rfl) (by decide) rfl ?_
      refine V_goto C 48 (dt_at dt_X12_findSets_2 0 rfl) (by decide) ?_
      exact ih_48 ((x3 + 1), σ21) (Option.some.inj h).symm
    have J_125 : ∀ (x3 : Int32) (s0 : Int32) (σ : St), f_X12_findSets_125 x2 x3 s0 σ = some w_48 → V X G 6 0 0 σ 125 [(0, .ref (ga G 6)), (2, .int x2), (3, .int x3)] [.int s0, .ref (ga G 98)] := by
      intro x3 s0 σ h
      unfold f_X12_findSets_125 at h
      refine V_iconst C 0 (dt_at dt_X12_findSets_1 37 rfl) (by decide) ?_
      exact J_126 x3 0 s0 σ h
    have J_73 : ∀ (x3 : Int32) (x4 : Int32) (σ : St), f_X12_findSets_73 x2 x3 x4 σ = some w_48 → V X G 6 0 0 σ 73 [(0, .ref (ga G 6)), (2, .int x2), (3, .int x3), (4, .int x4)] [] := by
      intro x3 x4 σ h
      unfold f_X12_findSets_73 at h
      refine V_iload_n C (dt_at dt_X12_findSets_1 5 rfl) 2 rfl rfl ?_
      refine V_iconst C 1 (dt_at dt_X12_findSets_1 6 rfl) (by decide) ?_
      refine V_iload C (dt_at dt_X12_findSets_1 7 rfl) 3 rfl ?_
      refine V_ishl C (dt_at dt_X12_findSets_1 8 rfl) ?_
      refine V_iconst C (-1) (dt_at dt_X12_findSets_1 9 rfl) (by decide) ?_
      refine V_ixor C (dt_at dt_X12_findSets_1 10 rfl) ?_
      refine V_iand C (dt_at dt_X12_findSets_1 11 rfl) ?_
      refine V_istore C [1, 2, 3, 4, 0] (lv' := [(0, .ref (ga G 6)), (2, .int x2), (3, .int x3), (4, .int x4), (5, .int (x3 &&& (((1 : Int32) <<< (x4 &&& 31)) ^^^ (-1))))]) (dt_at dt_X12_findSets_1 12 rfl) (by decide) rfl ?_
      refine V_aload_n C (dt_at dt_X12_findSets_1 13 rfl) 0 rfl rfl ?_
      refine g_X12_52_6 C (dt_at dt_X12_findSets_1 14 rfl) ?_
      refine V_iload_n C (dt_at dt_X12_findSets_1 15 rfl) 2 rfl rfl ?_
      refine V_aload_n C (dt_at dt_X12_findSets_1 16 rfl) 0 rfl rfl ?_
      refine g_X12_52_6 C (dt_at dt_X12_findSets_1 17 rfl) ?_
      refine V_iload C (dt_at dt_X12_findSets_1 18 rfl) 4 rfl ?_
      obtain ⟨h16, h⟩ := chk_s h
      refine V_zald C h16 (dt_at dt_X12_findSets_1 19 rfl) ?_
      refine V_if_eq C 125 (dt_at dt_X12_findSets_1 20 rfl) (by decide) (fun q17 => ?_) (fun q17 => ?_)
      · have h := ite_t q17 h
        refine V_sub [0, 1, 2] (lv' := [(0, .ref (ga G 6)), (2, .int x2), (3, .int x3)]) rfl ?_
        exact J_125 x3 x3 σ h
      · have h := ite_f q17 h
        refine V_iload_n C (dt_at dt_X12_findSets_1 21 rfl) 1 rfl rfl ?_
        refine V_iload C (dt_at dt_X12_findSets_1 22 rfl) 3 rfl ?_
        refine V_ishr C (dt_at dt_X12_findSets_1 23 rfl) ?_
        refine V_iconst C 1 (dt_at dt_X12_findSets_1 24 rfl) (by decide) ?_
        refine V_iand C (dt_at dt_X12_findSets_1 25 rfl) ?_
        refine V_iconst C 1 (dt_at dt_X12_findSets_1 26 rfl) (by decide) ?_
        refine V_icmp_ne C 125 (dt_at dt_X12_findSets_1 27 rfl) (by decide) (fun q18 => ?_) (fun q18 => ?_)
        · have h := ite_f q18 h
          refine V_sub [0, 1, 2] (lv' := [(0, .ref (ga G 6)), (2, .int x2), (3, .int x3)]) rfl ?_
          exact J_125 x3 x3 σ h
        · have h := ite_t q18 h
          refine V_aload_n C (dt_at dt_X12_findSets_1 28 rfl) 0 rfl rfl ?_
          refine g_X12_19_6 C (dt_at dt_X12_findSets_1 29 rfl) ?_
          refine V_iload C (dt_at dt_X12_findSets_1 30 rfl) 3 rfl ?_
          obtain ⟨h19, h⟩ := chk_s h
          refine al_87 C h19 (dt_at dt_X12_findSets_1 31 rfl) ?_
          refine V_iload C (dt_at dt_X12_findSets_1 32 rfl) 4 rfl ?_
          refine V_iand C (dt_at dt_X12_findSets_1 33 rfl) ?_
          refine V_if_ne C 125 (dt_at dt_X12_findSets_1 34 rfl) (by decide) (fun q20 => ?_) (fun q20 => ?_)
          · have h := ite_f q20 h
            refine V_sub [0, 1, 2] (lv' := [(0, .ref (ga G 6)), (2, .int x2), (3, .int x3)]) rfl ?_
            exact J_125 x3 x3 σ h
          · have h := ite_t q20 h
            refine V_iconst C 1 (dt_at dt_X12_findSets_1 35 rfl) (by decide) ?_
            refine V_goto C 126 (dt_at dt_X12_findSets_1 36 rfl) (by decide) ?_
            refine V_sub [0, 1, 2] (lv' := [(0, .ref (ga G 6)), (2, .int x2), (3, .int x3)]) rfl ?_
            exact J_126 x3 1 x3 σ h
    have J_59 : ∀ (x3 : Int32) (x4 : Int32) (σ : St), f_X12_findSets_59 x2 x3 x4 σ = some w_48 → V X G 6 0 0 σ 59 [(0, .ref (ga G 6)), (2, .int x2), (3, .int x3), (4, .int x4)] [] := by
      intro x3 x4 σ h
      refine it_v (P := fun z : Int32 => V X G 6 0 0 σ 59 [(0, .ref (ga G 6)), (2, .int x2), (3, .int x3), (4, .int z)] []) ?_ x4 h
      clear h
      intro z w_59 h ih_59 ex_59
      revert h; revert z; intro x4 h
      have h : b_X12_findSets_59 x2 x3 x4 σ = some w_59 := h
      show V X G 6 0 0 σ 59 [(0, .ref (ga G 6)), (2, .int x2), (3, .int x3), (4, .int x4)] []
      unfold b_X12_findSets_59 at h
      refine V_iload_n C (dt_at dt_X12_findSets_0 38 rfl) 2 rfl rfl ?_
      refine V_iload C (dt_at dt_X12_findSets_0 39 rfl) 3 rfl ?_
      refine V_ishr C (dt_at dt_X12_findSets_1 0 rfl) ?_
      refine V_iconst C 1 (dt_at dt_X12_findSets_1 1 rfl) (by decide) ?_
      refine V_icmp_le C 73 (dt_at dt_X12_findSets_1 2 rfl) (by decide) (fun q14 => ?_) (fun q14 => ?_)
      · have h := ite_f q14 h
        obtain ⟨t15, h, e_59⟩ := map_s h
        have e_59 := ex_59 _ e_59
        rw [e_59] at h
        exact J_73 x3 x4 σ h
      · have h := ite_t q14 h
        refine V_iinc C (x4 + 1) 3 [1, 2, 3, 0] (lv' := [(0, .ref (ga G 6)), (2, .int x2), (3, .int x3), (4, .int (x4 + 1))]) (dt_at dt_X12_findSets_1 3 rfl) rfl (by rfl) (by decide) rfl ?_
        refine V_goto C 59 (dt_at dt_X12_findSets_1 4 rfl) (by decide) ?_
        exact ih_59 (x4 + 1) (Option.some.inj h).symm
    refine V_iload_n C (dt_at dt_X12_findSets_0 32 rfl) 2 rfl rfl ?_
    refine V_aload_n C (dt_at dt_X12_findSets_0 33 rfl) 0 rfl rfl ?_
    obtain ⟨r10, e11, h⟩ := bd_s h
    refine cv_X12_allParts C ww_527  e11 (Nat.le_of_ble_eq_true rfl) (Nat.le_of_ble_eq_true rfl) z0 (dt_at dt_X12_findSets_0 34 rfl) ?_
    refine V_icmp_gt C 133 (dt_at dt_X12_findSets_0 35 rfl) (by decide) (fun q13 => ?_) (fun q13 => ?_)
    · have h := ite_t q13 h
      have e_48 := ex_48 _ (Option.some.inj h).symm
      subst e_48
      exact V_vret C hR (dt_at dt_X12_findSets_2 1 rfl)
    · have h := ite_f q13 h
      refine V_iconst C 0 (dt_at dt_X12_findSets_0 36 rfl) (by decide) ?_
      refine V_istore C [1, 2, 3, 0] (lv' := [(0, .ref (ga G 6)), (2, .int x2), (3, .int x3), (4, .int 0)]) (dt_at dt_X12_findSets_0 37 rfl) (by decide) rfl ?_
      exact J_59 x3 0 σ h
  have J_39 : ∀ (x2 : Int32) (σ : St), f_X12_findSets_39 x2 σ = some σ0 → V X G 6 0 0 σ 39 [(0, .ref (ga G 6)), (2, .int x2)] [] := by
    intro x2 σ h
    unfold f_X12_findSets_39 at h
    refine V_aload_n C (dt_at dt_X12_findSets_0 25 rfl) 0 rfl rfl ?_
    refine g_X12_52_6 C (dt_at dt_X12_findSets_0 26 rfl) ?_
    refine V_iconst C 0 (dt_at dt_X12_findSets_0 27 rfl) (by decide) ?_
    refine V_iconst C 1 (dt_at dt_X12_findSets_0 28 rfl) (by decide) ?_
    obtain ⟨h9, h⟩ := chk_s h
    obtain ⟨σ8, eσ8, h⟩ := nm_s h
    refine V_st eσ8 ?_ (fun k => V_zast C h9 (dt_at dt_X12_findSets_0 29 rfl) k)
    refine V_iconst C 1 (dt_at dt_X12_findSets_0 30 rfl) (by decide) ?_
    refine V_istore_n C [1, 2, 0] (lv' := [(0, .ref (ga G 6)), (2, .int x2), (3, .int 1)]) (dt_at dt_X12_findSets_0 31 rfl) rfl (by decide) rfl ?_
    exact J_48 x2 1 σ8 h
  have J_4 : ∀ (x2 : Int32) (x3 : Int32) (σ : St), f_X12_findSets_4 x1 x2 x3 σ = some σ0 → V X G 6 0 0 σ 4 [(0, .ref (ga G 6)), (1, .int x1), (2, .int x2), (3, .int x3)] [] := by
    intro x2 x3 σ h
    refine it_v (P := fun z : Int32 × Int32 × St => V X G 6 0 0 z.2.2 4 [(0, .ref (ga G 6)), (1, .int x1), (2, .int z.1), (3, .int z.2.1)] []) ?_ (x2, x3, σ) h
    clear h
    intro z w_4 h ih_4 ex_4
    obtain ⟨x2, x3, σ⟩ := z
    have h : b_X12_findSets_4 x1 x2 x3 σ = some w_4 := h
    show V X G 6 0 0 σ 4 [(0, .ref (ga G 6)), (1, .int x1), (2, .int x2), (3, .int x3)] []
    unfold b_X12_findSets_4 at h
    have J_31 : ∀ (x3 : Int32) (s0 : Int32) (s1 : Int32) (σ : St), f_X12_findSets_31 x1 x3 s0 s1 σ = some w_4 → V X G 6 0 0 σ 31 [(0, .ref (ga G 6)), (1, .int x1), (3, .int x3)] [.int s0, .int s1] := by
      intro x3 s0 s1 σ h
      unfold f_X12_findSets_31 at h
      refine V_ior C (dt_at dt_X12_findSets_0 21 rfl) ?_
      refine V_istore_n C [1, 2, 0, 3] (lv' := [(0, .ref (ga G 6)), (1, .int x1), (2, .int (s1 ||| s0)), (3, .int x3)]) (dt_at dt_X12_findSets_0 22 rfl) rfl (by decide) rfl ?_
      refine V_iinc C (x3 + 1) 3 [1, 2, 3, 0] (lv' := [(0, .ref (ga G 6)), (1, .int x1), (2, .int (s1 ||| s0)), (3, .int (x3 + 1))]) (dt_at dt_X12_findSets_0 23 rfl) rfl (by rfl) (by decide) rfl ?_
      refine V_goto C 4 (dt_at dt_X12_findSets_0 24 rfl) (by decide) ?_
      exact ih_4 ((s1 ||| s0), (x3 + 1), σ) (Option.some.inj h).symm
    refine V_iload_n C (dt_at dt_X12_findSets_0 4 rfl) 3 rfl rfl ?_
    refine V_aload_n C (dt_at dt_X12_findSets_0 5 rfl) 0 rfl rfl ?_
    refine g_X12_7_6 C (dt_at dt_X12_findSets_0 6 rfl) ?_
    refine V_iconst C 1 (dt_at dt_X12_findSets_0 7 rfl) (by decide) ?_
    obtain ⟨h1, h⟩ := chk_s h
    refine al_84 C h1 (dt_at dt_X12_findSets_0 8 rfl) ?_
    refine V_icmp_ge C 39 (dt_at dt_X12_findSets_0 9 rfl) (by decide) (fun q2 => ?_) (fun q2 => ?_)
    · have h := ite_f q2 h
      refine V_sub [0, 2] (lv' := [(0, .ref (ga G 6)), (2, .int x2)]) rfl ?_
      obtain ⟨t3, h, e_4⟩ := map_s h
      have e_4 := ex_4 _ e_4
      rw [e_4] at h
      exact J_39 x2 σ h
    · have h := ite_t q2 h
      refine V_iload_n C (dt_at dt_X12_findSets_0 10 rfl) 2 rfl rfl ?_
      refine V_aload_n C (dt_at dt_X12_findSets_0 11 rfl) 0 rfl rfl ?_
      refine V_iload_n C (dt_at dt_X12_findSets_0 12 rfl) 1 rfl rfl ?_
      refine V_iload_n C (dt_at dt_X12_findSets_0 13 rfl) 3 rfl rfl ?_
      obtain ⟨r4, σ6, e5, h⟩ := bd2_s h
      refine cv_X12_isAble C ww_515 x1 x3 e5 (Nat.le_of_ble_eq_true rfl) (Nat.le_of_ble_eq_true rfl) z0 (dt_at dt_X12_findSets_0 14 rfl) ?_
      refine V_if_eq C 30 (dt_at dt_X12_findSets_0 15 rfl) (by decide) (fun q7 => ?_) (fun q7 => ?_)
      · have h := ite_t q7 h
        refine V_iconst C 0 (dt_at dt_X12_findSets_0 20 rfl) (by decide) ?_
        refine V_sub [0, 1, 3] (lv' := [(0, .ref (ga G 6)), (1, .int x1), (3, .int x3)]) rfl ?_
        exact J_31 x3 0 x2 σ6 h
      · have h := ite_f q7 h
        refine V_iconst C 1 (dt_at dt_X12_findSets_0 16 rfl) (by decide) ?_
        refine V_iload_n C (dt_at dt_X12_findSets_0 17 rfl) 3 rfl rfl ?_
        refine V_ishl C (dt_at dt_X12_findSets_0 18 rfl) ?_
        refine V_goto C 31 (dt_at dt_X12_findSets_0 19 rfl) (by decide) ?_
        refine V_sub [0, 1, 3] (lv' := [(0, .ref (ga G 6)), (1, .int x1), (3, .int x3)]) rfl ?_
        exact J_31 x3 ((1 : Int32) <<< (x3 &&& 31)) x2 σ6 h
  refine V_iconst C 0 (dt_at dt_X12_findSets_0 0 rfl) (by decide) ?_
  refine V_istore_n C [1, 2, 0] (lv' := [(0, .ref (ga G 6)), (1, .int x1), (2, .int 0)]) (dt_at dt_X12_findSets_0 1 rfl) rfl (by decide) rfl ?_
  refine V_iconst C 0 (dt_at dt_X12_findSets_0 2 rfl) (by decide) ?_
  refine V_istore_n C [1, 2, 3, 0] (lv' := [(0, .ref (ga G 6)), (1, .int x1), (2, .int 0), (3, .int 0)]) (dt_at dt_X12_findSets_0 3 rfl) rfl (by decide) rfl ?_
  exact J_4 0 0 σ h
theorem cv_X12_findSets (C : Ck X G cc own nL d) {idx : Nat} (hlk : Cond.methodLink own idx yX12_findSets ∈ gtb) (x1 : Int32) {σ0 : St} (e : f_X12_findSets x1 σ = some σ0) (hdd : 5 ≤ d) (hroom : (rest.map fun v => v.category).sum ≤ 8) (hcs : cells ≤ (xR X).cells ∧ slots ≤ (xR X).slots) (hd : decode cc pc = .ok (.invokevirtual idx, 3)) (k : V X G nL cells slots σ0 (pc + 3) lv (rest)) : V X G nL cells slots σ pc lv (.int x1 :: .ref (ga G 6) :: rest) := V_callV C (As := [.int x1]) (c_X12_findSets X.2.1 G x1 σ σ0 e) cal_X12_findSets ww_529 ww_530 hlk rfl hdd (lt110 rfl) rfl rfl rfl hroom hcs hd k
theorem dt_X12_wishOf_0 : dtab cX12_wishOf [(0, .aload_n 0, 1), (1, .getfield 7, 3), (4, .sipush 414, 3), (7, .iaload, 1), (8, .ifCond .ne 10, 3), (11, .aload_n 0, 1), (12, .iload_n 1, 1), (13, .iconst 0, 1), (14, .invokevirtual 148, 3), (17, .ireturn, 1), (18, .aload_n 0, 1), (19, .iload_n 1, 1), (20, .iload_n 2, 1), (21, .invokevirtual 151, 3), (24, .aload_n 0, 1), (25, .getfield 28, 3), (28, .iconst 5, 1), (29, .aload_n 0, 1), (30, .iload_n 2, 1), (31, .invokevirtual 121, 3), (34, .iastore, 1), (35, .aload_n 0, 1), (36, .iconst 2, 1), (37, .invokevirtual 154, 3), (40, .sipush 999, 3), (43, .invokestatic 157, 3), (46, .ireturn, 1)] = true := by decide +kernel
theorem cal_X12_wishOf : Cal yX12_wishOf cX12_wishOf 3 (some .int) 2 := ⟨ww_531, ww_429, ⟨by decide, by decide, by decide⟩, by decide⟩
set_option maxHeartbeats 4000000 in
set_option maxRecDepth 100000 in
theorem c_X12_wishOf (l : Launch) (G : Gx) (x1 : Int32) (x2 : Int32) (σ : St) (r0 : Int32) (σ0 : St) (h : f_X12_wishOf x1 x2 σ = some (r0, σ0)) : MI l G yX12_wishOf cX12_wishOf 3 (some .int) 3 [.ref (ga G 6), .int x1, .int x2] σ (some (.int r0)) σ0 := by
  refine MI_of RX12 rfl (by decide) [(0, .ref (ga G 6)), (1, .int x1), (2, .int x2)] rfl (Nat.le_of_ble_eq_true rfl) ?_
  intro X hXl C hR
  unfold f_X12_wishOf at h
  refine V_aload_n C (dt_at dt_X12_wishOf_0 0 rfl) 0 rfl rfl ?_
  refine g_X12_7_6 C (dt_at dt_X12_wishOf_0 1 rfl) ?_
  refine V_sipush C 414 (dt_at dt_X12_wishOf_0 2 rfl) (by decide) ?_
  obtain ⟨h1, h⟩ := chk_s h
  refine al_84 C h1 (dt_at dt_X12_wishOf_0 3 rfl) ?_
  refine V_if_ne C 18 (dt_at dt_X12_wishOf_0 4 rfl) (by decide) (fun q2 => ?_) (fun q2 => ?_)
  · have h := ite_f q2 h
    refine V_aload_n C (dt_at dt_X12_wishOf_0 10 rfl) 0 rfl rfl ?_
    refine V_iload_n C (dt_at dt_X12_wishOf_0 11 rfl) 1 rfl rfl ?_
    refine V_iload_n C (dt_at dt_X12_wishOf_0 12 rfl) 2 rfl rfl ?_
    obtain ⟨σ5, e4, h⟩ := bd_s h
    refine cv_X12_names C ww_509 x1 x2 e4 (Nat.le_of_ble_eq_true rfl) (Nat.le_of_ble_eq_true rfl) z0 (dt_at dt_X12_wishOf_0 13 rfl) ?_
    refine V_aload_n C (dt_at dt_X12_wishOf_0 14 rfl) 0 rfl rfl ?_
    refine g_X12_28_6 C (dt_at dt_X12_wishOf_0 15 rfl) ?_
    refine V_iconst C 5 (dt_at dt_X12_wishOf_0 16 rfl) (by decide) ?_
    refine V_aload_n C (dt_at dt_X12_wishOf_0 17 rfl) 0 rfl rfl ?_
    refine V_iload_n C (dt_at dt_X12_wishOf_0 18 rfl) 2 rfl rfl ?_
    obtain ⟨r6, e7, h⟩ := bd_s h
    refine cv_X12_weight C ww_463 x2 e7 (Nat.le_of_ble_eq_true rfl) (Nat.le_of_ble_eq_true rfl) z0 (dt_at dt_X12_wishOf_0 19 rfl) ?_
    obtain ⟨h10, h⟩ := chk_s h
    obtain ⟨σ9, eσ9, h⟩ := nm_s h
    refine V_st eσ9 ?_ (fun k => as_90 C h10 (dt_at dt_X12_wishOf_0 20 rfl) k)
    refine V_aload_n C (dt_at dt_X12_wishOf_0 21 rfl) 0 rfl rfl ?_
    refine V_iconst C 2 (dt_at dt_X12_wishOf_0 22 rfl) (by decide) ?_
    obtain ⟨r11, σ13, e12, h⟩ := bd2_s h
    refine cv_X12_comesTo C ww_480 2 e12 (Nat.le_of_ble_eq_true rfl) (Nat.le_of_ble_eq_true rfl) z0 (dt_at dt_X12_wishOf_0 23 rfl) ?_
    refine V_sipush C 999 (dt_at dt_X12_wishOf_0 24 rfl) (by decide) ?_
    obtain ⟨r14, e15, h⟩ := bd_s h
    refine cv_X12_held C ww_481 r11 999 e15 (Nat.le_of_ble_eq_true rfl) (Nat.le_of_ble_eq_true rfl) z0 (dt_at dt_X12_wishOf_0 25 rfl) ?_
    obtain ⟨e1_, e2_⟩ := pin2 h
    subst e1_; subst e2_
    exact V_iret C hR (dt_at dt_X12_wishOf_0 26 rfl)
  · have h := ite_t q2 h
    refine V_aload_n C (dt_at dt_X12_wishOf_0 5 rfl) 0 rfl rfl ?_
    refine V_iload_n C (dt_at dt_X12_wishOf_0 6 rfl) 1 rfl rfl ?_
    refine V_iconst C 0 (dt_at dt_X12_wishOf_0 7 rfl) (by decide) ?_
    obtain ⟨r17, e18, h⟩ := bd_s h
    refine cv_X12_playerOf C ww_505 x1 0 e18 (Nat.le_of_ble_eq_true rfl) (Nat.le_of_ble_eq_true rfl) z0 (dt_at dt_X12_wishOf_0 8 rfl) ?_
    obtain ⟨e1_, e2_⟩ := pin2 h
    subst e1_; subst e2_
    exact V_iret C hR (dt_at dt_X12_wishOf_0 9 rfl)
theorem cv_X12_wishOf (C : Ck X G cc own nL d) {idx : Nat} (hlk : Cond.methodLink own idx yX12_wishOf ∈ gtb) (x1 : Int32) (x2 : Int32) {r0 : Int32} {σ0 : St} (e : f_X12_wishOf x1 x2 σ = some (r0, σ0)) (hdd : 4 ≤ d) (hroom : (rest.map fun v => v.category).sum ≤ 8) (hcs : cells ≤ (xR X).cells ∧ slots ≤ (xR X).slots) (hd : decode cc pc = .ok (.invokevirtual idx, 3)) (k : V X G nL cells slots σ0 (pc + 3) lv (.int r0 :: rest)) : V X G nL cells slots σ pc lv (.int x2 :: .int x1 :: .ref (ga G 6) :: rest) := V_callV C (As := [.int x1, .int x2]) (c_X12_wishOf X.2.1 G x1 x2 σ r0 σ0 e) cal_X12_wishOf ww_532 ww_533 hlk rfl hdd (lt110 rfl) rfl rfl rfl hroom hcs hd k
theorem dt_X12_findCosts_0 : dtab cX12_findCosts [(0, .iconst 0, 1), (1, .istore_n 3, 1), (2, .iload_n 3, 1), (3, .aload_n 0, 1), (4, .getfield 7, 3), (7, .iconst 1, 1), (8, .iaload, 1), (9, .if_icmp .ge 90, 3), (12, .aload_n 0, 1), (13, .getfield 66, 3), (16, .iload_n 3, 1), (17, .iload_n 2, 1), (18, .ifCond .ne 13, 3), (21, .aload_n 0, 1), (22, .iload_n 1, 1), (23, .iload_n 3, 1), (24, .invokevirtual 163, 3), (27, .ineg, 1), (28, .goto 64, 3), (31, .iload_n 2, 1), (32, .iconst 1, 1), (33, .if_icmp .ne 30, 3), (36, .aload_n 0, 1), (37, .iload_n 1, 1), (38, .iconst 2, 1), (39, .invokevirtual 148, 3), (42, .iload_n 3, 1), (43, .ishr, 1), (44, .iconst 1, 1), (45, .iand, 1), (46, .iconst 1, 1), (47, .if_icmp .ne 7, 3), (50, .iconst 0, 1), (51, .goto 41, 3), (54, .aload_n 0, 1), (55, .getfield 69, 3), (58, .iload_n 3, 1), (59, .iaload, 1), (60, .goto 32, 3), (63, .iload_n 2, 1)] = true := by decide +kernel
theorem dt_X12_findCosts_1 : dtab cX12_findCosts [(64, .iconst 2, 1), (65, .if_icmp .ne 12, 3), (68, .aload_n 0, 1), (69, .getfield 69, 3), (72, .iload_n 3, 1), (73, .iaload, 1), (74, .goto 18, 3), (77, .aload_n 0, 1), (78, .iload_n 3, 1), (79, .iconst 4, 1), (80, .invokevirtual 114, 3), (83, .iload_n 1, 1), (84, .if_icmp .ne 7, 3), (87, .iconst 0, 1), (88, .goto 4, 3), (91, .iconst 1, 1), (92, .iastore, 1), (93, .iinc 3 1, 3), (96, .goto (-94), 3), (99, .aload_n 0, 1), (100, .getfield 56, 3), (103, .iconst 0, 1), (104, .iconst 0, 1), (105, .iastore, 1), (106, .iconst 1, 1), (107, .istore_n 3, 1), (108, .iload_n 3, 1), (109, .aload_n 0, 1), (110, .invokevirtual 249, 3), (113, .if_icmp .gt 53, 3), (116, .iconst 0, 1), (117, .istore 4, 2), (119, .iload_n 3, 1), (120, .iload 4, 2), (122, .ishr, 1), (123, .iconst 1, 1), (124, .if_icmp .le 9, 3), (127, .iinc 4 1, 3), (130, .goto (-11), 3), (133, .aload_n 0, 1)] = true := by decide +kernel
theorem dt_X12_findCosts_2 : dtab cX12_findCosts [(134, .getfield 56, 3), (137, .iload_n 3, 1), (138, .aload_n 0, 1), (139, .getfield 56, 3), (142, .iload_n 3, 1), (143, .iconst 1, 1), (144, .iload 4, 2), (146, .ishl, 1), (147, .iconst (-1), 1), (148, .ixor, 1), (149, .iand, 1), (150, .iaload, 1), (151, .aload_n 0, 1), (152, .getfield 66, 3), (155, .iload 4, 2), (157, .iaload, 1), (158, .iadd, 1), (159, .iastore, 1), (160, .iinc 3 1, 3), (163, .goto (-55), 3), (166, .return_, 1)] = true := by decide +kernel
theorem cal_X12_findCosts : Cal yX12_findCosts cX12_findCosts 5 none 2 := ⟨ww_538, ww_429, ⟨by decide, by decide, by decide⟩, by decide⟩
set_option maxHeartbeats 4000000 in
set_option maxRecDepth 100000 in
theorem c_X12_findCosts (l : Launch) (G : Gx) (x1 : Int32) (x2 : Int32) (σ : St) (σ0 : St) (h : f_X12_findCosts x1 x2 σ = some σ0) : MI l G yX12_findCosts cX12_findCosts 5 none 4 [.ref (ga G 6), .int x1, .int x2] σ none σ0 := by
  refine MI_of RX12 rfl (by decide) [(0, .ref (ga G 6)), (1, .int x1), (2, .int x2)] rfl (Nat.le_of_ble_eq_true rfl) ?_
  intro X hXl C hR
  unfold f_X12_findCosts at h
  have J_108 : ∀ (x3 : Int32) (σ : St), f_X12_findCosts_108 x3 σ = some σ0 → V X G 5 0 0 σ 108 [(0, .ref (ga G 6)), (3, .int x3)] [] := by
    intro x3 σ h
    refine it_v (P := fun z : Int32 × St => V X G 5 0 0 z.2 108 [(0, .ref (ga G 6)), (3, .int z.1)] []) ?_ (x3, σ) h
    clear h
    intro z w_108 h ih_108 ex_108
    obtain ⟨x3, σ⟩ := z
    have h : b_X12_findCosts_108 x3 σ = some w_108 := h
    show V X G 5 0 0 σ 108 [(0, .ref (ga G 6)), (3, .int x3)] []
    unfold b_X12_findCosts_108 at h
    have J_133 : ∀ (x3 : Int32) (x4 : Int32) (σ : St), f_X12_findCosts_133 x3 x4 σ = some w_108 → V X G 5 0 0 σ 133 [(0, .ref (ga G 6)), (3, .int x3), (4, .int x4)] [] := by
      intro x3 x4 σ h
      unfold f_X12_findCosts_133 at h
      refine V_aload_n C (dt_at dt_X12_findCosts_1 39 rfl) 0 rfl rfl ?_
      refine g_X12_56_6 C (dt_at dt_X12_findCosts_2 0 rfl) ?_
      refine V_iload_n C (dt_at dt_X12_findCosts_2 1 rfl) 1 rfl rfl ?_
      refine V_aload_n C (dt_at dt_X12_findCosts_2 2 rfl) 0 rfl rfl ?_
      refine g_X12_56_6 C (dt_at dt_X12_findCosts_2 3 rfl) ?_
      refine V_iload_n C (dt_at dt_X12_findCosts_2 4 rfl) 1 rfl rfl ?_
      refine V_iconst C 1 (dt_at dt_X12_findCosts_2 5 rfl) (by decide) ?_
      refine V_iload C (dt_at dt_X12_findCosts_2 6 rfl) 2 rfl ?_
      refine V_ishl C (dt_at dt_X12_findCosts_2 7 rfl) ?_
      refine V_iconst C (-1) (dt_at dt_X12_findCosts_2 8 rfl) (by decide) ?_
      refine V_ixor C (dt_at dt_X12_findCosts_2 9 rfl) ?_
      refine V_iand C (dt_at dt_X12_findCosts_2 10 rfl) ?_
      obtain ⟨h30, h⟩ := chk_s h
      refine al_99 C h30 (dt_at dt_X12_findCosts_2 11 rfl) ?_
      refine V_aload_n C (dt_at dt_X12_findCosts_2 12 rfl) 0 rfl rfl ?_
      refine g_X12_66_6 C (dt_at dt_X12_findCosts_2 13 rfl) ?_
      refine V_iload C (dt_at dt_X12_findCosts_2 14 rfl) 2 rfl ?_
      obtain ⟨h31, h⟩ := chk_s h
      refine al_102 C h31 (dt_at dt_X12_findCosts_2 15 rfl) ?_
      refine V_iadd C (dt_at dt_X12_findCosts_2 16 rfl) ?_
      obtain ⟨h33, h⟩ := chk_s h
      obtain ⟨σ32, eσ32, h⟩ := nm_s h
      refine V_st eσ32 ?_ (fun k => as_99 C h33 (dt_at dt_X12_findCosts_2 17 rfl) k)
      refine V_iinc C (x3 + 1) 1 [1, 0, 2] (lv' := [(0, .ref (ga G 6)), (3, .int (x3 + 1)), (4, .int x4)]) (dt_at dt_X12_findCosts_2 18 rfl) rfl (by rfl) (by decide) rfl ?_
      refine V_goto C 108 (dt_at dt_X12_findCosts_2 19 rfl) (by decide) ?_
      refine V_sub [0, 1] (lv' := [(0, .ref (ga G 6)), (3, .int (x3 + 1))]) rfl ?_
      exact ih_108 ((x3 + 1), σ32) (Option.some.inj h).symm
    have J_119 : ∀ (x3 : Int32) (x4 : Int32) (σ : St), f_X12_findCosts_119 x3 x4 σ = some w_108 → V X G 5 0 0 σ 119 [(0, .ref (ga G 6)), (3, .int x3), (4, .int x4)] [] := by
      intro x3 x4 σ h
      refine it_v (P := fun z : Int32 => V X G 5 0 0 σ 119 [(0, .ref (ga G 6)), (3, .int x3), (4, .int z)] []) ?_ x4 h
      clear h
      intro z w_119 h ih_119 ex_119
      revert h; revert z; intro x4 h
      have h : b_X12_findCosts_119 x3 x4 σ = some w_119 := h
      show V X G 5 0 0 σ 119 [(0, .ref (ga G 6)), (3, .int x3), (4, .int x4)] []
      unfold b_X12_findCosts_119 at h
      refine V_iload_n C (dt_at dt_X12_findCosts_1 32 rfl) 1 rfl rfl ?_
      refine V_iload C (dt_at dt_X12_findCosts_1 33 rfl) 2 rfl ?_
      refine V_ishr C (dt_at dt_X12_findCosts_1 34 rfl) ?_
      refine V_iconst C 1 (dt_at dt_X12_findCosts_1 35 rfl) (by decide) ?_
      refine V_icmp_le C 133 (dt_at dt_X12_findCosts_1 36 rfl) (by decide) (fun q28 => ?_) (fun q28 => ?_)
      · have h := ite_f q28 h
        obtain ⟨t29, h, e_119⟩ := map_s h
        have e_119 := ex_119 _ e_119
        rw [e_119] at h
        exact J_133 x3 x4 σ h
      · have h := ite_t q28 h
        refine V_iinc C (x4 + 1) 2 [1, 2, 0] (lv' := [(0, .ref (ga G 6)), (3, .int x3), (4, .int (x4 + 1))]) (dt_at dt_X12_findCosts_1 37 rfl) rfl (by rfl) (by decide) rfl ?_
        refine V_goto C 119 (dt_at dt_X12_findCosts_1 38 rfl) (by decide) ?_
        exact ih_119 (x4 + 1) (Option.some.inj h).symm
    refine V_iload_n C (dt_at dt_X12_findCosts_1 26 rfl) 1 rfl rfl ?_
    refine V_aload_n C (dt_at dt_X12_findCosts_1 27 rfl) 0 rfl rfl ?_
    obtain ⟨r24, e25, h⟩ := bd_s h
    refine cv_X12_allParts C ww_527  e25 (Nat.le_of_ble_eq_true rfl) (Nat.le_of_ble_eq_true rfl) z0 (dt_at dt_X12_findCosts_1 28 rfl) ?_
    refine V_icmp_gt C 166 (dt_at dt_X12_findCosts_1 29 rfl) (by decide) (fun q27 => ?_) (fun q27 => ?_)
    · have h := ite_t q27 h
      have e_108 := ex_108 _ (Option.some.inj h).symm
      subst e_108
      exact V_vret C hR (dt_at dt_X12_findCosts_2 20 rfl)
    · have h := ite_f q27 h
      refine V_iconst C 0 (dt_at dt_X12_findCosts_1 30 rfl) (by decide) ?_
      refine V_istore C [1, 2, 0] (lv' := [(0, .ref (ga G 6)), (3, .int x3), (4, .int 0)]) (dt_at dt_X12_findCosts_1 31 rfl) (by decide) rfl ?_
      exact J_119 x3 0 σ h
  have J_99 : ∀ (σ : St), f_X12_findCosts_99 σ = some σ0 → V X G 5 0 0 σ 99 [(0, .ref (ga G 6))] [] := by
    intro σ h
    unfold f_X12_findCosts_99 at h
    refine V_aload_n C (dt_at dt_X12_findCosts_1 19 rfl) 0 rfl rfl ?_
    refine g_X12_56_6 C (dt_at dt_X12_findCosts_1 20 rfl) ?_
    refine V_iconst C 0 (dt_at dt_X12_findCosts_1 21 rfl) (by decide) ?_
    refine V_iconst C 0 (dt_at dt_X12_findCosts_1 22 rfl) (by decide) ?_
    obtain ⟨h23, h⟩ := chk_s h
    obtain ⟨σ22, eσ22, h⟩ := nm_s h
    refine V_st eσ22 ?_ (fun k => as_99 C h23 (dt_at dt_X12_findCosts_1 23 rfl) k)
    refine V_iconst C 1 (dt_at dt_X12_findCosts_1 24 rfl) (by decide) ?_
    refine V_istore_n C [1, 0] (lv' := [(0, .ref (ga G 6)), (3, .int 1)]) (dt_at dt_X12_findCosts_1 25 rfl) rfl (by decide) rfl ?_
    exact J_108 1 σ22 h
  have J_2 : ∀ (x3 : Int32) (σ : St), f_X12_findCosts_2 x1 x2 x3 σ = some σ0 → V X G 5 0 0 σ 2 [(0, .ref (ga G 6)), (1, .int x1), (2, .int x2), (3, .int x3)] [] := by
    intro x3 σ h
    refine it_v (P := fun z : Int32 × St => V X G 5 0 0 z.2 2 [(0, .ref (ga G 6)), (1, .int x1), (2, .int x2), (3, .int z.1)] []) ?_ (x3, σ) h
    clear h
    intro z w_2 h ih_2 ex_2
    obtain ⟨x3, σ⟩ := z
    have h : b_X12_findCosts_2 x1 x2 x3 σ = some w_2 := h
    show V X G 5 0 0 σ 2 [(0, .ref (ga G 6)), (1, .int x1), (2, .int x2), (3, .int x3)] []
    unfold b_X12_findCosts_2 at h
    have J_92 : ∀ (x3 : Int32) (s0 : Int32) (s1 : Int32) (σ : St), f_X12_findCosts_92 x1 x2 x3 s0 s1 σ = some w_2 → V X G 5 0 0 σ 92 [(0, .ref (ga G 6)), (1, .int x1), (2, .int x2), (3, .int x3)] [.int s0, .int s1, .ref (ga G 102)] := by
      intro x3 s0 s1 σ h
      unfold f_X12_findCosts_92 at h
      obtain ⟨h21, h⟩ := chk_s h
      obtain ⟨σ20, eσ20, h⟩ := nm_s h
      refine V_st eσ20 ?_ (fun k => as_102 C h21 (dt_at dt_X12_findCosts_1 16 rfl) k)
      refine V_iinc C (x3 + 1) 3 [1, 2, 3, 0] (lv' := [(0, .ref (ga G 6)), (1, .int x1), (2, .int x2), (3, .int (x3 + 1))]) (dt_at dt_X12_findCosts_1 17 rfl) rfl (by rfl) (by decide) rfl ?_
      refine V_goto C 2 (dt_at dt_X12_findCosts_1 18 rfl) (by decide) ?_
      exact ih_2 ((x3 + 1), σ20) (Option.some.inj h).symm
    refine V_iload_n C (dt_at dt_X12_findCosts_0 2 rfl) 3 rfl rfl ?_
    refine V_aload_n C (dt_at dt_X12_findCosts_0 3 rfl) 0 rfl rfl ?_
    refine g_X12_7_6 C (dt_at dt_X12_findCosts_0 4 rfl) ?_
    refine V_iconst C 1 (dt_at dt_X12_findCosts_0 5 rfl) (by decide) ?_
    obtain ⟨h1, h⟩ := chk_s h
    refine al_84 C h1 (dt_at dt_X12_findCosts_0 6 rfl) ?_
    refine V_icmp_ge C 99 (dt_at dt_X12_findCosts_0 7 rfl) (by decide) (fun q2 => ?_) (fun q2 => ?_)
    · have h := ite_f q2 h
      refine V_sub [0] (lv' := [(0, .ref (ga G 6))]) rfl ?_
      obtain ⟨t3, h, e_2⟩ := map_s h
      have e_2 := ex_2 _ e_2
      rw [e_2] at h
      exact J_99 σ h
    · have h := ite_t q2 h
      refine V_aload_n C (dt_at dt_X12_findCosts_0 8 rfl) 0 rfl rfl ?_
      refine g_X12_66_6 C (dt_at dt_X12_findCosts_0 9 rfl) ?_
      refine V_iload_n C (dt_at dt_X12_findCosts_0 10 rfl) 3 rfl rfl ?_
      refine V_iload_n C (dt_at dt_X12_findCosts_0 11 rfl) 2 rfl rfl ?_
      refine V_if_ne C 31 (dt_at dt_X12_findCosts_0 12 rfl) (by decide) (fun q4 => ?_) (fun q4 => ?_)
      · have h := ite_f q4 h
        refine V_iload_n C (dt_at dt_X12_findCosts_0 19 rfl) 2 rfl rfl ?_
        refine V_iconst C 1 (dt_at dt_X12_findCosts_0 20 rfl) (by decide) ?_
        refine V_icmp_ne C 63 (dt_at dt_X12_findCosts_0 21 rfl) (by decide) (fun q5 => ?_) (fun q5 => ?_)
        · have h := ite_f q5 h
          refine V_iload_n C (dt_at dt_X12_findCosts_0 39 rfl) 2 rfl rfl ?_
          refine V_iconst C 2 (dt_at dt_X12_findCosts_1 0 rfl) (by decide) ?_
          refine V_icmp_ne C 77 (dt_at dt_X12_findCosts_1 1 rfl) (by decide) (fun q6 => ?_) (fun q6 => ?_)
          · have h := ite_f q6 h
            refine V_aload_n C (dt_at dt_X12_findCosts_1 7 rfl) 0 rfl rfl ?_
            refine V_iload_n C (dt_at dt_X12_findCosts_1 8 rfl) 3 rfl rfl ?_
            refine V_iconst C 4 (dt_at dt_X12_findCosts_1 9 rfl) (by decide) ?_
            obtain ⟨r7, e8, h⟩ := bd_s h
            refine cv_X12_its C ww_460 x3 4 e8 (Nat.le_of_ble_eq_true rfl) (Nat.le_of_ble_eq_true rfl) z0 (dt_at dt_X12_findCosts_1 10 rfl) ?_
            refine V_iload_n C (dt_at dt_X12_findCosts_1 11 rfl) 1 rfl rfl ?_
            refine V_icmp_ne C 91 (dt_at dt_X12_findCosts_1 12 rfl) (by decide) (fun q10 => ?_) (fun q10 => ?_)
            · have h := ite_f q10 h
              refine V_iconst C 1 (dt_at dt_X12_findCosts_1 15 rfl) (by decide) ?_
              exact J_92 x3 1 x3 σ h
            · have h := ite_t q10 h
              refine V_iconst C 0 (dt_at dt_X12_findCosts_1 13 rfl) (by decide) ?_
              refine V_goto C 92 (dt_at dt_X12_findCosts_1 14 rfl) (by decide) ?_
              exact J_92 x3 0 x3 σ h
          · have h := ite_t q6 h
            refine V_aload_n C (dt_at dt_X12_findCosts_1 2 rfl) 0 rfl rfl ?_
            refine g_X12_69_6 C (dt_at dt_X12_findCosts_1 3 rfl) ?_
            refine V_iload_n C (dt_at dt_X12_findCosts_1 4 rfl) 3 rfl rfl ?_
            obtain ⟨h11, h⟩ := chk_s h
            refine al_103 C h11 (dt_at dt_X12_findCosts_1 5 rfl) ?_
            refine V_goto C 92 (dt_at dt_X12_findCosts_1 6 rfl) (by decide) ?_
            exact J_92 x3 (rd σ 103 x3) x3 σ h
        · have h := ite_t q5 h
          refine V_aload_n C (dt_at dt_X12_findCosts_0 22 rfl) 0 rfl rfl ?_
          refine V_iload_n C (dt_at dt_X12_findCosts_0 23 rfl) 1 rfl rfl ?_
          refine V_iconst C 2 (dt_at dt_X12_findCosts_0 24 rfl) (by decide) ?_
          obtain ⟨r12, e13, h⟩ := bd_s h
          refine cv_X12_playerOf C ww_505 x1 2 e13 (Nat.le_of_ble_eq_true rfl) (Nat.le_of_ble_eq_true rfl) z0 (dt_at dt_X12_findCosts_0 25 rfl) ?_
          refine V_iload_n C (dt_at dt_X12_findCosts_0 26 rfl) 3 rfl rfl ?_
          refine V_ishr C (dt_at dt_X12_findCosts_0 27 rfl) ?_
          refine V_iconst C 1 (dt_at dt_X12_findCosts_0 28 rfl) (by decide) ?_
          refine V_iand C (dt_at dt_X12_findCosts_0 29 rfl) ?_
          refine V_iconst C 1 (dt_at dt_X12_findCosts_0 30 rfl) (by decide) ?_
          refine V_icmp_ne C 54 (dt_at dt_X12_findCosts_0 31 rfl) (by decide) (fun q15 => ?_) (fun q15 => ?_)
          · have h := ite_f q15 h
            refine V_aload_n C (dt_at dt_X12_findCosts_0 34 rfl) 0 rfl rfl ?_
            refine g_X12_69_6 C (dt_at dt_X12_findCosts_0 35 rfl) ?_
            refine V_iload_n C (dt_at dt_X12_findCosts_0 36 rfl) 3 rfl rfl ?_
            obtain ⟨h16, h⟩ := chk_s h
            refine al_103 C h16 (dt_at dt_X12_findCosts_0 37 rfl) ?_
            refine V_goto C 92 (dt_at dt_X12_findCosts_0 38 rfl) (by decide) ?_
            exact J_92 x3 (rd σ 103 x3) x3 σ h
          · have h := ite_t q15 h
            refine V_iconst C 0 (dt_at dt_X12_findCosts_0 32 rfl) (by decide) ?_
            refine V_goto C 92 (dt_at dt_X12_findCosts_0 33 rfl) (by decide) ?_
            exact J_92 x3 0 x3 σ h
      · have h := ite_t q4 h
        refine V_aload_n C (dt_at dt_X12_findCosts_0 13 rfl) 0 rfl rfl ?_
        refine V_iload_n C (dt_at dt_X12_findCosts_0 14 rfl) 1 rfl rfl ?_
        refine V_iload_n C (dt_at dt_X12_findCosts_0 15 rfl) 3 rfl rfl ?_
        obtain ⟨r17, σ19, e18, h⟩ := bd2_s h
        refine cv_X12_wishOf C ww_536 x1 x3 e18 (Nat.le_of_ble_eq_true rfl) (Nat.le_of_ble_eq_true rfl) z0 (dt_at dt_X12_findCosts_0 16 rfl) ?_
        refine V_ineg C (dt_at dt_X12_findCosts_0 17 rfl) ?_
        refine V_goto C 92 (dt_at dt_X12_findCosts_0 18 rfl) (by decide) ?_
        exact J_92 x3 (-r17) x3 σ19 h
  refine V_iconst C 0 (dt_at dt_X12_findCosts_0 0 rfl) (by decide) ?_
  refine V_istore_n C [1, 2, 3, 0] (lv' := [(0, .ref (ga G 6)), (1, .int x1), (2, .int x2), (3, .int 0)]) (dt_at dt_X12_findCosts_0 1 rfl) rfl (by decide) rfl ?_
  exact J_2 0 σ h
theorem cv_X12_findCosts (C : Ck X G cc own nL d) {idx : Nat} (hlk : Cond.methodLink own idx yX12_findCosts ∈ gtb) (x1 : Int32) (x2 : Int32) {σ0 : St} (e : f_X12_findCosts x1 x2 σ = some σ0) (hdd : 5 ≤ d) (hroom : (rest.map fun v => v.category).sum ≤ 8) (hcs : cells ≤ (xR X).cells ∧ slots ≤ (xR X).slots) (hd : decode cc pc = .ok (.invokevirtual idx, 3)) (k : V X G nL cells slots σ0 (pc + 3) lv (rest)) : V X G nL cells slots σ pc lv (.int x2 :: .int x1 :: .ref (ga G 6) :: rest) := V_callV C (As := [.int x1, .int x2]) (c_X12_findCosts X.2.1 G x1 x2 σ σ0 e) cal_X12_findCosts ww_539 ww_540 hlk rfl hdd (lt110 rfl) rfl rfl rfl hroom hcs hd k
theorem dt_X12_joined_0 : dtab cX12_joined [(0, .iload_n 0, 1), (1, .iconst 2, 1), (2, .if_icmp .eq 9, 3), (5, .iload_n 1, 1), (6, .iload_n 2, 1), (7, .iadd, 1), (8, .goto 13, 3), (11, .iload_n 1, 1), (12, .iload_n 2, 1), (13, .if_icmp .le 7, 3), (16, .iload_n 1, 1), (17, .goto 4, 3), (20, .iload_n 2, 1), (21, .ireturn, 1)] = true := by decide +kernel
theorem cal_X12_joined : Cal yX12_joined cX12_joined 3 (some .int) 3 := ⟨ww_541, ww_429, ⟨by decide, by decide, by decide⟩, by decide⟩
set_option maxHeartbeats 4000000 in
set_option maxRecDepth 100000 in
theorem c_X12_joined (l : Launch) (G : Gx) (x0 : Int32) (x1 : Int32) (x2 : Int32) (σ : St) (r0 : Int32) (h : f_X12_joined x0 x1 x2 = some r0) : MI l G yX12_joined cX12_joined 3 (some .int) 1 [.int x0, .int x1, .int x2] σ (some (.int r0)) σ := by
  refine MI_of RX12 rfl (by decide) [(0, .int x0), (1, .int x1), (2, .int x2)] rfl (Nat.le_of_ble_eq_true rfl) ?_
  intro X hXl C hR
  unfold f_X12_joined at h
  refine V_iload_n C (dt_at dt_X12_joined_0 0 rfl) 0 rfl rfl ?_
  refine V_iconst C 2 (dt_at dt_X12_joined_0 1 rfl) (by decide) ?_
  refine V_icmp_eq C 11 (dt_at dt_X12_joined_0 2 rfl) (by decide) (fun q1 => ?_) (fun q1 => ?_)
  · have h := ite_t q1 h
    refine V_iload_n C (dt_at dt_X12_joined_0 7 rfl) 1 rfl rfl ?_
    refine V_iload_n C (dt_at dt_X12_joined_0 8 rfl) 2 rfl rfl ?_
    refine V_icmp_le C 20 (dt_at dt_X12_joined_0 9 rfl) (by decide) (fun q2 => ?_) (fun q2 => ?_)
    · have h := ite_f q2 h
      refine V_iload_n C (dt_at dt_X12_joined_0 12 rfl) 2 rfl rfl ?_
      have e1_ := Option.some.inj h
      subst e1_
      exact V_iret C hR (dt_at dt_X12_joined_0 13 rfl)
    · have h := ite_t q2 h
      refine V_iload_n C (dt_at dt_X12_joined_0 10 rfl) 1 rfl rfl ?_
      refine V_goto C 21 (dt_at dt_X12_joined_0 11 rfl) (by decide) ?_
      have e1_ := Option.some.inj h
      subst e1_
      exact V_iret C hR (dt_at dt_X12_joined_0 13 rfl)
  · have h := ite_f q1 h
    refine V_iload_n C (dt_at dt_X12_joined_0 3 rfl) 1 rfl rfl ?_
    refine V_iload_n C (dt_at dt_X12_joined_0 4 rfl) 2 rfl rfl ?_
    refine V_iadd C (dt_at dt_X12_joined_0 5 rfl) ?_
    refine V_goto C 21 (dt_at dt_X12_joined_0 6 rfl) (by decide) ?_
    have e1_ := Option.some.inj h
    subst e1_
    exact V_iret C hR (dt_at dt_X12_joined_0 13 rfl)
theorem cv_X12_joined (C : Ck X G cc own nL d) {idx : Nat} (hlk : Cond.methodLink own idx yX12_joined ∈ gtb) (x0 : Int32) (x1 : Int32) (x2 : Int32) {r0 : Int32} (e : f_X12_joined x0 x1 x2 = some r0) (hdd : 2 ≤ d) (hroom : (rest.map fun v => v.category).sum ≤ 8) (hcs : cells ≤ (xR X).cells ∧ slots ≤ (xR X).slots) (hd : decode cc pc = .ok (.invokestatic idx, 3)) (k : V X G nL cells slots σ (pc + 3) lv (.int r0 :: rest)) : V X G nL cells slots σ pc lv (.int x2 :: .int x1 :: .int x0 :: rest) := V_callS C (As := [.int x0, .int x1, .int x2]) (c_X12_joined X.2.1 G x0 x1 x2 σ r0 e) cal_X12_joined ww_542 hlk rfl hdd rfl hroom hcs hd k
theorem dt_X12_findSums_0 : dtab cX12_findSums [(0, .aload_n 0, 1), (1, .invokevirtual 237, 3), (4, .iconst 0, 1), (5, .istore_n 3, 1), (6, .iload_n 3, 1), (7, .aload_n 0, 1), (8, .getfield 7, 3), (11, .iconst 1, 1), (12, .iaload, 1), (13, .if_icmp .ge 20, 3), (16, .aload_n 0, 1), (17, .getfield 69, 3), (20, .iload_n 3, 1), (21, .aload_n 0, 1), (22, .iload_n 3, 1), (23, .invokevirtual 121, 3), (26, .iastore, 1), (27, .iinc 3 1, 3), (30, .goto (-24), 3), (33, .iconst 0, 1), (34, .istore_n 3, 1), (35, .iload_n 3, 1), (36, .sipush 1024, 3), (39, .if_icmp .ge 29, 3), (42, .aload_n 0, 1), (43, .getfield 59, 3), (46, .sipush 6144, 3), (49, .iload_n 3, 1), (50, .iadd, 1), (51, .iload_n 3, 1), (52, .ifCond .ne 7, 3), (55, .iconst 0, 1), (56, .goto 5, 3), (59, .ldc 255, 2), (61, .iastore, 1), (62, .iinc 3 1, 3), (65, .goto (-30), 3), (68, .iconst 5, 1), (69, .istore_n 3, 1), (70, .iload_n 3, 1)] = true := by decide +kernel
theorem dt_X12_findSums_1 : dtab cX12_findSums [(71, .ifCond .lt 191, 3), (74, .iload_n 2, 1), (75, .iload_n 3, 1), (76, .ishr, 1), (77, .iconst 1, 1), (78, .iand, 1), (79, .iconst 1, 1), (80, .if_icmp .ne 7, 3), (83, .iconst 1, 1), (84, .goto 4, 3), (87, .iconst 0, 1), (88, .istore 4, 2), (90, .iload 4, 2), (92, .ifCond .eq 14, 3), (95, .aload_n 0, 1), (96, .iload_n 3, 1), (97, .invokevirtual 256, 3), (100, .aload_n 0, 1), (101, .iload_n 3, 1), (102, .iload_n 1, 1), (103, .invokevirtual 259, 3), (106, .iconst 0, 1), (107, .istore 5, 2), (109, .iload 5, 2), (111, .aload_n 0, 1), (112, .invokevirtual 249, 3), (115, .if_icmp .gt 141, 3), (118, .aload_n 0, 1), (119, .getfield 59, 3), (122, .sipush 1024, 3), (125, .iload_n 3, 1), (126, .iconst 1, 1), (127, .iadd, 1), (128, .imul, 1), (129, .iload 5, 2), (131, .iadd, 1), (132, .iaload, 1), (133, .istore 6, 2), (135, .iload 4, 2), (137, .ifCond .eq 8, 3)] = true := by decide +kernel
theorem dt_X12_findSums_2 : dtab cX12_findSums [(140, .iload 5, 2), (142, .goto 4, 3), (145, .iconst 0, 1), (146, .istore 7, 2), (148, .iload 7, 2), (150, .ifCond .le 85, 3), (153, .aload_n 0, 1), (154, .getfield 59, 3), (157, .sipush 1024, 3), (160, .iload_n 3, 1), (161, .iconst 1, 1), (162, .iadd, 1), (163, .imul, 1), (164, .iload 5, 2), (166, .iload 7, 2), (168, .iconst (-1), 1), (169, .ixor, 1), (170, .iand, 1), (171, .iadd, 1), (172, .iaload, 1), (173, .istore 8, 2), (175, .aload_n 0, 1), (176, .getfield 52, 3), (179, .iload 7, 2), (181, .baload, 1), (182, .ifCond .eq 41, 3), (185, .iload 8, 2), (187, .ldc 255, 2), (189, .if_icmp .ge 34, 3), (192, .iload_n 1, 1), (193, .aload_n 0, 1), (194, .getfield 56, 3), (197, .iload 7, 2), (199, .iaload, 1), (200, .iload 8, 2), (202, .invokestatic 262, 3), (205, .istore 9, 2), (207, .iload 9, 2), (209, .iload 6, 2), (211, .if_icmp .ge 8, 3)] = true := by decide +kernel
theorem dt_X12_findSums_3 : dtab cX12_findSums [(214, .iload 9, 2), (216, .goto 5, 3), (219, .iload 6, 2), (221, .istore 6, 2), (223, .iload 7, 2), (225, .iconst 1, 1), (226, .isub, 1), (227, .iload 5, 2), (229, .iand, 1), (230, .istore 7, 2), (232, .goto (-84), 3), (235, .aload_n 0, 1), (236, .getfield 59, 3), (239, .sipush 1024, 3), (242, .iload_n 3, 1), (243, .imul, 1), (244, .iload 5, 2), (246, .iadd, 1), (247, .iload 6, 2), (249, .iastore, 1), (250, .iinc 5 1, 3), (253, .goto (-144), 3), (256, .iinc 3 (-1), 3), (259, .goto (-189), 3), (262, .return_, 1)] = true := by decide +kernel
theorem cal_X12_findSums : Cal yX12_findSums cX12_findSums 10 none 2 := ⟨ww_548, ww_429, ⟨by decide, by decide, by decide⟩, by decide⟩
set_option maxHeartbeats 4000000 in
set_option maxRecDepth 100000 in
theorem c_X12_findSums (l : Launch) (G : Gx) (x1 : Int32) (x2 : Int32) (σ : St) (σ0 : St) (h : f_X12_findSums x1 x2 σ = some σ0) : MI l G yX12_findSums cX12_findSums 10 none 7 [.ref (ga G 6), .int x1, .int x2] σ none σ0 := by
  refine MI_of RX12 rfl (by decide) [(0, .ref (ga G 6)), (1, .int x1), (2, .int x2)] rfl (Nat.le_of_ble_eq_true rfl) ?_
  intro X hXl C hR
  unfold f_X12_findSums at h
  have J_70 : ∀ (x3 : Int32) (σ : St), f_X12_findSums_70 x1 x2 x3 σ = some σ0 → V X G 10 0 0 σ 70 [(0, .ref (ga G 6)), (1, .int x1), (2, .int x2), (3, .int x3)] [] := by
    intro x3 σ h
    refine it_v (P := fun z : Int32 × St => V X G 10 0 0 z.2 70 [(0, .ref (ga G 6)), (1, .int x1), (2, .int x2), (3, .int z.1)] []) ?_ (x3, σ) h
    clear h
    intro z w_70 h ih_70 ex_70
    obtain ⟨x3, σ⟩ := z
    have h : b_X12_findSums_70 x1 x2 x3 σ = some w_70 := h
    show V X G 10 0 0 σ 70 [(0, .ref (ga G 6)), (1, .int x1), (2, .int x2), (3, .int x3)] []
    unfold b_X12_findSums_70 at h
    have J_256 : ∀ (x3 : Int32) (σ : St), f_X12_findSums_256 x1 x2 x3 σ = some w_70 → V X G 10 0 0 σ 256 [(0, .ref (ga G 6)), (1, .int x1), (2, .int x2), (3, .int x3)] [] := by
      intro x3 σ h
      unfold f_X12_findSums_256 at h
      refine V_iinc C (x3 + (-1)) 3 [1, 2, 3, 0] (lv' := [(0, .ref (ga G 6)), (1, .int x1), (2, .int x2), (3, .int (x3 + (-1)))]) (dt_at dt_X12_findSums_3 22 rfl) rfl (by rfl) (by decide) rfl ?_
      refine V_goto C 70 (dt_at dt_X12_findSums_3 23 rfl) (by decide) ?_
      exact ih_70 ((x3 + (-1)), σ) (Option.some.inj h).symm
    have J_109 : ∀ (x3 : Int32) (x4 : Int32) (x5 : Int32) (σ : St), f_X12_findSums_109 x1 x2 x3 x4 x5 σ = some w_70 → V X G 10 0 0 σ 109 [(0, .ref (ga G 6)), (1, .int x1), (2, .int x2), (3, .int x3), (4, .int x4), (5, .int x5)] [] := by
      intro x3 x4 x5 σ h
      refine it_v (P := fun z : Int32 × St => V X G 10 0 0 z.2 109 [(0, .ref (ga G 6)), (1, .int x1), (2, .int x2), (3, .int x3), (4, .int x4), (5, .int z.1)] []) ?_ (x5, σ) h
      clear h
      intro z w_109 h ih_109 ex_109
      obtain ⟨x5, σ⟩ := z
      have h : b_X12_findSums_109 x1 x2 x3 x4 x5 σ = some w_109 := h
      show V X G 10 0 0 σ 109 [(0, .ref (ga G 6)), (1, .int x1), (2, .int x2), (3, .int x3), (4, .int x4), (5, .int x5)] []
      unfold b_X12_findSums_109 at h
      have J_235 : ∀ (x5 : Int32) (x6 : Int32) (σ : St), f_X12_findSums_235 x1 x2 x3 x4 x5 x6 σ = some w_109 → V X G 10 0 0 σ 235 [(0, .ref (ga G 6)), (1, .int x1), (2, .int x2), (3, .int x3), (4, .int x4), (5, .int x5), (6, .int x6)] [] := by
        intro x5 x6 σ h
        unfold f_X12_findSums_235 at h
        refine V_aload_n C (dt_at dt_X12_findSums_3 11 rfl) 0 rfl rfl ?_
        refine g_X12_59_6 C (dt_at dt_X12_findSums_3 12 rfl) ?_
        refine V_sipush C 1024 (dt_at dt_X12_findSums_3 13 rfl) (by decide) ?_
        refine V_iload_n C (dt_at dt_X12_findSums_3 14 rfl) 3 rfl rfl ?_
        refine V_imul C (dt_at dt_X12_findSums_3 15 rfl) ?_
        refine V_iload C (dt_at dt_X12_findSums_3 16 rfl) 5 rfl ?_
        refine V_iadd C (dt_at dt_X12_findSums_3 17 rfl) ?_
        refine V_iload C (dt_at dt_X12_findSums_3 18 rfl) 6 rfl ?_
        obtain ⟨h44, h⟩ := chk_s h
        obtain ⟨σ43, eσ43, h⟩ := nm_s h
        refine V_st eσ43 ?_ (fun k => as_100 C h44 (dt_at dt_X12_findSums_3 19 rfl) k)
        refine V_iinc C (x5 + 1) 5 [1, 2, 3, 4, 5, 0, 6] (lv' := [(0, .ref (ga G 6)), (1, .int x1), (2, .int x2), (3, .int x3), (4, .int x4), (5, .int (x5 + 1)), (6, .int x6)]) (dt_at dt_X12_findSums_3 20 rfl) rfl (by rfl) (by decide) rfl ?_
        refine V_goto C 109 (dt_at dt_X12_findSums_3 21 rfl) (by decide) ?_
        refine V_sub [0, 1, 2, 3, 4, 5] (lv' := [(0, .ref (ga G 6)), (1, .int x1), (2, .int x2), (3, .int x3), (4, .int x4), (5, .int (x5 + 1))]) rfl ?_
        exact ih_109 ((x5 + 1), σ43) (Option.some.inj h).symm
      have J_148 : ∀ (x5 : Int32) (x6 : Int32) (x7 : Int32) (σ : St), f_X12_findSums_148 x1 x2 x3 x4 x5 x6 x7 σ = some w_109 → V X G 10 0 0 σ 148 [(0, .ref (ga G 6)), (1, .int x1), (2, .int x2), (3, .int x3), (4, .int x4), (5, .int x5), (6, .int x6), (7, .int x7)] [] := by
        intro x5 x6 x7 σ h
        refine it_v (P := fun z : Int32 × Int32 => V X G 10 0 0 σ 148 [(0, .ref (ga G 6)), (1, .int x1), (2, .int x2), (3, .int x3), (4, .int x4), (5, .int x5), (6, .int z.1), (7, .int z.2)] []) ?_ (x6, x7) h
        clear h
        intro z w_148 h ih_148 ex_148
        obtain ⟨x6, x7⟩ := z
        have h : b_X12_findSums_148 x1 x2 x3 x4 x5 x6 x7 σ = some w_148 := h
        show V X G 10 0 0 σ 148 [(0, .ref (ga G 6)), (1, .int x1), (2, .int x2), (3, .int x3), (4, .int x4), (5, .int x5), (6, .int x6), (7, .int x7)] []
        unfold b_X12_findSums_148 at h
        have J_223 : ∀ (x6 : Int32) (x7 : Int32), f_X12_findSums_223 x1 x2 x3 x4 x5 x6 x7 σ = some w_148 → V X G 10 0 0 σ 223 [(0, .ref (ga G 6)), (1, .int x1), (2, .int x2), (3, .int x3), (4, .int x4), (5, .int x5), (6, .int x6), (7, .int x7)] [] := by
          intro x6 x7 h
          unfold f_X12_findSums_223 at h
          refine V_iload C (dt_at dt_X12_findSums_3 4 rfl) 7 rfl ?_
          refine V_iconst C 1 (dt_at dt_X12_findSums_3 5 rfl) (by decide) ?_
          refine V_isub C (dt_at dt_X12_findSums_3 6 rfl) ?_
          refine V_iload C (dt_at dt_X12_findSums_3 7 rfl) 5 rfl ?_
          refine V_iand C (dt_at dt_X12_findSums_3 8 rfl) ?_
          refine V_istore C [1, 2, 3, 4, 5, 6, 7, 0] (lv' := [(0, .ref (ga G 6)), (1, .int x1), (2, .int x2), (3, .int x3), (4, .int x4), (5, .int x5), (6, .int x6), (7, .int ((x7 - 1) &&& x5))]) (dt_at dt_X12_findSums_3 9 rfl) (by decide) rfl ?_
          refine V_goto C 148 (dt_at dt_X12_findSums_3 10 rfl) (by decide) ?_
          exact ih_148 (x6, ((x7 - 1) &&& x5)) (Option.some.inj h).symm
        have J_221 : ∀ (x7 : Int32) (s0 : Int32), f_X12_findSums_221 x1 x2 x3 x4 x5 x7 s0 σ = some w_148 → V X G 10 0 0 σ 221 [(0, .ref (ga G 6)), (1, .int x1), (2, .int x2), (3, .int x3), (4, .int x4), (5, .int x5), (7, .int x7)] [.int s0] := by
          intro x7 s0 h
          unfold f_X12_findSums_221 at h
          refine V_istore C [1, 2, 3, 4, 5, 6, 0, 7] (lv' := [(0, .ref (ga G 6)), (1, .int x1), (2, .int x2), (3, .int x3), (4, .int x4), (5, .int x5), (6, .int s0), (7, .int x7)]) (dt_at dt_X12_findSums_3 3 rfl) (by decide) rfl ?_
          exact J_223 s0 x7 h
        refine V_iload C (dt_at dt_X12_findSums_2 4 rfl) 7 rfl ?_
        refine V_if_le C 235 (dt_at dt_X12_findSums_2 5 rfl) (by decide) (fun q33 => ?_) (fun q33 => ?_)
        · have h := ite_f q33 h
          refine V_sub [0, 1, 2, 3, 4, 5, 6] (lv' := [(0, .ref (ga G 6)), (1, .int x1), (2, .int x2), (3, .int x3), (4, .int x4), (5, .int x5), (6, .int x6)]) rfl ?_
          obtain ⟨t34, h, e_148⟩ := map_s h
          have e_148 := ex_148 _ e_148
          rw [e_148] at h
          exact J_235 x5 x6 σ h
        · have h := ite_t q33 h
          refine V_aload_n C (dt_at dt_X12_findSums_2 6 rfl) 0 rfl rfl ?_
          refine g_X12_59_6 C (dt_at dt_X12_findSums_2 7 rfl) ?_
          refine V_sipush C 1024 (dt_at dt_X12_findSums_2 8 rfl) (by decide) ?_
          refine V_iload_n C (dt_at dt_X12_findSums_2 9 rfl) 3 rfl rfl ?_
          refine V_iconst C 1 (dt_at dt_X12_findSums_2 10 rfl) (by decide) ?_
          refine V_iadd C (dt_at dt_X12_findSums_2 11 rfl) ?_
          refine V_imul C (dt_at dt_X12_findSums_2 12 rfl) ?_
          refine V_iload C (dt_at dt_X12_findSums_2 13 rfl) 5 rfl ?_
          refine V_iload C (dt_at dt_X12_findSums_2 14 rfl) 7 rfl ?_
          refine V_iconst C (-1) (dt_at dt_X12_findSums_2 15 rfl) (by decide) ?_
          refine V_ixor C (dt_at dt_X12_findSums_2 16 rfl) ?_
          refine V_iand C (dt_at dt_X12_findSums_2 17 rfl) ?_
          refine V_iadd C (dt_at dt_X12_findSums_2 18 rfl) ?_
          obtain ⟨h35, h⟩ := chk_s h
          refine al_100 C h35 (dt_at dt_X12_findSums_2 19 rfl) ?_
          refine V_istore C [1, 2, 3, 4, 5, 6, 7, 8, 0] (lv' := [(0, .ref (ga G 6)), (1, .int x1), (2, .int x2), (3, .int x3), (4, .int x4), (5, .int x5), (6, .int x6), (7, .int x7), (8, .int (rd σ 100 ((1024 * (x3 + 1)) + (x5 &&& (x7 ^^^ (-1))))))]) (dt_at dt_X12_findSums_2 20 rfl) (by decide) rfl ?_
          refine V_aload_n C (dt_at dt_X12_findSums_2 21 rfl) 0 rfl rfl ?_
          refine g_X12_52_6 C (dt_at dt_X12_findSums_2 22 rfl) ?_
          refine V_iload C (dt_at dt_X12_findSums_2 23 rfl) 7 rfl ?_
          obtain ⟨h36, h⟩ := chk_s h
          refine V_zald C h36 (dt_at dt_X12_findSums_2 24 rfl) ?_
          refine V_if_eq C 223 (dt_at dt_X12_findSums_2 25 rfl) (by decide) (fun q37 => ?_) (fun q37 => ?_)
          · have h := ite_t q37 h
            refine V_sub [0, 1, 2, 3, 4, 5, 6, 7] (lv' := [(0, .ref (ga G 6)), (1, .int x1), (2, .int x2), (3, .int x3), (4, .int x4), (5, .int x5), (6, .int x6), (7, .int x7)]) rfl ?_
            exact J_223 x6 x7 h
          · have h := ite_f q37 h
            refine V_iload C (dt_at dt_X12_findSums_2 26 rfl) 8 rfl ?_
            refine V_ldc C 1000000000 (dt_at dt_X12_findSums_2 27 rfl) ww_544 ?_
            refine V_icmp_ge C 223 (dt_at dt_X12_findSums_2 28 rfl) (by decide) (fun q38 => ?_) (fun q38 => ?_)
            · have h := ite_f q38 h
              refine V_sub [0, 1, 2, 3, 4, 5, 6, 7] (lv' := [(0, .ref (ga G 6)), (1, .int x1), (2, .int x2), (3, .int x3), (4, .int x4), (5, .int x5), (6, .int x6), (7, .int x7)]) rfl ?_
              exact J_223 x6 x7 h
            · have h := ite_t q38 h
              refine V_iload_n C (dt_at dt_X12_findSums_2 29 rfl) 1 rfl rfl ?_
              refine V_aload_n C (dt_at dt_X12_findSums_2 30 rfl) 0 rfl rfl ?_
              refine g_X12_56_6 C (dt_at dt_X12_findSums_2 31 rfl) ?_
              refine V_iload C (dt_at dt_X12_findSums_2 32 rfl) 7 rfl ?_
              refine al_99 C h36 (dt_at dt_X12_findSums_2 33 rfl) ?_
              refine V_iload C (dt_at dt_X12_findSums_2 34 rfl) 8 rfl ?_
              obtain ⟨r39, e40, h⟩ := bd_s h
              refine cv_X12_joined C ww_547 x1 (rd σ 99 x7) (rd σ 100 ((1024 * (x3 + 1)) + (x5 &&& (x7 ^^^ (-1))))) e40 (Nat.le_of_ble_eq_true rfl) (Nat.le_of_ble_eq_true rfl) z0 (dt_at dt_X12_findSums_2 35 rfl) ?_
              refine V_istore C [1, 2, 3, 4, 5, 6, 7, 8, 9, 0] (lv' := [(0, .ref (ga G 6)), (1, .int x1), (2, .int x2), (3, .int x3), (4, .int x4), (5, .int x5), (6, .int x6), (7, .int x7), (8, .int (rd σ 100 ((1024 * (x3 + 1)) + (x5 &&& (x7 ^^^ (-1)))))), (9, .int r39)]) (dt_at dt_X12_findSums_2 36 rfl) (by decide) rfl ?_
              refine V_iload C (dt_at dt_X12_findSums_2 37 rfl) 9 rfl ?_
              refine V_iload C (dt_at dt_X12_findSums_2 38 rfl) 6 rfl ?_
              refine V_icmp_ge C 219 (dt_at dt_X12_findSums_2 39 rfl) (by decide) (fun q42 => ?_) (fun q42 => ?_)
              · have h := ite_f q42 h
                refine V_iload C (dt_at dt_X12_findSums_3 2 rfl) 6 rfl ?_
                refine V_sub [0, 1, 2, 3, 4, 5, 7] (lv' := [(0, .ref (ga G 6)), (1, .int x1), (2, .int x2), (3, .int x3), (4, .int x4), (5, .int x5), (7, .int x7)]) rfl ?_
                exact J_221 x7 x6 h
              · have h := ite_t q42 h
                refine V_iload C (dt_at dt_X12_findSums_3 0 rfl) 9 rfl ?_
                refine V_goto C 221 (dt_at dt_X12_findSums_3 1 rfl) (by decide) ?_
                refine V_sub [0, 1, 2, 3, 4, 5, 7] (lv' := [(0, .ref (ga G 6)), (1, .int x1), (2, .int x2), (3, .int x3), (4, .int x4), (5, .int x5), (7, .int x7)]) rfl ?_
                exact J_221 x7 r39 h
      have J_146 : ∀ (x5 : Int32) (x6 : Int32) (s0 : Int32) (σ : St), f_X12_findSums_146 x1 x2 x3 x4 x5 x6 s0 σ = some w_109 → V X G 10 0 0 σ 146 [(0, .ref (ga G 6)), (1, .int x1), (2, .int x2), (3, .int x3), (4, .int x4), (5, .int x5), (6, .int x6)] [.int s0] := by
        intro x5 x6 s0 σ h
        unfold f_X12_findSums_146 at h
        refine V_istore C [1, 2, 3, 4, 5, 6, 7, 0] (lv' := [(0, .ref (ga G 6)), (1, .int x1), (2, .int x2), (3, .int x3), (4, .int x4), (5, .int x5), (6, .int x6), (7, .int s0)]) (dt_at dt_X12_findSums_2 3 rfl) (by decide) rfl ?_
        exact J_148 x5 x6 s0 σ h
      refine V_iload C (dt_at dt_X12_findSums_1 23 rfl) 5 rfl ?_
      refine V_aload_n C (dt_at dt_X12_findSums_1 24 rfl) 0 rfl rfl ?_
      obtain ⟨r26, e27, h⟩ := bd_s h
      refine cv_X12_allParts C ww_527  e27 (Nat.le_of_ble_eq_true rfl) (Nat.le_of_ble_eq_true rfl) z0 (dt_at dt_X12_findSums_1 25 rfl) ?_
      refine V_icmp_gt C 256 (dt_at dt_X12_findSums_1 26 rfl) (by decide) (fun q29 => ?_) (fun q29 => ?_)
      · have h := ite_t q29 h
        refine V_sub [0, 1, 2, 3] (lv' := [(0, .ref (ga G 6)), (1, .int x1), (2, .int x2), (3, .int x3)]) rfl ?_
        obtain ⟨t30, h, e_109⟩ := map_s h
        have e_109 := ex_109 _ e_109
        rw [e_109] at h
        exact J_256 x3 σ h
      · have h := ite_f q29 h
        refine V_aload_n C (dt_at dt_X12_findSums_1 27 rfl) 0 rfl rfl ?_
        refine g_X12_59_6 C (dt_at dt_X12_findSums_1 28 rfl) ?_
        refine V_sipush C 1024 (dt_at dt_X12_findSums_1 29 rfl) (by decide) ?_
        refine V_iload_n C (dt_at dt_X12_findSums_1 30 rfl) 3 rfl rfl ?_
        refine V_iconst C 1 (dt_at dt_X12_findSums_1 31 rfl) (by decide) ?_
        refine V_iadd C (dt_at dt_X12_findSums_1 32 rfl) ?_
        refine V_imul C (dt_at dt_X12_findSums_1 33 rfl) ?_
        refine V_iload C (dt_at dt_X12_findSums_1 34 rfl) 5 rfl ?_
        refine V_iadd C (dt_at dt_X12_findSums_1 35 rfl) ?_
        obtain ⟨h31, h⟩ := chk_s h
        refine al_100 C h31 (dt_at dt_X12_findSums_1 36 rfl) ?_
        refine V_istore C [1, 2, 3, 4, 5, 6, 0] (lv' := [(0, .ref (ga G 6)), (1, .int x1), (2, .int x2), (3, .int x3), (4, .int x4), (5, .int x5), (6, .int (rd σ 100 ((1024 * (x3 + 1)) + x5)))]) (dt_at dt_X12_findSums_1 37 rfl) (by decide) rfl ?_
        refine V_iload C (dt_at dt_X12_findSums_1 38 rfl) 4 rfl ?_
        refine V_if_eq C 145 (dt_at dt_X12_findSums_1 39 rfl) (by decide) (fun q32 => ?_) (fun q32 => ?_)
        · have h := ite_t q32 h
          refine V_iconst C 0 (dt_at dt_X12_findSums_2 2 rfl) (by decide) ?_
          exact J_146 x5 (rd σ 100 ((1024 * (x3 + 1)) + x5)) 0 σ h
        · have h := ite_f q32 h
          refine V_iload C (dt_at dt_X12_findSums_2 0 rfl) 5 rfl ?_
          refine V_goto C 146 (dt_at dt_X12_findSums_2 1 rfl) (by decide) ?_
          exact J_146 x5 (rd σ 100 ((1024 * (x3 + 1)) + x5)) x5 σ h
    have J_106 : ∀ (x3 : Int32) (x4 : Int32) (σ : St), f_X12_findSums_106 x1 x2 x3 x4 σ = some w_70 → V X G 10 0 0 σ 106 [(0, .ref (ga G 6)), (1, .int x1), (2, .int x2), (3, .int x3), (4, .int x4)] [] := by
      intro x3 x4 σ h
      unfold f_X12_findSums_106 at h
      refine V_iconst C 0 (dt_at dt_X12_findSums_1 21 rfl) (by decide) ?_
      refine V_istore C [1, 2, 3, 4, 5, 0] (lv' := [(0, .ref (ga G 6)), (1, .int x1), (2, .int x2), (3, .int x3), (4, .int x4), (5, .int 0)]) (dt_at dt_X12_findSums_1 22 rfl) (by decide) rfl ?_
      exact J_109 x3 x4 0 σ h
    have J_88 : ∀ (x3 : Int32) (s0 : Int32) (σ : St), f_X12_findSums_88 x1 x2 x3 s0 σ = some w_70 → V X G 10 0 0 σ 88 [(0, .ref (ga G 6)), (1, .int x1), (2, .int x2), (3, .int x3)] [.int s0] := by
      intro x3 s0 σ h
      unfold f_X12_findSums_88 at h
      refine V_istore C [1, 2, 3, 4, 0] (lv' := [(0, .ref (ga G 6)), (1, .int x1), (2, .int x2), (3, .int x3), (4, .int s0)]) (dt_at dt_X12_findSums_1 11 rfl) (by decide) rfl ?_
      refine V_iload C (dt_at dt_X12_findSums_1 12 rfl) 4 rfl ?_
      refine V_if_eq C 106 (dt_at dt_X12_findSums_1 13 rfl) (by decide) (fun q19 => ?_) (fun q19 => ?_)
      · have h := ite_t q19 h
        exact J_106 x3 s0 σ h
      · have h := ite_f q19 h
        refine V_aload_n C (dt_at dt_X12_findSums_1 14 rfl) 0 rfl rfl ?_
        refine V_iload_n C (dt_at dt_X12_findSums_1 15 rfl) 3 rfl rfl ?_
        obtain ⟨σ22, e21, h⟩ := bd_s h
        refine cv_X12_findSets C ww_545 x3 e21 (Nat.le_of_ble_eq_true rfl) (Nat.le_of_ble_eq_true rfl) z0 (dt_at dt_X12_findSums_1 16 rfl) ?_
        refine V_aload_n C (dt_at dt_X12_findSums_1 17 rfl) 0 rfl rfl ?_
        refine V_iload_n C (dt_at dt_X12_findSums_1 18 rfl) 3 rfl rfl ?_
        refine V_iload_n C (dt_at dt_X12_findSums_1 19 rfl) 1 rfl rfl ?_
        obtain ⟨σ25, e24, h⟩ := bd_s h
        refine cv_X12_findCosts C ww_546 x3 x1 e24 (Nat.le_of_ble_eq_true rfl) (Nat.le_of_ble_eq_true rfl) z0 (dt_at dt_X12_findSums_1 20 rfl) ?_
        exact J_106 x3 s0 σ25 h
    refine V_iload_n C (dt_at dt_X12_findSums_0 39 rfl) 3 rfl rfl ?_
    refine V_if_lt C 262 (dt_at dt_X12_findSums_1 0 rfl) (by decide) (fun q17 => ?_) (fun q17 => ?_)
    · have h := ite_t q17 h
      have e_70 := ex_70 _ (Option.some.inj h).symm
      subst e_70
      exact V_vret C hR (dt_at dt_X12_findSums_3 24 rfl)
    · have h := ite_f q17 h
      refine V_iload_n C (dt_at dt_X12_findSums_1 1 rfl) 2 rfl rfl ?_
      refine V_iload_n C (dt_at dt_X12_findSums_1 2 rfl) 3 rfl rfl ?_
      refine V_ishr C (dt_at dt_X12_findSums_1 3 rfl) ?_
      refine V_iconst C 1 (dt_at dt_X12_findSums_1 4 rfl) (by decide) ?_
      refine V_iand C (dt_at dt_X12_findSums_1 5 rfl) ?_
      refine V_iconst C 1 (dt_at dt_X12_findSums_1 6 rfl) (by decide) ?_
      refine V_icmp_ne C 87 (dt_at dt_X12_findSums_1 7 rfl) (by decide) (fun q18 => ?_) (fun q18 => ?_)
      · have h := ite_f q18 h
        refine V_iconst C 0 (dt_at dt_X12_findSums_1 10 rfl) (by decide) ?_
        exact J_88 x3 0 σ h
      · have h := ite_t q18 h
        refine V_iconst C 1 (dt_at dt_X12_findSums_1 8 rfl) (by decide) ?_
        refine V_goto C 88 (dt_at dt_X12_findSums_1 9 rfl) (by decide) ?_
        exact J_88 x3 1 σ h
  have J_68 : ∀ (σ : St), f_X12_findSums_68 x1 x2 σ = some σ0 → V X G 10 0 0 σ 68 [(0, .ref (ga G 6)), (1, .int x1), (2, .int x2)] [] := by
    intro σ h
    unfold f_X12_findSums_68 at h
    refine V_iconst C 5 (dt_at dt_X12_findSums_0 37 rfl) (by decide) ?_
    refine V_istore_n C [1, 2, 3, 0] (lv' := [(0, .ref (ga G 6)), (1, .int x1), (2, .int x2), (3, .int 5)]) (dt_at dt_X12_findSums_0 38 rfl) rfl (by decide) rfl ?_
    exact J_70 5 σ h
  have J_35 : ∀ (x3 : Int32) (σ : St), f_X12_findSums_35 x1 x2 x3 σ = some σ0 → V X G 10 0 0 σ 35 [(0, .ref (ga G 6)), (1, .int x1), (2, .int x2), (3, .int x3)] [] := by
    intro x3 σ h
    refine it_v (P := fun z : Int32 × St => V X G 10 0 0 z.2 35 [(0, .ref (ga G 6)), (1, .int x1), (2, .int x2), (3, .int z.1)] []) ?_ (x3, σ) h
    clear h
    intro z w_35 h ih_35 ex_35
    obtain ⟨x3, σ⟩ := z
    have h : b_X12_findSums_35 x1 x2 x3 σ = some w_35 := h
    show V X G 10 0 0 σ 35 [(0, .ref (ga G 6)), (1, .int x1), (2, .int x2), (3, .int x3)] []
    unfold b_X12_findSums_35 at h
    have J_61 : ∀ (x3 : Int32) (s0 : Int32) (s1 : Int32) (σ : St), f_X12_findSums_61 x1 x2 x3 s0 s1 σ = some w_35 → V X G 10 0 0 σ 61 [(0, .ref (ga G 6)), (1, .int x1), (2, .int x2), (3, .int x3)] [.int s0, .int s1, .ref (ga G 100)] := by
      intro x3 s0 s1 σ h
      unfold f_X12_findSums_61 at h
      obtain ⟨h16, h⟩ := chk_s h
      obtain ⟨σ15, eσ15, h⟩ := nm_s h
      refine V_st eσ15 ?_ (fun k => as_100 C h16 (dt_at dt_X12_findSums_0 34 rfl) k)
      refine V_iinc C (x3 + 1) 3 [1, 2, 3, 0] (lv' := [(0, .ref (ga G 6)), (1, .int x1), (2, .int x2), (3, .int (x3 + 1))]) (dt_at dt_X12_findSums_0 35 rfl) rfl (by rfl) (by decide) rfl ?_
      refine V_goto C 35 (dt_at dt_X12_findSums_0 36 rfl) (by decide) ?_
      exact ih_35 ((x3 + 1), σ15) (Option.some.inj h).symm
    refine V_iload_n C (dt_at dt_X12_findSums_0 21 rfl) 3 rfl rfl ?_
    refine V_sipush C 1024 (dt_at dt_X12_findSums_0 22 rfl) (by decide) ?_
    refine V_icmp_ge C 68 (dt_at dt_X12_findSums_0 23 rfl) (by decide) (fun q12 => ?_) (fun q12 => ?_)
    · have h := ite_f q12 h
      refine V_sub [0, 1, 2] (lv' := [(0, .ref (ga G 6)), (1, .int x1), (2, .int x2)]) rfl ?_
      obtain ⟨t13, h, e_35⟩ := map_s h
      have e_35 := ex_35 _ e_35
      rw [e_35] at h
      exact J_68 σ h
    · have h := ite_t q12 h
      refine V_aload_n C (dt_at dt_X12_findSums_0 24 rfl) 0 rfl rfl ?_
      refine g_X12_59_6 C (dt_at dt_X12_findSums_0 25 rfl) ?_
      refine V_sipush C 6144 (dt_at dt_X12_findSums_0 26 rfl) (by decide) ?_
      refine V_iload_n C (dt_at dt_X12_findSums_0 27 rfl) 3 rfl rfl ?_
      refine V_iadd C (dt_at dt_X12_findSums_0 28 rfl) ?_
      refine V_iload_n C (dt_at dt_X12_findSums_0 29 rfl) 3 rfl rfl ?_
      refine V_if_ne C 59 (dt_at dt_X12_findSums_0 30 rfl) (by decide) (fun q14 => ?_) (fun q14 => ?_)
      · have h := ite_f q14 h
        refine V_ldc C 1000000000 (dt_at dt_X12_findSums_0 33 rfl) ww_544 ?_
        exact J_61 x3 1000000000 (6144 + x3) σ h
      · have h := ite_t q14 h
        refine V_iconst C 0 (dt_at dt_X12_findSums_0 31 rfl) (by decide) ?_
        refine V_goto C 61 (dt_at dt_X12_findSums_0 32 rfl) (by decide) ?_
        exact J_61 x3 0 (6144 + x3) σ h
  have J_33 : ∀ (σ : St), f_X12_findSums_33 x1 x2 σ = some σ0 → V X G 10 0 0 σ 33 [(0, .ref (ga G 6)), (1, .int x1), (2, .int x2)] [] := by
    intro σ h
    unfold f_X12_findSums_33 at h
    refine V_iconst C 0 (dt_at dt_X12_findSums_0 19 rfl) (by decide) ?_
    refine V_istore_n C [1, 2, 3, 0] (lv' := [(0, .ref (ga G 6)), (1, .int x1), (2, .int x2), (3, .int 0)]) (dt_at dt_X12_findSums_0 20 rfl) rfl (by decide) rfl ?_
    exact J_35 0 σ h
  have J_6 : ∀ (x3 : Int32) (σ : St), f_X12_findSums_6 x1 x2 x3 σ = some σ0 → V X G 10 0 0 σ 6 [(0, .ref (ga G 6)), (1, .int x1), (2, .int x2), (3, .int x3)] [] := by
    intro x3 σ h
    refine it_v (P := fun z : Int32 × St => V X G 10 0 0 z.2 6 [(0, .ref (ga G 6)), (1, .int x1), (2, .int x2), (3, .int z.1)] []) ?_ (x3, σ) h
    clear h
    intro z w_6 h ih_6 ex_6
    obtain ⟨x3, σ⟩ := z
    have h : b_X12_findSums_6 x1 x2 x3 σ = some w_6 := h
    show V X G 10 0 0 σ 6 [(0, .ref (ga G 6)), (1, .int x1), (2, .int x2), (3, .int x3)] []
    unfold b_X12_findSums_6 at h
    refine V_iload_n C (dt_at dt_X12_findSums_0 4 rfl) 3 rfl rfl ?_
    refine V_aload_n C (dt_at dt_X12_findSums_0 5 rfl) 0 rfl rfl ?_
    refine g_X12_7_6 C (dt_at dt_X12_findSums_0 6 rfl) ?_
    refine V_iconst C 1 (dt_at dt_X12_findSums_0 7 rfl) (by decide) ?_
    obtain ⟨h4, h⟩ := chk_s h
    refine al_84 C h4 (dt_at dt_X12_findSums_0 8 rfl) ?_
    refine V_icmp_ge C 33 (dt_at dt_X12_findSums_0 9 rfl) (by decide) (fun q5 => ?_) (fun q5 => ?_)
    · have h := ite_f q5 h
      refine V_sub [0, 1, 2] (lv' := [(0, .ref (ga G 6)), (1, .int x1), (2, .int x2)]) rfl ?_
      obtain ⟨t6, h, e_6⟩ := map_s h
      have e_6 := ex_6 _ e_6
      rw [e_6] at h
      exact J_33 σ h
    · have h := ite_t q5 h
      refine V_aload_n C (dt_at dt_X12_findSums_0 10 rfl) 0 rfl rfl ?_
      refine g_X12_69_6 C (dt_at dt_X12_findSums_0 11 rfl) ?_
      refine V_iload_n C (dt_at dt_X12_findSums_0 12 rfl) 3 rfl rfl ?_
      refine V_aload_n C (dt_at dt_X12_findSums_0 13 rfl) 0 rfl rfl ?_
      refine V_iload_n C (dt_at dt_X12_findSums_0 14 rfl) 3 rfl rfl ?_
      obtain ⟨r7, e8, h⟩ := bd_s h
      refine cv_X12_weight C ww_463 x3 e8 (Nat.le_of_ble_eq_true rfl) (Nat.le_of_ble_eq_true rfl) z0 (dt_at dt_X12_findSums_0 15 rfl) ?_
      obtain ⟨h11, h⟩ := chk_s h
      obtain ⟨σ10, eσ10, h⟩ := nm_s h
      refine V_st eσ10 ?_ (fun k => as_103 C h11 (dt_at dt_X12_findSums_0 16 rfl) k)
      refine V_iinc C (x3 + 1) 3 [1, 2, 3, 0] (lv' := [(0, .ref (ga G 6)), (1, .int x1), (2, .int x2), (3, .int (x3 + 1))]) (dt_at dt_X12_findSums_0 17 rfl) rfl (by rfl) (by decide) rfl ?_
      refine V_goto C 6 (dt_at dt_X12_findSums_0 18 rfl) (by decide) ?_
      exact ih_6 ((x3 + 1), σ10) (Option.some.inj h).symm
  refine V_aload_n C (dt_at dt_X12_findSums_0 0 rfl) 0 rfl rfl ?_
  obtain ⟨σ3, e2, h⟩ := bd_s h
  refine cv_X12_lay C ww_513  e2 (Nat.le_of_ble_eq_true rfl) (Nat.le_of_ble_eq_true rfl) z0 (dt_at dt_X12_findSums_0 1 rfl) ?_
  refine V_iconst C 0 (dt_at dt_X12_findSums_0 2 rfl) (by decide) ?_
  refine V_istore_n C [1, 2, 3, 0] (lv' := [(0, .ref (ga G 6)), (1, .int x1), (2, .int x2), (3, .int 0)]) (dt_at dt_X12_findSums_0 3 rfl) rfl (by decide) rfl ?_
  exact J_6 0 σ3 h
theorem cv_X12_findSums (C : Ck X G cc own nL d) {idx : Nat} (hlk : Cond.methodLink own idx yX12_findSums ∈ gtb) (x1 : Int32) (x2 : Int32) {σ0 : St} (e : f_X12_findSums x1 x2 σ = some σ0) (hdd : 8 ≤ d) (hroom : (rest.map fun v => v.category).sum ≤ 8) (hcs : cells ≤ (xR X).cells ∧ slots ≤ (xR X).slots) (hd : decode cc pc = .ok (.invokevirtual idx, 3)) (k : V X G nL cells slots σ0 (pc + 3) lv (rest)) : V X G nL cells slots σ pc lv (.int x2 :: .int x1 :: .ref (ga G 6) :: rest) := V_callV C (As := [.int x1, .int x2]) (c_X12_findSums X.2.1 G x1 x2 σ σ0 e) cal_X12_findSums ww_549 ww_550 hlk rfl hdd (lt110 rfl) rfl rfl rfl hroom hcs hd k
theorem dt_X12_isBest_0 : dtab cX12_isBest [(0, .aload_n 0, 1), (1, .getfield 59, 3), (4, .sipush 1024, 3), (7, .iload_n 2, 1), (8, .iconst 1, 1), (9, .iadd, 1), (10, .imul, 1), (11, .iload_n 3, 1), (12, .iload 4, 2), (14, .iconst (-1), 1), (15, .ixor, 1), (16, .iand, 1), (17, .iadd, 1), (18, .iaload, 1), (19, .istore 7, 2), (21, .aload_n 0, 1), (22, .getfield 52, 3), (25, .iload 4, 2), (27, .baload, 1), (28, .ifCond .eq 38, 3), (31, .iload 7, 2), (33, .ldc 255, 2), (35, .if_icmp .ge 31, 3), (38, .iload_n 1, 1), (39, .iload_n 1, 1), (40, .iload 5, 2), (42, .aload_n 0, 1), (43, .getfield 56, 3), (46, .iload 4, 2), (48, .iaload, 1), (49, .invokestatic 262, 3), (52, .iload 7, 2), (54, .invokestatic 262, 3), (57, .iload 6, 2), (59, .if_icmp .gt 7, 3), (62, .iconst 1, 1), (63, .goto 4, 3), (66, .iconst 0, 1), (67, .ireturn, 1)] = true := by decide +kernel
theorem cal_X12_isBest : Cal yX12_isBest cX12_isBest 8 (some .boolean) 6 := ⟨ww_551, ww_429, ⟨by decide, by decide, by decide⟩, by decide⟩
set_option maxHeartbeats 4000000 in
set_option maxRecDepth 100000 in
theorem c_X12_isBest (l : Launch) (G : Gx) (x1 : Int32) (x2 : Int32) (x3 : Int32) (x4 : Int32) (x5 : Int32) (x6 : Int32) (σ : St) (r0 : Int32) (h : f_X12_isBest x1 x2 x3 x4 x5 x6 σ = some r0) : MI l G yX12_isBest cX12_isBest 8 (some .boolean) 2 [.ref (ga G 6), .int x1, .int x2, .int x3, .int x4, .int x5, .int x6] σ (some (.int r0)) σ := by
  refine MI_of RX12 rfl (by decide) [(0, .ref (ga G 6)), (1, .int x1), (2, .int x2), (3, .int x3), (4, .int x4), (5, .int x5), (6, .int x6)] rfl (Nat.le_of_ble_eq_true rfl) ?_
  intro X hXl C hR
  unfold f_X12_isBest at h
  refine V_aload_n C (dt_at dt_X12_isBest_0 0 rfl) 0 rfl rfl ?_
  refine g_X12_59_6 C (dt_at dt_X12_isBest_0 1 rfl) ?_
  refine V_sipush C 1024 (dt_at dt_X12_isBest_0 2 rfl) (by decide) ?_
  refine V_iload_n C (dt_at dt_X12_isBest_0 3 rfl) 2 rfl rfl ?_
  refine V_iconst C 1 (dt_at dt_X12_isBest_0 4 rfl) (by decide) ?_
  refine V_iadd C (dt_at dt_X12_isBest_0 5 rfl) ?_
  refine V_imul C (dt_at dt_X12_isBest_0 6 rfl) ?_
  refine V_iload_n C (dt_at dt_X12_isBest_0 7 rfl) 3 rfl rfl ?_
  refine V_iload C (dt_at dt_X12_isBest_0 8 rfl) 4 rfl ?_
  refine V_iconst C (-1) (dt_at dt_X12_isBest_0 9 rfl) (by decide) ?_
  refine V_ixor C (dt_at dt_X12_isBest_0 10 rfl) ?_
  refine V_iand C (dt_at dt_X12_isBest_0 11 rfl) ?_
  refine V_iadd C (dt_at dt_X12_isBest_0 12 rfl) ?_
  obtain ⟨h1, h⟩ := chk_s h
  refine al_100 C h1 (dt_at dt_X12_isBest_0 13 rfl) ?_
  refine V_istore C [1, 2, 3, 4, 5, 6, 7, 0] (lv' := [(0, .ref (ga G 6)), (1, .int x1), (2, .int x2), (3, .int x3), (4, .int x4), (5, .int x5), (6, .int x6), (7, .int (rd σ 100 ((1024 * (x2 + 1)) + (x3 &&& (x4 ^^^ (-1))))))]) (dt_at dt_X12_isBest_0 14 rfl) (by decide) rfl ?_
  refine V_aload_n C (dt_at dt_X12_isBest_0 15 rfl) 0 rfl rfl ?_
  refine g_X12_52_6 C (dt_at dt_X12_isBest_0 16 rfl) ?_
  refine V_iload C (dt_at dt_X12_isBest_0 17 rfl) 4 rfl ?_
  obtain ⟨h2, h⟩ := chk_s h
  refine V_zald C h2 (dt_at dt_X12_isBest_0 18 rfl) ?_
  refine V_if_eq C 66 (dt_at dt_X12_isBest_0 19 rfl) (by decide) (fun q3 => ?_) (fun q3 => ?_)
  · have h := ite_t q3 h
    refine V_iconst C 0 (dt_at dt_X12_isBest_0 37 rfl) (by decide) ?_
    have e1_ := Option.some.inj h
    subst e1_
    exact V_zret C rfl hR (dt_at dt_X12_isBest_0 38 rfl)
  · have h := ite_f q3 h
    refine V_iload C (dt_at dt_X12_isBest_0 20 rfl) 7 rfl ?_
    refine V_ldc C 1000000000 (dt_at dt_X12_isBest_0 21 rfl) ww_544 ?_
    refine V_icmp_ge C 66 (dt_at dt_X12_isBest_0 22 rfl) (by decide) (fun q4 => ?_) (fun q4 => ?_)
    · have h := ite_f q4 h
      refine V_iconst C 0 (dt_at dt_X12_isBest_0 37 rfl) (by decide) ?_
      have e1_ := Option.some.inj h
      subst e1_
      exact V_zret C rfl hR (dt_at dt_X12_isBest_0 38 rfl)
    · have h := ite_t q4 h
      refine V_iload_n C (dt_at dt_X12_isBest_0 23 rfl) 1 rfl rfl ?_
      refine V_iload_n C (dt_at dt_X12_isBest_0 24 rfl) 1 rfl rfl ?_
      refine V_iload C (dt_at dt_X12_isBest_0 25 rfl) 5 rfl ?_
      refine V_aload_n C (dt_at dt_X12_isBest_0 26 rfl) 0 rfl rfl ?_
      refine g_X12_56_6 C (dt_at dt_X12_isBest_0 27 rfl) ?_
      refine V_iload C (dt_at dt_X12_isBest_0 28 rfl) 4 rfl ?_
      refine al_99 C h2 (dt_at dt_X12_isBest_0 29 rfl) ?_
      obtain ⟨r5, e6, h⟩ := bd_s h
      refine cv_X12_joined C ww_547 x1 x5 (rd σ 99 x4) e6 (Nat.le_of_ble_eq_true rfl) (Nat.le_of_ble_eq_true rfl) z0 (dt_at dt_X12_isBest_0 30 rfl) ?_
      refine V_iload C (dt_at dt_X12_isBest_0 31 rfl) 7 rfl ?_
      obtain ⟨r8, e9, h⟩ := bd_s h
      refine cv_X12_joined C ww_547 x1 r5 (rd σ 100 ((1024 * (x2 + 1)) + (x3 &&& (x4 ^^^ (-1))))) e9 (Nat.le_of_ble_eq_true rfl) (Nat.le_of_ble_eq_true rfl) z0 (dt_at dt_X12_isBest_0 32 rfl) ?_
      refine V_iload C (dt_at dt_X12_isBest_0 33 rfl) 6 rfl ?_
      refine V_icmp_gt C 66 (dt_at dt_X12_isBest_0 34 rfl) (by decide) (fun q11 => ?_) (fun q11 => ?_)
      · have h := ite_t q11 h
        refine V_iconst C 0 (dt_at dt_X12_isBest_0 37 rfl) (by decide) ?_
        have e1_ := Option.some.inj h
        subst e1_
        exact V_zret C rfl hR (dt_at dt_X12_isBest_0 38 rfl)
      · have h := ite_f q11 h
        refine V_iconst C 1 (dt_at dt_X12_isBest_0 35 rfl) (by decide) ?_
        refine V_goto C 67 (dt_at dt_X12_isBest_0 36 rfl) (by decide) ?_
        have e1_ := Option.some.inj h
        subst e1_
        exact V_zret C rfl hR (dt_at dt_X12_isBest_0 38 rfl)
theorem cv_X12_isBest (C : Ck X G cc own nL d) {idx : Nat} (hlk : Cond.methodLink own idx yX12_isBest ∈ gtb) (x1 : Int32) (x2 : Int32) (x3 : Int32) (x4 : Int32) (x5 : Int32) (x6 : Int32) {r0 : Int32} (e : f_X12_isBest x1 x2 x3 x4 x5 x6 σ = some r0) (hdd : 3 ≤ d) (hroom : (rest.map fun v => v.category).sum ≤ 8) (hcs : cells ≤ (xR X).cells ∧ slots ≤ (xR X).slots) (hd : decode cc pc = .ok (.invokevirtual idx, 3)) (k : V X G nL cells slots σ (pc + 3) lv (.int r0 :: rest)) : V X G nL cells slots σ pc lv (.int x6 :: .int x5 :: .int x4 :: .int x3 :: .int x2 :: .int x1 :: .ref (ga G 6) :: rest) := V_callV C (As := [.int x1, .int x2, .int x3, .int x4, .int x5, .int x6]) (c_X12_isBest X.2.1 G x1 x2 x3 x4 x5 x6 σ r0 e) cal_X12_isBest ww_552 ww_553 hlk rfl hdd (lt110 rfl) rfl rfl rfl hroom hcs hd k
theorem dt_X12_findBest_0 : dtab cX12_findBest [(0, .aload_n 0, 1), (1, .iload_n 1, 1), (2, .iload_n 2, 1), (3, .invokevirtual 265, 3), (6, .aload_n 0, 1), (7, .invokevirtual 249, 3), (10, .istore_n 3, 1), (11, .aload_n 0, 1), (12, .getfield 59, 3), (15, .iload_n 3, 1), (16, .iaload, 1), (17, .istore 4, 2), (19, .iload 4, 2), (21, .ldc 255, 2), (23, .if_icmp .ne 5, 3), (26, .iconst 0, 1), (27, .ireturn, 1), (28, .iconst 0, 1), (29, .istore 5, 2), (31, .iconst 0, 1), (32, .istore 6, 2), (34, .iload 6, 2), (36, .bipush 6, 2), (38, .if_icmp .ge 137, 3), (41, .iload_n 2, 1), (42, .iload 6, 2), (44, .ishr, 1), (45, .iconst 1, 1), (46, .iand, 1), (47, .ifCond .ne 6, 3), (50, .goto 119, 3), (53, .aload_n 0, 1), (54, .iload 6, 2), (56, .invokevirtual 256, 3), (59, .aload_n 0, 1), (60, .iload 6, 2), (62, .iload_n 1, 1), (63, .invokevirtual 259, 3), (66, .iconst 0, 1), (67, .istore 7, 2)] = true := by decide +kernel
theorem dt_X12_findBest_1 : dtab cX12_findBest [(69, .aload_n 0, 1), (70, .iload_n 1, 1), (71, .iload 6, 2), (73, .iload_n 3, 1), (74, .iload 7, 2), (76, .iload 5, 2), (78, .iload 4, 2), (80, .invokevirtual 268, 3), (83, .ifCond .ne 14, 3), (86, .iload 7, 2), (88, .iload_n 3, 1), (89, .isub, 1), (90, .iload_n 3, 1), (91, .iand, 1), (92, .istore 7, 2), (94, .goto (-25), 3), (97, .iconst 0, 1), (98, .istore 8, 2), (100, .iload 8, 2), (102, .aload_n 0, 1), (103, .getfield 7, 3), (106, .iconst 1, 1), (107, .iaload, 1), (108, .if_icmp .ge 39, 3), (111, .aload_n 0, 1), (112, .getfield 72, 3), (115, .iload 8, 2), (117, .iload 7, 2), (119, .iload 8, 2), (121, .ishr, 1), (122, .iconst 1, 1), (123, .iand, 1), (124, .iconst 1, 1), (125, .if_icmp .ne 8, 3), (128, .iload 6, 2), (130, .goto 10, 3), (133, .aload_n 0, 1), (134, .getfield 72, 3), (137, .iload 8, 2), (139, .iaload, 1)] = true := by decide +kernel
theorem dt_X12_findBest_2 : dtab cX12_findBest [(140, .iastore, 1), (141, .iinc 8 1, 3), (144, .goto (-44), 3), (147, .iload_n 1, 1), (148, .iload 5, 2), (150, .aload_n 0, 1), (151, .getfield 56, 3), (154, .iload 7, 2), (156, .iaload, 1), (157, .invokestatic 262, 3), (160, .istore 5, 2), (162, .iload_n 3, 1), (163, .iload 7, 2), (165, .iconst (-1), 1), (166, .ixor, 1), (167, .iand, 1), (168, .istore_n 3, 1), (169, .iinc 6 1, 3), (172, .goto (-138), 3), (175, .iconst 1, 1), (176, .ireturn, 1)] = true := by decide +kernel
theorem cal_X12_findBest : Cal yX12_findBest cX12_findBest 9 (some .boolean) 2 := ⟨ww_557, ww_429, ⟨by decide, by decide, by decide⟩, by decide⟩
set_option maxHeartbeats 4000000 in
set_option maxRecDepth 100000 in
theorem c_X12_findBest (l : Launch) (G : Gx) (x1 : Int32) (x2 : Int32) (σ : St) (r0 : Int32) (σ0 : St) (h : f_X12_findBest x1 x2 σ = some (r0, σ0)) : MI l G yX12_findBest cX12_findBest 9 (some .boolean) 8 [.ref (ga G 6), .int x1, .int x2] σ (some (.int r0)) σ0 := by
  refine MI_of RX12 rfl (by decide) [(0, .ref (ga G 6)), (1, .int x1), (2, .int x2)] rfl (Nat.le_of_ble_eq_true rfl) ?_
  intro X hXl C hR
  unfold f_X12_findBest at h
  have J_34 : ∀ (x3 : Int32) (x4 : Int32) (x5 : Int32) (x6 : Int32) (σ : St), f_X12_findBest_34 x1 x2 x3 x4 x5 x6 σ = some (r0, σ0) → V X G 9 0 0 σ 34 [(0, .ref (ga G 6)), (1, .int x1), (2, .int x2), (3, .int x3), (4, .int x4), (5, .int x5), (6, .int x6)] [] := by
    intro x3 x4 x5 x6 σ h
    refine it_v (P := fun z : Int32 × Int32 × Int32 × St => V X G 9 0 0 z.2.2.2 34 [(0, .ref (ga G 6)), (1, .int x1), (2, .int x2), (3, .int z.1), (4, .int x4), (5, .int z.2.1), (6, .int z.2.2.1)] []) ?_ (x3, x5, x6, σ) h
    clear h
    intro z w_34 h ih_34 ex_34
    obtain ⟨x3, x5, x6, σ⟩ := z
    have h : b_X12_findBest_34 x1 x2 x3 x4 x5 x6 σ = some w_34 := h
    show V X G 9 0 0 σ 34 [(0, .ref (ga G 6)), (1, .int x1), (2, .int x2), (3, .int x3), (4, .int x4), (5, .int x5), (6, .int x6)] []
    unfold b_X12_findBest_34 at h
    have J_169 : ∀ (x3 : Int32) (x5 : Int32) (x6 : Int32) (σ : St), f_X12_findBest_169 x1 x2 x3 x4 x5 x6 σ = some w_34 → V X G 9 0 0 σ 169 [(0, .ref (ga G 6)), (1, .int x1), (2, .int x2), (3, .int x3), (4, .int x4), (5, .int x5), (6, .int x6)] [] := by
      intro x3 x5 x6 σ h
      unfold f_X12_findBest_169 at h
      refine V_iinc C (x6 + 1) 6 [1, 2, 3, 4, 5, 6, 0] (lv' := [(0, .ref (ga G 6)), (1, .int x1), (2, .int x2), (3, .int x3), (4, .int x4), (5, .int x5), (6, .int (x6 + 1))]) (dt_at dt_X12_findBest_2 17 rfl) rfl (by rfl) (by decide) rfl ?_
      refine V_goto C 34 (dt_at dt_X12_findBest_2 18 rfl) (by decide) ?_
      exact ih_34 (x3, x5, (x6 + 1), σ) (Option.some.inj h).symm
    have J_147 : ∀ (x3 : Int32) (x5 : Int32) (x6 : Int32) (x7 : Int32) (σ : St), f_X12_findBest_147 x1 x2 x3 x4 x5 x6 x7 σ = some w_34 → V X G 9 0 0 σ 147 [(0, .ref (ga G 6)), (1, .int x1), (2, .int x2), (3, .int x3), (4, .int x4), (5, .int x5), (6, .int x6), (7, .int x7)] [] := by
      intro x3 x5 x6 x7 σ h
      unfold f_X12_findBest_147 at h
      refine V_iload_n C (dt_at dt_X12_findBest_2 3 rfl) 1 rfl rfl ?_
      refine V_iload C (dt_at dt_X12_findBest_2 4 rfl) 5 rfl ?_
      refine V_aload_n C (dt_at dt_X12_findBest_2 5 rfl) 0 rfl rfl ?_
      refine g_X12_56_6 C (dt_at dt_X12_findBest_2 6 rfl) ?_
      refine V_iload C (dt_at dt_X12_findBest_2 7 rfl) 7 rfl ?_
      obtain ⟨h29, h⟩ := chk_s h
      refine al_99 C h29 (dt_at dt_X12_findBest_2 8 rfl) ?_
      obtain ⟨r30, e31, h⟩ := bd_s h
      refine cv_X12_joined C ww_547 x1 x5 (rd σ 99 x7) e31 (Nat.le_of_ble_eq_true rfl) (Nat.le_of_ble_eq_true rfl) z0 (dt_at dt_X12_findBest_2 9 rfl) ?_
      refine V_istore C [1, 2, 3, 4, 5, 0, 6, 7] (lv' := [(0, .ref (ga G 6)), (1, .int x1), (2, .int x2), (3, .int x3), (4, .int x4), (5, .int r30), (6, .int x6), (7, .int x7)]) (dt_at dt_X12_findBest_2 10 rfl) (by decide) rfl ?_
      refine V_iload_n C (dt_at dt_X12_findBest_2 11 rfl) 3 rfl rfl ?_
      refine V_iload C (dt_at dt_X12_findBest_2 12 rfl) 7 rfl ?_
      refine V_iconst C (-1) (dt_at dt_X12_findBest_2 13 rfl) (by decide) ?_
      refine V_ixor C (dt_at dt_X12_findBest_2 14 rfl) ?_
      refine V_iand C (dt_at dt_X12_findBest_2 15 rfl) ?_
      refine V_istore_n C [1, 2, 3, 0, 4, 5, 6, 7] (lv' := [(0, .ref (ga G 6)), (1, .int x1), (2, .int x2), (3, .int (x3 &&& (x7 ^^^ (-1)))), (4, .int x4), (5, .int r30), (6, .int x6), (7, .int x7)]) (dt_at dt_X12_findBest_2 16 rfl) rfl (by decide) rfl ?_
      refine V_sub [0, 1, 2, 3, 4, 5, 6] (lv' := [(0, .ref (ga G 6)), (1, .int x1), (2, .int x2), (3, .int (x3 &&& (x7 ^^^ (-1)))), (4, .int x4), (5, .int r30), (6, .int x6)]) rfl ?_
      exact J_169 (x3 &&& (x7 ^^^ (-1))) r30 x6 σ h
    have J_100 : ∀ (x3 : Int32) (x5 : Int32) (x6 : Int32) (x7 : Int32) (x8 : Int32) (σ : St), f_X12_findBest_100 x1 x2 x3 x4 x5 x6 x7 x8 σ = some w_34 → V X G 9 0 0 σ 100 [(0, .ref (ga G 6)), (1, .int x1), (2, .int x2), (3, .int x3), (4, .int x4), (5, .int x5), (6, .int x6), (7, .int x7), (8, .int x8)] [] := by
      intro x3 x5 x6 x7 x8 σ h
      refine it_v (P := fun z : Int32 × St => V X G 9 0 0 z.2 100 [(0, .ref (ga G 6)), (1, .int x1), (2, .int x2), (3, .int x3), (4, .int x4), (5, .int x5), (6, .int x6), (7, .int x7), (8, .int z.1)] []) ?_ (x8, σ) h
      clear h
      intro z w_100 h ih_100 ex_100
      obtain ⟨x8, σ⟩ := z
      have h : b_X12_findBest_100 x1 x2 x3 x4 x5 x6 x7 x8 σ = some w_100 := h
      show V X G 9 0 0 σ 100 [(0, .ref (ga G 6)), (1, .int x1), (2, .int x2), (3, .int x3), (4, .int x4), (5, .int x5), (6, .int x6), (7, .int x7), (8, .int x8)] []
      unfold b_X12_findBest_100 at h
      have J_140 : ∀ (x8 : Int32) (s0 : Int32) (s1 : Int32) (σ : St), f_X12_findBest_140 x1 x2 x3 x4 x5 x6 x7 x8 s0 s1 σ = some w_100 → V X G 9 0 0 σ 140 [(0, .ref (ga G 6)), (1, .int x1), (2, .int x2), (3, .int x3), (4, .int x4), (5, .int x5), (6, .int x6), (7, .int x7), (8, .int x8)] [.int s0, .int s1, .ref (ga G 104)] := by
        intro x8 s0 s1 σ h
        unfold f_X12_findBest_140 at h
        obtain ⟨h28, h⟩ := chk_s h
        obtain ⟨σ27, eσ27, h⟩ := nm_s h
        refine V_st eσ27 ?_ (fun k => as_104 C h28 (dt_at dt_X12_findBest_2 0 rfl) k)
        refine V_iinc C (x8 + 1) 8 [1, 2, 3, 4, 5, 6, 7, 8, 0] (lv' := [(0, .ref (ga G 6)), (1, .int x1), (2, .int x2), (3, .int x3), (4, .int x4), (5, .int x5), (6, .int x6), (7, .int x7), (8, .int (x8 + 1))]) (dt_at dt_X12_findBest_2 1 rfl) rfl (by rfl) (by decide) rfl ?_
        refine V_goto C 100 (dt_at dt_X12_findBest_2 2 rfl) (by decide) ?_
        exact ih_100 ((x8 + 1), σ27) (Option.some.inj h).symm
      refine V_iload C (dt_at dt_X12_findBest_1 18 rfl) 8 rfl ?_
      refine V_aload_n C (dt_at dt_X12_findBest_1 19 rfl) 0 rfl rfl ?_
      refine g_X12_7_6 C (dt_at dt_X12_findBest_1 20 rfl) ?_
      refine V_iconst C 1 (dt_at dt_X12_findBest_1 21 rfl) (by decide) ?_
      obtain ⟨h22, h⟩ := chk_s h
      refine al_84 C h22 (dt_at dt_X12_findBest_1 22 rfl) ?_
      refine V_icmp_ge C 147 (dt_at dt_X12_findBest_1 23 rfl) (by decide) (fun q23 => ?_) (fun q23 => ?_)
      · have h := ite_f q23 h
        refine V_sub [0, 1, 2, 3, 4, 5, 6, 7] (lv' := [(0, .ref (ga G 6)), (1, .int x1), (2, .int x2), (3, .int x3), (4, .int x4), (5, .int x5), (6, .int x6), (7, .int x7)]) rfl ?_
        obtain ⟨t24, h, e_100⟩ := map_s h
        have e_100 := ex_100 _ e_100
        rw [e_100] at h
        exact J_147 x3 x5 x6 x7 σ h
      · have h := ite_t q23 h
        refine V_aload_n C (dt_at dt_X12_findBest_1 24 rfl) 0 rfl rfl ?_
        refine g_X12_72_6 C (dt_at dt_X12_findBest_1 25 rfl) ?_
        refine V_iload C (dt_at dt_X12_findBest_1 26 rfl) 8 rfl ?_
        refine V_iload C (dt_at dt_X12_findBest_1 27 rfl) 7 rfl ?_
        refine V_iload C (dt_at dt_X12_findBest_1 28 rfl) 8 rfl ?_
        refine V_ishr C (dt_at dt_X12_findBest_1 29 rfl) ?_
        refine V_iconst C 1 (dt_at dt_X12_findBest_1 30 rfl) (by decide) ?_
        refine V_iand C (dt_at dt_X12_findBest_1 31 rfl) ?_
        refine V_iconst C 1 (dt_at dt_X12_findBest_1 32 rfl) (by decide) ?_
        refine V_icmp_ne C 133 (dt_at dt_X12_findBest_1 33 rfl) (by decide) (fun q25 => ?_) (fun q25 => ?_)
        · have h := ite_f q25 h
          refine V_aload_n C (dt_at dt_X12_findBest_1 36 rfl) 0 rfl rfl ?_
          refine g_X12_72_6 C (dt_at dt_X12_findBest_1 37 rfl) ?_
          refine V_iload C (dt_at dt_X12_findBest_1 38 rfl) 8 rfl ?_
          obtain ⟨h26, h⟩ := chk_s h
          refine al_104 C h26 (dt_at dt_X12_findBest_1 39 rfl) ?_
          exact J_140 x8 (rd σ 104 x8) x8 σ h
        · have h := ite_t q25 h
          refine V_iload C (dt_at dt_X12_findBest_1 34 rfl) 6 rfl ?_
          refine V_goto C 140 (dt_at dt_X12_findBest_1 35 rfl) (by decide) ?_
          exact J_140 x8 x6 x8 σ h
    have J_97 : ∀ (x3 : Int32) (x5 : Int32) (x6 : Int32) (x7 : Int32) (σ : St), f_X12_findBest_97 x1 x2 x3 x4 x5 x6 x7 σ = some w_34 → V X G 9 0 0 σ 97 [(0, .ref (ga G 6)), (1, .int x1), (2, .int x2), (3, .int x3), (4, .int x4), (5, .int x5), (6, .int x6), (7, .int x7)] [] := by
      intro x3 x5 x6 x7 σ h
      unfold f_X12_findBest_97 at h
      refine V_iconst C 0 (dt_at dt_X12_findBest_1 16 rfl) (by decide) ?_
      refine V_istore C [1, 2, 3, 4, 5, 6, 7, 8, 0] (lv' := [(0, .ref (ga G 6)), (1, .int x1), (2, .int x2), (3, .int x3), (4, .int x4), (5, .int x5), (6, .int x6), (7, .int x7), (8, .int 0)]) (dt_at dt_X12_findBest_1 17 rfl) (by decide) rfl ?_
      exact J_100 x3 x5 x6 x7 0 σ h
    have J_69 : ∀ (x3 : Int32) (x5 : Int32) (x6 : Int32) (x7 : Int32) (σ : St), f_X12_findBest_69 x1 x2 x3 x4 x5 x6 x7 σ = some w_34 → V X G 9 0 0 σ 69 [(0, .ref (ga G 6)), (1, .int x1), (2, .int x2), (3, .int x3), (4, .int x4), (5, .int x5), (6, .int x6), (7, .int x7)] [] := by
      intro x3 x5 x6 x7 σ h
      refine it_v (P := fun z : Int32 => V X G 9 0 0 σ 69 [(0, .ref (ga G 6)), (1, .int x1), (2, .int x2), (3, .int x3), (4, .int x4), (5, .int x5), (6, .int x6), (7, .int z)] []) ?_ x7 h
      clear h
      intro z w_69 h ih_69 ex_69
      revert h; revert z; intro x7 h
      have h : b_X12_findBest_69 x1 x2 x3 x4 x5 x6 x7 σ = some w_69 := h
      show V X G 9 0 0 σ 69 [(0, .ref (ga G 6)), (1, .int x1), (2, .int x2), (3, .int x3), (4, .int x4), (5, .int x5), (6, .int x6), (7, .int x7)] []
      unfold b_X12_findBest_69 at h
      refine V_aload_n C (dt_at dt_X12_findBest_1 0 rfl) 0 rfl rfl ?_
      refine V_iload_n C (dt_at dt_X12_findBest_1 1 rfl) 1 rfl rfl ?_
      refine V_iload C (dt_at dt_X12_findBest_1 2 rfl) 6 rfl ?_
      refine V_iload_n C (dt_at dt_X12_findBest_1 3 rfl) 3 rfl rfl ?_
      refine V_iload C (dt_at dt_X12_findBest_1 4 rfl) 7 rfl ?_
      refine V_iload C (dt_at dt_X12_findBest_1 5 rfl) 5 rfl ?_
      refine V_iload C (dt_at dt_X12_findBest_1 6 rfl) 4 rfl ?_
      obtain ⟨r17, e18, h⟩ := bd_s h
      refine cv_X12_isBest C ww_555 x1 x6 x3 x7 x5 x4 e18 (Nat.le_of_ble_eq_true rfl) (Nat.le_of_ble_eq_true rfl) z0 (dt_at dt_X12_findBest_1 7 rfl) ?_
      refine V_if_ne C 97 (dt_at dt_X12_findBest_1 8 rfl) (by decide) (fun q20 => ?_) (fun q20 => ?_)
      · have h := ite_f q20 h
        obtain ⟨t21, h, e_69⟩ := map_s h
        have e_69 := ex_69 _ e_69
        rw [e_69] at h
        exact J_97 x3 x5 x6 x7 σ h
      · have h := ite_t q20 h
        refine V_iload C (dt_at dt_X12_findBest_1 9 rfl) 7 rfl ?_
        refine V_iload_n C (dt_at dt_X12_findBest_1 10 rfl) 3 rfl rfl ?_
        refine V_isub C (dt_at dt_X12_findBest_1 11 rfl) ?_
        refine V_iload_n C (dt_at dt_X12_findBest_1 12 rfl) 3 rfl rfl ?_
        refine V_iand C (dt_at dt_X12_findBest_1 13 rfl) ?_
        refine V_istore C [1, 2, 3, 4, 5, 6, 7, 0] (lv' := [(0, .ref (ga G 6)), (1, .int x1), (2, .int x2), (3, .int x3), (4, .int x4), (5, .int x5), (6, .int x6), (7, .int ((x7 - x3) &&& x3))]) (dt_at dt_X12_findBest_1 14 rfl) (by decide) rfl ?_
        refine V_goto C 69 (dt_at dt_X12_findBest_1 15 rfl) (by decide) ?_
        exact ih_69 ((x7 - x3) &&& x3) (Option.some.inj h).symm
    refine V_iload C (dt_at dt_X12_findBest_0 21 rfl) 6 rfl ?_
    refine V_bipush C 6 (dt_at dt_X12_findBest_0 22 rfl) (by decide) ?_
    refine V_icmp_ge C 175 (dt_at dt_X12_findBest_0 23 rfl) (by decide) (fun q9 => ?_) (fun q9 => ?_)
    · have h := ite_f q9 h
      refine V_iconst C 1 (dt_at dt_X12_findBest_2 19 rfl) (by decide) ?_
      have e_34 := ex_34 _ (Option.some.inj h).symm
      obtain ⟨e1_, e2_⟩ := Prod.mk.inj e_34
      subst e1_; subst e2_
      exact V_zret C rfl hR (dt_at dt_X12_findBest_2 20 rfl)
    · have h := ite_t q9 h
      refine V_iload_n C (dt_at dt_X12_findBest_0 24 rfl) 2 rfl rfl ?_
      refine V_iload C (dt_at dt_X12_findBest_0 25 rfl) 6 rfl ?_
      refine V_ishr C (dt_at dt_X12_findBest_0 26 rfl) ?_
      refine V_iconst C 1 (dt_at dt_X12_findBest_0 27 rfl) (by decide) ?_
      refine V_iand C (dt_at dt_X12_findBest_0 28 rfl) ?_
      refine V_if_ne C 53 (dt_at dt_X12_findBest_0 29 rfl) (by decide) (fun q10 => ?_) (fun q10 => ?_)
      · have h := ite_f q10 h
        refine V_aload_n C (dt_at dt_X12_findBest_0 31 rfl) 0 rfl rfl ?_
        refine V_iload C (dt_at dt_X12_findBest_0 32 rfl) 6 rfl ?_
        obtain ⟨σ13, e12, h⟩ := bd_s h
        refine cv_X12_findSets C ww_545 x6 e12 (Nat.le_of_ble_eq_true rfl) (Nat.le_of_ble_eq_true rfl) z0 (dt_at dt_X12_findBest_0 33 rfl) ?_
        refine V_aload_n C (dt_at dt_X12_findBest_0 34 rfl) 0 rfl rfl ?_
        refine V_iload C (dt_at dt_X12_findBest_0 35 rfl) 6 rfl ?_
        refine V_iload_n C (dt_at dt_X12_findBest_0 36 rfl) 1 rfl rfl ?_
        obtain ⟨σ16, e15, h⟩ := bd_s h
        refine cv_X12_findCosts C ww_546 x6 x1 e15 (Nat.le_of_ble_eq_true rfl) (Nat.le_of_ble_eq_true rfl) z0 (dt_at dt_X12_findBest_0 37 rfl) ?_
        refine V_iconst C 0 (dt_at dt_X12_findBest_0 38 rfl) (by decide) ?_
        refine V_istore C [1, 2, 3, 4, 5, 6, 7, 0] (lv' := [(0, .ref (ga G 6)), (1, .int x1), (2, .int x2), (3, .int x3), (4, .int x4), (5, .int x5), (6, .int x6), (7, .int 0)]) (dt_at dt_X12_findBest_0 39 rfl) (by decide) rfl ?_
        exact J_69 x3 x5 x6 0 σ16 h
      · have h := ite_t q10 h
        refine V_goto C 169 (dt_at dt_X12_findBest_0 30 rfl) (by decide) ?_
        exact J_169 x3 x5 x6 σ h
  refine V_aload_n C (dt_at dt_X12_findBest_0 0 rfl) 0 rfl rfl ?_
  refine V_iload_n C (dt_at dt_X12_findBest_0 1 rfl) 1 rfl rfl ?_
  refine V_iload_n C (dt_at dt_X12_findBest_0 2 rfl) 2 rfl rfl ?_
  obtain ⟨σ3, e2, h⟩ := bd_s h
  refine cv_X12_findSums C ww_554 x1 x2 e2 (Nat.le_of_ble_eq_true rfl) (Nat.le_of_ble_eq_true rfl) z0 (dt_at dt_X12_findBest_0 3 rfl) ?_
  refine V_aload_n C (dt_at dt_X12_findBest_0 4 rfl) 0 rfl rfl ?_
  obtain ⟨r4, e5, h⟩ := bd_s h
  refine cv_X12_allParts C ww_527  e5 (Nat.le_of_ble_eq_true rfl) (Nat.le_of_ble_eq_true rfl) z0 (dt_at dt_X12_findBest_0 5 rfl) ?_
  refine V_istore_n C [1, 2, 3, 0] (lv' := [(0, .ref (ga G 6)), (1, .int x1), (2, .int x2), (3, .int r4)]) (dt_at dt_X12_findBest_0 6 rfl) rfl (by decide) rfl ?_
  refine V_aload_n C (dt_at dt_X12_findBest_0 7 rfl) 0 rfl rfl ?_
  refine g_X12_59_6 C (dt_at dt_X12_findBest_0 8 rfl) ?_
  refine V_iload_n C (dt_at dt_X12_findBest_0 9 rfl) 3 rfl rfl ?_
  obtain ⟨h7, h⟩ := chk_s h
  refine al_100 C h7 (dt_at dt_X12_findBest_0 10 rfl) ?_
  refine V_istore C [1, 2, 3, 4, 0] (lv' := [(0, .ref (ga G 6)), (1, .int x1), (2, .int x2), (3, .int r4), (4, .int (rd σ3 100 r4))]) (dt_at dt_X12_findBest_0 11 rfl) (by decide) rfl ?_
  refine V_iload C (dt_at dt_X12_findBest_0 12 rfl) 4 rfl ?_
  refine V_ldc C 1000000000 (dt_at dt_X12_findBest_0 13 rfl) ww_544 ?_
  refine V_icmp_ne C 28 (dt_at dt_X12_findBest_0 14 rfl) (by decide) (fun q8 => ?_) (fun q8 => ?_)
  · have h := ite_f q8 h
    refine V_iconst C 0 (dt_at dt_X12_findBest_0 17 rfl) (by decide) ?_
    refine V_istore C [1, 2, 3, 4, 5, 0] (lv' := [(0, .ref (ga G 6)), (1, .int x1), (2, .int x2), (3, .int r4), (4, .int (rd σ3 100 r4)), (5, .int 0)]) (dt_at dt_X12_findBest_0 18 rfl) (by decide) rfl ?_
    refine V_iconst C 0 (dt_at dt_X12_findBest_0 19 rfl) (by decide) ?_
    refine V_istore C [1, 2, 3, 4, 5, 6, 0] (lv' := [(0, .ref (ga G 6)), (1, .int x1), (2, .int x2), (3, .int r4), (4, .int (rd σ3 100 r4)), (5, .int 0), (6, .int 0)]) (dt_at dt_X12_findBest_0 20 rfl) (by decide) rfl ?_
    exact J_34 r4 (rd σ3 100 r4) 0 0 σ3 h
  · have h := ite_t q8 h
    refine V_iconst C 0 (dt_at dt_X12_findBest_0 15 rfl) (by decide) ?_
    obtain ⟨e1_, e2_⟩ := pin2 h
    subst e1_; subst e2_
    exact V_zret C rfl hR (dt_at dt_X12_findBest_0 16 rfl)
theorem cv_X12_findBest (C : Ck X G cc own nL d) {idx : Nat} (hlk : Cond.methodLink own idx yX12_findBest ∈ gtb) (x1 : Int32) (x2 : Int32) {r0 : Int32} {σ0 : St} (e : f_X12_findBest x1 x2 σ = some (r0, σ0)) (hdd : 9 ≤ d) (hroom : (rest.map fun v => v.category).sum ≤ 8) (hcs : cells ≤ (xR X).cells ∧ slots ≤ (xR X).slots) (hd : decode cc pc = .ok (.invokevirtual idx, 3)) (k : V X G nL cells slots σ0 (pc + 3) lv (.int r0 :: rest)) : V X G nL cells slots σ pc lv (.int x2 :: .int x1 :: .ref (ga G 6) :: rest) := V_callV C (As := [.int x1, .int x2]) (c_X12_findBest X.2.1 G x1 x2 σ r0 σ0 e) cal_X12_findBest ww_558 ww_559 hlk rfl hdd (lt110 rfl) rfl rfl rfl hroom hcs hd k
theorem dt_X12_sumOf_0 : dtab cX12_sumOf [(0, .aload_n 0, 1), (1, .getfield 59, 3), (4, .aload_n 0, 1), (5, .invokevirtual 249, 3), (8, .iaload, 1), (9, .istore_n 3, 1), (10, .iload_n 1, 1), (11, .ifCond .ne 8, 3), (14, .iload_n 3, 1), (15, .ineg, 1), (16, .goto 4, 3), (19, .iload_n 3, 1), (20, .ireturn, 1)] = true := by decide +kernel
theorem cal_X12_sumOf : Cal yX12_sumOf cX12_sumOf 4 (some .int) 2 := ⟨ww_560, ww_429, ⟨by decide, by decide, by decide⟩, by decide⟩
set_option maxHeartbeats 4000000 in
set_option maxRecDepth 100000 in
theorem c_X12_sumOf (l : Launch) (G : Gx) (x1 : Int32) (x2 : Int32) (σ : St) (r0 : Int32) (h : f_X12_sumOf x1 x2 σ = some r0) : MI l G yX12_sumOf cX12_sumOf 4 (some .int) 2 [.ref (ga G 6), .int x1, .int x2] σ (some (.int r0)) σ := by
  refine MI_of RX12 rfl (by decide) [(0, .ref (ga G 6)), (1, .int x1), (2, .int x2)] rfl (Nat.le_of_ble_eq_true rfl) ?_
  intro X hXl C hR
  unfold f_X12_sumOf at h
  refine V_aload_n C (dt_at dt_X12_sumOf_0 0 rfl) 0 rfl rfl ?_
  refine g_X12_59_6 C (dt_at dt_X12_sumOf_0 1 rfl) ?_
  refine V_aload_n C (dt_at dt_X12_sumOf_0 2 rfl) 0 rfl rfl ?_
  obtain ⟨r1, e2, h⟩ := bd_s h
  refine cv_X12_allParts C ww_527  e2 (Nat.le_of_ble_eq_true rfl) (Nat.le_of_ble_eq_true rfl) z0 (dt_at dt_X12_sumOf_0 3 rfl) ?_
  obtain ⟨h4, h⟩ := chk_s h
  refine al_100 C h4 (dt_at dt_X12_sumOf_0 4 rfl) ?_
  refine V_istore_n C [1, 2, 3, 0] (lv' := [(0, .ref (ga G 6)), (1, .int x1), (2, .int x2), (3, .int (rd σ 100 r1))]) (dt_at dt_X12_sumOf_0 5 rfl) rfl (by decide) rfl ?_
  refine V_iload_n C (dt_at dt_X12_sumOf_0 6 rfl) 1 rfl rfl ?_
  refine V_if_ne C 19 (dt_at dt_X12_sumOf_0 7 rfl) (by decide) (fun q5 => ?_) (fun q5 => ?_)
  · have h := ite_f q5 h
    refine V_iload_n C (dt_at dt_X12_sumOf_0 11 rfl) 3 rfl rfl ?_
    have e1_ := Option.some.inj h
    subst e1_
    exact V_iret C hR (dt_at dt_X12_sumOf_0 12 rfl)
  · have h := ite_t q5 h
    refine V_iload_n C (dt_at dt_X12_sumOf_0 8 rfl) 3 rfl rfl ?_
    refine V_ineg C (dt_at dt_X12_sumOf_0 9 rfl) ?_
    refine V_goto C 20 (dt_at dt_X12_sumOf_0 10 rfl) (by decide) ?_
    have e1_ := Option.some.inj h
    subst e1_
    exact V_iret C hR (dt_at dt_X12_sumOf_0 12 rfl)
theorem cv_X12_sumOf (C : Ck X G cc own nL d) {idx : Nat} (hlk : Cond.methodLink own idx yX12_sumOf ∈ gtb) (x1 : Int32) (x2 : Int32) {r0 : Int32} (e : f_X12_sumOf x1 x2 σ = some r0) (hdd : 3 ≤ d) (hroom : (rest.map fun v => v.category).sum ≤ 8) (hcs : cells ≤ (xR X).cells ∧ slots ≤ (xR X).slots) (hd : decode cc pc = .ok (.invokevirtual idx, 3)) (k : V X G nL cells slots σ (pc + 3) lv (.int r0 :: rest)) : V X G nL cells slots σ pc lv (.int x2 :: .int x1 :: .ref (ga G 6) :: rest) := V_callV C (As := [.int x1, .int x2]) (c_X12_sumOf X.2.1 G x1 x2 σ r0 e) cal_X12_sumOf ww_561 ww_562 hlk rfl hdd (lt110 rfl) rfl rfl rfl hroom hcs hd k
theorem dt_X12_best_0 : dtab cX12_best [(0, .iload_n 1, 1), (1, .iconst 0, 1), (2, .iconst 3, 1), (3, .invokestatic 91, 3), (6, .ifCond .eq 27, 3), (9, .aload_n 0, 1), (10, .iload_n 2, 1), (11, .invokevirtual 272, 3), (14, .ifCond .eq 19, 3), (17, .iload_n 3, 1), (18, .iconst (-1), 1), (19, .aload_n 0, 1), (20, .getfield 7, 3), (23, .iconst 1, 1), (24, .iaload, 1), (25, .iconst 1, 1), (26, .isub, 1), (27, .invokestatic 91, 3), (30, .ifCond .ne 9, 3), (33, .aload_n 0, 1), (34, .iconst 1, 1), (35, .invokevirtual 95, 3), (38, .ireturn, 1), (39, .aload_n 0, 1), (40, .iload_n 1, 1), (41, .iload_n 2, 1), (42, .invokevirtual 275, 3), (45, .ifCond .ne 9, 3), (48, .aload_n 0, 1), (49, .iconst 2, 1), (50, .invokevirtual 95, 3), (53, .ireturn, 1), (54, .iload_n 3, 1), (55, .ifCond .ge 12, 3), (58, .aload_n 0, 1), (59, .iload_n 1, 1), (60, .iload_n 2, 1), (61, .invokevirtual 278, 3), (64, .goto 9, 3), (67, .aload_n 0, 1)] = true := by decide +kernel
theorem dt_X12_best_1 : dtab cX12_best [(68, .getfield 72, 3), (71, .iload_n 3, 1), (72, .iaload, 1), (73, .ireturn, 1)] = true := by decide +kernel
theorem cal_X12_best : Cal yX12_best cX12_best 4 (some .int) 3 := ⟨ww_566, ww_429, ⟨by decide, by decide, by decide⟩, by decide⟩
set_option maxHeartbeats 4000000 in
set_option maxRecDepth 100000 in
theorem c_X12_best (l : Launch) (G : Gx) (x1 : Int32) (x2 : Int32) (x3 : Int32) (σ : St) (r0 : Int32) (σ0 : St) (h : f_X12_best x1 x2 x3 σ = some (r0, σ0)) : MI l G yX12_best cX12_best 4 (some .int) 9 [.ref (ga G 6), .int x1, .int x2, .int x3] σ (some (.int r0)) σ0 := by
  refine MI_of RX12 rfl (by decide) [(0, .ref (ga G 6)), (1, .int x1), (2, .int x2), (3, .int x3)] rfl (Nat.le_of_ble_eq_true rfl) ?_
  intro X hXl C hR
  unfold f_X12_best at h
  have J_33 : ∀ (σ : St), f_X12_best_33 σ = some (r0, σ0) → V X G 4 0 0 σ 33 [(0, .ref (ga G 6))] [] := by
    intro σ h
    unfold f_X12_best_33 at h
    refine V_aload_n C (dt_at dt_X12_best_0 19 rfl) 0 rfl rfl ?_
    refine V_iconst C 1 (dt_at dt_X12_best_0 20 rfl) (by decide) ?_
    obtain ⟨r26, σ28, e27, h⟩ := bd2_s h
    refine cv_X12_finds C ww_462 1 e27 (Nat.le_of_ble_eq_true rfl) (Nat.le_of_ble_eq_true rfl) z0 (dt_at dt_X12_best_0 21 rfl) ?_
    obtain ⟨e1_, e2_⟩ := pin2 h
    subst e1_; subst e2_
    exact V_iret C hR (dt_at dt_X12_best_0 22 rfl)
  refine V_iload_n C (dt_at dt_X12_best_0 0 rfl) 1 rfl rfl ?_
  refine V_iconst C 0 (dt_at dt_X12_best_0 1 rfl) (by decide) ?_
  refine V_iconst C 3 (dt_at dt_X12_best_0 2 rfl) (by decide) ?_
  obtain ⟨r1, e2, h⟩ := bd_s h
  refine cv_X12_in C ww_437 x1 0 3 e2 (Nat.le_of_ble_eq_true rfl) (Nat.le_of_ble_eq_true rfl) z0 (dt_at dt_X12_best_0 3 rfl) ?_
  refine V_if_eq C 33 (dt_at dt_X12_best_0 4 rfl) (by decide) (fun q4 => ?_) (fun q4 => ?_)
  · have h := ite_t q4 h
    refine V_sub [0] (lv' := [(0, .ref (ga G 6))]) rfl ?_
    exact J_33 σ h
  · have h := ite_f q4 h
    refine V_aload_n C (dt_at dt_X12_best_0 5 rfl) 0 rfl rfl ?_
    refine V_iload_n C (dt_at dt_X12_best_0 6 rfl) 2 rfl rfl ?_
    obtain ⟨r5, e6, h⟩ := bd_s h
    refine cv_X12_isTroupe C ww_563 x2 e6 (Nat.le_of_ble_eq_true rfl) (Nat.le_of_ble_eq_true rfl) z0 (dt_at dt_X12_best_0 7 rfl) ?_
    refine V_if_eq C 33 (dt_at dt_X12_best_0 8 rfl) (by decide) (fun q8 => ?_) (fun q8 => ?_)
    · have h := ite_t q8 h
      refine V_sub [0] (lv' := [(0, .ref (ga G 6))]) rfl ?_
      exact J_33 σ h
    · have h := ite_f q8 h
      refine V_iload_n C (dt_at dt_X12_best_0 9 rfl) 3 rfl rfl ?_
      refine V_iconst C (-1) (dt_at dt_X12_best_0 10 rfl) (by decide) ?_
      refine V_aload_n C (dt_at dt_X12_best_0 11 rfl) 0 rfl rfl ?_
      refine g_X12_7_6 C (dt_at dt_X12_best_0 12 rfl) ?_
      refine V_iconst C 1 (dt_at dt_X12_best_0 13 rfl) (by decide) ?_
      obtain ⟨h9, h⟩ := chk_s h
      refine al_84 C h9 (dt_at dt_X12_best_0 14 rfl) ?_
      refine V_iconst C 1 (dt_at dt_X12_best_0 15 rfl) (by decide) ?_
      refine V_isub C (dt_at dt_X12_best_0 16 rfl) ?_
      obtain ⟨r10, e11, h⟩ := bd_s h
      refine cv_X12_in C ww_437 x3 (-1) ((rd σ 84 1) - 1) e11 (Nat.le_of_ble_eq_true rfl) (Nat.le_of_ble_eq_true rfl) z0 (dt_at dt_X12_best_0 17 rfl) ?_
      refine V_if_ne C 39 (dt_at dt_X12_best_0 18 rfl) (by decide) (fun q13 => ?_) (fun q13 => ?_)
      · have h := ite_f q13 h
        refine V_aload_n C (dt_at dt_X12_best_0 23 rfl) 0 rfl rfl ?_
        refine V_iload_n C (dt_at dt_X12_best_0 24 rfl) 1 rfl rfl ?_
        refine V_iload_n C (dt_at dt_X12_best_0 25 rfl) 2 rfl rfl ?_
        obtain ⟨r14, σ16, e15, h⟩ := bd2_s h
        refine cv_X12_findBest C ww_564 x1 x2 e15 (Nat.le_of_ble_eq_true rfl) (Nat.le_of_ble_eq_true rfl) z0 (dt_at dt_X12_best_0 26 rfl) ?_
        refine V_if_ne C 54 (dt_at dt_X12_best_0 27 rfl) (by decide) (fun q17 => ?_) (fun q17 => ?_)
        · have h := ite_f q17 h
          refine V_iload_n C (dt_at dt_X12_best_0 32 rfl) 3 rfl rfl ?_
          refine V_if_ge C 67 (dt_at dt_X12_best_0 33 rfl) (by decide) (fun q18 => ?_) (fun q18 => ?_)
          · have h := ite_f q18 h
            refine V_aload_n C (dt_at dt_X12_best_0 39 rfl) 0 rfl rfl ?_
            refine g_X12_72_6 C (dt_at dt_X12_best_1 0 rfl) ?_
            refine V_iload_n C (dt_at dt_X12_best_1 1 rfl) 3 rfl rfl ?_
            obtain ⟨h19, h⟩ := chk_s h
            refine al_104 C h19 (dt_at dt_X12_best_1 2 rfl) ?_
            obtain ⟨e1_, e2_⟩ := pin2 h
            subst e1_; subst e2_
            exact V_iret C hR (dt_at dt_X12_best_1 3 rfl)
          · have h := ite_t q18 h
            refine V_aload_n C (dt_at dt_X12_best_0 34 rfl) 0 rfl rfl ?_
            refine V_iload_n C (dt_at dt_X12_best_0 35 rfl) 1 rfl rfl ?_
            refine V_iload_n C (dt_at dt_X12_best_0 36 rfl) 2 rfl rfl ?_
            obtain ⟨r20, e21, h⟩ := bd_s h
            refine cv_X12_sumOf C ww_565 x1 x2 e21 (Nat.le_of_ble_eq_true rfl) (Nat.le_of_ble_eq_true rfl) z0 (dt_at dt_X12_best_0 37 rfl) ?_
            refine V_goto C 73 (dt_at dt_X12_best_0 38 rfl) (by decide) ?_
            obtain ⟨e1_, e2_⟩ := pin2 h
            subst e1_; subst e2_
            exact V_iret C hR (dt_at dt_X12_best_1 3 rfl)
        · have h := ite_t q17 h
          refine V_aload_n C (dt_at dt_X12_best_0 28 rfl) 0 rfl rfl ?_
          refine V_iconst C 2 (dt_at dt_X12_best_0 29 rfl) (by decide) ?_
          obtain ⟨r23, σ25, e24, h⟩ := bd2_s h
          refine cv_X12_finds C ww_462 2 e24 (Nat.le_of_ble_eq_true rfl) (Nat.le_of_ble_eq_true rfl) z0 (dt_at dt_X12_best_0 30 rfl) ?_
          obtain ⟨e1_, e2_⟩ := pin2 h
          subst e1_; subst e2_
          exact V_iret C hR (dt_at dt_X12_best_0 31 rfl)
      · have h := ite_t q13 h
        refine V_sub [0] (lv' := [(0, .ref (ga G 6))]) rfl ?_
        exact J_33 σ h
theorem cv_X12_best (C : Ck X G cc own nL d) {idx : Nat} (hlk : Cond.methodLink own idx yX12_best ∈ gtb) (x1 : Int32) (x2 : Int32) (x3 : Int32) {r0 : Int32} {σ0 : St} (e : f_X12_best x1 x2 x3 σ = some (r0, σ0)) (hdd : 10 ≤ d) (hroom : (rest.map fun v => v.category).sum ≤ 8) (hcs : cells ≤ (xR X).cells ∧ slots ≤ (xR X).slots) (hd : decode cc pc = .ok (.invokevirtual idx, 3)) (k : V X G nL cells slots σ0 (pc + 3) lv (.int r0 :: rest)) : V X G nL cells slots σ pc lv (.int x3 :: .int x2 :: .int x1 :: .ref (ga G 6) :: rest) := V_callV C (As := [.int x1, .int x2, .int x3]) (c_X12_best X.2.1 G x1 x2 x3 σ r0 σ0 e) cal_X12_best ww_567 ww_568 hlk rfl hdd (lt110 rfl) rfl rfl rfl hroom hcs hd k
theorem dt_X12_bits_0 : dtab cX12_bits [(0, .iconst 0, 1), (1, .istore_n 1, 1), (2, .iconst 0, 1), (3, .istore_n 2, 1), (4, .iload_n 2, 1), (5, .bipush 10, 2), (7, .if_icmp .ge 17, 3), (10, .iload_n 1, 1), (11, .iload_n 0, 1), (12, .iload_n 2, 1), (13, .ishr, 1), (14, .iconst 1, 1), (15, .iand, 1), (16, .iadd, 1), (17, .istore_n 1, 1), (18, .iinc 2 1, 3), (21, .goto (-17), 3), (24, .iload_n 1, 1), (25, .ireturn, 1)] = true := by decide +kernel
theorem cal_X12_bits : Cal yX12_bits cX12_bits 3 (some .int) 1 := ⟨ww_569, ww_429, ⟨by decide, by decide, by decide⟩, by decide⟩
set_option maxHeartbeats 4000000 in
set_option maxRecDepth 100000 in
theorem c_X12_bits (l : Launch) (G : Gx) (x0 : Int32) (σ : St) (r0 : Int32) (h : f_X12_bits x0 = some r0) : MI l G yX12_bits cX12_bits 3 (some .int) 1 [.int x0] σ (some (.int r0)) σ := by
  refine MI_of RX12 rfl (by decide) [(0, .int x0)] rfl (Nat.le_of_ble_eq_true rfl) ?_
  intro X hXl C hR
  unfold f_X12_bits at h
  have J_4 : ∀ (x1 : Int32) (x2 : Int32), f_X12_bits_4 x0 x1 x2 = some r0 → V X G 3 0 0 σ 4 [(0, .int x0), (1, .int x1), (2, .int x2)] [] := by
    intro x1 x2 h
    refine it_v (P := fun z : Int32 × Int32 => V X G 3 0 0 σ 4 [(0, .int x0), (1, .int z.1), (2, .int z.2)] []) ?_ (x1, x2) h
    clear h
    intro z w_4 h ih_4 ex_4
    obtain ⟨x1, x2⟩ := z
    have h : b_X12_bits_4 x0 x1 x2 = some w_4 := h
    show V X G 3 0 0 σ 4 [(0, .int x0), (1, .int x1), (2, .int x2)] []
    unfold b_X12_bits_4 at h
    refine V_iload_n C (dt_at dt_X12_bits_0 4 rfl) 2 rfl rfl ?_
    refine V_bipush C 10 (dt_at dt_X12_bits_0 5 rfl) (by decide) ?_
    refine V_icmp_ge C 24 (dt_at dt_X12_bits_0 6 rfl) (by decide) (fun q1 => ?_) (fun q1 => ?_)
    · have h := ite_f q1 h
      refine V_iload_n C (dt_at dt_X12_bits_0 17 rfl) 1 rfl rfl ?_
      have e_4 := ex_4 _ (Option.some.inj h).symm
      subst e_4
      exact V_iret C hR (dt_at dt_X12_bits_0 18 rfl)
    · have h := ite_t q1 h
      refine V_iload_n C (dt_at dt_X12_bits_0 7 rfl) 1 rfl rfl ?_
      refine V_iload_n C (dt_at dt_X12_bits_0 8 rfl) 0 rfl rfl ?_
      refine V_iload_n C (dt_at dt_X12_bits_0 9 rfl) 2 rfl rfl ?_
      refine V_ishr C (dt_at dt_X12_bits_0 10 rfl) ?_
      refine V_iconst C 1 (dt_at dt_X12_bits_0 11 rfl) (by decide) ?_
      refine V_iand C (dt_at dt_X12_bits_0 12 rfl) ?_
      refine V_iadd C (dt_at dt_X12_bits_0 13 rfl) ?_
      refine V_istore_n C [1, 0, 2] (lv' := [(0, .int x0), (1, .int (x1 + ((x0 >>> (x2 &&& 31)) &&& 1))), (2, .int x2)]) (dt_at dt_X12_bits_0 14 rfl) rfl (by decide) rfl ?_
      refine V_iinc C (x2 + 1) 2 [1, 2, 0] (lv' := [(0, .int x0), (1, .int (x1 + ((x0 >>> (x2 &&& 31)) &&& 1))), (2, .int (x2 + 1))]) (dt_at dt_X12_bits_0 15 rfl) rfl (by rfl) (by decide) rfl ?_
      refine V_goto C 4 (dt_at dt_X12_bits_0 16 rfl) (by decide) ?_
      exact ih_4 ((x1 + ((x0 >>> (x2 &&& 31)) &&& 1)), (x2 + 1)) (Option.some.inj h).symm
  refine V_iconst C 0 (dt_at dt_X12_bits_0 0 rfl) (by decide) ?_
  refine V_istore_n C [1, 0] (lv' := [(0, .int x0), (1, .int 0)]) (dt_at dt_X12_bits_0 1 rfl) rfl (by decide) rfl ?_
  refine V_iconst C 0 (dt_at dt_X12_bits_0 2 rfl) (by decide) ?_
  refine V_istore_n C [1, 2, 0] (lv' := [(0, .int x0), (1, .int 0), (2, .int 0)]) (dt_at dt_X12_bits_0 3 rfl) rfl (by decide) rfl ?_
  exact J_4 0 0 h
theorem cv_X12_bits (C : Ck X G cc own nL d) {idx : Nat} (hlk : Cond.methodLink own idx yX12_bits ∈ gtb) (x0 : Int32) {r0 : Int32} (e : f_X12_bits x0 = some r0) (hdd : 2 ≤ d) (hroom : (rest.map fun v => v.category).sum ≤ 8) (hcs : cells ≤ (xR X).cells ∧ slots ≤ (xR X).slots) (hd : decode cc pc = .ok (.invokestatic idx, 3)) (k : V X G nL cells slots σ (pc + 3) lv (.int r0 :: rest)) : V X G nL cells slots σ pc lv (.int x0 :: rest) := V_callS C (As := [.int x0]) (c_X12_bits X.2.1 G x0 σ r0 e) cal_X12_bits ww_570 hlk rfl hdd rfl hroom hcs hd k
theorem dt_X12_isSheet_0 : dtab cX12_isSheet [(0, .iload_n 0, 1), (1, .iconst 0, 1), (2, .iconst 3, 1), (3, .invokestatic 91, 3), (6, .ireturn, 1)] = true := by decide +kernel
theorem cal_X12_isSheet : Cal yX12_isSheet cX12_isSheet 1 (some .boolean) 1 := ⟨ww_571, ww_429, ⟨by decide, by decide, by decide⟩, by decide⟩
set_option maxHeartbeats 4000000 in
set_option maxRecDepth 100000 in
theorem c_X12_isSheet (l : Launch) (G : Gx) (x0 : Int32) (σ : St) (r0 : Int32) (h : f_X12_isSheet x0 = some r0) : MI l G yX12_isSheet cX12_isSheet 1 (some .boolean) 2 [.int x0] σ (some (.int r0)) σ := by
  refine MI_of RX12 rfl (by decide) [(0, .int x0)] rfl (Nat.le_of_ble_eq_true rfl) ?_
  intro X hXl C hR
  unfold f_X12_isSheet at h
  refine V_iload_n C (dt_at dt_X12_isSheet_0 0 rfl) 0 rfl rfl ?_
  refine V_iconst C 0 (dt_at dt_X12_isSheet_0 1 rfl) (by decide) ?_
  refine V_iconst C 3 (dt_at dt_X12_isSheet_0 2 rfl) (by decide) ?_
  obtain ⟨r1, e2, h⟩ := bd_s h
  refine cv_X12_in C ww_437 x0 0 3 e2 (Nat.le_of_ble_eq_true rfl) (Nat.le_of_ble_eq_true rfl) z0 (dt_at dt_X12_isSheet_0 3 rfl) ?_
  obtain ⟨h4, h⟩ := chk_s h
  have e1_ := Option.some.inj h
  subst e1_
  exact V_zret C (isB_n h4) hR (dt_at dt_X12_isSheet_0 4 rfl)
theorem cv_X12_isSheet (C : Ck X G cc own nL d) {idx : Nat} (hlk : Cond.methodLink own idx yX12_isSheet ∈ gtb) (x0 : Int32) {r0 : Int32} (e : f_X12_isSheet x0 = some r0) (hdd : 3 ≤ d) (hroom : (rest.map fun v => v.category).sum ≤ 8) (hcs : cells ≤ (xR X).cells ∧ slots ≤ (xR X).slots) (hd : decode cc pc = .ok (.invokestatic idx, 3)) (k : V X G nL cells slots σ (pc + 3) lv (.int r0 :: rest)) : V X G nL cells slots σ pc lv (.int x0 :: rest) := V_callS C (As := [.int x0]) (c_X12_isSheet X.2.1 G x0 σ r0 e) cal_X12_isSheet ww_572 hlk rfl hdd rfl hroom hcs hd k
theorem dt_X12_block_0 : dtab cX12_block [(0, .iload_n 1, 1), (1, .invokestatic 240, 3), (4, .ifCond .ne 9, 3), (7, .aload_n 0, 1), (8, .iconst 1, 1), (9, .invokevirtual 95, 3), (12, .ireturn, 1), (13, .aload_n 0, 1), (14, .getfield 78, 3), (17, .iload_n 1, 1), (18, .iaload, 1), (19, .ifCond .ne 9, 3), (22, .aload_n 0, 1), (23, .iconst 2, 1), (24, .invokevirtual 95, 3), (27, .ireturn, 1), (28, .aload_n 0, 1), (29, .getfield 81, 3), (32, .iload_n 1, 1), (33, .iaload, 1), (34, .aload_n 0, 1), (35, .getfield 7, 3), (38, .iconst 1, 1), (39, .iaload, 1), (40, .if_icmp .ge 12, 3), (43, .aload_n 0, 1), (44, .getfield 81, 3), (47, .iload_n 1, 1), (48, .iaload, 1), (49, .goto 9, 3), (52, .aload_n 0, 1), (53, .getfield 7, 3), (56, .iconst 1, 1), (57, .iaload, 1), (58, .istore_n 2, 1), (59, .iconst 0, 1), (60, .istore_n 3, 1), (61, .iload_n 3, 1), (62, .iload_n 2, 1), (63, .if_icmp .ge 41, 3)] = true := by decide +kernel
theorem dt_X12_block_1 : dtab cX12_block [(66, .aload_n 0, 1), (67, .getfield 84, 3), (70, .bipush 24, 2), (72, .iload_n 1, 1), (73, .imul, 1), (74, .iload_n 3, 1), (75, .iadd, 1), (76, .iaload, 1), (77, .iconst (-1), 1), (78, .aload_n 0, 1), (79, .getfield 7, 3), (82, .iconst 3, 1), (83, .iaload, 1), (84, .iconst 1, 1), (85, .isub, 1), (86, .invokestatic 91, 3), (89, .ifCond .ne 9, 3), (92, .aload_n 0, 1), (93, .iconst 5, 1), (94, .invokevirtual 95, 3), (97, .ireturn, 1), (98, .iinc 3 1, 3), (101, .goto (-40), 3), (104, .iconst 0, 1), (105, .istore_n 3, 1), (106, .iload_n 3, 1), (107, .iload_n 2, 1), (108, .if_icmp .ge 33, 3), (111, .aload_n 0, 1), (112, .getfield 7, 3), (115, .bipush 10, 2), (117, .iconst 5, 1), (118, .iload_n 3, 1), (119, .imul, 1), (120, .iadd, 1), (121, .iconst 4, 1), (122, .iadd, 1), (123, .aload_n 0, 1), (124, .getfield 84, 3), (127, .bipush 24, 2)] = true := by decide +kernel
theorem dt_X12_block_2 : dtab cX12_block [(129, .iload_n 1, 1), (130, .imul, 1), (131, .iload_n 3, 1), (132, .iadd, 1), (133, .iaload, 1), (134, .iastore, 1), (135, .iinc 3 1, 3), (138, .goto (-32), 3), (141, .iload_n 2, 1), (142, .ireturn, 1)] = true := by decide +kernel
theorem cal_X12_block : Cal yX12_block cX12_block 4 (some .int) 1 := ⟨ww_577, ww_429, ⟨by decide, by decide, by decide⟩, by decide⟩
set_option maxHeartbeats 4000000 in
set_option maxRecDepth 100000 in
theorem c_X12_block (l : Launch) (G : Gx) (x1 : Int32) (σ : St) (r0 : Int32) (σ0 : St) (h : f_X12_block x1 σ = some (r0, σ0)) : MI l G yX12_block cX12_block 4 (some .int) 3 [.ref (ga G 6), .int x1] σ (some (.int r0)) σ0 := by
  refine MI_of RX12 rfl (by decide) [(0, .ref (ga G 6)), (1, .int x1)] rfl (Nat.le_of_ble_eq_true rfl) ?_
  intro X hXl C hR
  unfold f_X12_block at h
  have J_106 : ∀ (x2 : Int32) (x3 : Int32) (σ : St), f_X12_block_106 x1 x2 x3 σ = some (r0, σ0) → V X G 4 0 0 σ 106 [(0, .ref (ga G 6)), (1, .int x1), (2, .int x2), (3, .int x3)] [] := by
    intro x2 x3 σ h
    refine it_v (P := fun z : Int32 × St => V X G 4 0 0 z.2 106 [(0, .ref (ga G 6)), (1, .int x1), (2, .int x2), (3, .int z.1)] []) ?_ (x3, σ) h
    clear h
    intro z w_106 h ih_106 ex_106
    obtain ⟨x3, σ⟩ := z
    have h : b_X12_block_106 x1 x2 x3 σ = some w_106 := h
    show V X G 4 0 0 σ 106 [(0, .ref (ga G 6)), (1, .int x1), (2, .int x2), (3, .int x3)] []
    unfold b_X12_block_106 at h
    refine V_iload_n C (dt_at dt_X12_block_1 25 rfl) 3 rfl rfl ?_
    refine V_iload_n C (dt_at dt_X12_block_1 26 rfl) 2 rfl rfl ?_
    refine V_icmp_ge C 141 (dt_at dt_X12_block_1 27 rfl) (by decide) (fun q27 => ?_) (fun q27 => ?_)
    · have h := ite_f q27 h
      refine V_iload_n C (dt_at dt_X12_block_2 8 rfl) 2 rfl rfl ?_
      have e_106 := ex_106 _ (Option.some.inj h).symm
      obtain ⟨e1_, e2_⟩ := Prod.mk.inj e_106
      subst e1_; subst e2_
      exact V_iret C hR (dt_at dt_X12_block_2 9 rfl)
    · have h := ite_t q27 h
      refine V_aload_n C (dt_at dt_X12_block_1 28 rfl) 0 rfl rfl ?_
      refine g_X12_7_6 C (dt_at dt_X12_block_1 29 rfl) ?_
      refine V_bipush C 10 (dt_at dt_X12_block_1 30 rfl) (by decide) ?_
      refine V_iconst C 5 (dt_at dt_X12_block_1 31 rfl) (by decide) ?_
      refine V_iload_n C (dt_at dt_X12_block_1 32 rfl) 3 rfl rfl ?_
      refine V_imul C (dt_at dt_X12_block_1 33 rfl) ?_
      refine V_iadd C (dt_at dt_X12_block_1 34 rfl) ?_
      refine V_iconst C 4 (dt_at dt_X12_block_1 35 rfl) (by decide) ?_
      refine V_iadd C (dt_at dt_X12_block_1 36 rfl) ?_
      refine V_aload_n C (dt_at dt_X12_block_1 37 rfl) 0 rfl rfl ?_
      refine g_X12_84_6 C (dt_at dt_X12_block_1 38 rfl) ?_
      refine V_bipush C 24 (dt_at dt_X12_block_1 39 rfl) (by decide) ?_
      refine V_iload_n C (dt_at dt_X12_block_2 0 rfl) 1 rfl rfl ?_
      refine V_imul C (dt_at dt_X12_block_2 1 rfl) ?_
      refine V_iload_n C (dt_at dt_X12_block_2 2 rfl) 3 rfl rfl ?_
      refine V_iadd C (dt_at dt_X12_block_2 3 rfl) ?_
      obtain ⟨h28, h⟩ := chk_s h
      refine al_108 C h28 (dt_at dt_X12_block_2 4 rfl) ?_
      obtain ⟨h30, h⟩ := chk_s h
      obtain ⟨σ29, eσ29, h⟩ := nm_s h
      refine V_st eσ29 ?_ (fun k => as_84 C h30 (dt_at dt_X12_block_2 5 rfl) k)
      refine V_iinc C (x3 + 1) 3 [1, 2, 3, 0] (lv' := [(0, .ref (ga G 6)), (1, .int x1), (2, .int x2), (3, .int (x3 + 1))]) (dt_at dt_X12_block_2 6 rfl) rfl (by rfl) (by decide) rfl ?_
      refine V_goto C 106 (dt_at dt_X12_block_2 7 rfl) (by decide) ?_
      exact ih_106 ((x3 + 1), σ29) (Option.some.inj h).symm
  have J_104 : ∀ (x2 : Int32) (σ : St), f_X12_block_104 x1 x2 σ = some (r0, σ0) → V X G 4 0 0 σ 104 [(0, .ref (ga G 6)), (1, .int x1), (2, .int x2)] [] := by
    intro x2 σ h
    unfold f_X12_block_104 at h
    refine V_iconst C 0 (dt_at dt_X12_block_1 23 rfl) (by decide) ?_
    refine V_istore_n C [1, 2, 3, 0] (lv' := [(0, .ref (ga G 6)), (1, .int x1), (2, .int x2), (3, .int 0)]) (dt_at dt_X12_block_1 24 rfl) rfl (by decide) rfl ?_
    exact J_106 x2 0 σ h
  have J_92 : ∀ (σ : St), f_X12_block_92 σ = some (r0, σ0) → V X G 4 0 0 σ 92 [(0, .ref (ga G 6))] [] := by
    intro σ h
    unfold f_X12_block_92 at h
    refine V_aload_n C (dt_at dt_X12_block_1 17 rfl) 0 rfl rfl ?_
    refine V_iconst C 5 (dt_at dt_X12_block_1 18 rfl) (by decide) ?_
    obtain ⟨r24, σ26, e25, h⟩ := bd2_s h
    refine cv_X12_finds C ww_462 5 e25 (Nat.le_of_ble_eq_true rfl) (Nat.le_of_ble_eq_true rfl) z0 (dt_at dt_X12_block_1 19 rfl) ?_
    obtain ⟨e1_, e2_⟩ := pin2 h
    subst e1_; subst e2_
    exact V_iret C hR (dt_at dt_X12_block_1 20 rfl)
  have J_61 : ∀ (x2 : Int32) (x3 : Int32) (σ : St), f_X12_block_61 x1 x2 x3 σ = some (r0, σ0) → V X G 4 0 0 σ 61 [(0, .ref (ga G 6)), (1, .int x1), (2, .int x2), (3, .int x3)] [] := by
    intro x2 x3 σ h
    refine it_v (P := fun z : Int32 => V X G 4 0 0 σ 61 [(0, .ref (ga G 6)), (1, .int x1), (2, .int x2), (3, .int z)] []) ?_ x3 h
    clear h
    intro z w_61 h ih_61 ex_61
    revert h; revert z; intro x3 h
    have h : b_X12_block_61 x1 x2 x3 σ = some w_61 := h
    show V X G 4 0 0 σ 61 [(0, .ref (ga G 6)), (1, .int x1), (2, .int x2), (3, .int x3)] []
    unfold b_X12_block_61 at h
    refine V_iload_n C (dt_at dt_X12_block_0 37 rfl) 3 rfl rfl ?_
    refine V_iload_n C (dt_at dt_X12_block_0 38 rfl) 2 rfl rfl ?_
    refine V_icmp_ge C 104 (dt_at dt_X12_block_0 39 rfl) (by decide) (fun q15 => ?_) (fun q15 => ?_)
    · have h := ite_f q15 h
      refine V_sub [0, 1, 2] (lv' := [(0, .ref (ga G 6)), (1, .int x1), (2, .int x2)]) rfl ?_
      obtain ⟨t16, h, e_61⟩ := map_s h
      have e_61 := ex_61 _ e_61
      rw [e_61] at h
      exact J_104 x2 σ h
    · have h := ite_t q15 h
      refine V_aload_n C (dt_at dt_X12_block_1 0 rfl) 0 rfl rfl ?_
      refine g_X12_84_6 C (dt_at dt_X12_block_1 1 rfl) ?_
      refine V_bipush C 24 (dt_at dt_X12_block_1 2 rfl) (by decide) ?_
      refine V_iload_n C (dt_at dt_X12_block_1 3 rfl) 1 rfl rfl ?_
      refine V_imul C (dt_at dt_X12_block_1 4 rfl) ?_
      refine V_iload_n C (dt_at dt_X12_block_1 5 rfl) 3 rfl rfl ?_
      refine V_iadd C (dt_at dt_X12_block_1 6 rfl) ?_
      obtain ⟨h17, h⟩ := chk_s h
      refine al_108 C h17 (dt_at dt_X12_block_1 7 rfl) ?_
      refine V_iconst C (-1) (dt_at dt_X12_block_1 8 rfl) (by decide) ?_
      refine V_aload_n C (dt_at dt_X12_block_1 9 rfl) 0 rfl rfl ?_
      refine g_X12_7_6 C (dt_at dt_X12_block_1 10 rfl) ?_
      refine V_iconst C 3 (dt_at dt_X12_block_1 11 rfl) (by decide) ?_
      obtain ⟨h18, h⟩ := chk_s h
      refine al_84 C h18 (dt_at dt_X12_block_1 12 rfl) ?_
      refine V_iconst C 1 (dt_at dt_X12_block_1 13 rfl) (by decide) ?_
      refine V_isub C (dt_at dt_X12_block_1 14 rfl) ?_
      obtain ⟨r19, e20, h⟩ := bd_s h
      refine cv_X12_in C ww_437 (rd σ 108 ((24 * x1) + x3)) (-1) ((rd σ 84 3) - 1) e20 (Nat.le_of_ble_eq_true rfl) (Nat.le_of_ble_eq_true rfl) z0 (dt_at dt_X12_block_1 15 rfl) ?_
      refine V_if_ne C 98 (dt_at dt_X12_block_1 16 rfl) (by decide) (fun q22 => ?_) (fun q22 => ?_)
      · have h := ite_f q22 h
        refine V_iinc C (x3 + 1) 3 [1, 2, 3, 0] (lv' := [(0, .ref (ga G 6)), (1, .int x1), (2, .int x2), (3, .int (x3 + 1))]) (dt_at dt_X12_block_1 21 rfl) rfl (by rfl) (by decide) rfl ?_
        refine V_goto C 61 (dt_at dt_X12_block_1 22 rfl) (by decide) ?_
        exact ih_61 (x3 + 1) (Option.some.inj h).symm
      · have h := ite_t q22 h
        refine V_sub [0] (lv' := [(0, .ref (ga G 6))]) rfl ?_
        obtain ⟨t23, h, e_61⟩ := map_s h
        have e_61 := ex_61 _ e_61
        rw [e_61] at h
        exact J_92 σ h
  have J_58 : ∀ (s0 : Int32) (σ : St), f_X12_block_58 x1 s0 σ = some (r0, σ0) → V X G 4 0 0 σ 58 [(0, .ref (ga G 6)), (1, .int x1)] [.int s0] := by
    intro s0 σ h
    unfold f_X12_block_58 at h
    refine V_istore_n C [1, 2, 0] (lv' := [(0, .ref (ga G 6)), (1, .int x1), (2, .int s0)]) (dt_at dt_X12_block_0 34 rfl) rfl (by decide) rfl ?_
    refine V_iconst C 0 (dt_at dt_X12_block_0 35 rfl) (by decide) ?_
    refine V_istore_n C [1, 2, 3, 0] (lv' := [(0, .ref (ga G 6)), (1, .int x1), (2, .int s0), (3, .int 0)]) (dt_at dt_X12_block_0 36 rfl) rfl (by decide) rfl ?_
    exact J_61 s0 0 σ h
  refine V_iload_n C (dt_at dt_X12_block_0 0 rfl) 1 rfl rfl ?_
  obtain ⟨r1, e2, h⟩ := bd_s h
  refine cv_X12_isSheet C ww_573 x1 e2 (Nat.le_of_ble_eq_true rfl) (Nat.le_of_ble_eq_true rfl) z0 (dt_at dt_X12_block_0 1 rfl) ?_
  refine V_if_ne C 13 (dt_at dt_X12_block_0 2 rfl) (by decide) (fun q4 => ?_) (fun q4 => ?_)
  · have h := ite_f q4 h
    refine V_aload_n C (dt_at dt_X12_block_0 7 rfl) 0 rfl rfl ?_
    refine g_X12_78_6 C (dt_at dt_X12_block_0 8 rfl) ?_
    refine V_iload_n C (dt_at dt_X12_block_0 9 rfl) 1 rfl rfl ?_
    obtain ⟨h5, h⟩ := chk_s h
    refine al_106 C h5 (dt_at dt_X12_block_0 10 rfl) ?_
    refine V_if_ne C 28 (dt_at dt_X12_block_0 11 rfl) (by decide) (fun q6 => ?_) (fun q6 => ?_)
    · have h := ite_f q6 h
      refine V_aload_n C (dt_at dt_X12_block_0 16 rfl) 0 rfl rfl ?_
      refine g_X12_81_6 C (dt_at dt_X12_block_0 17 rfl) ?_
      refine V_iload_n C (dt_at dt_X12_block_0 18 rfl) 1 rfl rfl ?_
      refine al_107 C h5 (dt_at dt_X12_block_0 19 rfl) ?_
      refine V_aload_n C (dt_at dt_X12_block_0 20 rfl) 0 rfl rfl ?_
      refine g_X12_7_6 C (dt_at dt_X12_block_0 21 rfl) ?_
      refine V_iconst C 1 (dt_at dt_X12_block_0 22 rfl) (by decide) ?_
      obtain ⟨h7, h⟩ := chk_s h
      refine al_84 C h7 (dt_at dt_X12_block_0 23 rfl) ?_
      refine V_icmp_ge C 52 (dt_at dt_X12_block_0 24 rfl) (by decide) (fun q8 => ?_) (fun q8 => ?_)
      · have h := ite_f q8 h
        refine V_aload_n C (dt_at dt_X12_block_0 30 rfl) 0 rfl rfl ?_
        refine g_X12_7_6 C (dt_at dt_X12_block_0 31 rfl) ?_
        refine V_iconst C 1 (dt_at dt_X12_block_0 32 rfl) (by decide) ?_
        refine al_84 C h7 (dt_at dt_X12_block_0 33 rfl) ?_
        exact J_58 (rd σ 84 1) σ h
      · have h := ite_t q8 h
        refine V_aload_n C (dt_at dt_X12_block_0 25 rfl) 0 rfl rfl ?_
        refine g_X12_81_6 C (dt_at dt_X12_block_0 26 rfl) ?_
        refine V_iload_n C (dt_at dt_X12_block_0 27 rfl) 1 rfl rfl ?_
        refine al_107 C h5 (dt_at dt_X12_block_0 28 rfl) ?_
        refine V_goto C 58 (dt_at dt_X12_block_0 29 rfl) (by decide) ?_
        exact J_58 (rd σ 107 x1) σ h
    · have h := ite_t q6 h
      refine V_aload_n C (dt_at dt_X12_block_0 12 rfl) 0 rfl rfl ?_
      refine V_iconst C 2 (dt_at dt_X12_block_0 13 rfl) (by decide) ?_
      obtain ⟨r9, σ11, e10, h⟩ := bd2_s h
      refine cv_X12_finds C ww_462 2 e10 (Nat.le_of_ble_eq_true rfl) (Nat.le_of_ble_eq_true rfl) z0 (dt_at dt_X12_block_0 14 rfl) ?_
      obtain ⟨e1_, e2_⟩ := pin2 h
      subst e1_; subst e2_
      exact V_iret C hR (dt_at dt_X12_block_0 15 rfl)
  · have h := ite_t q4 h
    refine V_aload_n C (dt_at dt_X12_block_0 3 rfl) 0 rfl rfl ?_
    refine V_iconst C 1 (dt_at dt_X12_block_0 4 rfl) (by decide) ?_
    obtain ⟨r12, σ14, e13, h⟩ := bd2_s h
    refine cv_X12_finds C ww_462 1 e13 (Nat.le_of_ble_eq_true rfl) (Nat.le_of_ble_eq_true rfl) z0 (dt_at dt_X12_block_0 5 rfl) ?_
    obtain ⟨e1_, e2_⟩ := pin2 h
    subst e1_; subst e2_
    exact V_iret C hR (dt_at dt_X12_block_0 6 rfl)
theorem cv_X12_block (C : Ck X G cc own nL d) {idx : Nat} (hlk : Cond.methodLink own idx yX12_block ∈ gtb) (x1 : Int32) {r0 : Int32} {σ0 : St} (e : f_X12_block x1 σ = some (r0, σ0)) (hdd : 4 ≤ d) (hroom : (rest.map fun v => v.category).sum ≤ 8) (hcs : cells ≤ (xR X).cells ∧ slots ≤ (xR X).slots) (hd : decode cc pc = .ok (.invokevirtual idx, 3)) (k : V X G nL cells slots σ0 (pc + 3) lv (.int r0 :: rest)) : V X G nL cells slots σ pc lv (.int x1 :: .ref (ga G 6) :: rest) := V_callV C (As := [.int x1]) (c_X12_block X.2.1 G x1 σ r0 σ0 e) cal_X12_block ww_578 ww_579 hlk rfl hdd (lt110 rfl) rfl rfl rfl hroom hcs hd k
theorem dt_X12_runs_0 : dtab cX12_runs [(0, .aload_n 0, 1), (1, .getfield 290, 3), (4, .bipush 40, 2), (6, .if_icmp .ge 23, 3), (9, .aload_n 0, 1), (10, .getfield 75, 3), (13, .aload_n 0, 1), (14, .getfield 290, 3), (17, .iload_n 1, 1), (18, .iastore, 1), (19, .aload_n 0, 1), (20, .dup, 1), (21, .getfield 290, 3), (24, .iconst 1, 1), (25, .iadd, 1), (26, .putfield 290, 3), (29, .return_, 1)] = true := by decide +kernel
theorem cal_X12_runs : Cal yX12_runs cX12_runs 2 none 1 := ⟨ww_582, ww_429, ⟨by decide, by decide, by decide⟩, by decide⟩
set_option maxHeartbeats 4000000 in
set_option maxRecDepth 100000 in
theorem c_X12_runs (l : Launch) (G : Gx) (x1 : Int32) (σ : St) (σ0 : St) (h : f_X12_runs x1 σ = some σ0) : MI l G yX12_runs cX12_runs 2 none 1 [.ref (ga G 6), .int x1] σ none σ0 := by
  refine MI_of RX12 rfl (by decide) [(0, .ref (ga G 6)), (1, .int x1)] rfl (Nat.le_of_ble_eq_true rfl) ?_
  intro X hXl C hR
  unfold f_X12_runs at h
  refine V_aload_n C (dt_at dt_X12_runs_0 0 rfl) 0 rfl rfl ?_
  refine g_X12_290_6 C (dt_at dt_X12_runs_0 1 rfl) ?_
  refine V_bipush C 40 (dt_at dt_X12_runs_0 2 rfl) (by decide) ?_
  refine V_icmp_ge C 29 (dt_at dt_X12_runs_0 3 rfl) (by decide) (fun q1 => ?_) (fun q1 => ?_)
  · have h := ite_f q1 h
    have e1_ := Option.some.inj h
    subst e1_
    exact V_vret C hR (dt_at dt_X12_runs_0 16 rfl)
  · have h := ite_t q1 h
    refine V_aload_n C (dt_at dt_X12_runs_0 4 rfl) 0 rfl rfl ?_
    refine g_X12_75_6 C (dt_at dt_X12_runs_0 5 rfl) ?_
    refine V_aload_n C (dt_at dt_X12_runs_0 6 rfl) 0 rfl rfl ?_
    refine g_X12_290_6 C (dt_at dt_X12_runs_0 7 rfl) ?_
    refine V_iload_n C (dt_at dt_X12_runs_0 8 rfl) 1 rfl rfl ?_
    obtain ⟨h3, h⟩ := chk_s h
    obtain ⟨σ2, eσ2, h⟩ := nm_s h
    refine V_st eσ2 ?_ (fun k => as_105 C h3 (dt_at dt_X12_runs_0 9 rfl) k)
    refine V_aload_n C (dt_at dt_X12_runs_0 10 rfl) 0 rfl rfl ?_
    refine V_dup C (dt_at dt_X12_runs_0 11 rfl) rfl ?_
    refine g_X12_290_6 C (dt_at dt_X12_runs_0 12 rfl) ?_
    refine V_iconst C 1 (dt_at dt_X12_runs_0 13 rfl) (by decide) ?_
    refine V_iadd C (dt_at dt_X12_runs_0 14 rfl) ?_
    obtain ⟨σ4, eσ4, h⟩ := nm_s h
    refine V_st eσ4 ?_ (fun k => p_X12_290_6 C (dt_at dt_X12_runs_0 15 rfl) k)
    have e1_ := Option.some.inj h
    subst e1_
    exact V_vret C hR (dt_at dt_X12_runs_0 16 rfl)
theorem cv_X12_runs (C : Ck X G cc own nL d) {idx : Nat} (hlk : Cond.methodLink own idx yX12_runs ∈ gtb) (x1 : Int32) {σ0 : St} (e : f_X12_runs x1 σ = some σ0) (hdd : 2 ≤ d) (hroom : (rest.map fun v => v.category).sum ≤ 8) (hcs : cells ≤ (xR X).cells ∧ slots ≤ (xR X).slots) (hd : decode cc pc = .ok (.invokevirtual idx, 3)) (k : V X G nL cells slots σ0 (pc + 3) lv (rest)) : V X G nL cells slots σ pc lv (.int x1 :: .ref (ga G 6) :: rest) := V_callV C (As := [.int x1]) (c_X12_runs X.2.1 G x1 σ σ0 e) cal_X12_runs ww_583 ww_584 hlk rfl hdd (lt110 rfl) rfl rfl rfl hroom hcs hd k
theorem dt_X12_dies_0 : dtab cX12_dies [(0, .aload_n 0, 1), (1, .getfield 293, 3), (4, .iconst 3, 1), (5, .if_icmp .ne 24, 3), (8, .aload_n 0, 1), (9, .bipush 40, 2), (11, .invokevirtual 296, 3), (14, .aload_n 0, 1), (15, .bipush 12, 2), (17, .invokevirtual 296, 3), (20, .iload_n 1, 1), (21, .aload_n 0, 1), (22, .getfield 302, 3), (25, .isub, 1), (26, .iconst 3, 1), (27, .imul, 1), (28, .ireturn, 1), (29, .aload_n 0, 1), (30, .bipush 12, 2), (32, .invokevirtual 296, 3), (35, .iload_n 1, 1), (36, .aload_n 0, 1), (37, .getfield 302, 3), (40, .isub, 1), (41, .ireturn, 1)] = true := by decide +kernel
theorem cal_X12_dies : Cal yX12_dies cX12_dies 2 (some .int) 1 := ⟨ww_588, ww_429, ⟨by decide, by decide, by decide⟩, by decide⟩
set_option maxHeartbeats 4000000 in
set_option maxRecDepth 100000 in
theorem c_X12_dies (l : Launch) (G : Gx) (x1 : Int32) (σ : St) (r0 : Int32) (σ0 : St) (h : f_X12_dies x1 σ = some (r0, σ0)) : MI l G yX12_dies cX12_dies 2 (some .int) 2 [.ref (ga G 6), .int x1] σ (some (.int r0)) σ0 := by
  refine MI_of RX12 rfl (by decide) [(0, .ref (ga G 6)), (1, .int x1)] rfl (Nat.le_of_ble_eq_true rfl) ?_
  intro X hXl C hR
  unfold f_X12_dies at h
  refine V_aload_n C (dt_at dt_X12_dies_0 0 rfl) 0 rfl rfl ?_
  refine g_X12_293_6 C (dt_at dt_X12_dies_0 1 rfl) ?_
  refine V_iconst C 3 (dt_at dt_X12_dies_0 2 rfl) (by decide) ?_
  refine V_icmp_ne C 29 (dt_at dt_X12_dies_0 3 rfl) (by decide) (fun q1 => ?_) (fun q1 => ?_)
  · have h := ite_f q1 h
    refine V_aload_n C (dt_at dt_X12_dies_0 17 rfl) 0 rfl rfl ?_
    refine V_bipush C 12 (dt_at dt_X12_dies_0 18 rfl) (by decide) ?_
    obtain ⟨σ4, e3, h⟩ := bd_s h
    refine cv_X12_runs C ww_586 12 e3 (Nat.le_of_ble_eq_true rfl) (Nat.le_of_ble_eq_true rfl) z0 (dt_at dt_X12_dies_0 19 rfl) ?_
    refine V_iload_n C (dt_at dt_X12_dies_0 20 rfl) 1 rfl rfl ?_
    refine V_aload_n C (dt_at dt_X12_dies_0 21 rfl) 0 rfl rfl ?_
    refine g_X12_302_6 C (dt_at dt_X12_dies_0 22 rfl) ?_
    refine V_isub C (dt_at dt_X12_dies_0 23 rfl) ?_
    obtain ⟨e1_, e2_⟩ := pin2 h
    subst e1_; subst e2_
    exact V_iret C hR (dt_at dt_X12_dies_0 24 rfl)
  · have h := ite_t q1 h
    refine V_aload_n C (dt_at dt_X12_dies_0 4 rfl) 0 rfl rfl ?_
    refine V_bipush C 40 (dt_at dt_X12_dies_0 5 rfl) (by decide) ?_
    obtain ⟨σ7, e6, h⟩ := bd_s h
    refine cv_X12_runs C ww_586 40 e6 (Nat.le_of_ble_eq_true rfl) (Nat.le_of_ble_eq_true rfl) z0 (dt_at dt_X12_dies_0 6 rfl) ?_
    refine V_aload_n C (dt_at dt_X12_dies_0 7 rfl) 0 rfl rfl ?_
    refine V_bipush C 12 (dt_at dt_X12_dies_0 8 rfl) (by decide) ?_
    obtain ⟨σ10, e9, h⟩ := bd_s h
    refine cv_X12_runs C ww_586 12 e9 (Nat.le_of_ble_eq_true rfl) (Nat.le_of_ble_eq_true rfl) z0 (dt_at dt_X12_dies_0 9 rfl) ?_
    refine V_iload_n C (dt_at dt_X12_dies_0 10 rfl) 1 rfl rfl ?_
    refine V_aload_n C (dt_at dt_X12_dies_0 11 rfl) 0 rfl rfl ?_
    refine g_X12_302_6 C (dt_at dt_X12_dies_0 12 rfl) ?_
    refine V_isub C (dt_at dt_X12_dies_0 13 rfl) ?_
    refine V_iconst C 3 (dt_at dt_X12_dies_0 14 rfl) (by decide) ?_
    refine V_imul C (dt_at dt_X12_dies_0 15 rfl) ?_
    obtain ⟨e1_, e2_⟩ := pin2 h
    subst e1_; subst e2_
    exact V_iret C hR (dt_at dt_X12_dies_0 16 rfl)
theorem cv_X12_dies (C : Ck X G cc own nL d) {idx : Nat} (hlk : Cond.methodLink own idx yX12_dies ∈ gtb) (x1 : Int32) {r0 : Int32} {σ0 : St} (e : f_X12_dies x1 σ = some (r0, σ0)) (hdd : 3 ≤ d) (hroom : (rest.map fun v => v.category).sum ≤ 8) (hcs : cells ≤ (xR X).cells ∧ slots ≤ (xR X).slots) (hd : decode cc pc = .ok (.invokevirtual idx, 3)) (k : V X G nL cells slots σ0 (pc + 3) lv (.int r0 :: rest)) : V X G nL cells slots σ pc lv (.int x1 :: .ref (ga G 6) :: rest) := V_callV C (As := [.int x1]) (c_X12_dies X.2.1 G x1 σ r0 σ0 e) cal_X12_dies ww_589 ww_590 hlk rfl hdd (lt110 rfl) rfl rfl rfl hroom hcs hd k
theorem dt_X12_speaks_0 : dtab cX12_speaks [(0, .aload_n 0, 1), (1, .getfield 293, 3), (4, .iconst 2, 1), (5, .if_icmp .eq 11, 3), (8, .aload_n 0, 1), (9, .getfield 293, 3), (12, .iconst 4, 1), (13, .if_icmp .ne 24, 3), (16, .aload_n 0, 1), (17, .bipush 30, 2), (19, .invokevirtual 296, 3), (22, .aload_n 0, 1), (23, .bipush 10, 2), (25, .invokevirtual 296, 3), (28, .iload_n 1, 1), (29, .aload_n 0, 1), (30, .getfield 299, 3), (33, .iadd, 1), (34, .iconst 1, 1), (35, .isub, 1), (36, .ireturn, 1), (37, .aload_n 0, 1), (38, .getfield 293, 3), (41, .iconst 5, 1), (42, .if_icmp .ne 24, 3), (45, .aload_n 0, 1), (46, .bipush 60, 2), (48, .invokevirtual 296, 3), (51, .aload_n 0, 1), (52, .bipush 10, 2), (54, .invokevirtual 296, 3), (57, .iload_n 1, 1), (58, .aload_n 0, 1), (59, .getfield 299, 3), (62, .iadd, 1), (63, .iconst 5, 1), (64, .ixor, 1), (65, .ireturn, 1), (66, .aload_n 0, 1), (67, .bipush 10, 2)] = true := by decide +kernel
theorem dt_X12_speaks_1 : dtab cX12_speaks [(69, .invokevirtual 296, 3), (72, .iload_n 1, 1), (73, .aload_n 0, 1), (74, .getfield 299, 3), (77, .iadd, 1), (78, .ireturn, 1)] = true := by decide +kernel
theorem cal_X12_speaks : Cal yX12_speaks cX12_speaks 2 (some .int) 1 := ⟨ww_592, ww_429, ⟨by decide, by decide, by decide⟩, by decide⟩
set_option maxHeartbeats 4000000 in
set_option maxRecDepth 100000 in
theorem c_X12_speaks (l : Launch) (G : Gx) (x1 : Int32) (σ : St) (r0 : Int32) (σ0 : St) (h : f_X12_speaks x1 σ = some (r0, σ0)) : MI l G yX12_speaks cX12_speaks 2 (some .int) 2 [.ref (ga G 6), .int x1] σ (some (.int r0)) σ0 := by
  refine MI_of RX12 rfl (by decide) [(0, .ref (ga G 6)), (1, .int x1)] rfl (Nat.le_of_ble_eq_true rfl) ?_
  intro X hXl C hR
  unfold f_X12_speaks at h
  have J_16 : ∀ (σ : St), f_X12_speaks_16 x1 σ = some (r0, σ0) → V X G 2 0 0 σ 16 [(0, .ref (ga G 6)), (1, .int x1)] [] := by
    intro σ h
    unfold f_X12_speaks_16 at h
    refine V_aload_n C (dt_at dt_X12_speaks_0 8 rfl) 0 rfl rfl ?_
    refine V_bipush C 30 (dt_at dt_X12_speaks_0 9 rfl) (by decide) ?_
    obtain ⟨σ15, e14, h⟩ := bd_s h
    refine cv_X12_runs C ww_586 30 e14 (Nat.le_of_ble_eq_true rfl) (Nat.le_of_ble_eq_true rfl) z0 (dt_at dt_X12_speaks_0 10 rfl) ?_
    refine V_aload_n C (dt_at dt_X12_speaks_0 11 rfl) 0 rfl rfl ?_
    refine V_bipush C 10 (dt_at dt_X12_speaks_0 12 rfl) (by decide) ?_
    obtain ⟨σ18, e17, h⟩ := bd_s h
    refine cv_X12_runs C ww_586 10 e17 (Nat.le_of_ble_eq_true rfl) (Nat.le_of_ble_eq_true rfl) z0 (dt_at dt_X12_speaks_0 13 rfl) ?_
    refine V_iload_n C (dt_at dt_X12_speaks_0 14 rfl) 1 rfl rfl ?_
    refine V_aload_n C (dt_at dt_X12_speaks_0 15 rfl) 0 rfl rfl ?_
    refine g_X12_299_6 C (dt_at dt_X12_speaks_0 16 rfl) ?_
    refine V_iadd C (dt_at dt_X12_speaks_0 17 rfl) ?_
    refine V_iconst C 1 (dt_at dt_X12_speaks_0 18 rfl) (by decide) ?_
    refine V_isub C (dt_at dt_X12_speaks_0 19 rfl) ?_
    obtain ⟨e1_, e2_⟩ := pin2 h
    subst e1_; subst e2_
    exact V_iret C hR (dt_at dt_X12_speaks_0 20 rfl)
  refine V_aload_n C (dt_at dt_X12_speaks_0 0 rfl) 0 rfl rfl ?_
  refine g_X12_293_6 C (dt_at dt_X12_speaks_0 1 rfl) ?_
  refine V_iconst C 2 (dt_at dt_X12_speaks_0 2 rfl) (by decide) ?_
  refine V_icmp_eq C 16 (dt_at dt_X12_speaks_0 3 rfl) (by decide) (fun q1 => ?_) (fun q1 => ?_)
  · have h := ite_t q1 h
    exact J_16 σ h
  · have h := ite_f q1 h
    refine V_aload_n C (dt_at dt_X12_speaks_0 4 rfl) 0 rfl rfl ?_
    refine g_X12_293_6 C (dt_at dt_X12_speaks_0 5 rfl) ?_
    refine V_iconst C 4 (dt_at dt_X12_speaks_0 6 rfl) (by decide) ?_
    refine V_icmp_ne C 37 (dt_at dt_X12_speaks_0 7 rfl) (by decide) (fun q2 => ?_) (fun q2 => ?_)
    · have h := ite_f q2 h
      refine V_aload_n C (dt_at dt_X12_speaks_0 21 rfl) 0 rfl rfl ?_
      refine g_X12_293_6 C (dt_at dt_X12_speaks_0 22 rfl) ?_
      refine V_iconst C 5 (dt_at dt_X12_speaks_0 23 rfl) (by decide) ?_
      refine V_icmp_ne C 66 (dt_at dt_X12_speaks_0 24 rfl) (by decide) (fun q3 => ?_) (fun q3 => ?_)
      · have h := ite_f q3 h
        refine V_aload_n C (dt_at dt_X12_speaks_0 38 rfl) 0 rfl rfl ?_
        refine V_bipush C 10 (dt_at dt_X12_speaks_0 39 rfl) (by decide) ?_
        obtain ⟨σ6, e5, h⟩ := bd_s h
        refine cv_X12_runs C ww_586 10 e5 (Nat.le_of_ble_eq_true rfl) (Nat.le_of_ble_eq_true rfl) z0 (dt_at dt_X12_speaks_1 0 rfl) ?_
        refine V_iload_n C (dt_at dt_X12_speaks_1 1 rfl) 1 rfl rfl ?_
        refine V_aload_n C (dt_at dt_X12_speaks_1 2 rfl) 0 rfl rfl ?_
        refine g_X12_299_6 C (dt_at dt_X12_speaks_1 3 rfl) ?_
        refine V_iadd C (dt_at dt_X12_speaks_1 4 rfl) ?_
        obtain ⟨e1_, e2_⟩ := pin2 h
        subst e1_; subst e2_
        exact V_iret C hR (dt_at dt_X12_speaks_1 5 rfl)
      · have h := ite_t q3 h
        refine V_aload_n C (dt_at dt_X12_speaks_0 25 rfl) 0 rfl rfl ?_
        refine V_bipush C 60 (dt_at dt_X12_speaks_0 26 rfl) (by decide) ?_
        obtain ⟨σ9, e8, h⟩ := bd_s h
        refine cv_X12_runs C ww_586 60 e8 (Nat.le_of_ble_eq_true rfl) (Nat.le_of_ble_eq_true rfl) z0 (dt_at dt_X12_speaks_0 27 rfl) ?_
        refine V_aload_n C (dt_at dt_X12_speaks_0 28 rfl) 0 rfl rfl ?_
        refine V_bipush C 10 (dt_at dt_X12_speaks_0 29 rfl) (by decide) ?_
        obtain ⟨σ12, e11, h⟩ := bd_s h
        refine cv_X12_runs C ww_586 10 e11 (Nat.le_of_ble_eq_true rfl) (Nat.le_of_ble_eq_true rfl) z0 (dt_at dt_X12_speaks_0 30 rfl) ?_
        refine V_iload_n C (dt_at dt_X12_speaks_0 31 rfl) 1 rfl rfl ?_
        refine V_aload_n C (dt_at dt_X12_speaks_0 32 rfl) 0 rfl rfl ?_
        refine g_X12_299_6 C (dt_at dt_X12_speaks_0 33 rfl) ?_
        refine V_iadd C (dt_at dt_X12_speaks_0 34 rfl) ?_
        refine V_iconst C 5 (dt_at dt_X12_speaks_0 35 rfl) (by decide) ?_
        refine V_ixor C (dt_at dt_X12_speaks_0 36 rfl) ?_
        obtain ⟨e1_, e2_⟩ := pin2 h
        subst e1_; subst e2_
        exact V_iret C hR (dt_at dt_X12_speaks_0 37 rfl)
    · have h := ite_t q2 h
      exact J_16 σ h
theorem cv_X12_speaks (C : Ck X G cc own nL d) {idx : Nat} (hlk : Cond.methodLink own idx yX12_speaks ∈ gtb) (x1 : Int32) {r0 : Int32} {σ0 : St} (e : f_X12_speaks x1 σ = some (r0, σ0)) (hdd : 3 ≤ d) (hroom : (rest.map fun v => v.category).sum ≤ 8) (hcs : cells ≤ (xR X).cells ∧ slots ≤ (xR X).slots) (hd : decode cc pc = .ok (.invokevirtual idx, 3)) (k : V X G nL cells slots σ0 (pc + 3) lv (.int r0 :: rest)) : V X G nL cells slots σ pc lv (.int x1 :: .ref (ga G 6) :: rest) := V_callV C (As := [.int x1]) (c_X12_speaks X.2.1 G x1 σ r0 σ0 e) cal_X12_speaks ww_593 ww_594 hlk rfl hdd (lt110 rfl) rfl rfl rfl hroom hcs hd k
theorem dt_X12_walksPart_0 : dtab cX12_walksPart [(0, .aload_n 0, 1), (1, .bipush 11, 2), (3, .invokevirtual 296, 3), (6, .aload_n 0, 1), (7, .iload_n 1, 1), (8, .invokevirtual 305, 3), (11, .iconst 2, 1), (12, .imul, 1), (13, .ireturn, 1)] = true := by decide +kernel
theorem cal_X12_walksPart : Cal yX12_walksPart cX12_walksPart 2 (some .int) 1 := ⟨ww_596, ww_429, ⟨by decide, by decide, by decide⟩, by decide⟩
set_option maxHeartbeats 4000000 in
set_option maxRecDepth 100000 in
theorem c_X12_walksPart (l : Launch) (G : Gx) (x1 : Int32) (σ : St) (r0 : Int32) (σ0 : St) (h : f_X12_walksPart x1 σ = some (r0, σ0)) : MI l G yX12_walksPart cX12_walksPart 2 (some .int) 3 [.ref (ga G 6), .int x1] σ (some (.int r0)) σ0 := by
  refine MI_of RX12 rfl (by decide) [(0, .ref (ga G 6)), (1, .int x1)] rfl (Nat.le_of_ble_eq_true rfl) ?_
  intro X hXl C hR
  unfold f_X12_walksPart at h
  refine V_aload_n C (dt_at dt_X12_walksPart_0 0 rfl) 0 rfl rfl ?_
  refine V_bipush C 11 (dt_at dt_X12_walksPart_0 1 rfl) (by decide) ?_
  obtain ⟨σ3, e2, h⟩ := bd_s h
  refine cv_X12_runs C ww_586 11 e2 (Nat.le_of_ble_eq_true rfl) (Nat.le_of_ble_eq_true rfl) z0 (dt_at dt_X12_walksPart_0 2 rfl) ?_
  refine V_aload_n C (dt_at dt_X12_walksPart_0 3 rfl) 0 rfl rfl ?_
  refine V_iload_n C (dt_at dt_X12_walksPart_0 4 rfl) 1 rfl rfl ?_
  obtain ⟨r4, σ6, e5, h⟩ := bd2_s h
  refine cv_X12_speaks C ww_595 x1 e5 (Nat.le_of_ble_eq_true rfl) (Nat.le_of_ble_eq_true rfl) z0 (dt_at dt_X12_walksPart_0 5 rfl) ?_
  refine V_iconst C 2 (dt_at dt_X12_walksPart_0 6 rfl) (by decide) ?_
  refine V_imul C (dt_at dt_X12_walksPart_0 7 rfl) ?_
  obtain ⟨e1_, e2_⟩ := pin2 h
  subst e1_; subst e2_
  exact V_iret C hR (dt_at dt_X12_walksPart_0 8 rfl)
theorem cv_X12_walksPart (C : Ck X G cc own nL d) {idx : Nat} (hlk : Cond.methodLink own idx yX12_walksPart ∈ gtb) (x1 : Int32) {r0 : Int32} {σ0 : St} (e : f_X12_walksPart x1 σ = some (r0, σ0)) (hdd : 4 ≤ d) (hroom : (rest.map fun v => v.category).sum ≤ 8) (hcs : cells ≤ (xR X).cells ∧ slots ≤ (xR X).slots) (hd : decode cc pc = .ok (.invokevirtual idx, 3)) (k : V X G nL cells slots σ0 (pc + 3) lv (.int r0 :: rest)) : V X G nL cells slots σ pc lv (.int x1 :: .ref (ga G 6) :: rest) := V_callV C (As := [.int x1]) (c_X12_walksPart X.2.1 G x1 σ r0 σ0 e) cal_X12_walksPart ww_597 ww_598 hlk rfl hdd (lt110 rfl) rfl rfl rfl hroom hcs hd k
theorem dt_X12_walksSpoken_0 : dtab cX12_walksSpoken [(0, .aload_n 0, 1), (1, .bipush 20, 2), (3, .invokevirtual 296, 3), (6, .aload_n 0, 1), (7, .iload_n 1, 1), (8, .invokevirtual 308, 3), (11, .istore_n 2, 1), (12, .iload_n 2, 1), (13, .aload_n 0, 1), (14, .iload_n 1, 1), (15, .invokevirtual 311, 3), (18, .iadd, 1), (19, .ireturn, 1)] = true := by decide +kernel
theorem cal_X12_walksSpoken : Cal yX12_walksSpoken cX12_walksSpoken 3 (some .int) 1 := ⟨ww_601, ww_429, ⟨by decide, by decide, by decide⟩, by decide⟩
set_option maxHeartbeats 4000000 in
set_option maxRecDepth 100000 in
theorem c_X12_walksSpoken (l : Launch) (G : Gx) (x1 : Int32) (σ : St) (r0 : Int32) (σ0 : St) (h : f_X12_walksSpoken x1 σ = some (r0, σ0)) : MI l G yX12_walksSpoken cX12_walksSpoken 3 (some .int) 4 [.ref (ga G 6), .int x1] σ (some (.int r0)) σ0 := by
  refine MI_of RX12 rfl (by decide) [(0, .ref (ga G 6)), (1, .int x1)] rfl (Nat.le_of_ble_eq_true rfl) ?_
  intro X hXl C hR
  unfold f_X12_walksSpoken at h
  refine V_aload_n C (dt_at dt_X12_walksSpoken_0 0 rfl) 0 rfl rfl ?_
  refine V_bipush C 20 (dt_at dt_X12_walksSpoken_0 1 rfl) (by decide) ?_
  obtain ⟨σ3, e2, h⟩ := bd_s h
  refine cv_X12_runs C ww_586 20 e2 (Nat.le_of_ble_eq_true rfl) (Nat.le_of_ble_eq_true rfl) z0 (dt_at dt_X12_walksSpoken_0 2 rfl) ?_
  refine V_aload_n C (dt_at dt_X12_walksSpoken_0 3 rfl) 0 rfl rfl ?_
  refine V_iload_n C (dt_at dt_X12_walksSpoken_0 4 rfl) 1 rfl rfl ?_
  obtain ⟨r4, σ6, e5, h⟩ := bd2_s h
  refine cv_X12_walksPart C ww_599 x1 e5 (Nat.le_of_ble_eq_true rfl) (Nat.le_of_ble_eq_true rfl) z0 (dt_at dt_X12_walksSpoken_0 5 rfl) ?_
  refine V_istore_n C [1, 2, 0] (lv' := [(0, .ref (ga G 6)), (1, .int x1), (2, .int r4)]) (dt_at dt_X12_walksSpoken_0 6 rfl) rfl (by decide) rfl ?_
  refine V_iload_n C (dt_at dt_X12_walksSpoken_0 7 rfl) 2 rfl rfl ?_
  refine V_aload_n C (dt_at dt_X12_walksSpoken_0 8 rfl) 0 rfl rfl ?_
  refine V_iload_n C (dt_at dt_X12_walksSpoken_0 9 rfl) 1 rfl rfl ?_
  obtain ⟨r7, σ9, e8, h⟩ := bd2_s h
  refine cv_X12_dies C ww_600 x1 e8 (Nat.le_of_ble_eq_true rfl) (Nat.le_of_ble_eq_true rfl) z0 (dt_at dt_X12_walksSpoken_0 10 rfl) ?_
  refine V_iadd C (dt_at dt_X12_walksSpoken_0 11 rfl) ?_
  obtain ⟨e1_, e2_⟩ := pin2 h
  subst e1_; subst e2_
  exact V_iret C hR (dt_at dt_X12_walksSpoken_0 12 rfl)
theorem cv_X12_walksSpoken (C : Ck X G cc own nL d) {idx : Nat} (hlk : Cond.methodLink own idx yX12_walksSpoken ∈ gtb) (x1 : Int32) {r0 : Int32} {σ0 : St} (e : f_X12_walksSpoken x1 σ = some (r0, σ0)) (hdd : 5 ≤ d) (hroom : (rest.map fun v => v.category).sum ≤ 8) (hcs : cells ≤ (xR X).cells ∧ slots ≤ (xR X).slots) (hd : decode cc pc = .ok (.invokevirtual idx, 3)) (k : V X G nL cells slots σ0 (pc + 3) lv (.int r0 :: rest)) : V X G nL cells slots σ pc lv (.int x1 :: .ref (ga G 6) :: rest) := V_callV C (As := [.int x1]) (c_X12_walksSpoken X.2.1 G x1 σ r0 σ0 e) cal_X12_walksSpoken ww_602 ww_603 hlk rfl hdd (lt110 rfl) rfl rfl rfl hroom hcs hd k
theorem dt_X12_walks_0 : dtab cX12_walks [(0, .aload_n 0, 1), (1, .getfield 293, 3), (4, .iconst 3, 1), (5, .if_icmp .ne 20, 3), (8, .aload_n 0, 1), (9, .bipush 41, 2), (11, .invokevirtual 296, 3), (14, .aload_n 0, 1), (15, .iload_n 1, 1), (16, .aload_n 0, 1), (17, .getfield 302, 3), (20, .isub, 1), (21, .invokevirtual 314, 3), (24, .ireturn, 1), (25, .aload_n 0, 1), (26, .getfield 293, 3), (29, .iconst 5, 1), (30, .if_icmp .ne 23, 3), (33, .aload_n 0, 1), (34, .bipush 61, 2), (36, .invokevirtual 296, 3), (39, .aload_n 0, 1), (40, .iload_n 1, 1), (41, .invokevirtual 314, 3), (44, .istore_n 2, 1), (45, .iload_n 2, 1), (46, .aload_n 0, 1), (47, .iconst 1, 1), (48, .invokevirtual 305, 3), (51, .iadd, 1), (52, .ireturn, 1), (53, .aload_n 0, 1), (54, .getfield 293, 3), (57, .iconst 1, 1), (58, .if_icmp .ne 11, 3), (61, .aload_n 0, 1), (62, .iload_n 1, 1), (63, .invokevirtual 314, 3), (66, .goto 8, 3), (69, .aload_n 0, 1)] = true := by decide +kernel
theorem dt_X12_walks_1 : dtab cX12_walks [(70, .iload_n 1, 1), (71, .invokevirtual 308, 3), (74, .ireturn, 1)] = true := by decide +kernel
theorem cal_X12_walks : Cal yX12_walks cX12_walks 3 (some .int) 1 := ⟨ww_605, ww_429, ⟨by decide, by decide, by decide⟩, by decide⟩
set_option maxHeartbeats 4000000 in
set_option maxRecDepth 100000 in
theorem c_X12_walks (l : Launch) (G : Gx) (x1 : Int32) (σ : St) (r0 : Int32) (σ0 : St) (h : f_X12_walks x1 σ = some (r0, σ0)) : MI l G yX12_walks cX12_walks 3 (some .int) 5 [.ref (ga G 6), .int x1] σ (some (.int r0)) σ0 := by
  refine MI_of RX12 rfl (by decide) [(0, .ref (ga G 6)), (1, .int x1)] rfl (Nat.le_of_ble_eq_true rfl) ?_
  intro X hXl C hR
  unfold f_X12_walks at h
  refine V_aload_n C (dt_at dt_X12_walks_0 0 rfl) 0 rfl rfl ?_
  refine g_X12_293_6 C (dt_at dt_X12_walks_0 1 rfl) ?_
  refine V_iconst C 3 (dt_at dt_X12_walks_0 2 rfl) (by decide) ?_
  refine V_icmp_ne C 25 (dt_at dt_X12_walks_0 3 rfl) (by decide) (fun q1 => ?_) (fun q1 => ?_)
  · have h := ite_f q1 h
    refine V_aload_n C (dt_at dt_X12_walks_0 14 rfl) 0 rfl rfl ?_
    refine g_X12_293_6 C (dt_at dt_X12_walks_0 15 rfl) ?_
    refine V_iconst C 5 (dt_at dt_X12_walks_0 16 rfl) (by decide) ?_
    refine V_icmp_ne C 53 (dt_at dt_X12_walks_0 17 rfl) (by decide) (fun q2 => ?_) (fun q2 => ?_)
    · have h := ite_f q2 h
      refine V_aload_n C (dt_at dt_X12_walks_0 31 rfl) 0 rfl rfl ?_
      refine g_X12_293_6 C (dt_at dt_X12_walks_0 32 rfl) ?_
      refine V_iconst C 1 (dt_at dt_X12_walks_0 33 rfl) (by decide) ?_
      refine V_icmp_ne C 69 (dt_at dt_X12_walks_0 34 rfl) (by decide) (fun q3 => ?_) (fun q3 => ?_)
      · have h := ite_f q3 h
        refine V_aload_n C (dt_at dt_X12_walks_0 39 rfl) 0 rfl rfl ?_
        refine V_iload_n C (dt_at dt_X12_walks_1 0 rfl) 1 rfl rfl ?_
        obtain ⟨r4, σ6, e5, h⟩ := bd2_s h
        refine cv_X12_walksPart C ww_599 x1 e5 (Nat.le_of_ble_eq_true rfl) (Nat.le_of_ble_eq_true rfl) z0 (dt_at dt_X12_walks_1 1 rfl) ?_
        obtain ⟨e1_, e2_⟩ := pin2 h
        subst e1_; subst e2_
        exact V_iret C hR (dt_at dt_X12_walks_1 2 rfl)
      · have h := ite_t q3 h
        refine V_aload_n C (dt_at dt_X12_walks_0 35 rfl) 0 rfl rfl ?_
        refine V_iload_n C (dt_at dt_X12_walks_0 36 rfl) 1 rfl rfl ?_
        obtain ⟨r7, σ9, e8, h⟩ := bd2_s h
        refine cv_X12_walksSpoken C ww_604 x1 e8 (Nat.le_of_ble_eq_true rfl) (Nat.le_of_ble_eq_true rfl) z0 (dt_at dt_X12_walks_0 37 rfl) ?_
        refine V_goto C 74 (dt_at dt_X12_walks_0 38 rfl) (by decide) ?_
        obtain ⟨e1_, e2_⟩ := pin2 h
        subst e1_; subst e2_
        exact V_iret C hR (dt_at dt_X12_walks_1 2 rfl)
    · have h := ite_t q2 h
      refine V_aload_n C (dt_at dt_X12_walks_0 18 rfl) 0 rfl rfl ?_
      refine V_bipush C 61 (dt_at dt_X12_walks_0 19 rfl) (by decide) ?_
      obtain ⟨σ12, e11, h⟩ := bd_s h
      refine cv_X12_runs C ww_586 61 e11 (Nat.le_of_ble_eq_true rfl) (Nat.le_of_ble_eq_true rfl) z0 (dt_at dt_X12_walks_0 20 rfl) ?_
      refine V_aload_n C (dt_at dt_X12_walks_0 21 rfl) 0 rfl rfl ?_
      refine V_iload_n C (dt_at dt_X12_walks_0 22 rfl) 1 rfl rfl ?_
      obtain ⟨r13, σ15, e14, h⟩ := bd2_s h
      refine cv_X12_walksSpoken C ww_604 x1 e14 (Nat.le_of_ble_eq_true rfl) (Nat.le_of_ble_eq_true rfl) z0 (dt_at dt_X12_walks_0 23 rfl) ?_
      refine V_istore_n C [1, 2, 0] (lv' := [(0, .ref (ga G 6)), (1, .int x1), (2, .int r13)]) (dt_at dt_X12_walks_0 24 rfl) rfl (by decide) rfl ?_
      refine V_iload_n C (dt_at dt_X12_walks_0 25 rfl) 2 rfl rfl ?_
      refine V_aload_n C (dt_at dt_X12_walks_0 26 rfl) 0 rfl rfl ?_
      refine V_iconst C 1 (dt_at dt_X12_walks_0 27 rfl) (by decide) ?_
      obtain ⟨r16, σ18, e17, h⟩ := bd2_s h
      refine cv_X12_speaks C ww_595 1 e17 (Nat.le_of_ble_eq_true rfl) (Nat.le_of_ble_eq_true rfl) z0 (dt_at dt_X12_walks_0 28 rfl) ?_
      refine V_iadd C (dt_at dt_X12_walks_0 29 rfl) ?_
      obtain ⟨e1_, e2_⟩ := pin2 h
      subst e1_; subst e2_
      exact V_iret C hR (dt_at dt_X12_walks_0 30 rfl)
  · have h := ite_t q1 h
    refine V_aload_n C (dt_at dt_X12_walks_0 4 rfl) 0 rfl rfl ?_
    refine V_bipush C 41 (dt_at dt_X12_walks_0 5 rfl) (by decide) ?_
    obtain ⟨σ21, e20, h⟩ := bd_s h
    refine cv_X12_runs C ww_586 41 e20 (Nat.le_of_ble_eq_true rfl) (Nat.le_of_ble_eq_true rfl) z0 (dt_at dt_X12_walks_0 6 rfl) ?_
    refine V_aload_n C (dt_at dt_X12_walks_0 7 rfl) 0 rfl rfl ?_
    refine V_iload_n C (dt_at dt_X12_walks_0 8 rfl) 1 rfl rfl ?_
    refine V_aload_n C (dt_at dt_X12_walks_0 9 rfl) 0 rfl rfl ?_
    refine g_X12_302_6 C (dt_at dt_X12_walks_0 10 rfl) ?_
    refine V_isub C (dt_at dt_X12_walks_0 11 rfl) ?_
    obtain ⟨r22, σ24, e23, h⟩ := bd2_s h
    refine cv_X12_walksSpoken C ww_604 (x1 - (fd σ21 6 30)) e23 (Nat.le_of_ble_eq_true rfl) (Nat.le_of_ble_eq_true rfl) z0 (dt_at dt_X12_walks_0 12 rfl) ?_
    obtain ⟨e1_, e2_⟩ := pin2 h
    subst e1_; subst e2_
    exact V_iret C hR (dt_at dt_X12_walks_0 13 rfl)
theorem cv_X12_walks (C : Ck X G cc own nL d) {idx : Nat} (hlk : Cond.methodLink own idx yX12_walks ∈ gtb) (x1 : Int32) {r0 : Int32} {σ0 : St} (e : f_X12_walks x1 σ = some (r0, σ0)) (hdd : 6 ≤ d) (hroom : (rest.map fun v => v.category).sum ≤ 8) (hcs : cells ≤ (xR X).cells ∧ slots ≤ (xR X).slots) (hd : decode cc pc = .ok (.invokevirtual idx, 3)) (k : V X G nL cells slots σ0 (pc + 3) lv (.int r0 :: rest)) : V X G nL cells slots σ pc lv (.int x1 :: .ref (ga G 6) :: rest) := V_callV C (As := [.int x1]) (c_X12_walks X.2.1 G x1 σ r0 σ0 e) cal_X12_walks ww_606 ww_607 hlk rfl hdd (lt110 rfl) rfl rfl rfl hroom hcs hd k
theorem dt_X12_bowsPart_0 : dtab cX12_bowsPart [(0, .aload_n 0, 1), (1, .bipush 13, 2), (3, .invokevirtual 296, 3), (6, .aload_n 0, 1), (7, .iload_n 1, 1), (8, .invokevirtual 317, 3), (11, .istore_n 2, 1), (12, .iload_n 2, 1), (13, .aload_n 0, 1), (14, .iload_n 1, 1), (15, .invokevirtual 311, 3), (18, .ixor, 1), (19, .ireturn, 1)] = true := by decide +kernel
theorem cal_X12_bowsPart : Cal yX12_bowsPart cX12_bowsPart 3 (some .int) 1 := ⟨ww_609, ww_429, ⟨by decide, by decide, by decide⟩, by decide⟩
set_option maxHeartbeats 4000000 in
set_option maxRecDepth 100000 in
theorem c_X12_bowsPart (l : Launch) (G : Gx) (x1 : Int32) (σ : St) (r0 : Int32) (σ0 : St) (h : f_X12_bowsPart x1 σ = some (r0, σ0)) : MI l G yX12_bowsPart cX12_bowsPart 3 (some .int) 6 [.ref (ga G 6), .int x1] σ (some (.int r0)) σ0 := by
  refine MI_of RX12 rfl (by decide) [(0, .ref (ga G 6)), (1, .int x1)] rfl (Nat.le_of_ble_eq_true rfl) ?_
  intro X hXl C hR
  unfold f_X12_bowsPart at h
  refine V_aload_n C (dt_at dt_X12_bowsPart_0 0 rfl) 0 rfl rfl ?_
  refine V_bipush C 13 (dt_at dt_X12_bowsPart_0 1 rfl) (by decide) ?_
  obtain ⟨σ3, e2, h⟩ := bd_s h
  refine cv_X12_runs C ww_586 13 e2 (Nat.le_of_ble_eq_true rfl) (Nat.le_of_ble_eq_true rfl) z0 (dt_at dt_X12_bowsPart_0 2 rfl) ?_
  refine V_aload_n C (dt_at dt_X12_bowsPart_0 3 rfl) 0 rfl rfl ?_
  refine V_iload_n C (dt_at dt_X12_bowsPart_0 4 rfl) 1 rfl rfl ?_
  obtain ⟨r4, σ6, e5, h⟩ := bd2_s h
  refine cv_X12_walks C ww_608 x1 e5 (Nat.le_of_ble_eq_true rfl) (Nat.le_of_ble_eq_true rfl) z0 (dt_at dt_X12_bowsPart_0 5 rfl) ?_
  refine V_istore_n C [1, 2, 0] (lv' := [(0, .ref (ga G 6)), (1, .int x1), (2, .int r4)]) (dt_at dt_X12_bowsPart_0 6 rfl) rfl (by decide) rfl ?_
  refine V_iload_n C (dt_at dt_X12_bowsPart_0 7 rfl) 2 rfl rfl ?_
  refine V_aload_n C (dt_at dt_X12_bowsPart_0 8 rfl) 0 rfl rfl ?_
  refine V_iload_n C (dt_at dt_X12_bowsPart_0 9 rfl) 1 rfl rfl ?_
  obtain ⟨r7, σ9, e8, h⟩ := bd2_s h
  refine cv_X12_dies C ww_600 x1 e8 (Nat.le_of_ble_eq_true rfl) (Nat.le_of_ble_eq_true rfl) z0 (dt_at dt_X12_bowsPart_0 10 rfl) ?_
  refine V_ixor C (dt_at dt_X12_bowsPart_0 11 rfl) ?_
  obtain ⟨e1_, e2_⟩ := pin2 h
  subst e1_; subst e2_
  exact V_iret C hR (dt_at dt_X12_bowsPart_0 12 rfl)
theorem cv_X12_bowsPart (C : Ck X G cc own nL d) {idx : Nat} (hlk : Cond.methodLink own idx yX12_bowsPart ∈ gtb) (x1 : Int32) {r0 : Int32} {σ0 : St} (e : f_X12_bowsPart x1 σ = some (r0, σ0)) (hdd : 7 ≤ d) (hroom : (rest.map fun v => v.category).sum ≤ 8) (hcs : cells ≤ (xR X).cells ∧ slots ≤ (xR X).slots) (hd : decode cc pc = .ok (.invokevirtual idx, 3)) (k : V X G nL cells slots σ0 (pc + 3) lv (.int r0 :: rest)) : V X G nL cells slots σ pc lv (.int x1 :: .ref (ga G 6) :: rest) := V_callV C (As := [.int x1]) (c_X12_bowsPart X.2.1 G x1 σ r0 σ0 e) cal_X12_bowsPart ww_610 ww_611 hlk rfl hdd (lt110 rfl) rfl rfl rfl hroom hcs hd k
theorem dt_X12_bowsMute_0 : dtab cX12_bowsMute [(0, .aload_n 0, 1), (1, .bipush 31, 2), (3, .invokevirtual 296, 3), (6, .aload_n 0, 1), (7, .iload_n 1, 1), (8, .iconst 1, 1), (9, .iadd, 1), (10, .invokevirtual 320, 3), (13, .ireturn, 1)] = true := by decide +kernel
theorem cal_X12_bowsMute : Cal yX12_bowsMute cX12_bowsMute 2 (some .int) 1 := ⟨ww_613, ww_429, ⟨by decide, by decide, by decide⟩, by decide⟩
set_option maxHeartbeats 4000000 in
set_option maxRecDepth 100000 in
theorem c_X12_bowsMute (l : Launch) (G : Gx) (x1 : Int32) (σ : St) (r0 : Int32) (σ0 : St) (h : f_X12_bowsMute x1 σ = some (r0, σ0)) : MI l G yX12_bowsMute cX12_bowsMute 2 (some .int) 7 [.ref (ga G 6), .int x1] σ (some (.int r0)) σ0 := by
  refine MI_of RX12 rfl (by decide) [(0, .ref (ga G 6)), (1, .int x1)] rfl (Nat.le_of_ble_eq_true rfl) ?_
  intro X hXl C hR
  unfold f_X12_bowsMute at h
  refine V_aload_n C (dt_at dt_X12_bowsMute_0 0 rfl) 0 rfl rfl ?_
  refine V_bipush C 31 (dt_at dt_X12_bowsMute_0 1 rfl) (by decide) ?_
  obtain ⟨σ3, e2, h⟩ := bd_s h
  refine cv_X12_runs C ww_586 31 e2 (Nat.le_of_ble_eq_true rfl) (Nat.le_of_ble_eq_true rfl) z0 (dt_at dt_X12_bowsMute_0 2 rfl) ?_
  refine V_aload_n C (dt_at dt_X12_bowsMute_0 3 rfl) 0 rfl rfl ?_
  refine V_iload_n C (dt_at dt_X12_bowsMute_0 4 rfl) 1 rfl rfl ?_
  refine V_iconst C 1 (dt_at dt_X12_bowsMute_0 5 rfl) (by decide) ?_
  refine V_iadd C (dt_at dt_X12_bowsMute_0 6 rfl) ?_
  obtain ⟨r4, σ6, e5, h⟩ := bd2_s h
  refine cv_X12_bowsPart C ww_612 (x1 + 1) e5 (Nat.le_of_ble_eq_true rfl) (Nat.le_of_ble_eq_true rfl) z0 (dt_at dt_X12_bowsMute_0 7 rfl) ?_
  obtain ⟨e1_, e2_⟩ := pin2 h
  subst e1_; subst e2_
  exact V_iret C hR (dt_at dt_X12_bowsMute_0 8 rfl)
theorem cv_X12_bowsMute (C : Ck X G cc own nL d) {idx : Nat} (hlk : Cond.methodLink own idx yX12_bowsMute ∈ gtb) (x1 : Int32) {r0 : Int32} {σ0 : St} (e : f_X12_bowsMute x1 σ = some (r0, σ0)) (hdd : 8 ≤ d) (hroom : (rest.map fun v => v.category).sum ≤ 8) (hcs : cells ≤ (xR X).cells ∧ slots ≤ (xR X).slots) (hd : decode cc pc = .ok (.invokevirtual idx, 3)) (k : V X G nL cells slots σ0 (pc + 3) lv (.int r0 :: rest)) : V X G nL cells slots σ pc lv (.int x1 :: .ref (ga G 6) :: rest) := V_callV C (As := [.int x1]) (c_X12_bowsMute X.2.1 G x1 σ r0 σ0 e) cal_X12_bowsMute ww_614 ww_615 hlk rfl hdd (lt110 rfl) rfl rfl rfl hroom hcs hd k
end WK
