section WK
variable {X : Xx} {G : Gx} {cc : ByteArray} {own : String} {nL d cells slots pc : Nat} {σ : St} {lv : List (Nat × Value)} {rest : List Value}
theorem dt_X12_fewestOf_0 : dtab cX12_fewestOf [(0, .aload_n 0, 1), (1, .invokevirtual 237, 3), (4, .iconst 0, 1), (5, .istore_n 2, 1), (6, .aload_n 0, 1), (7, .iload_n 1, 1), (8, .iload_n 2, 1), (9, .invokevirtual 246, 3), (12, .ifCond .ne 9, 3), (15, .iinc 2 1, 3), (18, .goto (-12), 3), (21, .iload_n 2, 1), (22, .ireturn, 1)] = true := by decide +kernel
theorem cal_X12_fewestOf : Cal yX12_fewestOf cX12_fewestOf 3 (some .int) 1 := ⟨ww_699, ww_429, ⟨by decide, by decide, by decide⟩, by decide⟩
set_option maxHeartbeats 4000000 in
set_option maxRecDepth 100000 in
theorem c_X12_fewestOf (l : Launch) (G : Gx) (x1 : Int32) (σ : St) (r0 : Int32) (σ0 : St) (h : f_X12_fewestOf x1 σ = some (r0, σ0)) : MI l G yX12_fewestOf cX12_fewestOf 3 (some .int) 7 [.ref (ga G 6), .int x1] σ (some (.int r0)) σ0 := by
  refine MI_of RX12 rfl (by decide) [(0, .ref (ga G 6)), (1, .int x1)] rfl (Nat.le_of_ble_eq_true rfl) ?_
  intro X hXl C hR
  unfold f_X12_fewestOf at h
  have J_6 : ∀ (x2 : Int32) (σ : St), f_X12_fewestOf_6 x1 x2 σ = some (r0, σ0) → V X G 3 0 0 σ 6 [(0, .ref (ga G 6)), (1, .int x1), (2, .int x2)] [] := by
    intro x2 σ h
    refine it_v (P := fun z : Int32 × St => V X G 3 0 0 z.2 6 [(0, .ref (ga G 6)), (1, .int x1), (2, .int z.1)] []) ?_ (x2, σ) h
    clear h
    intro z w_6 h ih_6 ex_6
    obtain ⟨x2, σ⟩ := z
    have h : b_X12_fewestOf_6 x1 x2 σ = some w_6 := h
    show V X G 3 0 0 σ 6 [(0, .ref (ga G 6)), (1, .int x1), (2, .int x2)] []
    unfold b_X12_fewestOf_6 at h
    refine V_aload_n C (dt_at dt_X12_fewestOf_0 4 rfl) 0 rfl rfl ?_
    refine V_iload_n C (dt_at dt_X12_fewestOf_0 5 rfl) 1 rfl rfl ?_
    refine V_iload_n C (dt_at dt_X12_fewestOf_0 6 rfl) 2 rfl rfl ?_
    obtain ⟨r4, σ6, e5, h⟩ := bd2_s h
    refine cv_X12_isIn C ww_698 x1 x2 e5 (Nat.le_of_ble_eq_true rfl) (Nat.le_of_ble_eq_true rfl) z0 (dt_at dt_X12_fewestOf_0 7 rfl) ?_
    refine V_if_ne C 21 (dt_at dt_X12_fewestOf_0 8 rfl) (by decide) (fun q7 => ?_) (fun q7 => ?_)
    · have h := ite_f q7 h
      refine V_iload_n C (dt_at dt_X12_fewestOf_0 11 rfl) 2 rfl rfl ?_
      have e_6 := ex_6 _ (Option.some.inj h).symm
      obtain ⟨e1_, e2_⟩ := Prod.mk.inj e_6
      subst e1_; subst e2_
      exact V_iret C hR (dt_at dt_X12_fewestOf_0 12 rfl)
    · have h := ite_t q7 h
      refine V_iinc C (x2 + 1) 2 [1, 2, 0] (lv' := [(0, .ref (ga G 6)), (1, .int x1), (2, .int (x2 + 1))]) (dt_at dt_X12_fewestOf_0 9 rfl) rfl (by rfl) (by decide) rfl ?_
      refine V_goto C 6 (dt_at dt_X12_fewestOf_0 10 rfl) (by decide) ?_
      exact ih_6 ((x2 + 1), σ6) (Option.some.inj h).symm
  refine V_aload_n C (dt_at dt_X12_fewestOf_0 0 rfl) 0 rfl rfl ?_
  obtain ⟨σ3, e2, h⟩ := bd_s h
  refine cv_X12_lay C ww_513  e2 (Nat.le_of_ble_eq_true rfl) (Nat.le_of_ble_eq_true rfl) z0 (dt_at dt_X12_fewestOf_0 1 rfl) ?_
  refine V_iconst C 0 (dt_at dt_X12_fewestOf_0 2 rfl) (by decide) ?_
  refine V_istore_n C [1, 2, 0] (lv' := [(0, .ref (ga G 6)), (1, .int x1), (2, .int 0)]) (dt_at dt_X12_fewestOf_0 3 rfl) rfl (by decide) rfl ?_
  exact J_6 0 σ3 h
theorem cv_X12_fewestOf (C : Ck X G cc own nL d) {idx : Nat} (hlk : Cond.methodLink own idx yX12_fewestOf ∈ gtb) (x1 : Int32) {r0 : Int32} {σ0 : St} (e : f_X12_fewestOf x1 σ = some (r0, σ0)) (hdd : 8 ≤ d) (hroom : (rest.map fun v => v.category).sum ≤ 8) (hcs : cells ≤ (xR X).cells ∧ slots ≤ (xR X).slots) (hd : decode cc pc = .ok (.invokevirtual idx, 3)) (k : V X G nL cells slots σ0 (pc + 3) lv (.int r0 :: rest)) : V X G nL cells slots σ pc lv (.int x1 :: .ref (ga G 6) :: rest) := V_callV C (As := [.int x1]) (c_X12_fewestOf X.2.1 G x1 σ r0 σ0 e) cal_X12_fewestOf ww_700 ww_701 hlk rfl hdd (lt110 rfl) rfl rfl rfl hroom hcs hd k
theorem dt_X12_fewest_0 : dtab cX12_fewest [(0, .aload_n 0, 1), (1, .aload_n 0, 1), (2, .invokevirtual 249, 3), (5, .invokevirtual 252, 3), (8, .ireturn, 1)] = true := by decide +kernel
theorem cal_X12_fewest : Cal yX12_fewest cX12_fewest 1 (some .int) 0 := ⟨ww_703, ww_429, ⟨by decide, by decide, by decide⟩, by decide⟩
set_option maxHeartbeats 4000000 in
set_option maxRecDepth 100000 in
theorem c_X12_fewest (l : Launch) (G : Gx) (σ : St) (r0 : Int32) (σ0 : St) (h : f_X12_fewest σ = some (r0, σ0)) : MI l G yX12_fewest cX12_fewest 1 (some .int) 8 [.ref (ga G 6)] σ (some (.int r0)) σ0 := by
  refine MI_of RX12 rfl (by decide) [(0, .ref (ga G 6))] rfl (Nat.le_of_ble_eq_true rfl) ?_
  intro X hXl C hR
  unfold f_X12_fewest at h
  refine V_aload_n C (dt_at dt_X12_fewest_0 0 rfl) 0 rfl rfl ?_
  refine V_aload_n C (dt_at dt_X12_fewest_0 1 rfl) 0 rfl rfl ?_
  obtain ⟨r1, e2, h⟩ := bd_s h
  refine cv_X12_allParts C ww_527  e2 (Nat.le_of_ble_eq_true rfl) (Nat.le_of_ble_eq_true rfl) z0 (dt_at dt_X12_fewest_0 2 rfl) ?_
  obtain ⟨r4, σ6, e5, h⟩ := bd2_s h
  refine cv_X12_fewestOf C ww_702 r1 e5 (Nat.le_of_ble_eq_true rfl) (Nat.le_of_ble_eq_true rfl) z0 (dt_at dt_X12_fewest_0 3 rfl) ?_
  obtain ⟨e1_, e2_⟩ := pin2 h
  subst e1_; subst e2_
  exact V_iret C hR (dt_at dt_X12_fewest_0 4 rfl)
theorem cv_X12_fewest (C : Ck X G cc own nL d) {idx : Nat} (hlk : Cond.methodLink own idx yX12_fewest ∈ gtb) {r0 : Int32} {σ0 : St} (e : f_X12_fewest σ = some (r0, σ0)) (hdd : 9 ≤ d) (hroom : (rest.map fun v => v.category).sum ≤ 8) (hcs : cells ≤ (xR X).cells ∧ slots ≤ (xR X).slots) (hd : decode cc pc = .ok (.invokevirtual idx, 3)) (k : V X G nL cells slots σ0 (pc + 3) lv (.int r0 :: rest)) : V X G nL cells slots σ pc lv (.ref (ga G 6) :: rest) := V_callV C (As := []) (c_X12_fewest X.2.1 G  σ r0 σ0 e) cal_X12_fewest ww_704 ww_705 hlk rfl hdd (lt110 rfl) rfl rfl rfl hroom hcs hd k
theorem dt_X12_group_0 : dtab cX12_group [(0, .aload_n 0, 1), (1, .iload_n 1, 1), (2, .invokevirtual 110, 3), (5, .ifCond .ne 9, 3), (8, .aload_n 0, 1), (9, .iconst 1, 1), (10, .invokevirtual 95, 3), (13, .ireturn, 1), (14, .aload_n 0, 1), (15, .aload_n 0, 1), (16, .invokevirtual 249, 3), (19, .invokevirtual 252, 3), (22, .istore_n 2, 1), (23, .aload_n 0, 1), (24, .getfield 43, 3), (27, .iload_n 1, 1), (28, .iaload, 1), (29, .ireturn, 1)] = true := by decide +kernel
theorem cal_X12_group : Cal yX12_group cX12_group 3 (some .int) 1 := ⟨ww_706, ww_429, ⟨by decide, by decide, by decide⟩, by decide⟩
set_option maxHeartbeats 4000000 in
set_option maxRecDepth 100000 in
theorem c_X12_group (l : Launch) (G : Gx) (x1 : Int32) (σ : St) (r0 : Int32) (σ0 : St) (h : f_X12_group x1 σ = some (r0, σ0)) : MI l G yX12_group cX12_group 3 (some .int) 8 [.ref (ga G 6), .int x1] σ (some (.int r0)) σ0 := by
  refine MI_of RX12 rfl (by decide) [(0, .ref (ga G 6)), (1, .int x1)] rfl (Nat.le_of_ble_eq_true rfl) ?_
  intro X hXl C hR
  unfold f_X12_group at h
  refine V_aload_n C (dt_at dt_X12_group_0 0 rfl) 0 rfl rfl ?_
  refine V_iload_n C (dt_at dt_X12_group_0 1 rfl) 1 rfl rfl ?_
  obtain ⟨r1, e2, h⟩ := bd_s h
  refine cv_X12_isPart C ww_459 x1 e2 (Nat.le_of_ble_eq_true rfl) (Nat.le_of_ble_eq_true rfl) z0 (dt_at dt_X12_group_0 2 rfl) ?_
  refine V_if_ne C 14 (dt_at dt_X12_group_0 3 rfl) (by decide) (fun q4 => ?_) (fun q4 => ?_)
  · have h := ite_f q4 h
    refine V_aload_n C (dt_at dt_X12_group_0 8 rfl) 0 rfl rfl ?_
    refine V_aload_n C (dt_at dt_X12_group_0 9 rfl) 0 rfl rfl ?_
    obtain ⟨r5, e6, h⟩ := bd_s h
    refine cv_X12_allParts C ww_527  e6 (Nat.le_of_ble_eq_true rfl) (Nat.le_of_ble_eq_true rfl) z0 (dt_at dt_X12_group_0 10 rfl) ?_
    obtain ⟨r8, σ10, e9, h⟩ := bd2_s h
    refine cv_X12_fewestOf C ww_702 r5 e9 (Nat.le_of_ble_eq_true rfl) (Nat.le_of_ble_eq_true rfl) z0 (dt_at dt_X12_group_0 11 rfl) ?_
    refine V_istore_n C [1, 2, 0] (lv' := [(0, .ref (ga G 6)), (1, .int x1), (2, .int r8)]) (dt_at dt_X12_group_0 12 rfl) rfl (by decide) rfl ?_
    refine V_aload_n C (dt_at dt_X12_group_0 13 rfl) 0 rfl rfl ?_
    refine g_X12_43_6 C (dt_at dt_X12_group_0 14 rfl) ?_
    refine V_iload_n C (dt_at dt_X12_group_0 15 rfl) 1 rfl rfl ?_
    obtain ⟨h11, h⟩ := chk_s h
    refine al_95 C h11 (dt_at dt_X12_group_0 16 rfl) ?_
    obtain ⟨e1_, e2_⟩ := pin2 h
    subst e1_; subst e2_
    exact V_iret C hR (dt_at dt_X12_group_0 17 rfl)
  · have h := ite_t q4 h
    refine V_aload_n C (dt_at dt_X12_group_0 4 rfl) 0 rfl rfl ?_
    refine V_iconst C 1 (dt_at dt_X12_group_0 5 rfl) (by decide) ?_
    obtain ⟨r12, σ14, e13, h⟩ := bd2_s h
    refine cv_X12_finds C ww_462 1 e13 (Nat.le_of_ble_eq_true rfl) (Nat.le_of_ble_eq_true rfl) z0 (dt_at dt_X12_group_0 6 rfl) ?_
    obtain ⟨e1_, e2_⟩ := pin2 h
    subst e1_; subst e2_
    exact V_iret C hR (dt_at dt_X12_group_0 7 rfl)
theorem cv_X12_group (C : Ck X G cc own nL d) {idx : Nat} (hlk : Cond.methodLink own idx yX12_group ∈ gtb) (x1 : Int32) {r0 : Int32} {σ0 : St} (e : f_X12_group x1 σ = some (r0, σ0)) (hdd : 9 ≤ d) (hroom : (rest.map fun v => v.category).sum ≤ 8) (hcs : cells ≤ (xR X).cells ∧ slots ≤ (xR X).slots) (hd : decode cc pc = .ok (.invokevirtual idx, 3)) (k : V X G nL cells slots σ0 (pc + 3) lv (.int r0 :: rest)) : V X G nL cells slots σ pc lv (.int x1 :: .ref (ga G 6) :: rest) := V_callV C (As := [.int x1]) (c_X12_group X.2.1 G x1 σ r0 σ0 e) cal_X12_group ww_707 ww_708 hlk rfl hdd (lt110 rfl) rfl rfl rfl hroom hcs hd k
theorem dt_X12_hasOpen_0 : dtab cX12_hasOpen [(0, .iconst 0, 1), (1, .istore_n 1, 1), (2, .iconst 0, 1), (3, .istore_n 2, 1), (4, .iload_n 2, 1), (5, .aload_n 0, 1), (6, .getfield 176, 3), (9, .if_icmp .ge 30, 3), (12, .iload_n 1, 1), (13, .ifCond .ne 14, 3), (16, .aload_n 0, 1), (17, .getfield 34, 3), (20, .iload_n 2, 1), (21, .iaload, 1), (22, .bipush 40, 2), (24, .if_icmp .ne 7, 3), (27, .iconst 1, 1), (28, .goto 4, 3), (31, .iconst 0, 1), (32, .istore_n 1, 1), (33, .iinc 2 1, 3), (36, .goto (-32), 3), (39, .iload_n 1, 1), (40, .ireturn, 1)] = true := by decide +kernel
theorem cal_X12_hasOpen : Cal yX12_hasOpen cX12_hasOpen 3 (some .boolean) 0 := ⟨ww_709, ww_429, ⟨by decide, by decide, by decide⟩, by decide⟩
set_option maxHeartbeats 4000000 in
set_option maxRecDepth 100000 in
theorem c_X12_hasOpen (l : Launch) (G : Gx) (σ : St) (r0 : Int32) (h : f_X12_hasOpen σ = some r0) : MI l G yX12_hasOpen cX12_hasOpen 3 (some .boolean) 1 [.ref (ga G 6)] σ (some (.int r0)) σ := by
  refine MI_of RX12 rfl (by decide) [(0, .ref (ga G 6))] rfl (Nat.le_of_ble_eq_true rfl) ?_
  intro X hXl C hR
  unfold f_X12_hasOpen at h
  have J_4 : ∀ (x1 : Int32) (x2 : Int32), f_X12_hasOpen_4 x1 x2 σ = some r0 → V X G 3 0 0 σ 4 [(0, .ref (ga G 6)), (1, .int x1), (2, .int x2)] [] := by
    intro x1 x2 h
    refine it_v (P := fun z : Int32 × Int32 => V X G 3 0 0 σ 4 [(0, .ref (ga G 6)), (1, .int z.1), (2, .int z.2)] []) ?_ (x1, x2) h
    clear h
    intro z w_4 h ih_4 ex_4
    obtain ⟨x1, x2⟩ := z
    have h : b_X12_hasOpen_4 x1 x2 σ = some w_4 := h
    show V X G 3 0 0 σ 4 [(0, .ref (ga G 6)), (1, .int x1), (2, .int x2)] []
    unfold b_X12_hasOpen_4 at h
    have J_32 : ∀ (x2 : Int32) (s0 : Int32), f_X12_hasOpen_32 x2 s0 σ = some w_4 → V X G 3 0 0 σ 32 [(0, .ref (ga G 6)), (2, .int x2)] [.int s0] := by
      intro x2 s0 h
      unfold f_X12_hasOpen_32 at h
      refine V_istore_n C [1, 0, 2] (lv' := [(0, .ref (ga G 6)), (1, .int s0), (2, .int x2)]) (dt_at dt_X12_hasOpen_0 19 rfl) rfl (by decide) rfl ?_
      refine V_iinc C (x2 + 1) 2 [1, 2, 0] (lv' := [(0, .ref (ga G 6)), (1, .int s0), (2, .int (x2 + 1))]) (dt_at dt_X12_hasOpen_0 20 rfl) rfl (by rfl) (by decide) rfl ?_
      refine V_goto C 4 (dt_at dt_X12_hasOpen_0 21 rfl) (by decide) ?_
      exact ih_4 (s0, (x2 + 1)) (Option.some.inj h).symm
    have J_27 : ∀ (x2 : Int32), f_X12_hasOpen_27 x2 σ = some w_4 → V X G 3 0 0 σ 27 [(0, .ref (ga G 6)), (2, .int x2)] [] := by
      intro x2 h
      unfold f_X12_hasOpen_27 at h
      refine V_iconst C 1 (dt_at dt_X12_hasOpen_0 16 rfl) (by decide) ?_
      refine V_goto C 32 (dt_at dt_X12_hasOpen_0 17 rfl) (by decide) ?_
      exact J_32 x2 1 h
    refine V_iload_n C (dt_at dt_X12_hasOpen_0 4 rfl) 2 rfl rfl ?_
    refine V_aload_n C (dt_at dt_X12_hasOpen_0 5 rfl) 0 rfl rfl ?_
    refine g_X12_176_6 C (dt_at dt_X12_hasOpen_0 6 rfl) ?_
    refine V_icmp_ge C 39 (dt_at dt_X12_hasOpen_0 7 rfl) (by decide) (fun q1 => ?_) (fun q1 => ?_)
    · have h := ite_f q1 h
      refine V_iload_n C (dt_at dt_X12_hasOpen_0 22 rfl) 1 rfl rfl ?_
      obtain ⟨h2, h⟩ := chk_s h
      have e_4 := ex_4 _ (Option.some.inj h).symm
      subst e_4
      exact V_zret C (isB_n h2) hR (dt_at dt_X12_hasOpen_0 23 rfl)
    · have h := ite_t q1 h
      refine V_iload_n C (dt_at dt_X12_hasOpen_0 8 rfl) 1 rfl rfl ?_
      refine V_if_ne C 27 (dt_at dt_X12_hasOpen_0 9 rfl) (by decide) (fun q3 => ?_) (fun q3 => ?_)
      · have h := ite_f q3 h
        refine V_sub [0, 2] (lv' := [(0, .ref (ga G 6)), (2, .int x2)]) rfl ?_
        exact J_27 x2 h
      · have h := ite_t q3 h
        refine V_aload_n C (dt_at dt_X12_hasOpen_0 10 rfl) 0 rfl rfl ?_
        refine g_X12_34_6 C (dt_at dt_X12_hasOpen_0 11 rfl) ?_
        refine V_iload_n C (dt_at dt_X12_hasOpen_0 12 rfl) 2 rfl rfl ?_
        obtain ⟨h4, h⟩ := chk_s h
        refine al_92 C h4 (dt_at dt_X12_hasOpen_0 13 rfl) ?_
        refine V_bipush C 40 (dt_at dt_X12_hasOpen_0 14 rfl) (by decide) ?_
        refine V_icmp_ne C 31 (dt_at dt_X12_hasOpen_0 15 rfl) (by decide) (fun q5 => ?_) (fun q5 => ?_)
        · have h := ite_f q5 h
          refine V_iconst C 0 (dt_at dt_X12_hasOpen_0 18 rfl) (by decide) ?_
          refine V_sub [0, 2] (lv' := [(0, .ref (ga G 6)), (2, .int x2)]) rfl ?_
          exact J_32 x2 0 h
        · have h := ite_t q5 h
          refine V_sub [0, 2] (lv' := [(0, .ref (ga G 6)), (2, .int x2)]) rfl ?_
          exact J_27 x2 h
  refine V_iconst C 0 (dt_at dt_X12_hasOpen_0 0 rfl) (by decide) ?_
  refine V_istore_n C [1, 0] (lv' := [(0, .ref (ga G 6)), (1, .int 0)]) (dt_at dt_X12_hasOpen_0 1 rfl) rfl (by decide) rfl ?_
  refine V_iconst C 0 (dt_at dt_X12_hasOpen_0 2 rfl) (by decide) ?_
  refine V_istore_n C [1, 2, 0] (lv' := [(0, .ref (ga G 6)), (1, .int 0), (2, .int 0)]) (dt_at dt_X12_hasOpen_0 3 rfl) rfl (by decide) rfl ?_
  exact J_4 0 0 h
theorem cv_X12_hasOpen (C : Ck X G cc own nL d) {idx : Nat} (hlk : Cond.methodLink own idx yX12_hasOpen ∈ gtb) {r0 : Int32} (e : f_X12_hasOpen σ = some r0) (hdd : 2 ≤ d) (hroom : (rest.map fun v => v.category).sum ≤ 8) (hcs : cells ≤ (xR X).cells ∧ slots ≤ (xR X).slots) (hd : decode cc pc = .ok (.invokevirtual idx, 3)) (k : V X G nL cells slots σ (pc + 3) lv (.int r0 :: rest)) : V X G nL cells slots σ pc lv (.ref (ga G 6) :: rest) := V_callV C (As := []) (c_X12_hasOpen X.2.1 G  σ r0 e) cal_X12_hasOpen ww_710 ww_711 hlk rfl hdd (lt110 rfl) rfl rfl rfl hroom hcs hd k
theorem dt_X12_whyNot_0 : dtab cX12_whyNot [(0, .aload_n 0, 1), (1, .iload_n 1, 1), (2, .invokevirtual 131, 3), (5, .ifCond .ne 5, 3), (8, .iconst 1, 1), (9, .ireturn, 1), (10, .aload_n 0, 1), (11, .iload_n 1, 1), (12, .iconst 1, 1), (13, .invokevirtual 99, 3), (16, .i2l, 1), (17, .iload_n 2, 1), (18, .i2l, 1), (19, .ladd, 1), (20, .lstore_n 3, 1), (21, .aload_n 0, 1), (22, .iload_n 1, 1), (23, .iconst 2, 1), (24, .invokevirtual 99, 3), (27, .i2l, 1), (28, .iload_n 2, 1), (29, .i2l, 1), (30, .ladd, 1), (31, .lstore 5, 2), (33, .lload_n 3, 1), (34, .lconst 0, 1), (35, .lcmp, 1), (36, .ifCond .lt 16, 3), (39, .lload 5, 2), (41, .aload_n 0, 1), (42, .getfield 7, 3), (45, .iconst 0, 1), (46, .iaload, 1), (47, .i2l, 1), (48, .lcmp, 1), (49, .ifCond .lt 5, 3), (52, .iconst 1, 1), (53, .ireturn, 1), (54, .aload_n 0, 1), (55, .aload_n 0, 1)] = true := by decide +kernel
theorem dt_X12_whyNot_1 : dtab cX12_whyNot [(56, .iload_n 1, 1), (57, .iconst 0, 1), (58, .invokevirtual 99, 3), (61, .lload_n 3, 1), (62, .l2i, 1), (63, .lload 5, 2), (65, .l2i, 1), (66, .iload_n 1, 1), (67, .invokevirtual 127, 3), (70, .ifCond .eq 7, 3), (73, .iconst 3, 1), (74, .goto 4, 3), (77, .iconst 0, 1), (78, .ireturn, 1)] = true := by decide +kernel
theorem cal_X12_whyNot : Cal yX12_whyNot cX12_whyNot 7 (some .int) 2 := ⟨ww_712, ww_429, ⟨by decide, by decide, by decide⟩, by decide⟩
set_option maxHeartbeats 4000000 in
set_option maxRecDepth 100000 in
theorem c_X12_whyNot (l : Launch) (G : Gx) (x1 : Int32) (x2 : Int32) (σ : St) (r0 : Int32) (h : f_X12_whyNot x1 x2 σ = some r0) : MI l G yX12_whyNot cX12_whyNot 7 (some .int) 3 [.ref (ga G 6), .int x1, .int x2] σ (some (.int r0)) σ := by
  refine MI_of RX12 rfl (by decide) [(0, .ref (ga G 6)), (1, .int x1), (2, .int x2)] rfl (Nat.le_of_ble_eq_true rfl) ?_
  intro X hXl C hR
  unfold f_X12_whyNot at h
  refine V_aload_n C (dt_at dt_X12_whyNot_0 0 rfl) 0 rfl rfl ?_
  refine V_iload_n C (dt_at dt_X12_whyNot_0 1 rfl) 1 rfl rfl ?_
  obtain ⟨r1, e2, h⟩ := bd_s h
  refine cv_X12_isEntry C ww_684 x1 e2 (Nat.le_of_ble_eq_true rfl) (Nat.le_of_ble_eq_true rfl) z0 (dt_at dt_X12_whyNot_0 2 rfl) ?_
  refine V_if_ne C 10 (dt_at dt_X12_whyNot_0 3 rfl) (by decide) (fun q4 => ?_) (fun q4 => ?_)
  · have h := ite_f q4 h
    refine V_aload_n C (dt_at dt_X12_whyNot_0 6 rfl) 0 rfl rfl ?_
    refine V_iload_n C (dt_at dt_X12_whyNot_0 7 rfl) 1 rfl rfl ?_
    refine V_iconst C 1 (dt_at dt_X12_whyNot_0 8 rfl) (by decide) ?_
    obtain ⟨r5, e6, h⟩ := bd_s h
    refine cv_X12_entryOf C ww_455 x1 1 e6 (Nat.le_of_ble_eq_true rfl) (Nat.le_of_ble_eq_true rfl) z0 (dt_at dt_X12_whyNot_0 9 rfl) ?_
    refine V_i2l C (dt_at dt_X12_whyNot_0 10 rfl) ?_
    refine V_iload_n C (dt_at dt_X12_whyNot_0 11 rfl) 2 rfl rfl ?_
    refine V_i2l C (dt_at dt_X12_whyNot_0 12 rfl) ?_
    refine V_ladd C (dt_at dt_X12_whyNot_0 13 rfl) ?_
    refine V_lstore_n C [1, 2, 3, 0] (lv' := [(0, .ref (ga G 6)), (1, .int x1), (2, .int x2), (3, .long (r5.toInt64 + x2.toInt64))]) (dt_at dt_X12_whyNot_0 14 rfl) rfl (by decide) rfl ?_
    refine V_aload_n C (dt_at dt_X12_whyNot_0 15 rfl) 0 rfl rfl ?_
    refine V_iload_n C (dt_at dt_X12_whyNot_0 16 rfl) 1 rfl rfl ?_
    refine V_iconst C 2 (dt_at dt_X12_whyNot_0 17 rfl) (by decide) ?_
    obtain ⟨r8, e9, h⟩ := bd_s h
    refine cv_X12_entryOf C ww_455 x1 2 e9 (Nat.le_of_ble_eq_true rfl) (Nat.le_of_ble_eq_true rfl) z0 (dt_at dt_X12_whyNot_0 18 rfl) ?_
    refine V_i2l C (dt_at dt_X12_whyNot_0 19 rfl) ?_
    refine V_iload_n C (dt_at dt_X12_whyNot_0 20 rfl) 2 rfl rfl ?_
    refine V_i2l C (dt_at dt_X12_whyNot_0 21 rfl) ?_
    refine V_ladd C (dt_at dt_X12_whyNot_0 22 rfl) ?_
    refine V_lstore C [1, 2, 3, 4, 0] (lv' := [(0, .ref (ga G 6)), (1, .int x1), (2, .int x2), (3, .long (r5.toInt64 + x2.toInt64)), (5, .long (r8.toInt64 + x2.toInt64))]) (dt_at dt_X12_whyNot_0 23 rfl) (by decide) rfl ?_
    refine V_lload_n C (dt_at dt_X12_whyNot_0 24 rfl) 3 rfl rfl ?_
    refine V_lconst C 0 (dt_at dt_X12_whyNot_0 25 rfl) (by decide) ?_
    refine V_lcmp C (dt_at dt_X12_whyNot_0 26 rfl) ?_
    refine V_if_lt C 52 (dt_at dt_X12_whyNot_0 27 rfl) (by decide) (fun q11 => ?_) (fun q11 => ?_)
    · have h := ite_t q11 h
      refine V_iconst C 1 (dt_at dt_X12_whyNot_0 36 rfl) (by decide) ?_
      have e1_ := Option.some.inj h
      subst e1_
      exact V_iret C hR (dt_at dt_X12_whyNot_0 37 rfl)
    · have h := ite_f q11 h
      refine V_lload C (dt_at dt_X12_whyNot_0 28 rfl) 4 rfl ?_
      refine V_aload_n C (dt_at dt_X12_whyNot_0 29 rfl) 0 rfl rfl ?_
      refine g_X12_7_6 C (dt_at dt_X12_whyNot_0 30 rfl) ?_
      refine V_iconst C 0 (dt_at dt_X12_whyNot_0 31 rfl) (by decide) ?_
      obtain ⟨h12, h⟩ := chk_s h
      refine al_84 C h12 (dt_at dt_X12_whyNot_0 32 rfl) ?_
      refine V_i2l C (dt_at dt_X12_whyNot_0 33 rfl) ?_
      refine V_lcmp C (dt_at dt_X12_whyNot_0 34 rfl) ?_
      refine V_if_lt C 54 (dt_at dt_X12_whyNot_0 35 rfl) (by decide) (fun q13 => ?_) (fun q13 => ?_)
      · have h := ite_t q13 h
        refine V_aload_n C (dt_at dt_X12_whyNot_0 38 rfl) 0 rfl rfl ?_
        refine V_aload_n C (dt_at dt_X12_whyNot_0 39 rfl) 0 rfl rfl ?_
        refine V_iload_n C (dt_at dt_X12_whyNot_1 0 rfl) 1 rfl rfl ?_
        refine V_iconst C 0 (dt_at dt_X12_whyNot_1 1 rfl) (by decide) ?_
        obtain ⟨r14, e15, h⟩ := bd_s h
        refine cv_X12_entryOf C ww_455 x1 0 e15 (Nat.le_of_ble_eq_true rfl) (Nat.le_of_ble_eq_true rfl) z0 (dt_at dt_X12_whyNot_1 2 rfl) ?_
        refine V_lload_n C (dt_at dt_X12_whyNot_1 3 rfl) 3 rfl rfl ?_
        refine V_l2i C (dt_at dt_X12_whyNot_1 4 rfl) ?_
        refine V_lload C (dt_at dt_X12_whyNot_1 5 rfl) 4 rfl ?_
        refine V_l2i C (dt_at dt_X12_whyNot_1 6 rfl) ?_
        refine V_iload_n C (dt_at dt_X12_whyNot_1 7 rfl) 1 rfl rfl ?_
        obtain ⟨r17, e18, h⟩ := bd_s h
        refine cv_X12_isOn C ww_627 r14 ((r5.toInt64 + x2.toInt64).toInt32) ((r8.toInt64 + x2.toInt64).toInt32) x1 e18 (Nat.le_of_ble_eq_true rfl) (Nat.le_of_ble_eq_true rfl) z0 (dt_at dt_X12_whyNot_1 8 rfl) ?_
        refine V_if_eq C 77 (dt_at dt_X12_whyNot_1 9 rfl) (by decide) (fun q20 => ?_) (fun q20 => ?_)
        · have h := ite_t q20 h
          refine V_iconst C 0 (dt_at dt_X12_whyNot_1 12 rfl) (by decide) ?_
          have e1_ := Option.some.inj h
          subst e1_
          exact V_iret C hR (dt_at dt_X12_whyNot_1 13 rfl)
        · have h := ite_f q20 h
          refine V_iconst C 3 (dt_at dt_X12_whyNot_1 10 rfl) (by decide) ?_
          refine V_goto C 78 (dt_at dt_X12_whyNot_1 11 rfl) (by decide) ?_
          have e1_ := Option.some.inj h
          subst e1_
          exact V_iret C hR (dt_at dt_X12_whyNot_1 13 rfl)
      · have h := ite_f q13 h
        refine V_iconst C 1 (dt_at dt_X12_whyNot_0 36 rfl) (by decide) ?_
        have e1_ := Option.some.inj h
        subst e1_
        exact V_iret C hR (dt_at dt_X12_whyNot_0 37 rfl)
  · have h := ite_t q4 h
    refine V_iconst C 1 (dt_at dt_X12_whyNot_0 4 rfl) (by decide) ?_
    have e1_ := Option.some.inj h
    subst e1_
    exact V_iret C hR (dt_at dt_X12_whyNot_0 5 rfl)
theorem cv_X12_whyNot (C : Ck X G cc own nL d) {idx : Nat} (hlk : Cond.methodLink own idx yX12_whyNot ∈ gtb) (x1 : Int32) (x2 : Int32) {r0 : Int32} (e : f_X12_whyNot x1 x2 σ = some r0) (hdd : 4 ≤ d) (hroom : (rest.map fun v => v.category).sum ≤ 8) (hcs : cells ≤ (xR X).cells ∧ slots ≤ (xR X).slots) (hd : decode cc pc = .ok (.invokevirtual idx, 3)) (k : V X G nL cells slots σ (pc + 3) lv (.int r0 :: rest)) : V X G nL cells slots σ pc lv (.int x2 :: .int x1 :: .ref (ga G 6) :: rest) := V_callV C (As := [.int x1, .int x2]) (c_X12_whyNot X.2.1 G x1 x2 σ r0 e) cal_X12_whyNot ww_713 ww_714 hlk rfl hdd (lt110 rfl) rfl rfl rfl hroom hcs hd k
theorem dt_X12_moves_0 : dtab cX12_moves [(0, .aload_n 0, 1), (1, .getfield 7, 3), (4, .bipush 60, 2), (6, .iconst 4, 1), (7, .iload_n 1, 1), (8, .imul, 1), (9, .iadd, 1), (10, .iconst 1, 1), (11, .iadd, 1), (12, .dup2, 1), (13, .iaload, 1), (14, .iload_n 2, 1), (15, .iadd, 1), (16, .iastore, 1), (17, .aload_n 0, 1), (18, .getfield 7, 3), (21, .bipush 60, 2), (23, .iconst 4, 1), (24, .iload_n 1, 1), (25, .imul, 1), (26, .iadd, 1), (27, .iconst 2, 1), (28, .iadd, 1), (29, .dup2, 1), (30, .iaload, 1), (31, .iload_n 2, 1), (32, .iadd, 1), (33, .iastore, 1), (34, .aload_n 0, 1), (35, .iconst 0, 1), (36, .putfield 106, 3), (39, .return_, 1)] = true := by decide +kernel
theorem cal_X12_moves : Cal yX12_moves cX12_moves 3 none 2 := ⟨ww_715, ww_429, ⟨by decide, by decide, by decide⟩, by decide⟩
set_option maxHeartbeats 4000000 in
set_option maxRecDepth 100000 in
theorem c_X12_moves (l : Launch) (G : Gx) (x1 : Int32) (x2 : Int32) (σ : St) (σ0 : St) (h : f_X12_moves x1 x2 σ = some σ0) : MI l G yX12_moves cX12_moves 3 none 1 [.ref (ga G 6), .int x1, .int x2] σ none σ0 := by
  refine MI_of RX12 rfl (by decide) [(0, .ref (ga G 6)), (1, .int x1), (2, .int x2)] rfl (Nat.le_of_ble_eq_true rfl) ?_
  intro X hXl C hR
  unfold f_X12_moves at h
  refine V_aload_n C (dt_at dt_X12_moves_0 0 rfl) 0 rfl rfl ?_
  refine g_X12_7_6 C (dt_at dt_X12_moves_0 1 rfl) ?_
  refine V_bipush C 60 (dt_at dt_X12_moves_0 2 rfl) (by decide) ?_
  refine V_iconst C 4 (dt_at dt_X12_moves_0 3 rfl) (by decide) ?_
  refine V_iload_n C (dt_at dt_X12_moves_0 4 rfl) 1 rfl rfl ?_
  refine V_imul C (dt_at dt_X12_moves_0 5 rfl) ?_
  refine V_iadd C (dt_at dt_X12_moves_0 6 rfl) ?_
  refine V_iconst C 1 (dt_at dt_X12_moves_0 7 rfl) (by decide) ?_
  refine V_iadd C (dt_at dt_X12_moves_0 8 rfl) ?_
  refine V_dup2 C (dt_at dt_X12_moves_0 9 rfl) rfl rfl ?_
  obtain ⟨h1, h⟩ := chk_s h
  refine al_84 C h1 (dt_at dt_X12_moves_0 10 rfl) ?_
  refine V_iload_n C (dt_at dt_X12_moves_0 11 rfl) 2 rfl rfl ?_
  refine V_iadd C (dt_at dt_X12_moves_0 12 rfl) ?_
  obtain ⟨σ2, eσ2, h⟩ := nm_s h
  refine V_st eσ2 ?_ (fun k => as_84 C h1 (dt_at dt_X12_moves_0 13 rfl) k)
  refine V_aload_n C (dt_at dt_X12_moves_0 14 rfl) 0 rfl rfl ?_
  refine g_X12_7_6 C (dt_at dt_X12_moves_0 15 rfl) ?_
  refine V_bipush C 60 (dt_at dt_X12_moves_0 16 rfl) (by decide) ?_
  refine V_iconst C 4 (dt_at dt_X12_moves_0 17 rfl) (by decide) ?_
  refine V_iload_n C (dt_at dt_X12_moves_0 18 rfl) 1 rfl rfl ?_
  refine V_imul C (dt_at dt_X12_moves_0 19 rfl) ?_
  refine V_iadd C (dt_at dt_X12_moves_0 20 rfl) ?_
  refine V_iconst C 2 (dt_at dt_X12_moves_0 21 rfl) (by decide) ?_
  refine V_iadd C (dt_at dt_X12_moves_0 22 rfl) ?_
  refine V_dup2 C (dt_at dt_X12_moves_0 23 rfl) rfl rfl ?_
  obtain ⟨h3, h⟩ := chk_s h
  refine al_84 C h3 (dt_at dt_X12_moves_0 24 rfl) ?_
  refine V_iload_n C (dt_at dt_X12_moves_0 25 rfl) 2 rfl rfl ?_
  refine V_iadd C (dt_at dt_X12_moves_0 26 rfl) ?_
  obtain ⟨σ4, eσ4, h⟩ := nm_s h
  refine V_st eσ4 ?_ (fun k => as_84 C h3 (dt_at dt_X12_moves_0 27 rfl) k)
  refine V_aload_n C (dt_at dt_X12_moves_0 28 rfl) 0 rfl rfl ?_
  refine V_iconst C 0 (dt_at dt_X12_moves_0 29 rfl) (by decide) ?_
  obtain ⟨σ5, eσ5, h⟩ := nm_s h
  refine V_st eσ5 ?_ (fun k => p_X12_106_6 C rfl rfl (dt_at dt_X12_moves_0 30 rfl) k)
  have e1_ := Option.some.inj h
  subst e1_
  exact V_vret C hR (dt_at dt_X12_moves_0 31 rfl)
theorem cv_X12_moves (C : Ck X G cc own nL d) {idx : Nat} (hlk : Cond.methodLink own idx yX12_moves ∈ gtb) (x1 : Int32) (x2 : Int32) {σ0 : St} (e : f_X12_moves x1 x2 σ = some σ0) (hdd : 2 ≤ d) (hroom : (rest.map fun v => v.category).sum ≤ 8) (hcs : cells ≤ (xR X).cells ∧ slots ≤ (xR X).slots) (hd : decode cc pc = .ok (.invokevirtual idx, 3)) (k : V X G nL cells slots σ0 (pc + 3) lv (rest)) : V X G nL cells slots σ pc lv (.int x2 :: .int x1 :: .ref (ga G 6) :: rest) := V_callV C (As := [.int x1, .int x2]) (c_X12_moves X.2.1 G x1 x2 σ σ0 e) cal_X12_moves ww_716 ww_717 hlk rfl hdd (lt110 rfl) rfl rfl rfl hroom hcs hd k
theorem dt_X12_helps_0 : dtab cX12_helps [(0, .aload_n 0, 1), (1, .iload_n 1, 1), (2, .iload_n 2, 1), (3, .invokevirtual 134, 3), (6, .istore_n 3, 1), (7, .iload_n 3, 1), (8, .ifCond .eq 9, 3), (11, .aload_n 0, 1), (12, .iload_n 3, 1), (13, .invokevirtual 95, 3), (16, .ireturn, 1), (17, .aload_n 0, 1), (18, .iload_n 1, 1), (19, .iload_n 2, 1), (20, .invokevirtual 137, 3), (23, .aload_n 0, 1), (24, .aload_n 0, 1), (25, .invokevirtual 249, 3), (28, .invokevirtual 252, 3), (31, .istore 4, 2), (33, .aload_n 0, 1), (34, .iload_n 1, 1), (35, .iload_n 2, 1), (36, .ineg, 1), (37, .invokevirtual 137, 3), (40, .iload 4, 2), (42, .ireturn, 1)] = true := by decide +kernel
theorem cal_X12_helps : Cal yX12_helps cX12_helps 5 (some .int) 2 := ⟨ww_720, ww_429, ⟨by decide, by decide, by decide⟩, by decide⟩
set_option maxHeartbeats 4000000 in
set_option maxRecDepth 100000 in
theorem c_X12_helps (l : Launch) (G : Gx) (x1 : Int32) (x2 : Int32) (σ : St) (r0 : Int32) (σ0 : St) (h : f_X12_helps x1 x2 σ = some (r0, σ0)) : MI l G yX12_helps cX12_helps 5 (some .int) 8 [.ref (ga G 6), .int x1, .int x2] σ (some (.int r0)) σ0 := by
  refine MI_of RX12 rfl (by decide) [(0, .ref (ga G 6)), (1, .int x1), (2, .int x2)] rfl (Nat.le_of_ble_eq_true rfl) ?_
  intro X hXl C hR
  unfold f_X12_helps at h
  refine V_aload_n C (dt_at dt_X12_helps_0 0 rfl) 0 rfl rfl ?_
  refine V_iload_n C (dt_at dt_X12_helps_0 1 rfl) 1 rfl rfl ?_
  refine V_iload_n C (dt_at dt_X12_helps_0 2 rfl) 2 rfl rfl ?_
  obtain ⟨r1, e2, h⟩ := bd_s h
  refine cv_X12_whyNot C ww_718 x1 x2 e2 (Nat.le_of_ble_eq_true rfl) (Nat.le_of_ble_eq_true rfl) z0 (dt_at dt_X12_helps_0 3 rfl) ?_
  refine V_istore_n C [1, 2, 3, 0] (lv' := [(0, .ref (ga G 6)), (1, .int x1), (2, .int x2), (3, .int r1)]) (dt_at dt_X12_helps_0 4 rfl) rfl (by decide) rfl ?_
  refine V_iload_n C (dt_at dt_X12_helps_0 5 rfl) 3 rfl rfl ?_
  refine V_if_eq C 17 (dt_at dt_X12_helps_0 6 rfl) (by decide) (fun q4 => ?_) (fun q4 => ?_)
  · have h := ite_t q4 h
    refine V_aload_n C (dt_at dt_X12_helps_0 11 rfl) 0 rfl rfl ?_
    refine V_iload_n C (dt_at dt_X12_helps_0 12 rfl) 1 rfl rfl ?_
    refine V_iload_n C (dt_at dt_X12_helps_0 13 rfl) 2 rfl rfl ?_
    obtain ⟨σ7, e6, h⟩ := bd_s h
    refine cv_X12_moves C ww_719 x1 x2 e6 (Nat.le_of_ble_eq_true rfl) (Nat.le_of_ble_eq_true rfl) z0 (dt_at dt_X12_helps_0 14 rfl) ?_
    refine V_aload_n C (dt_at dt_X12_helps_0 15 rfl) 0 rfl rfl ?_
    refine V_aload_n C (dt_at dt_X12_helps_0 16 rfl) 0 rfl rfl ?_
    obtain ⟨r8, e9, h⟩ := bd_s h
    refine cv_X12_allParts C ww_527  e9 (Nat.le_of_ble_eq_true rfl) (Nat.le_of_ble_eq_true rfl) z0 (dt_at dt_X12_helps_0 17 rfl) ?_
    obtain ⟨r11, σ13, e12, h⟩ := bd2_s h
    refine cv_X12_fewestOf C ww_702 r8 e12 (Nat.le_of_ble_eq_true rfl) (Nat.le_of_ble_eq_true rfl) z0 (dt_at dt_X12_helps_0 18 rfl) ?_
    refine V_istore C [1, 2, 3, 4, 0] (lv' := [(0, .ref (ga G 6)), (1, .int x1), (2, .int x2), (3, .int r1), (4, .int r11)]) (dt_at dt_X12_helps_0 19 rfl) (by decide) rfl ?_
    refine V_aload_n C (dt_at dt_X12_helps_0 20 rfl) 0 rfl rfl ?_
    refine V_iload_n C (dt_at dt_X12_helps_0 21 rfl) 1 rfl rfl ?_
    refine V_iload_n C (dt_at dt_X12_helps_0 22 rfl) 2 rfl rfl ?_
    refine V_ineg C (dt_at dt_X12_helps_0 23 rfl) ?_
    obtain ⟨σ16, e15, h⟩ := bd_s h
    refine cv_X12_moves C ww_719 x1 (-x2) e15 (Nat.le_of_ble_eq_true rfl) (Nat.le_of_ble_eq_true rfl) z0 (dt_at dt_X12_helps_0 24 rfl) ?_
    refine V_iload C (dt_at dt_X12_helps_0 25 rfl) 4 rfl ?_
    obtain ⟨e1_, e2_⟩ := pin2 h
    subst e1_; subst e2_
    exact V_iret C hR (dt_at dt_X12_helps_0 26 rfl)
  · have h := ite_f q4 h
    refine V_aload_n C (dt_at dt_X12_helps_0 7 rfl) 0 rfl rfl ?_
    refine V_iload_n C (dt_at dt_X12_helps_0 8 rfl) 3 rfl rfl ?_
    obtain ⟨r17, σ19, e18, h⟩ := bd2_s h
    refine cv_X12_finds C ww_462 r1 e18 (Nat.le_of_ble_eq_true rfl) (Nat.le_of_ble_eq_true rfl) z0 (dt_at dt_X12_helps_0 9 rfl) ?_
    obtain ⟨e1_, e2_⟩ := pin2 h
    subst e1_; subst e2_
    exact V_iret C hR (dt_at dt_X12_helps_0 10 rfl)
theorem cv_X12_helps (C : Ck X G cc own nL d) {idx : Nat} (hlk : Cond.methodLink own idx yX12_helps ∈ gtb) (x1 : Int32) (x2 : Int32) {r0 : Int32} {σ0 : St} (e : f_X12_helps x1 x2 σ = some (r0, σ0)) (hdd : 9 ≤ d) (hroom : (rest.map fun v => v.category).sum ≤ 8) (hcs : cells ≤ (xR X).cells ∧ slots ≤ (xR X).slots) (hd : decode cc pc = .ok (.invokevirtual idx, 3)) (k : V X G nL cells slots σ0 (pc + 3) lv (.int r0 :: rest)) : V X G nL cells slots σ pc lv (.int x2 :: .int x1 :: .ref (ga G 6) :: rest) := V_callV C (As := [.int x1, .int x2]) (c_X12_helps X.2.1 G x1 x2 σ r0 σ0 e) cal_X12_helps ww_721 ww_722 hlk rfl hdd (lt110 rfl) rfl rfl rfl hroom hcs hd k
theorem dt_X12_image_0 : dtab cX12_image [(0, .iconst 0, 1), (1, .istore_n 1, 1), (2, .iload_n 1, 1), (3, .sipush 466, 3), (6, .if_icmp .ge 21, 3), (9, .aload_n 0, 1), (10, .getfield 13, 3), (13, .iload_n 1, 1), (14, .aload_n 0, 1), (15, .getfield 7, 3), (18, .iload_n 1, 1), (19, .iaload, 1), (20, .iastore, 1), (21, .iinc 1 1, 3), (24, .goto (-22), 3), (27, .aload_n 0, 1), (28, .dup, 1), (29, .getfield 329, 3), (32, .iconst 1, 1), (33, .iadd, 1), (34, .putfield 329, 3), (37, .aload_n 0, 1), (38, .getfield 329, 3), (41, .ireturn, 1)] = true := by decide +kernel
theorem cal_X12_image : Cal yX12_image cX12_image 2 (some .int) 0 := ⟨ww_725, ww_429, ⟨by decide, by decide, by decide⟩, by decide⟩
set_option maxHeartbeats 4000000 in
set_option maxRecDepth 100000 in
theorem c_X12_image (l : Launch) (G : Gx) (σ : St) (r0 : Int32) (σ0 : St) (h : f_X12_image σ = some (r0, σ0)) : MI l G yX12_image cX12_image 2 (some .int) 1 [.ref (ga G 6)] σ (some (.int r0)) σ0 := by
  refine MI_of RX12 rfl (by decide) [(0, .ref (ga G 6))] rfl (Nat.le_of_ble_eq_true rfl) ?_
  intro X hXl C hR
  unfold f_X12_image at h
  have J_27 : ∀ (σ : St), f_X12_image_27 σ = some (r0, σ0) → V X G 2 0 0 σ 27 [(0, .ref (ga G 6))] [] := by
    intro σ h
    unfold f_X12_image_27 at h
    refine V_aload_n C (dt_at dt_X12_image_0 15 rfl) 0 rfl rfl ?_
    refine V_dup C (dt_at dt_X12_image_0 16 rfl) rfl ?_
    refine g_X12_329_6 C (dt_at dt_X12_image_0 17 rfl) ?_
    refine V_iconst C 1 (dt_at dt_X12_image_0 18 rfl) (by decide) ?_
    refine V_iadd C (dt_at dt_X12_image_0 19 rfl) ?_
    obtain ⟨σ5, eσ5, h⟩ := nm_s h
    refine V_st eσ5 ?_ (fun k => p_X12_329_6 C (dt_at dt_X12_image_0 20 rfl) k)
    refine V_aload_n C (dt_at dt_X12_image_0 21 rfl) 0 rfl rfl ?_
    refine g_X12_329_6 C (dt_at dt_X12_image_0 22 rfl) ?_
    obtain ⟨e1_, e2_⟩ := pin2 h
    subst e1_; subst e2_
    exact V_iret C hR (dt_at dt_X12_image_0 23 rfl)
  have J_2 : ∀ (x1 : Int32) (σ : St), f_X12_image_2 x1 σ = some (r0, σ0) → V X G 2 0 0 σ 2 [(0, .ref (ga G 6)), (1, .int x1)] [] := by
    intro x1 σ h
    refine it_v (P := fun z : Int32 × St => V X G 2 0 0 z.2 2 [(0, .ref (ga G 6)), (1, .int z.1)] []) ?_ (x1, σ) h
    clear h
    intro z w_2 h ih_2 ex_2
    obtain ⟨x1, σ⟩ := z
    have h : b_X12_image_2 x1 σ = some w_2 := h
    show V X G 2 0 0 σ 2 [(0, .ref (ga G 6)), (1, .int x1)] []
    unfold b_X12_image_2 at h
    refine V_iload_n C (dt_at dt_X12_image_0 2 rfl) 1 rfl rfl ?_
    refine V_sipush C 466 (dt_at dt_X12_image_0 3 rfl) (by decide) ?_
    refine V_icmp_ge C 27 (dt_at dt_X12_image_0 4 rfl) (by decide) (fun q1 => ?_) (fun q1 => ?_)
    · have h := ite_f q1 h
      refine V_sub [0] (lv' := [(0, .ref (ga G 6))]) rfl ?_
      obtain ⟨t2, h, e_2⟩ := map_s h
      have e_2 := ex_2 _ e_2
      rw [e_2] at h
      exact J_27 σ h
    · have h := ite_t q1 h
      refine V_aload_n C (dt_at dt_X12_image_0 5 rfl) 0 rfl rfl ?_
      refine g_X12_13_6 C (dt_at dt_X12_image_0 6 rfl) ?_
      refine V_iload_n C (dt_at dt_X12_image_0 7 rfl) 1 rfl rfl ?_
      refine V_aload_n C (dt_at dt_X12_image_0 8 rfl) 0 rfl rfl ?_
      refine g_X12_7_6 C (dt_at dt_X12_image_0 9 rfl) ?_
      refine V_iload_n C (dt_at dt_X12_image_0 10 rfl) 1 rfl rfl ?_
      obtain ⟨h3, h⟩ := chk_s h
      refine al_84 C h3 (dt_at dt_X12_image_0 11 rfl) ?_
      obtain ⟨σ4, eσ4, h⟩ := nm_s h
      refine V_st eσ4 ?_ (fun k => as_85 C h3 (dt_at dt_X12_image_0 12 rfl) k)
      refine V_iinc C (x1 + 1) 1 [1, 0] (lv' := [(0, .ref (ga G 6)), (1, .int (x1 + 1))]) (dt_at dt_X12_image_0 13 rfl) rfl (by rfl) (by decide) rfl ?_
      refine V_goto C 2 (dt_at dt_X12_image_0 14 rfl) (by decide) ?_
      exact ih_2 ((x1 + 1), σ4) (Option.some.inj h).symm
  refine V_iconst C 0 (dt_at dt_X12_image_0 0 rfl) (by decide) ?_
  refine V_istore_n C [1, 0] (lv' := [(0, .ref (ga G 6)), (1, .int 0)]) (dt_at dt_X12_image_0 1 rfl) rfl (by decide) rfl ?_
  exact J_2 0 σ h
theorem cv_X12_image (C : Ck X G cc own nL d) {idx : Nat} (hlk : Cond.methodLink own idx yX12_image ∈ gtb) {r0 : Int32} {σ0 : St} (e : f_X12_image σ = some (r0, σ0)) (hdd : 2 ≤ d) (hroom : (rest.map fun v => v.category).sum ≤ 8) (hcs : cells ≤ (xR X).cells ∧ slots ≤ (xR X).slots) (hd : decode cc pc = .ok (.invokevirtual idx, 3)) (k : V X G nL cells slots σ0 (pc + 3) lv (.int r0 :: rest)) : V X G nL cells slots σ pc lv (.ref (ga G 6) :: rest) := V_callV C (As := []) (c_X12_image X.2.1 G  σ r0 σ0 e) cal_X12_image ww_726 ww_727 hlk rfl hdd (lt110 rfl) rfl rfl rfl hroom hcs hd k
theorem dt_X12_isDigit_0 : dtab cX12_isDigit [(0, .iload_n 0, 1), (1, .bipush 48, 2), (3, .bipush 57, 2), (5, .invokestatic 91, 3), (8, .ireturn, 1)] = true := by decide +kernel
theorem cal_X12_isDigit : Cal yX12_isDigit cX12_isDigit 1 (some .boolean) 1 := ⟨ww_728, ww_429, ⟨by decide, by decide, by decide⟩, by decide⟩
set_option maxHeartbeats 4000000 in
set_option maxRecDepth 100000 in
theorem c_X12_isDigit (l : Launch) (G : Gx) (x0 : Int32) (σ : St) (r0 : Int32) (h : f_X12_isDigit x0 = some r0) : MI l G yX12_isDigit cX12_isDigit 1 (some .boolean) 2 [.int x0] σ (some (.int r0)) σ := by
  refine MI_of RX12 rfl (by decide) [(0, .int x0)] rfl (Nat.le_of_ble_eq_true rfl) ?_
  intro X hXl C hR
  unfold f_X12_isDigit at h
  refine V_iload_n C (dt_at dt_X12_isDigit_0 0 rfl) 0 rfl rfl ?_
  refine V_bipush C 48 (dt_at dt_X12_isDigit_0 1 rfl) (by decide) ?_
  refine V_bipush C 57 (dt_at dt_X12_isDigit_0 2 rfl) (by decide) ?_
  obtain ⟨r1, e2, h⟩ := bd_s h
  refine cv_X12_in C ww_437 x0 48 57 e2 (Nat.le_of_ble_eq_true rfl) (Nat.le_of_ble_eq_true rfl) z0 (dt_at dt_X12_isDigit_0 3 rfl) ?_
  obtain ⟨h4, h⟩ := chk_s h
  have e1_ := Option.some.inj h
  subst e1_
  exact V_zret C (isB_n h4) hR (dt_at dt_X12_isDigit_0 4 rfl)
theorem cv_X12_isDigit (C : Ck X G cc own nL d) {idx : Nat} (hlk : Cond.methodLink own idx yX12_isDigit ∈ gtb) (x0 : Int32) {r0 : Int32} (e : f_X12_isDigit x0 = some r0) (hdd : 3 ≤ d) (hroom : (rest.map fun v => v.category).sum ≤ 8) (hcs : cells ≤ (xR X).cells ∧ slots ≤ (xR X).slots) (hd : decode cc pc = .ok (.invokestatic idx, 3)) (k : V X G nL cells slots σ (pc + 3) lv (.int r0 :: rest)) : V X G nL cells slots σ pc lv (.int x0 :: rest) := V_callS C (As := [.int x0]) (c_X12_isDigit X.2.1 G x0 σ r0 e) cal_X12_isDigit ww_729 hlk rfl hdd rfl hroom hcs hd k
theorem dt_X12_rankOf_0 : dtab cX12_rankOf [(0, .iload_n 0, 1), (1, .lookupswitch 101 #[(37, 99), (38, 93), (42, 99), (43, 97), (45, 97), (47, 99), (60, 95), (61, 95), (62, 95), (124, 91)], 91), (92, .iconst 1, 1), (93, .ireturn, 1), (94, .iconst 2, 1), (95, .ireturn, 1), (96, .iconst 3, 1), (97, .ireturn, 1), (98, .iconst 4, 1), (99, .ireturn, 1), (100, .iconst 5, 1), (101, .ireturn, 1), (102, .iconst 0, 1), (103, .ireturn, 1)] = true := by decide +kernel
theorem cal_X12_rankOf : Cal yX12_rankOf cX12_rankOf 1 (some .int) 1 := ⟨ww_730, ww_429, ⟨by decide, by decide, by decide⟩, by decide⟩
set_option maxHeartbeats 4000000 in
set_option maxRecDepth 100000 in
theorem c_X12_rankOf (l : Launch) (G : Gx) (x0 : Int32) (σ : St) (r0 : Int32) (h : f_X12_rankOf x0 = some r0) : MI l G yX12_rankOf cX12_rankOf 1 (some .int) 1 [.int x0] σ (some (.int r0)) σ := by
  refine MI_of RX12 rfl (by decide) [(0, .int x0)] rfl (Nat.le_of_ble_eq_true rfl) ?_
  intro X hXl C hR
  unfold f_X12_rankOf at h
  refine V_iload_n C (dt_at dt_X12_rankOf_0 0 rfl) 0 rfl rfl ?_
  by_cases q1 : x0 = 37
  · have h := ite_t q1 h
    refine V_lkp C 100 (dt_at dt_X12_rankOf_0 1 rfl) rfl (by rw [q1] <;> rfl) (by decide) ?_
    refine V_iconst C 5 (dt_at dt_X12_rankOf_0 10 rfl) (by decide) ?_
    have e1_ := Option.some.inj h
    subst e1_
    exact V_iret C hR (dt_at dt_X12_rankOf_0 11 rfl)
  replace h := ite_f q1 h
  by_cases q2 : x0 = 38
  · have h := ite_t q2 h
    refine V_lkp C 94 (dt_at dt_X12_rankOf_0 1 rfl) rfl (by rw [q2] <;> rfl) (by decide) ?_
    refine V_iconst C 2 (dt_at dt_X12_rankOf_0 4 rfl) (by decide) ?_
    have e1_ := Option.some.inj h
    subst e1_
    exact V_iret C hR (dt_at dt_X12_rankOf_0 5 rfl)
  replace h := ite_f q2 h
  by_cases q3 : x0 = 42
  · have h := ite_t q3 h
    refine V_lkp C 100 (dt_at dt_X12_rankOf_0 1 rfl) rfl (by rw [q3] <;> rfl) (by decide) ?_
    refine V_iconst C 5 (dt_at dt_X12_rankOf_0 10 rfl) (by decide) ?_
    have e1_ := Option.some.inj h
    subst e1_
    exact V_iret C hR (dt_at dt_X12_rankOf_0 11 rfl)
  replace h := ite_f q3 h
  by_cases q4 : x0 = 43
  · have h := ite_t q4 h
    refine V_lkp C 98 (dt_at dt_X12_rankOf_0 1 rfl) rfl (by rw [q4] <;> rfl) (by decide) ?_
    refine V_iconst C 4 (dt_at dt_X12_rankOf_0 8 rfl) (by decide) ?_
    have e1_ := Option.some.inj h
    subst e1_
    exact V_iret C hR (dt_at dt_X12_rankOf_0 9 rfl)
  replace h := ite_f q4 h
  by_cases q5 : x0 = 45
  · have h := ite_t q5 h
    refine V_lkp C 98 (dt_at dt_X12_rankOf_0 1 rfl) rfl (by rw [q5] <;> rfl) (by decide) ?_
    refine V_iconst C 4 (dt_at dt_X12_rankOf_0 8 rfl) (by decide) ?_
    have e1_ := Option.some.inj h
    subst e1_
    exact V_iret C hR (dt_at dt_X12_rankOf_0 9 rfl)
  replace h := ite_f q5 h
  by_cases q6 : x0 = 47
  · have h := ite_t q6 h
    refine V_lkp C 100 (dt_at dt_X12_rankOf_0 1 rfl) rfl (by rw [q6] <;> rfl) (by decide) ?_
    refine V_iconst C 5 (dt_at dt_X12_rankOf_0 10 rfl) (by decide) ?_
    have e1_ := Option.some.inj h
    subst e1_
    exact V_iret C hR (dt_at dt_X12_rankOf_0 11 rfl)
  replace h := ite_f q6 h
  by_cases q7 : x0 = 60
  · have h := ite_t q7 h
    refine V_lkp C 96 (dt_at dt_X12_rankOf_0 1 rfl) rfl (by rw [q7] <;> rfl) (by decide) ?_
    refine V_iconst C 3 (dt_at dt_X12_rankOf_0 6 rfl) (by decide) ?_
    have e1_ := Option.some.inj h
    subst e1_
    exact V_iret C hR (dt_at dt_X12_rankOf_0 7 rfl)
  replace h := ite_f q7 h
  by_cases q8 : x0 = 61
  · have h := ite_t q8 h
    refine V_lkp C 96 (dt_at dt_X12_rankOf_0 1 rfl) rfl (by rw [q8] <;> rfl) (by decide) ?_
    refine V_iconst C 3 (dt_at dt_X12_rankOf_0 6 rfl) (by decide) ?_
    have e1_ := Option.some.inj h
    subst e1_
    exact V_iret C hR (dt_at dt_X12_rankOf_0 7 rfl)
  replace h := ite_f q8 h
  by_cases q9 : x0 = 62
  · have h := ite_t q9 h
    refine V_lkp C 96 (dt_at dt_X12_rankOf_0 1 rfl) rfl (by rw [q9] <;> rfl) (by decide) ?_
    refine V_iconst C 3 (dt_at dt_X12_rankOf_0 6 rfl) (by decide) ?_
    have e1_ := Option.some.inj h
    subst e1_
    exact V_iret C hR (dt_at dt_X12_rankOf_0 7 rfl)
  replace h := ite_f q9 h
  by_cases q10 : x0 = 124
  · have h := ite_t q10 h
    refine V_lkp C 92 (dt_at dt_X12_rankOf_0 1 rfl) rfl (by rw [q10] <;> rfl) (by decide) ?_
    refine V_iconst C 1 (dt_at dt_X12_rankOf_0 2 rfl) (by decide) ?_
    have e1_ := Option.some.inj h
    subst e1_
    exact V_iret C hR (dt_at dt_X12_rankOf_0 3 rfl)
  replace h := ite_f q10 h
  refine V_lkp C (off := 101) 102 (dt_at dt_X12_rankOf_0 1 rfl) rfl ((lv_osw q1 (a := 37) rfl).trans ((lv_osw q2 (a := 38) rfl).trans ((lv_osw q3 (a := 42) rfl).trans ((lv_osw q4 (a := 43) rfl).trans ((lv_osw q5 (a := 45) rfl).trans ((lv_osw q6 (a := 47) rfl).trans ((lv_osw q7 (a := 60) rfl).trans ((lv_osw q8 (a := 61) rfl).trans ((lv_osw q9 (a := 62) rfl).trans ((lv_osw q10 (a := 124) rfl).trans (rfl))))))))))) (by decide) ?_
  refine V_iconst C 0 (dt_at dt_X12_rankOf_0 12 rfl) (by decide) ?_
  have e1_ := Option.some.inj h
  subst e1_
  exact V_iret C hR (dt_at dt_X12_rankOf_0 13 rfl)
theorem cv_X12_rankOf (C : Ck X G cc own nL d) {idx : Nat} (hlk : Cond.methodLink own idx yX12_rankOf ∈ gtb) (x0 : Int32) {r0 : Int32} (e : f_X12_rankOf x0 = some r0) (hdd : 2 ≤ d) (hroom : (rest.map fun v => v.category).sum ≤ 8) (hcs : cells ≤ (xR X).cells ∧ slots ≤ (xR X).slots) (hd : decode cc pc = .ok (.invokestatic idx, 3)) (k : V X G nL cells slots σ (pc + 3) lv (.int r0 :: rest)) : V X G nL cells slots σ pc lv (.int x0 :: rest) := V_callS C (As := [.int x0]) (c_X12_rankOf X.2.1 G x0 σ r0 e) cal_X12_rankOf ww_731 hlk rfl hdd rfl hroom hcs hd k
theorem dt_X12_isTested_0 : dtab cX12_isTested [(0, .aload_n 0, 1), (1, .getfield 176, 3), (4, .iconst 1, 1), (5, .isub, 1), (6, .istore_n 1, 1), (7, .iload_n 1, 1), (8, .ifCond .lt 22, 3), (11, .aload_n 0, 1), (12, .getfield 34, 3), (15, .iload_n 1, 1), (16, .iaload, 1), (17, .invokestatic 179, 3), (20, .iconst 3, 1), (21, .if_icmp .le 9, 3), (24, .iinc 1 (-1), 3), (27, .goto (-20), 3), (30, .iload_n 1, 1), (31, .ifCond .lt 20, 3), (34, .aload_n 0, 1), (35, .getfield 34, 3), (38, .iload_n 1, 1), (39, .iaload, 1), (40, .invokestatic 179, 3), (43, .iconst 3, 1), (44, .if_icmp .ne 7, 3), (47, .iconst 1, 1), (48, .goto 4, 3), (51, .iconst 0, 1), (52, .ireturn, 1)] = true := by decide +kernel
theorem cal_X12_isTested : Cal yX12_isTested cX12_isTested 2 (some .boolean) 0 := ⟨ww_733, ww_429, ⟨by decide, by decide, by decide⟩, by decide⟩
set_option maxHeartbeats 4000000 in
set_option maxRecDepth 100000 in
theorem c_X12_isTested (l : Launch) (G : Gx) (σ : St) (r0 : Int32) (h : f_X12_isTested σ = some r0) : MI l G yX12_isTested cX12_isTested 2 (some .boolean) 2 [.ref (ga G 6)] σ (some (.int r0)) σ := by
  refine MI_of RX12 rfl (by decide) [(0, .ref (ga G 6))] rfl (Nat.le_of_ble_eq_true rfl) ?_
  intro X hXl C hR
  unfold f_X12_isTested at h
  have J_30 : ∀ (x1 : Int32), f_X12_isTested_30 x1 σ = some r0 → V X G 2 0 0 σ 30 [(0, .ref (ga G 6)), (1, .int x1)] [] := by
    intro x1 h
    unfold f_X12_isTested_30 at h
    refine V_iload_n C (dt_at dt_X12_isTested_0 16 rfl) 1 rfl rfl ?_
    refine V_if_lt C 51 (dt_at dt_X12_isTested_0 17 rfl) (by decide) (fun q9 => ?_) (fun q9 => ?_)
    · have h := ite_t q9 h
      refine V_iconst C 0 (dt_at dt_X12_isTested_0 27 rfl) (by decide) ?_
      have e1_ := Option.some.inj h
      subst e1_
      exact V_zret C rfl hR (dt_at dt_X12_isTested_0 28 rfl)
    · have h := ite_f q9 h
      refine V_aload_n C (dt_at dt_X12_isTested_0 18 rfl) 0 rfl rfl ?_
      refine g_X12_34_6 C (dt_at dt_X12_isTested_0 19 rfl) ?_
      refine V_iload_n C (dt_at dt_X12_isTested_0 20 rfl) 1 rfl rfl ?_
      obtain ⟨h10, h⟩ := chk_s h
      refine al_92 C h10 (dt_at dt_X12_isTested_0 21 rfl) ?_
      obtain ⟨r11, e12, h⟩ := bd_s h
      refine cv_X12_rankOf C ww_732 (rd σ 92 x1) e12 (Nat.le_of_ble_eq_true rfl) (Nat.le_of_ble_eq_true rfl) z0 (dt_at dt_X12_isTested_0 22 rfl) ?_
      refine V_iconst C 3 (dt_at dt_X12_isTested_0 23 rfl) (by decide) ?_
      refine V_icmp_ne C 51 (dt_at dt_X12_isTested_0 24 rfl) (by decide) (fun q14 => ?_) (fun q14 => ?_)
      · have h := ite_f q14 h
        refine V_iconst C 0 (dt_at dt_X12_isTested_0 27 rfl) (by decide) ?_
        have e1_ := Option.some.inj h
        subst e1_
        exact V_zret C rfl hR (dt_at dt_X12_isTested_0 28 rfl)
      · have h := ite_t q14 h
        refine V_iconst C 1 (dt_at dt_X12_isTested_0 25 rfl) (by decide) ?_
        refine V_goto C 52 (dt_at dt_X12_isTested_0 26 rfl) (by decide) ?_
        have e1_ := Option.some.inj h
        subst e1_
        exact V_zret C rfl hR (dt_at dt_X12_isTested_0 28 rfl)
  have J_7 : ∀ (x1 : Int32), f_X12_isTested_7 x1 σ = some r0 → V X G 2 0 0 σ 7 [(0, .ref (ga G 6)), (1, .int x1)] [] := by
    intro x1 h
    refine it_v (P := fun z : Int32 => V X G 2 0 0 σ 7 [(0, .ref (ga G 6)), (1, .int z)] []) ?_ x1 h
    clear h
    intro z w_7 h ih_7 ex_7
    revert h; revert z; intro x1 h
    have h : b_X12_isTested_7 x1 σ = some w_7 := h
    show V X G 2 0 0 σ 7 [(0, .ref (ga G 6)), (1, .int x1)] []
    unfold b_X12_isTested_7 at h
    refine V_iload_n C (dt_at dt_X12_isTested_0 5 rfl) 1 rfl rfl ?_
    refine V_if_lt C 30 (dt_at dt_X12_isTested_0 6 rfl) (by decide) (fun q1 => ?_) (fun q1 => ?_)
    · have h := ite_t q1 h
      obtain ⟨t2, h, e_7⟩ := map_s h
      have e_7 := ex_7 _ e_7
      rw [e_7] at h
      exact J_30 x1 h
    · have h := ite_f q1 h
      refine V_aload_n C (dt_at dt_X12_isTested_0 7 rfl) 0 rfl rfl ?_
      refine g_X12_34_6 C (dt_at dt_X12_isTested_0 8 rfl) ?_
      refine V_iload_n C (dt_at dt_X12_isTested_0 9 rfl) 1 rfl rfl ?_
      obtain ⟨h3, h⟩ := chk_s h
      refine al_92 C h3 (dt_at dt_X12_isTested_0 10 rfl) ?_
      obtain ⟨r4, e5, h⟩ := bd_s h
      refine cv_X12_rankOf C ww_732 (rd σ 92 x1) e5 (Nat.le_of_ble_eq_true rfl) (Nat.le_of_ble_eq_true rfl) z0 (dt_at dt_X12_isTested_0 11 rfl) ?_
      refine V_iconst C 3 (dt_at dt_X12_isTested_0 12 rfl) (by decide) ?_
      refine V_icmp_le C 30 (dt_at dt_X12_isTested_0 13 rfl) (by decide) (fun q7 => ?_) (fun q7 => ?_)
      · have h := ite_f q7 h
        obtain ⟨t8, h, e_7⟩ := map_s h
        have e_7 := ex_7 _ e_7
        rw [e_7] at h
        exact J_30 x1 h
      · have h := ite_t q7 h
        refine V_iinc C (x1 + (-1)) 1 [1, 0] (lv' := [(0, .ref (ga G 6)), (1, .int (x1 + (-1)))]) (dt_at dt_X12_isTested_0 14 rfl) rfl (by rfl) (by decide) rfl ?_
        refine V_goto C 7 (dt_at dt_X12_isTested_0 15 rfl) (by decide) ?_
        exact ih_7 (x1 + (-1)) (Option.some.inj h).symm
  refine V_aload_n C (dt_at dt_X12_isTested_0 0 rfl) 0 rfl rfl ?_
  refine g_X12_176_6 C (dt_at dt_X12_isTested_0 1 rfl) ?_
  refine V_iconst C 1 (dt_at dt_X12_isTested_0 2 rfl) (by decide) ?_
  refine V_isub C (dt_at dt_X12_isTested_0 3 rfl) ?_
  refine V_istore_n C [1, 0] (lv' := [(0, .ref (ga G 6)), (1, .int ((fd σ 6 12) - 1))]) (dt_at dt_X12_isTested_0 4 rfl) rfl (by decide) rfl ?_
  exact J_7 ((fd σ 6 12) - 1) h
theorem cv_X12_isTested (C : Ck X G cc own nL d) {idx : Nat} (hlk : Cond.methodLink own idx yX12_isTested ∈ gtb) {r0 : Int32} (e : f_X12_isTested σ = some r0) (hdd : 3 ≤ d) (hroom : (rest.map fun v => v.category).sum ≤ 8) (hcs : cells ≤ (xR X).cells ∧ slots ≤ (xR X).slots) (hd : decode cc pc = .ok (.invokevirtual idx, 3)) (k : V X G nL cells slots σ (pc + 3) lv (.int r0 :: rest)) : V X G nL cells slots σ pc lv (.ref (ga G 6) :: rest) := V_callV C (As := []) (c_X12_isTested X.2.1 G  σ r0 e) cal_X12_isTested ww_734 ww_735 hlk rfl hdd (lt110 rfl) rfl rfl rfl hroom hcs hd k
theorem dt_X12_know_0 : dtab cX12_know [(0, .aload_n 0, 1), (1, .iload_n 1, 1), (2, .invokevirtual 145, 3), (5, .ifCond .eq 11, 3), (8, .aload_n 0, 1), (9, .iload_n 2, 1), (10, .invokevirtual 110, 3), (13, .ifCond .ne 9, 3), (16, .aload_n 0, 1), (17, .iconst 1, 1), (18, .invokevirtual 95, 3), (21, .ireturn, 1), (22, .sipush 220, 3), (25, .iconst 3, 1), (26, .iload_n 1, 1), (27, .imul, 1), (28, .iadd, 1), (29, .iconst 2, 1), (30, .iadd, 1), (31, .istore 4, 2), (33, .aload_n 0, 1), (34, .getfield 7, 3), (37, .iload 4, 2), (39, .iaload, 1), (40, .iload_n 2, 1), (41, .ishr, 1), (42, .iconst 1, 1), (43, .iand, 1), (44, .iconst 1, 1), (45, .if_icmp .ne 7, 3), (48, .iconst 1, 1), (49, .goto 4, 3), (52, .iconst 0, 1), (53, .istore 5, 2), (55, .aload_n 0, 1), (56, .getfield 7, 3), (59, .iload 4, 2), (61, .iload_n 3, 1), (62, .ifCond .eq 17, 3), (65, .aload_n 0, 1)] = true := by decide +kernel
theorem dt_X12_know_1 : dtab cX12_know [(66, .getfield 7, 3), (69, .iload 4, 2), (71, .iaload, 1), (72, .iconst 1, 1), (73, .iload_n 2, 1), (74, .ishl, 1), (75, .ior, 1), (76, .goto 16, 3), (79, .aload_n 0, 1), (80, .getfield 7, 3), (83, .iload 4, 2), (85, .iaload, 1), (86, .iconst 1, 1), (87, .iload_n 2, 1), (88, .ishl, 1), (89, .iconst (-1), 1), (90, .ixor, 1), (91, .iand, 1), (92, .iastore, 1), (93, .iload 5, 2), (95, .iload_n 3, 1), (96, .if_icmp .ne 7, 3), (99, .iconst 0, 1), (100, .goto 4, 3), (103, .iconst 1, 1), (104, .ireturn, 1)] = true := by decide +kernel
theorem cal_X12_know : Cal yX12_know cX12_know 6 (some .int) 3 := ⟨ww_736, ww_429, ⟨by decide, by decide, by decide⟩, by decide⟩
set_option maxHeartbeats 4000000 in
set_option maxRecDepth 100000 in
theorem c_X12_know (l : Launch) (G : Gx) (x1 : Int32) (x2 : Int32) (x3 : Int32) (σ : St) (r0 : Int32) (σ0 : St) (h : f_X12_know x1 x2 x3 σ = some (r0, σ0)) : MI l G yX12_know cX12_know 6 (some .int) 3 [.ref (ga G 6), .int x1, .int x2, .int x3] σ (some (.int r0)) σ0 := by
  refine MI_of RX12 rfl (by decide) [(0, .ref (ga G 6)), (1, .int x1), (2, .int x2), (3, .int x3)] rfl (Nat.le_of_ble_eq_true rfl) ?_
  intro X hXl C hR
  unfold f_X12_know at h
  have J_92 : ∀ (x5 : Int32) (s0 : Int32) (s1 : Int32) (σ : St), f_X12_know_92 x3 x5 s0 s1 σ = some (r0, σ0) → V X G 6 0 0 σ 92 [(3, .int x3), (5, .int x5)] [.int s0, .int s1, .ref (ga G 84)] := by
    intro x5 s0 s1 σ h
    unfold f_X12_know_92 at h
    obtain ⟨h18, h⟩ := chk_s h
    obtain ⟨σ17, eσ17, h⟩ := nm_s h
    refine V_st eσ17 ?_ (fun k => as_84 C h18 (dt_at dt_X12_know_1 18 rfl) k)
    refine V_iload C (dt_at dt_X12_know_1 19 rfl) 1 rfl ?_
    refine V_iload_n C (dt_at dt_X12_know_1 20 rfl) 0 rfl rfl ?_
    refine V_icmp_ne C 103 (dt_at dt_X12_know_1 21 rfl) (by decide) (fun q19 => ?_) (fun q19 => ?_)
    · have h := ite_f q19 h
      refine V_iconst C 1 (dt_at dt_X12_know_1 24 rfl) (by decide) ?_
      obtain ⟨e1_, e2_⟩ := pin2 h
      subst e1_; subst e2_
      exact V_iret C hR (dt_at dt_X12_know_1 25 rfl)
    · have h := ite_t q19 h
      refine V_iconst C 0 (dt_at dt_X12_know_1 22 rfl) (by decide) ?_
      refine V_goto C 104 (dt_at dt_X12_know_1 23 rfl) (by decide) ?_
      obtain ⟨e1_, e2_⟩ := pin2 h
      subst e1_; subst e2_
      exact V_iret C hR (dt_at dt_X12_know_1 25 rfl)
  have J_53 : ∀ (x4 : Int32) (s0 : Int32) (σ : St), f_X12_know_53 x2 x3 x4 s0 σ = some (r0, σ0) → V X G 6 0 0 σ 53 [(0, .ref (ga G 6)), (2, .int x2), (3, .int x3), (4, .int x4)] [.int s0] := by
    intro x4 s0 σ h
    unfold f_X12_know_53 at h
    refine V_istore C [1, 2, 3, 4, 0] (lv' := [(0, .ref (ga G 6)), (2, .int x2), (3, .int x3), (4, .int x4), (5, .int s0)]) (dt_at dt_X12_know_0 33 rfl) (by decide) rfl ?_
    refine V_aload_n C (dt_at dt_X12_know_0 34 rfl) 0 rfl rfl ?_
    refine g_X12_7_6 C (dt_at dt_X12_know_0 35 rfl) ?_
    refine V_iload C (dt_at dt_X12_know_0 36 rfl) 3 rfl ?_
    refine V_iload_n C (dt_at dt_X12_know_0 37 rfl) 2 rfl rfl ?_
    refine V_if_eq C 79 (dt_at dt_X12_know_0 38 rfl) (by decide) (fun q14 => ?_) (fun q14 => ?_)
    · have h := ite_t q14 h
      refine V_aload_n C (dt_at dt_X12_know_1 8 rfl) 0 rfl rfl ?_
      refine g_X12_7_6 C (dt_at dt_X12_know_1 9 rfl) ?_
      refine V_iload C (dt_at dt_X12_know_1 10 rfl) 3 rfl ?_
      obtain ⟨h15, h⟩ := chk_s h
      refine al_84 C h15 (dt_at dt_X12_know_1 11 rfl) ?_
      refine V_iconst C 1 (dt_at dt_X12_know_1 12 rfl) (by decide) ?_
      refine V_iload_n C (dt_at dt_X12_know_1 13 rfl) 1 rfl rfl ?_
      refine V_ishl C (dt_at dt_X12_know_1 14 rfl) ?_
      refine V_iconst C (-1) (dt_at dt_X12_know_1 15 rfl) (by decide) ?_
      refine V_ixor C (dt_at dt_X12_know_1 16 rfl) ?_
      refine V_iand C (dt_at dt_X12_know_1 17 rfl) ?_
      refine V_sub [2, 4] (lv' := [(3, .int x3), (5, .int s0)]) rfl ?_
      exact J_92 s0 ((rd σ 84 x4) &&& (((1 : Int32) <<< (x2 &&& 31)) ^^^ (-1))) x4 σ h
    · have h := ite_f q14 h
      refine V_aload_n C (dt_at dt_X12_know_0 39 rfl) 0 rfl rfl ?_
      refine g_X12_7_6 C (dt_at dt_X12_know_1 0 rfl) ?_
      refine V_iload C (dt_at dt_X12_know_1 1 rfl) 3 rfl ?_
      obtain ⟨h16, h⟩ := chk_s h
      refine al_84 C h16 (dt_at dt_X12_know_1 2 rfl) ?_
      refine V_iconst C 1 (dt_at dt_X12_know_1 3 rfl) (by decide) ?_
      refine V_iload_n C (dt_at dt_X12_know_1 4 rfl) 1 rfl rfl ?_
      refine V_ishl C (dt_at dt_X12_know_1 5 rfl) ?_
      refine V_ior C (dt_at dt_X12_know_1 6 rfl) ?_
      refine V_goto C 92 (dt_at dt_X12_know_1 7 rfl) (by decide) ?_
      refine V_sub [2, 4] (lv' := [(3, .int x3), (5, .int s0)]) rfl ?_
      exact J_92 s0 ((rd σ 84 x4) ||| ((1 : Int32) <<< (x2 &&& 31))) x4 σ h
  have J_16 : ∀ (σ : St), f_X12_know_16 σ = some (r0, σ0) → V X G 6 0 0 σ 16 [(0, .ref (ga G 6))] [] := by
    intro σ h
    unfold f_X12_know_16 at h
    refine V_aload_n C (dt_at dt_X12_know_0 8 rfl) 0 rfl rfl ?_
    refine V_iconst C 1 (dt_at dt_X12_know_0 9 rfl) (by decide) ?_
    obtain ⟨r11, σ13, e12, h⟩ := bd2_s h
    refine cv_X12_finds C ww_462 1 e12 (Nat.le_of_ble_eq_true rfl) (Nat.le_of_ble_eq_true rfl) z0 (dt_at dt_X12_know_0 10 rfl) ?_
    obtain ⟨e1_, e2_⟩ := pin2 h
    subst e1_; subst e2_
    exact V_iret C hR (dt_at dt_X12_know_0 11 rfl)
  refine V_aload_n C (dt_at dt_X12_know_0 0 rfl) 0 rfl rfl ?_
  refine V_iload_n C (dt_at dt_X12_know_0 1 rfl) 1 rfl rfl ?_
  obtain ⟨r1, e2, h⟩ := bd_s h
  refine cv_X12_isPlayer C ww_626 x1 e2 (Nat.le_of_ble_eq_true rfl) (Nat.le_of_ble_eq_true rfl) z0 (dt_at dt_X12_know_0 2 rfl) ?_
  refine V_if_eq C 16 (dt_at dt_X12_know_0 3 rfl) (by decide) (fun q4 => ?_) (fun q4 => ?_)
  · have h := ite_t q4 h
    refine V_sub [0] (lv' := [(0, .ref (ga G 6))]) rfl ?_
    exact J_16 σ h
  · have h := ite_f q4 h
    refine V_aload_n C (dt_at dt_X12_know_0 4 rfl) 0 rfl rfl ?_
    refine V_iload_n C (dt_at dt_X12_know_0 5 rfl) 2 rfl rfl ?_
    obtain ⟨r5, e6, h⟩ := bd_s h
    refine cv_X12_isPart C ww_459 x2 e6 (Nat.le_of_ble_eq_true rfl) (Nat.le_of_ble_eq_true rfl) z0 (dt_at dt_X12_know_0 6 rfl) ?_
    refine V_if_ne C 22 (dt_at dt_X12_know_0 7 rfl) (by decide) (fun q8 => ?_) (fun q8 => ?_)
    · have h := ite_f q8 h
      refine V_sipush C 220 (dt_at dt_X12_know_0 12 rfl) (by decide) ?_
      refine V_iconst C 3 (dt_at dt_X12_know_0 13 rfl) (by decide) ?_
      refine V_iload_n C (dt_at dt_X12_know_0 14 rfl) 1 rfl rfl ?_
      refine V_imul C (dt_at dt_X12_know_0 15 rfl) ?_
      refine V_iadd C (dt_at dt_X12_know_0 16 rfl) ?_
      refine V_iconst C 2 (dt_at dt_X12_know_0 17 rfl) (by decide) ?_
      refine V_iadd C (dt_at dt_X12_know_0 18 rfl) ?_
      refine V_istore C [1, 2, 3, 4, 0] (lv' := [(0, .ref (ga G 6)), (1, .int x1), (2, .int x2), (3, .int x3), (4, .int ((220 + (3 * x1)) + 2))]) (dt_at dt_X12_know_0 19 rfl) (by decide) rfl ?_
      refine V_aload_n C (dt_at dt_X12_know_0 20 rfl) 0 rfl rfl ?_
      refine g_X12_7_6 C (dt_at dt_X12_know_0 21 rfl) ?_
      refine V_iload C (dt_at dt_X12_know_0 22 rfl) 4 rfl ?_
      obtain ⟨h9, h⟩ := chk_s h
      refine al_84 C h9 (dt_at dt_X12_know_0 23 rfl) ?_
      refine V_iload_n C (dt_at dt_X12_know_0 24 rfl) 2 rfl rfl ?_
      refine V_ishr C (dt_at dt_X12_know_0 25 rfl) ?_
      refine V_iconst C 1 (dt_at dt_X12_know_0 26 rfl) (by decide) ?_
      refine V_iand C (dt_at dt_X12_know_0 27 rfl) ?_
      refine V_iconst C 1 (dt_at dt_X12_know_0 28 rfl) (by decide) ?_
      refine V_icmp_ne C 52 (dt_at dt_X12_know_0 29 rfl) (by decide) (fun q10 => ?_) (fun q10 => ?_)
      · have h := ite_f q10 h
        refine V_iconst C 0 (dt_at dt_X12_know_0 32 rfl) (by decide) ?_
        refine V_sub [0, 2, 3, 4] (lv' := [(0, .ref (ga G 6)), (2, .int x2), (3, .int x3), (4, .int ((220 + (3 * x1)) + 2))]) rfl ?_
        exact J_53 ((220 + (3 * x1)) + 2) 0 σ h
      · have h := ite_t q10 h
        refine V_iconst C 1 (dt_at dt_X12_know_0 30 rfl) (by decide) ?_
        refine V_goto C 53 (dt_at dt_X12_know_0 31 rfl) (by decide) ?_
        refine V_sub [0, 2, 3, 4] (lv' := [(0, .ref (ga G 6)), (2, .int x2), (3, .int x3), (4, .int ((220 + (3 * x1)) + 2))]) rfl ?_
        exact J_53 ((220 + (3 * x1)) + 2) 1 σ h
    · have h := ite_t q8 h
      refine V_sub [0] (lv' := [(0, .ref (ga G 6))]) rfl ?_
      exact J_16 σ h
theorem cv_X12_know (C : Ck X G cc own nL d) {idx : Nat} (hlk : Cond.methodLink own idx yX12_know ∈ gtb) (x1 : Int32) (x2 : Int32) (x3 : Int32) {r0 : Int32} {σ0 : St} (e : f_X12_know x1 x2 x3 σ = some (r0, σ0)) (hdd : 4 ≤ d) (hroom : (rest.map fun v => v.category).sum ≤ 8) (hcs : cells ≤ (xR X).cells ∧ slots ≤ (xR X).slots) (hd : decode cc pc = .ok (.invokevirtual idx, 3)) (k : V X G nL cells slots σ0 (pc + 3) lv (.int r0 :: rest)) : V X G nL cells slots σ pc lv (.int x3 :: .int x2 :: .int x1 :: .ref (ga G 6) :: rest) := V_callV C (As := [.int x1, .int x2, .int x3]) (c_X12_know X.2.1 G x1 x2 x3 σ r0 σ0 e) cal_X12_know ww_737 ww_738 hlk rfl hdd (lt110 rfl) rfl rfl rfl hroom hcs hd k
theorem dt_X12_weightOf_0 : dtab cX12_weightOf [(0, .iconst 0, 1), (1, .istore_n 2, 1), (2, .iconst 0, 1), (3, .istore_n 3, 1), (4, .iload_n 3, 1), (5, .aload_n 0, 1), (6, .getfield 7, 3), (9, .iconst 1, 1), (10, .iaload, 1), (11, .if_icmp .ge 31, 3), (14, .iload_n 2, 1), (15, .iload_n 1, 1), (16, .iload_n 3, 1), (17, .ishr, 1), (18, .iconst 1, 1), (19, .iand, 1), (20, .iconst 1, 1), (21, .if_icmp .ne 12, 3), (24, .aload_n 0, 1), (25, .getfield 69, 3), (28, .iload_n 3, 1), (29, .iaload, 1), (30, .goto 4, 3), (33, .iconst 0, 1), (34, .iadd, 1), (35, .istore_n 2, 1), (36, .iinc 3 1, 3), (39, .goto (-35), 3), (42, .iload_n 2, 1), (43, .ireturn, 1)] = true := by decide +kernel
theorem cal_X12_weightOf : Cal yX12_weightOf cX12_weightOf 4 (some .int) 1 := ⟨ww_739, ww_429, ⟨by decide, by decide, by decide⟩, by decide⟩
set_option maxHeartbeats 4000000 in
set_option maxRecDepth 100000 in
theorem c_X12_weightOf (l : Launch) (G : Gx) (x1 : Int32) (σ : St) (r0 : Int32) (h : f_X12_weightOf x1 σ = some r0) : MI l G yX12_weightOf cX12_weightOf 4 (some .int) 1 [.ref (ga G 6), .int x1] σ (some (.int r0)) σ := by
  refine MI_of RX12 rfl (by decide) [(0, .ref (ga G 6)), (1, .int x1)] rfl (Nat.le_of_ble_eq_true rfl) ?_
  intro X hXl C hR
  unfold f_X12_weightOf at h
  have J_4 : ∀ (x2 : Int32) (x3 : Int32), f_X12_weightOf_4 x1 x2 x3 σ = some r0 → V X G 4 0 0 σ 4 [(0, .ref (ga G 6)), (1, .int x1), (2, .int x2), (3, .int x3)] [] := by
    intro x2 x3 h
    refine it_v (P := fun z : Int32 × Int32 => V X G 4 0 0 σ 4 [(0, .ref (ga G 6)), (1, .int x1), (2, .int z.1), (3, .int z.2)] []) ?_ (x2, x3) h
    clear h
    intro z w_4 h ih_4 ex_4
    obtain ⟨x2, x3⟩ := z
    have h : b_X12_weightOf_4 x1 x2 x3 σ = some w_4 := h
    show V X G 4 0 0 σ 4 [(0, .ref (ga G 6)), (1, .int x1), (2, .int x2), (3, .int x3)] []
    unfold b_X12_weightOf_4 at h
    have J_34 : ∀ (x3 : Int32) (s0 : Int32) (s1 : Int32), f_X12_weightOf_34 x1 x3 s0 s1 σ = some w_4 → V X G 4 0 0 σ 34 [(0, .ref (ga G 6)), (1, .int x1), (3, .int x3)] [.int s0, .int s1] := by
      intro x3 s0 s1 h
      unfold f_X12_weightOf_34 at h
      refine V_iadd C (dt_at dt_X12_weightOf_0 24 rfl) ?_
      refine V_istore_n C [1, 2, 0, 3] (lv' := [(0, .ref (ga G 6)), (1, .int x1), (2, .int (s1 + s0)), (3, .int x3)]) (dt_at dt_X12_weightOf_0 25 rfl) rfl (by decide) rfl ?_
      refine V_iinc C (x3 + 1) 3 [1, 2, 3, 0] (lv' := [(0, .ref (ga G 6)), (1, .int x1), (2, .int (s1 + s0)), (3, .int (x3 + 1))]) (dt_at dt_X12_weightOf_0 26 rfl) rfl (by rfl) (by decide) rfl ?_
      refine V_goto C 4 (dt_at dt_X12_weightOf_0 27 rfl) (by decide) ?_
      exact ih_4 ((s1 + s0), (x3 + 1)) (Option.some.inj h).symm
    refine V_iload_n C (dt_at dt_X12_weightOf_0 4 rfl) 3 rfl rfl ?_
    refine V_aload_n C (dt_at dt_X12_weightOf_0 5 rfl) 0 rfl rfl ?_
    refine g_X12_7_6 C (dt_at dt_X12_weightOf_0 6 rfl) ?_
    refine V_iconst C 1 (dt_at dt_X12_weightOf_0 7 rfl) (by decide) ?_
    obtain ⟨h1, h⟩ := chk_s h
    refine al_84 C h1 (dt_at dt_X12_weightOf_0 8 rfl) ?_
    refine V_icmp_ge C 42 (dt_at dt_X12_weightOf_0 9 rfl) (by decide) (fun q2 => ?_) (fun q2 => ?_)
    · have h := ite_f q2 h
      refine V_iload_n C (dt_at dt_X12_weightOf_0 28 rfl) 2 rfl rfl ?_
      have e_4 := ex_4 _ (Option.some.inj h).symm
      subst e_4
      exact V_iret C hR (dt_at dt_X12_weightOf_0 29 rfl)
    · have h := ite_t q2 h
      refine V_iload_n C (dt_at dt_X12_weightOf_0 10 rfl) 2 rfl rfl ?_
      refine V_iload_n C (dt_at dt_X12_weightOf_0 11 rfl) 1 rfl rfl ?_
      refine V_iload_n C (dt_at dt_X12_weightOf_0 12 rfl) 3 rfl rfl ?_
      refine V_ishr C (dt_at dt_X12_weightOf_0 13 rfl) ?_
      refine V_iconst C 1 (dt_at dt_X12_weightOf_0 14 rfl) (by decide) ?_
      refine V_iand C (dt_at dt_X12_weightOf_0 15 rfl) ?_
      refine V_iconst C 1 (dt_at dt_X12_weightOf_0 16 rfl) (by decide) ?_
      refine V_icmp_ne C 33 (dt_at dt_X12_weightOf_0 17 rfl) (by decide) (fun q3 => ?_) (fun q3 => ?_)
      · have h := ite_f q3 h
        refine V_iconst C 0 (dt_at dt_X12_weightOf_0 23 rfl) (by decide) ?_
        refine V_sub [0, 1, 3] (lv' := [(0, .ref (ga G 6)), (1, .int x1), (3, .int x3)]) rfl ?_
        exact J_34 x3 0 x2 h
      · have h := ite_t q3 h
        refine V_aload_n C (dt_at dt_X12_weightOf_0 18 rfl) 0 rfl rfl ?_
        refine g_X12_69_6 C (dt_at dt_X12_weightOf_0 19 rfl) ?_
        refine V_iload_n C (dt_at dt_X12_weightOf_0 20 rfl) 3 rfl rfl ?_
        obtain ⟨h4, h⟩ := chk_s h
        refine al_103 C h4 (dt_at dt_X12_weightOf_0 21 rfl) ?_
        refine V_goto C 34 (dt_at dt_X12_weightOf_0 22 rfl) (by decide) ?_
        refine V_sub [0, 1, 3] (lv' := [(0, .ref (ga G 6)), (1, .int x1), (3, .int x3)]) rfl ?_
        exact J_34 x3 (rd σ 103 x3) x2 h
  refine V_iconst C 0 (dt_at dt_X12_weightOf_0 0 rfl) (by decide) ?_
  refine V_istore_n C [1, 2, 0] (lv' := [(0, .ref (ga G 6)), (1, .int x1), (2, .int 0)]) (dt_at dt_X12_weightOf_0 1 rfl) rfl (by decide) rfl ?_
  refine V_iconst C 0 (dt_at dt_X12_weightOf_0 2 rfl) (by decide) ?_
  refine V_istore_n C [1, 2, 3, 0] (lv' := [(0, .ref (ga G 6)), (1, .int x1), (2, .int 0), (3, .int 0)]) (dt_at dt_X12_weightOf_0 3 rfl) rfl (by decide) rfl ?_
  exact J_4 0 0 h
theorem cv_X12_weightOf (C : Ck X G cc own nL d) {idx : Nat} (hlk : Cond.methodLink own idx yX12_weightOf ∈ gtb) (x1 : Int32) {r0 : Int32} (e : f_X12_weightOf x1 σ = some r0) (hdd : 2 ≤ d) (hroom : (rest.map fun v => v.category).sum ≤ 8) (hcs : cells ≤ (xR X).cells ∧ slots ≤ (xR X).slots) (hd : decode cc pc = .ok (.invokevirtual idx, 3)) (k : V X G nL cells slots σ (pc + 3) lv (.int r0 :: rest)) : V X G nL cells slots σ pc lv (.int x1 :: .ref (ga G 6) :: rest) := V_callV C (As := [.int x1]) (c_X12_weightOf X.2.1 G x1 σ r0 e) cal_X12_weightOf ww_740 ww_741 hlk rfl hdd (lt110 rfl) rfl rfl rfl hroom hcs hd k
theorem dt_X12_leave_0 : dtab cX12_leave [(0, .aload_n 0, 1), (1, .iload_n 1, 1), (2, .invokevirtual 272, 3), (5, .ifCond .eq 12, 3), (8, .iload_n 2, 1), (9, .iconst 0, 1), (10, .iconst 1, 1), (11, .invokestatic 91, 3), (14, .ifCond .ne 9, 3), (17, .aload_n 0, 1), (18, .iconst 1, 1), (19, .invokevirtual 95, 3), (22, .ireturn, 1), (23, .aload_n 0, 1), (24, .iload_n 1, 1), (25, .invokevirtual 281, 3), (28, .iconst 0, 1), (29, .istore_n 3, 1), (30, .iload_n 3, 1), (31, .aload_n 0, 1), (32, .getfield 7, 3), (35, .iconst 1, 1), (36, .iaload, 1), (37, .if_icmp .ge 20, 3), (40, .aload_n 0, 1), (41, .getfield 69, 3), (44, .iload_n 3, 1), (45, .aload_n 0, 1), (46, .iload_n 3, 1), (47, .invokevirtual 121, 3), (50, .iastore, 1), (51, .iinc 3 1, 3), (54, .goto (-24), 3), (57, .iconst (-1), 1), (58, .istore_n 3, 1), (59, .iconst 0, 1), (60, .istore 4, 2), (62, .iconst 0, 1), (63, .istore 5, 2), (65, .iload 5, 2)] = true := by decide +kernel
theorem dt_X12_leave_1 : dtab cX12_leave [(67, .aload_n 0, 1), (68, .invokevirtual 249, 3), (71, .if_icmp .gt 76, 3), (74, .aload_n 0, 1), (75, .getfield 62, 3), (78, .aload_n 0, 1), (79, .invokevirtual 249, 3), (82, .iload 5, 2), (84, .iconst (-1), 1), (85, .ixor, 1), (86, .iand, 1), (87, .laload, 1), (88, .lconst 0, 1), (89, .lcmp, 1), (90, .ifCond .ne 6, 3), (93, .goto 48, 3), (96, .aload_n 0, 1), (97, .iload 5, 2), (99, .invokevirtual 284, 3), (102, .istore 6, 2), (104, .iload_n 3, 1), (105, .ifCond .lt 29, 3), (108, .iload 6, 2), (110, .iload 4, 2), (112, .if_icmp .lt 22, 3), (115, .iload 6, 2), (117, .iload 4, 2), (119, .if_icmp .ne 22, 3), (122, .iload 5, 2), (124, .invokestatic 287, 3), (127, .iload_n 3, 1), (128, .invokestatic 287, 3), (131, .if_icmp .ge 10, 3), (134, .iload 5, 2), (136, .istore_n 3, 1), (137, .iload 6, 2), (139, .istore 4, 2), (141, .iinc 5 1, 3), (144, .goto (-79), 3), (147, .iload_n 2, 1)] = true := by decide +kernel
theorem dt_X12_leave_2 : dtab cX12_leave [(148, .ifCond .ne 8, 3), (151, .iload 4, 2), (153, .goto 4, 3), (156, .iload_n 3, 1), (157, .ireturn, 1)] = true := by decide +kernel
theorem cal_X12_leave : Cal yX12_leave cX12_leave 7 (some .int) 2 := ⟨ww_744, ww_429, ⟨by decide, by decide, by decide⟩, by decide⟩
set_option maxHeartbeats 4000000 in
set_option maxRecDepth 100000 in
theorem c_X12_leave (l : Launch) (G : Gx) (x1 : Int32) (x2 : Int32) (σ : St) (r0 : Int32) (σ0 : St) (h : f_X12_leave x1 x2 σ = some (r0, σ0)) : MI l G yX12_leave cX12_leave 7 (some .int) 8 [.ref (ga G 6), .int x1, .int x2] σ (some (.int r0)) σ0 := by
  refine MI_of RX12 rfl (by decide) [(0, .ref (ga G 6)), (1, .int x1), (2, .int x2)] rfl (Nat.le_of_ble_eq_true rfl) ?_
  intro X hXl C hR
  unfold f_X12_leave at h
  have J_147 : ∀ (x3 : Int32) (x4 : Int32) (σ : St), f_X12_leave_147 x2 x3 x4 σ = some (r0, σ0) → V X G 7 0 0 σ 147 [(2, .int x2), (3, .int x3), (4, .int x4)] [] := by
    intro x3 x4 σ h
    unfold f_X12_leave_147 at h
    refine V_iload_n C (dt_at dt_X12_leave_1 39 rfl) 0 rfl rfl ?_
    refine V_if_ne C 156 (dt_at dt_X12_leave_2 0 rfl) (by decide) (fun q46 => ?_) (fun q46 => ?_)
    · have h := ite_f q46 h
      refine V_iload_n C (dt_at dt_X12_leave_2 3 rfl) 1 rfl rfl ?_
      obtain ⟨e1_, e2_⟩ := pin2 h
      subst e1_; subst e2_
      exact V_iret C hR (dt_at dt_X12_leave_2 4 rfl)
    · have h := ite_t q46 h
      refine V_iload C (dt_at dt_X12_leave_2 1 rfl) 2 rfl ?_
      refine V_goto C 157 (dt_at dt_X12_leave_2 2 rfl) (by decide) ?_
      obtain ⟨e1_, e2_⟩ := pin2 h
      subst e1_; subst e2_
      exact V_iret C hR (dt_at dt_X12_leave_2 4 rfl)
  have J_65 : ∀ (x3 : Int32) (x4 : Int32) (x5 : Int32) (σ : St), f_X12_leave_65 x2 x3 x4 x5 σ = some (r0, σ0) → V X G 7 0 0 σ 65 [(0, .ref (ga G 6)), (2, .int x2), (3, .int x3), (4, .int x4), (5, .int x5)] [] := by
    intro x3 x4 x5 σ h
    refine it_v (P := fun z : Int32 × Int32 × Int32 => V X G 7 0 0 σ 65 [(0, .ref (ga G 6)), (2, .int x2), (3, .int z.1), (4, .int z.2.1), (5, .int z.2.2)] []) ?_ (x3, x4, x5) h
    clear h
    intro z w_65 h ih_65 ex_65
    obtain ⟨x3, x4, x5⟩ := z
    have h : b_X12_leave_65 x2 x3 x4 x5 σ = some w_65 := h
    show V X G 7 0 0 σ 65 [(0, .ref (ga G 6)), (2, .int x2), (3, .int x3), (4, .int x4), (5, .int x5)] []
    unfold b_X12_leave_65 at h
    have J_141 : ∀ (x3 : Int32) (x4 : Int32) (x5 : Int32), f_X12_leave_141 x2 x3 x4 x5 σ = some w_65 → V X G 7 0 0 σ 141 [(0, .ref (ga G 6)), (2, .int x2), (3, .int x3), (4, .int x4), (5, .int x5)] [] := by
      intro x3 x4 x5 h
      unfold f_X12_leave_141 at h
      refine V_iinc C (x5 + 1) 4 [1, 2, 3, 4, 0] (lv' := [(0, .ref (ga G 6)), (2, .int x2), (3, .int x3), (4, .int x4), (5, .int (x5 + 1))]) (dt_at dt_X12_leave_1 37 rfl) rfl (by rfl) (by decide) rfl ?_
      refine V_goto C 65 (dt_at dt_X12_leave_1 38 rfl) (by decide) ?_
      exact ih_65 (x3, x4, (x5 + 1)) (Option.some.inj h).symm
    have J_134 : ∀ (x5 : Int32) (x6 : Int32), f_X12_leave_134 x2 x5 x6 σ = some w_65 → V X G 7 0 0 σ 134 [(0, .ref (ga G 6)), (2, .int x2), (5, .int x5), (6, .int x6)] [] := by
      intro x5 x6 h
      unfold f_X12_leave_134 at h
      refine V_iload C (dt_at dt_X12_leave_1 33 rfl) 2 rfl ?_
      refine V_istore_n C [1, 2, 0, 3, 4] (lv' := [(0, .ref (ga G 6)), (2, .int x2), (3, .int x5), (5, .int x5), (6, .int x6)]) (dt_at dt_X12_leave_1 34 rfl) rfl (by decide) rfl ?_
      refine V_iload C (dt_at dt_X12_leave_1 35 rfl) 4 rfl ?_
      refine V_istore C [1, 2, 3, 0, 4, 5] (lv' := [(0, .ref (ga G 6)), (2, .int x2), (3, .int x5), (4, .int x6), (5, .int x5), (6, .int x6)]) (dt_at dt_X12_leave_1 36 rfl) (by decide) rfl ?_
      refine V_sub [0, 1, 2, 3, 4] (lv' := [(0, .ref (ga G 6)), (2, .int x2), (3, .int x5), (4, .int x6), (5, .int x5)]) rfl ?_
      exact J_141 x5 x6 x5 h
    refine V_iload C (dt_at dt_X12_leave_0 39 rfl) 4 rfl ?_
    refine V_aload_n C (dt_at dt_X12_leave_1 0 rfl) 0 rfl rfl ?_
    obtain ⟨r23, e24, h⟩ := bd_s h
    refine cv_X12_allParts C ww_527  e24 (Nat.le_of_ble_eq_true rfl) (Nat.le_of_ble_eq_true rfl) z0 (dt_at dt_X12_leave_1 1 rfl) ?_
    refine V_icmp_gt C 147 (dt_at dt_X12_leave_1 2 rfl) (by decide) (fun q26 => ?_) (fun q26 => ?_)
    · have h := ite_t q26 h
      refine V_sub [1, 2, 3] (lv' := [(2, .int x2), (3, .int x3), (4, .int x4)]) rfl ?_
      obtain ⟨t27, h, e_65⟩ := map_s h
      have e_65 := ex_65 _ e_65
      rw [e_65] at h
      exact J_147 x3 x4 σ h
    · have h := ite_f q26 h
      refine V_aload_n C (dt_at dt_X12_leave_1 3 rfl) 0 rfl rfl ?_
      refine g_X12_62_6 C (dt_at dt_X12_leave_1 4 rfl) ?_
      refine V_aload_n C (dt_at dt_X12_leave_1 5 rfl) 0 rfl rfl ?_
      obtain ⟨r28, e29, h⟩ := bd_s h
      refine cv_X12_allParts C ww_527  e29 (Nat.le_of_ble_eq_true rfl) (Nat.le_of_ble_eq_true rfl) z0 (dt_at dt_X12_leave_1 6 rfl) ?_
      refine V_iload C (dt_at dt_X12_leave_1 7 rfl) 4 rfl ?_
      refine V_iconst C (-1) (dt_at dt_X12_leave_1 8 rfl) (by decide) ?_
      refine V_ixor C (dt_at dt_X12_leave_1 9 rfl) ?_
      refine V_iand C (dt_at dt_X12_leave_1 10 rfl) ?_
      obtain ⟨h31, h⟩ := chk_s h
      refine V_lald C h31 (dt_at dt_X12_leave_1 11 rfl) ?_
      refine V_lconst C 0 (dt_at dt_X12_leave_1 12 rfl) (by decide) ?_
      refine V_lcmp C (dt_at dt_X12_leave_1 13 rfl) ?_
      refine V_if_ne C 96 (dt_at dt_X12_leave_1 14 rfl) (by decide) (fun q32 => ?_) (fun q32 => ?_)
      · have h := ite_f q32 h
        refine V_aload_n C (dt_at dt_X12_leave_1 16 rfl) 0 rfl rfl ?_
        refine V_iload C (dt_at dt_X12_leave_1 17 rfl) 4 rfl ?_
        obtain ⟨r33, e34, h⟩ := bd_s h
        refine cv_X12_weightOf C ww_742 x5 e34 (Nat.le_of_ble_eq_true rfl) (Nat.le_of_ble_eq_true rfl) z0 (dt_at dt_X12_leave_1 18 rfl) ?_
        refine V_istore C [1, 2, 3, 4, 5, 0] (lv' := [(0, .ref (ga G 6)), (2, .int x2), (3, .int x3), (4, .int x4), (5, .int x5), (6, .int r33)]) (dt_at dt_X12_leave_1 19 rfl) (by decide) rfl ?_
        refine V_iload_n C (dt_at dt_X12_leave_1 20 rfl) 2 rfl rfl ?_
        refine V_if_lt C 134 (dt_at dt_X12_leave_1 21 rfl) (by decide) (fun q36 => ?_) (fun q36 => ?_)
        · have h := ite_t q36 h
          refine V_sub [0, 1, 4, 5] (lv' := [(0, .ref (ga G 6)), (2, .int x2), (5, .int x5), (6, .int r33)]) rfl ?_
          exact J_134 x5 r33 h
        · have h := ite_f q36 h
          refine V_iload C (dt_at dt_X12_leave_1 22 rfl) 5 rfl ?_
          refine V_iload C (dt_at dt_X12_leave_1 23 rfl) 3 rfl ?_
          refine V_icmp_lt C 134 (dt_at dt_X12_leave_1 24 rfl) (by decide) (fun q37 => ?_) (fun q37 => ?_)
          · have h := ite_t q37 h
            refine V_sub [0, 1, 4, 5] (lv' := [(0, .ref (ga G 6)), (2, .int x2), (5, .int x5), (6, .int r33)]) rfl ?_
            exact J_134 x5 r33 h
          · have h := ite_f q37 h
            refine V_iload C (dt_at dt_X12_leave_1 25 rfl) 5 rfl ?_
            refine V_iload C (dt_at dt_X12_leave_1 26 rfl) 3 rfl ?_
            refine V_icmp_ne C 141 (dt_at dt_X12_leave_1 27 rfl) (by decide) (fun q38 => ?_) (fun q38 => ?_)
            · have h := ite_f q38 h
              refine V_sub [0, 1, 2, 3, 4] (lv' := [(0, .ref (ga G 6)), (2, .int x2), (3, .int x3), (4, .int x4), (5, .int x5)]) rfl ?_
              exact J_141 x3 x4 x5 h
            · have h := ite_t q38 h
              refine V_iload C (dt_at dt_X12_leave_1 28 rfl) 4 rfl ?_
              obtain ⟨r39, e40, h⟩ := bd_s h
              refine cv_X12_bits C ww_743 x5 e40 (Nat.le_of_ble_eq_true rfl) (Nat.le_of_ble_eq_true rfl) z0 (dt_at dt_X12_leave_1 29 rfl) ?_
              refine V_iload_n C (dt_at dt_X12_leave_1 30 rfl) 2 rfl rfl ?_
              obtain ⟨r42, e43, h⟩ := bd_s h
              refine cv_X12_bits C ww_743 x3 e43 (Nat.le_of_ble_eq_true rfl) (Nat.le_of_ble_eq_true rfl) z0 (dt_at dt_X12_leave_1 31 rfl) ?_
              refine V_icmp_ge C 141 (dt_at dt_X12_leave_1 32 rfl) (by decide) (fun q45 => ?_) (fun q45 => ?_)
              · have h := ite_f q45 h
                refine V_sub [0, 1, 2, 3, 4] (lv' := [(0, .ref (ga G 6)), (2, .int x2), (3, .int x3), (4, .int x4), (5, .int x5)]) rfl ?_
                exact J_141 x3 x4 x5 h
              · have h := ite_t q45 h
                refine V_sub [0, 1, 4, 5] (lv' := [(0, .ref (ga G 6)), (2, .int x2), (5, .int x5), (6, .int r33)]) rfl ?_
                exact J_134 x5 r33 h
      · have h := ite_t q32 h
        refine V_goto C 141 (dt_at dt_X12_leave_1 15 rfl) (by decide) ?_
        exact J_141 x3 x4 x5 h
  have J_57 : ∀ (σ : St), f_X12_leave_57 x2 σ = some (r0, σ0) → V X G 7 0 0 σ 57 [(0, .ref (ga G 6)), (2, .int x2)] [] := by
    intro σ h
    unfold f_X12_leave_57 at h
    refine V_iconst C (-1) (dt_at dt_X12_leave_0 33 rfl) (by decide) ?_
    refine V_istore_n C [1, 2, 0] (lv' := [(0, .ref (ga G 6)), (2, .int x2), (3, .int (-1))]) (dt_at dt_X12_leave_0 34 rfl) rfl (by decide) rfl ?_
    refine V_iconst C 0 (dt_at dt_X12_leave_0 35 rfl) (by decide) ?_
    refine V_istore C [1, 2, 3, 0] (lv' := [(0, .ref (ga G 6)), (2, .int x2), (3, .int (-1)), (4, .int 0)]) (dt_at dt_X12_leave_0 36 rfl) (by decide) rfl ?_
    refine V_iconst C 0 (dt_at dt_X12_leave_0 37 rfl) (by decide) ?_
    refine V_istore C [1, 2, 3, 4, 0] (lv' := [(0, .ref (ga G 6)), (2, .int x2), (3, .int (-1)), (4, .int 0), (5, .int 0)]) (dt_at dt_X12_leave_0 38 rfl) (by decide) rfl ?_
    exact J_65 (-1) 0 0 σ h
  have J_30 : ∀ (x3 : Int32) (σ : St), f_X12_leave_30 x2 x3 σ = some (r0, σ0) → V X G 7 0 0 σ 30 [(0, .ref (ga G 6)), (2, .int x2), (3, .int x3)] [] := by
    intro x3 σ h
    refine it_v (P := fun z : Int32 × St => V X G 7 0 0 z.2 30 [(0, .ref (ga G 6)), (2, .int x2), (3, .int z.1)] []) ?_ (x3, σ) h
    clear h
    intro z w_30 h ih_30 ex_30
    obtain ⟨x3, σ⟩ := z
    have h : b_X12_leave_30 x2 x3 σ = some w_30 := h
    show V X G 7 0 0 σ 30 [(0, .ref (ga G 6)), (2, .int x2), (3, .int x3)] []
    unfold b_X12_leave_30 at h
    refine V_iload_n C (dt_at dt_X12_leave_0 18 rfl) 2 rfl rfl ?_
    refine V_aload_n C (dt_at dt_X12_leave_0 19 rfl) 0 rfl rfl ?_
    refine g_X12_7_6 C (dt_at dt_X12_leave_0 20 rfl) ?_
    refine V_iconst C 1 (dt_at dt_X12_leave_0 21 rfl) (by decide) ?_
    obtain ⟨h15, h⟩ := chk_s h
    refine al_84 C h15 (dt_at dt_X12_leave_0 22 rfl) ?_
    refine V_icmp_ge C 57 (dt_at dt_X12_leave_0 23 rfl) (by decide) (fun q16 => ?_) (fun q16 => ?_)
    · have h := ite_f q16 h
      refine V_sub [0, 1] (lv' := [(0, .ref (ga G 6)), (2, .int x2)]) rfl ?_
      obtain ⟨t17, h, e_30⟩ := map_s h
      have e_30 := ex_30 _ e_30
      rw [e_30] at h
      exact J_57 σ h
    · have h := ite_t q16 h
      refine V_aload_n C (dt_at dt_X12_leave_0 24 rfl) 0 rfl rfl ?_
      refine g_X12_69_6 C (dt_at dt_X12_leave_0 25 rfl) ?_
      refine V_iload_n C (dt_at dt_X12_leave_0 26 rfl) 2 rfl rfl ?_
      refine V_aload_n C (dt_at dt_X12_leave_0 27 rfl) 0 rfl rfl ?_
      refine V_iload_n C (dt_at dt_X12_leave_0 28 rfl) 2 rfl rfl ?_
      obtain ⟨r18, e19, h⟩ := bd_s h
      refine cv_X12_weight C ww_463 x3 e19 (Nat.le_of_ble_eq_true rfl) (Nat.le_of_ble_eq_true rfl) z0 (dt_at dt_X12_leave_0 29 rfl) ?_
      obtain ⟨h22, h⟩ := chk_s h
      obtain ⟨σ21, eσ21, h⟩ := nm_s h
      refine V_st eσ21 ?_ (fun k => as_103 C h22 (dt_at dt_X12_leave_0 30 rfl) k)
      refine V_iinc C (x3 + 1) 2 [1, 2, 0] (lv' := [(0, .ref (ga G 6)), (2, .int x2), (3, .int (x3 + 1))]) (dt_at dt_X12_leave_0 31 rfl) rfl (by rfl) (by decide) rfl ?_
      refine V_goto C 30 (dt_at dt_X12_leave_0 32 rfl) (by decide) ?_
      exact ih_30 ((x3 + 1), σ21) (Option.some.inj h).symm
  have J_17 : ∀ (σ : St), f_X12_leave_17 σ = some (r0, σ0) → V X G 7 0 0 σ 17 [(0, .ref (ga G 6))] [] := by
    intro σ h
    unfold f_X12_leave_17 at h
    refine V_aload_n C (dt_at dt_X12_leave_0 9 rfl) 0 rfl rfl ?_
    refine V_iconst C 1 (dt_at dt_X12_leave_0 10 rfl) (by decide) ?_
    obtain ⟨r12, σ14, e13, h⟩ := bd2_s h
    refine cv_X12_finds C ww_462 1 e13 (Nat.le_of_ble_eq_true rfl) (Nat.le_of_ble_eq_true rfl) z0 (dt_at dt_X12_leave_0 11 rfl) ?_
    obtain ⟨e1_, e2_⟩ := pin2 h
    subst e1_; subst e2_
    exact V_iret C hR (dt_at dt_X12_leave_0 12 rfl)
  refine V_aload_n C (dt_at dt_X12_leave_0 0 rfl) 0 rfl rfl ?_
  refine V_iload_n C (dt_at dt_X12_leave_0 1 rfl) 1 rfl rfl ?_
  obtain ⟨r1, e2, h⟩ := bd_s h
  refine cv_X12_isTroupe C ww_563 x1 e2 (Nat.le_of_ble_eq_true rfl) (Nat.le_of_ble_eq_true rfl) z0 (dt_at dt_X12_leave_0 2 rfl) ?_
  refine V_if_eq C 17 (dt_at dt_X12_leave_0 3 rfl) (by decide) (fun q4 => ?_) (fun q4 => ?_)
  · have h := ite_t q4 h
    refine V_sub [0] (lv' := [(0, .ref (ga G 6))]) rfl ?_
    exact J_17 σ h
  · have h := ite_f q4 h
    refine V_iload_n C (dt_at dt_X12_leave_0 4 rfl) 2 rfl rfl ?_
    refine V_iconst C 0 (dt_at dt_X12_leave_0 5 rfl) (by decide) ?_
    refine V_iconst C 1 (dt_at dt_X12_leave_0 6 rfl) (by decide) ?_
    obtain ⟨r5, e6, h⟩ := bd_s h
    refine cv_X12_in C ww_437 x2 0 1 e6 (Nat.le_of_ble_eq_true rfl) (Nat.le_of_ble_eq_true rfl) z0 (dt_at dt_X12_leave_0 7 rfl) ?_
    refine V_if_ne C 23 (dt_at dt_X12_leave_0 8 rfl) (by decide) (fun q8 => ?_) (fun q8 => ?_)
    · have h := ite_f q8 h
      refine V_aload_n C (dt_at dt_X12_leave_0 13 rfl) 0 rfl rfl ?_
      refine V_iload_n C (dt_at dt_X12_leave_0 14 rfl) 1 rfl rfl ?_
      obtain ⟨σ11, e10, h⟩ := bd_s h
      refine cv_X12_findWays C ww_644 x1 e10 (Nat.le_of_ble_eq_true rfl) (Nat.le_of_ble_eq_true rfl) z0 (dt_at dt_X12_leave_0 15 rfl) ?_
      refine V_iconst C 0 (dt_at dt_X12_leave_0 16 rfl) (by decide) ?_
      refine V_istore_n C [1, 2, 3, 0] (lv' := [(0, .ref (ga G 6)), (1, .int x1), (2, .int x2), (3, .int 0)]) (dt_at dt_X12_leave_0 17 rfl) rfl (by decide) rfl ?_
      refine V_sub [0, 2, 3] (lv' := [(0, .ref (ga G 6)), (2, .int x2), (3, .int 0)]) rfl ?_
      exact J_30 0 σ11 h
    · have h := ite_t q8 h
      refine V_sub [0] (lv' := [(0, .ref (ga G 6))]) rfl ?_
      exact J_17 σ h
theorem cv_X12_leave (C : Ck X G cc own nL d) {idx : Nat} (hlk : Cond.methodLink own idx yX12_leave ∈ gtb) (x1 : Int32) (x2 : Int32) {r0 : Int32} {σ0 : St} (e : f_X12_leave x1 x2 σ = some (r0, σ0)) (hdd : 9 ≤ d) (hroom : (rest.map fun v => v.category).sum ≤ 8) (hcs : cells ≤ (xR X).cells ∧ slots ≤ (xR X).slots) (hd : decode cc pc = .ok (.invokevirtual idx, 3)) (k : V X G nL cells slots σ0 (pc + 3) lv (.int r0 :: rest)) : V X G nL cells slots σ pc lv (.int x2 :: .int x1 :: .ref (ga G 6) :: rest) := V_callV C (As := [.int x1, .int x2]) (c_X12_leave X.2.1 G x1 x2 σ r0 σ0 e) cal_X12_leave ww_745 ww_746 hlk rfl hdd (lt110 rfl) rfl rfl rfl hroom hcs hd k
theorem dt_X12_lines_0 : dtab cX12_lines [(0, .iload_n 1, 1), (1, .bipush 10, 2), (3, .sipush 200, 3), (6, .invokestatic 91, 3), (9, .ifCond .ne 9, 3), (12, .aload_n 0, 1), (13, .iconst 1, 1), (14, .invokevirtual 95, 3), (17, .ireturn, 1), (18, .iconst 0, 1), (19, .istore_n 2, 1), (20, .iload_n 2, 1), (21, .aload_n 0, 1), (22, .getfield 7, 3), (25, .iconst 2, 1), (26, .iaload, 1), (27, .if_icmp .ge 25, 3), (30, .aload_n 0, 1), (31, .iload_n 2, 1), (32, .iconst 2, 1), (33, .invokevirtual 99, 3), (36, .iload_n 1, 1), (37, .if_icmp .lt 9, 3), (40, .aload_n 0, 1), (41, .iconst 3, 1), (42, .invokevirtual 95, 3), (45, .ireturn, 1), (46, .iinc 2 1, 3), (49, .goto (-29), 3), (52, .aload_n 0, 1), (53, .getfield 7, 3), (56, .iconst 0, 1), (57, .iaload, 1), (58, .istore_n 2, 1), (59, .aload_n 0, 1), (60, .getfield 7, 3), (63, .iconst 0, 1), (64, .iload_n 1, 1), (65, .iastore, 1), (66, .iload_n 2, 1)] = true := by decide +kernel
theorem dt_X12_lines_1 : dtab cX12_lines [(67, .ireturn, 1)] = true := by decide +kernel
theorem cal_X12_lines : Cal yX12_lines cX12_lines 3 (some .int) 1 := ⟨ww_747, ww_429, ⟨by decide, by decide, by decide⟩, by decide⟩
set_option maxHeartbeats 4000000 in
set_option maxRecDepth 100000 in
theorem c_X12_lines (l : Launch) (G : Gx) (x1 : Int32) (σ : St) (r0 : Int32) (σ0 : St) (h : f_X12_lines x1 σ = some (r0, σ0)) : MI l G yX12_lines cX12_lines 3 (some .int) 2 [.ref (ga G 6), .int x1] σ (some (.int r0)) σ0 := by
  refine MI_of RX12 rfl (by decide) [(0, .ref (ga G 6)), (1, .int x1)] rfl (Nat.le_of_ble_eq_true rfl) ?_
  intro X hXl C hR
  unfold f_X12_lines at h
  have J_52 : ∀ (σ : St), f_X12_lines_52 x1 σ = some (r0, σ0) → V X G 3 0 0 σ 52 [(0, .ref (ga G 6)), (1, .int x1)] [] := by
    intro σ h
    unfold f_X12_lines_52 at h
    refine V_aload_n C (dt_at dt_X12_lines_0 29 rfl) 0 rfl rfl ?_
    refine g_X12_7_6 C (dt_at dt_X12_lines_0 30 rfl) ?_
    refine V_iconst C 0 (dt_at dt_X12_lines_0 31 rfl) (by decide) ?_
    obtain ⟨h19, h⟩ := chk_s h
    refine al_84 C h19 (dt_at dt_X12_lines_0 32 rfl) ?_
    refine V_istore_n C [1, 2, 0] (lv' := [(0, .ref (ga G 6)), (1, .int x1), (2, .int (rd σ 84 0))]) (dt_at dt_X12_lines_0 33 rfl) rfl (by decide) rfl ?_
    refine V_aload_n C (dt_at dt_X12_lines_0 34 rfl) 0 rfl rfl ?_
    refine g_X12_7_6 C (dt_at dt_X12_lines_0 35 rfl) ?_
    refine V_iconst C 0 (dt_at dt_X12_lines_0 36 rfl) (by decide) ?_
    refine V_iload_n C (dt_at dt_X12_lines_0 37 rfl) 1 rfl rfl ?_
    obtain ⟨σ20, eσ20, h⟩ := nm_s h
    refine V_st eσ20 ?_ (fun k => as_84 C h19 (dt_at dt_X12_lines_0 38 rfl) k)
    refine V_iload_n C (dt_at dt_X12_lines_0 39 rfl) 2 rfl rfl ?_
    obtain ⟨e1_, e2_⟩ := pin2 h
    subst e1_; subst e2_
    exact V_iret C hR (dt_at dt_X12_lines_1 0 rfl)
  have J_40 : ∀ (σ : St), f_X12_lines_40 σ = some (r0, σ0) → V X G 3 0 0 σ 40 [(0, .ref (ga G 6))] [] := by
    intro σ h
    unfold f_X12_lines_40 at h
    refine V_aload_n C (dt_at dt_X12_lines_0 23 rfl) 0 rfl rfl ?_
    refine V_iconst C 3 (dt_at dt_X12_lines_0 24 rfl) (by decide) ?_
    obtain ⟨r16, σ18, e17, h⟩ := bd2_s h
    refine cv_X12_finds C ww_462 3 e17 (Nat.le_of_ble_eq_true rfl) (Nat.le_of_ble_eq_true rfl) z0 (dt_at dt_X12_lines_0 25 rfl) ?_
    obtain ⟨e1_, e2_⟩ := pin2 h
    subst e1_; subst e2_
    exact V_iret C hR (dt_at dt_X12_lines_0 26 rfl)
  have J_20 : ∀ (x2 : Int32) (σ : St), f_X12_lines_20 x1 x2 σ = some (r0, σ0) → V X G 3 0 0 σ 20 [(0, .ref (ga G 6)), (1, .int x1), (2, .int x2)] [] := by
    intro x2 σ h
    refine it_v (P := fun z : Int32 => V X G 3 0 0 σ 20 [(0, .ref (ga G 6)), (1, .int x1), (2, .int z)] []) ?_ x2 h
    clear h
    intro z w_20 h ih_20 ex_20
    revert h; revert z; intro x2 h
    have h : b_X12_lines_20 x1 x2 σ = some w_20 := h
    show V X G 3 0 0 σ 20 [(0, .ref (ga G 6)), (1, .int x1), (2, .int x2)] []
    unfold b_X12_lines_20 at h
    refine V_iload_n C (dt_at dt_X12_lines_0 11 rfl) 2 rfl rfl ?_
    refine V_aload_n C (dt_at dt_X12_lines_0 12 rfl) 0 rfl rfl ?_
    refine g_X12_7_6 C (dt_at dt_X12_lines_0 13 rfl) ?_
    refine V_iconst C 2 (dt_at dt_X12_lines_0 14 rfl) (by decide) ?_
    obtain ⟨h8, h⟩ := chk_s h
    refine al_84 C h8 (dt_at dt_X12_lines_0 15 rfl) ?_
    refine V_icmp_ge C 52 (dt_at dt_X12_lines_0 16 rfl) (by decide) (fun q9 => ?_) (fun q9 => ?_)
    · have h := ite_f q9 h
      refine V_sub [0, 1] (lv' := [(0, .ref (ga G 6)), (1, .int x1)]) rfl ?_
      obtain ⟨t10, h, e_20⟩ := map_s h
      have e_20 := ex_20 _ e_20
      rw [e_20] at h
      exact J_52 σ h
    · have h := ite_t q9 h
      refine V_aload_n C (dt_at dt_X12_lines_0 17 rfl) 0 rfl rfl ?_
      refine V_iload_n C (dt_at dt_X12_lines_0 18 rfl) 2 rfl rfl ?_
      refine V_iconst C 2 (dt_at dt_X12_lines_0 19 rfl) (by decide) ?_
      obtain ⟨r11, e12, h⟩ := bd_s h
      refine cv_X12_entryOf C ww_455 x2 2 e12 (Nat.le_of_ble_eq_true rfl) (Nat.le_of_ble_eq_true rfl) z0 (dt_at dt_X12_lines_0 20 rfl) ?_
      refine V_iload_n C (dt_at dt_X12_lines_0 21 rfl) 1 rfl rfl ?_
      refine V_icmp_lt C 46 (dt_at dt_X12_lines_0 22 rfl) (by decide) (fun q14 => ?_) (fun q14 => ?_)
      · have h := ite_t q14 h
        refine V_iinc C (x2 + 1) 2 [1, 2, 0] (lv' := [(0, .ref (ga G 6)), (1, .int x1), (2, .int (x2 + 1))]) (dt_at dt_X12_lines_0 27 rfl) rfl (by rfl) (by decide) rfl ?_
        refine V_goto C 20 (dt_at dt_X12_lines_0 28 rfl) (by decide) ?_
        exact ih_20 (x2 + 1) (Option.some.inj h).symm
      · have h := ite_f q14 h
        refine V_sub [0] (lv' := [(0, .ref (ga G 6))]) rfl ?_
        obtain ⟨t15, h, e_20⟩ := map_s h
        have e_20 := ex_20 _ e_20
        rw [e_20] at h
        exact J_40 σ h
  refine V_iload_n C (dt_at dt_X12_lines_0 0 rfl) 1 rfl rfl ?_
  refine V_bipush C 10 (dt_at dt_X12_lines_0 1 rfl) (by decide) ?_
  refine V_sipush C 200 (dt_at dt_X12_lines_0 2 rfl) (by decide) ?_
  obtain ⟨r1, e2, h⟩ := bd_s h
  refine cv_X12_in C ww_437 x1 10 200 e2 (Nat.le_of_ble_eq_true rfl) (Nat.le_of_ble_eq_true rfl) z0 (dt_at dt_X12_lines_0 3 rfl) ?_
  refine V_if_ne C 18 (dt_at dt_X12_lines_0 4 rfl) (by decide) (fun q4 => ?_) (fun q4 => ?_)
  · have h := ite_f q4 h
    refine V_iconst C 0 (dt_at dt_X12_lines_0 9 rfl) (by decide) ?_
    refine V_istore_n C [1, 2, 0] (lv' := [(0, .ref (ga G 6)), (1, .int x1), (2, .int 0)]) (dt_at dt_X12_lines_0 10 rfl) rfl (by decide) rfl ?_
    exact J_20 0 σ h
  · have h := ite_t q4 h
    refine V_aload_n C (dt_at dt_X12_lines_0 5 rfl) 0 rfl rfl ?_
    refine V_iconst C 1 (dt_at dt_X12_lines_0 6 rfl) (by decide) ?_
    obtain ⟨r5, σ7, e6, h⟩ := bd2_s h
    refine cv_X12_finds C ww_462 1 e6 (Nat.le_of_ble_eq_true rfl) (Nat.le_of_ble_eq_true rfl) z0 (dt_at dt_X12_lines_0 7 rfl) ?_
    obtain ⟨e1_, e2_⟩ := pin2 h
    subst e1_; subst e2_
    exact V_iret C hR (dt_at dt_X12_lines_0 8 rfl)
theorem cv_X12_lines (C : Ck X G cc own nL d) {idx : Nat} (hlk : Cond.methodLink own idx yX12_lines ∈ gtb) (x1 : Int32) {r0 : Int32} {σ0 : St} (e : f_X12_lines x1 σ = some (r0, σ0)) (hdd : 3 ≤ d) (hroom : (rest.map fun v => v.category).sum ≤ 8) (hcs : cells ≤ (xR X).cells ∧ slots ≤ (xR X).slots) (hd : decode cc pc = .ok (.invokevirtual idx, 3)) (k : V X G nL cells slots σ0 (pc + 3) lv (.int r0 :: rest)) : V X G nL cells slots σ pc lv (.int x1 :: .ref (ga G 6) :: rest) := V_callV C (As := [.int x1]) (c_X12_lines X.2.1 G x1 σ r0 σ0 e) cal_X12_lines ww_748 ww_749 hlk rfl hdd (lt110 rfl) rfl rfl rfl hroom hcs hd k
theorem dt_X12_move_0 : dtab cX12_move [(0, .iload_n 1, 1), (1, .invokestatic 240, 3), (4, .ifCond .eq 10, 3), (7, .iload_n 3, 1), (8, .invokestatic 240, 3), (11, .ifCond .ne 9, 3), (14, .aload_n 0, 1), (15, .iconst 1, 1), (16, .invokevirtual 95, 3), (19, .ireturn, 1), (20, .aload_n 0, 1), (21, .getfield 78, 3), (24, .iload_n 1, 1), (25, .iaload, 1), (26, .ifCond .eq 12, 3), (29, .aload_n 0, 1), (30, .getfield 78, 3), (33, .iload_n 3, 1), (34, .iaload, 1), (35, .ifCond .ne 9, 3), (38, .aload_n 0, 1), (39, .iconst 2, 1), (40, .invokevirtual 95, 3), (43, .ireturn, 1), (44, .aload_n 0, 1), (45, .getfield 78, 3), (48, .iload_n 1, 1), (49, .iaload, 1), (50, .aload_n 0, 1), (51, .getfield 78, 3), (54, .iload_n 3, 1), (55, .iaload, 1), (56, .if_icmp .eq 9, 3), (59, .aload_n 0, 1), (60, .iconst 5, 1), (61, .invokevirtual 95, 3), (64, .ireturn, 1), (65, .iload 5, 2), (67, .ifCond .lt 39, 3), (70, .iload_n 2, 1)] = true := by decide +kernel
theorem dt_X12_move_1 : dtab cX12_move [(71, .ifCond .lt 35, 3), (74, .iload 4, 2), (76, .ifCond .lt 30, 3), (79, .iload 5, 2), (81, .aload_n 0, 1), (82, .getfield 81, 3), (85, .iload_n 1, 1), (86, .iaload, 1), (87, .iload_n 2, 1), (88, .isub, 1), (89, .if_icmp .gt 17, 3), (92, .iload 5, 2), (94, .aload_n 0, 1), (95, .getfield 81, 3), (98, .iload_n 3, 1), (99, .iaload, 1), (100, .iload 4, 2), (102, .isub, 1), (103, .if_icmp .le 9, 3), (106, .aload_n 0, 1), (107, .iconst 1, 1), (108, .invokevirtual 95, 3), (111, .ireturn, 1), (112, .iconst 0, 1), (113, .istore 6, 2), (115, .iload 6, 2), (117, .iload 5, 2), (119, .if_icmp .ge 30, 3), (122, .aload_n 0, 1), (123, .getfield 87, 3), (126, .iload 6, 2), (128, .aload_n 0, 1), (129, .getfield 84, 3), (132, .bipush 24, 2), (134, .iload_n 1, 1), (135, .imul, 1), (136, .iload_n 2, 1), (137, .iadd, 1), (138, .iload 6, 2), (140, .iadd, 1)] = true := by decide +kernel
theorem dt_X12_move_2 : dtab cX12_move [(141, .iaload, 1), (142, .iastore, 1), (143, .iinc 6 1, 3), (146, .goto (-31), 3), (149, .iconst 0, 1), (150, .istore 6, 2), (152, .iload 6, 2), (154, .iload 5, 2), (156, .if_icmp .ge 31, 3), (159, .aload_n 0, 1), (160, .getfield 84, 3), (163, .bipush 24, 2), (165, .iload_n 3, 1), (166, .imul, 1), (167, .iload 4, 2), (169, .iadd, 1), (170, .iload 6, 2), (172, .iadd, 1), (173, .aload_n 0, 1), (174, .getfield 87, 3), (177, .iload 6, 2), (179, .iaload, 1), (180, .iastore, 1), (181, .iinc 6 1, 3), (184, .goto (-32), 3), (187, .iload 5, 2), (189, .ireturn, 1)] = true := by decide +kernel
theorem cal_X12_move : Cal yX12_move cX12_move 7 (some .int) 5 := ⟨ww_751, ww_429, ⟨by decide, by decide, by decide⟩, by decide⟩
set_option maxHeartbeats 4000000 in
set_option maxRecDepth 100000 in
theorem c_X12_move (l : Launch) (G : Gx) (x1 : Int32) (x2 : Int32) (x3 : Int32) (x4 : Int32) (x5 : Int32) (σ : St) (r0 : Int32) (σ0 : St) (h : f_X12_move x1 x2 x3 x4 x5 σ = some (r0, σ0)) : MI l G yX12_move cX12_move 7 (some .int) 3 [.ref (ga G 6), .int x1, .int x2, .int x3, .int x4, .int x5] σ (some (.int r0)) σ0 := by
  refine MI_of RX12 rfl (by decide) [(0, .ref (ga G 6)), (1, .int x1), (2, .int x2), (3, .int x3), (4, .int x4), (5, .int x5)] rfl (Nat.le_of_ble_eq_true rfl) ?_
  intro X hXl C hR
  unfold f_X12_move at h
  have J_152 : ∀ (x6 : Int32) (σ : St), f_X12_move_152 x3 x4 x5 x6 σ = some (r0, σ0) → V X G 7 0 0 σ 152 [(0, .ref (ga G 6)), (3, .int x3), (4, .int x4), (5, .int x5), (6, .int x6)] [] := by
    intro x6 σ h
    refine it_v (P := fun z : Int32 × St => V X G 7 0 0 z.2 152 [(0, .ref (ga G 6)), (3, .int x3), (4, .int x4), (5, .int x5), (6, .int z.1)] []) ?_ (x6, σ) h
    clear h
    intro z w_152 h ih_152 ex_152
    obtain ⟨x6, σ⟩ := z
    have h : b_X12_move_152 x3 x4 x5 x6 σ = some w_152 := h
    show V X G 7 0 0 σ 152 [(0, .ref (ga G 6)), (3, .int x3), (4, .int x4), (5, .int x5), (6, .int x6)] []
    unfold b_X12_move_152 at h
    refine V_iload C (dt_at dt_X12_move_2 6 rfl) 4 rfl ?_
    refine V_iload C (dt_at dt_X12_move_2 7 rfl) 3 rfl ?_
    refine V_icmp_ge C 187 (dt_at dt_X12_move_2 8 rfl) (by decide) (fun q36 => ?_) (fun q36 => ?_)
    · have h := ite_f q36 h
      refine V_iload C (dt_at dt_X12_move_2 25 rfl) 3 rfl ?_
      have e_152 := ex_152 _ (Option.some.inj h).symm
      obtain ⟨e1_, e2_⟩ := Prod.mk.inj e_152
      subst e1_; subst e2_
      exact V_iret C hR (dt_at dt_X12_move_2 26 rfl)
    · have h := ite_t q36 h
      refine V_aload_n C (dt_at dt_X12_move_2 9 rfl) 0 rfl rfl ?_
      refine g_X12_84_6 C (dt_at dt_X12_move_2 10 rfl) ?_
      refine V_bipush C 24 (dt_at dt_X12_move_2 11 rfl) (by decide) ?_
      refine V_iload_n C (dt_at dt_X12_move_2 12 rfl) 1 rfl rfl ?_
      refine V_imul C (dt_at dt_X12_move_2 13 rfl) ?_
      refine V_iload C (dt_at dt_X12_move_2 14 rfl) 2 rfl ?_
      refine V_iadd C (dt_at dt_X12_move_2 15 rfl) ?_
      refine V_iload C (dt_at dt_X12_move_2 16 rfl) 4 rfl ?_
      refine V_iadd C (dt_at dt_X12_move_2 17 rfl) ?_
      refine V_aload_n C (dt_at dt_X12_move_2 18 rfl) 0 rfl rfl ?_
      refine g_X12_87_6 C (dt_at dt_X12_move_2 19 rfl) ?_
      refine V_iload C (dt_at dt_X12_move_2 20 rfl) 4 rfl ?_
      obtain ⟨h37, h⟩ := chk_s h
      refine al_109 C h37 (dt_at dt_X12_move_2 21 rfl) ?_
      obtain ⟨h39, h⟩ := chk_s h
      obtain ⟨σ38, eσ38, h⟩ := nm_s h
      refine V_st eσ38 ?_ (fun k => as_108 C h39 (dt_at dt_X12_move_2 22 rfl) k)
      refine V_iinc C (x6 + 1) 4 [1, 2, 3, 4, 0] (lv' := [(0, .ref (ga G 6)), (3, .int x3), (4, .int x4), (5, .int x5), (6, .int (x6 + 1))]) (dt_at dt_X12_move_2 23 rfl) rfl (by rfl) (by decide) rfl ?_
      refine V_goto C 152 (dt_at dt_X12_move_2 24 rfl) (by decide) ?_
      exact ih_152 ((x6 + 1), σ38) (Option.some.inj h).symm
  have J_149 : ∀ (σ : St), f_X12_move_149 x3 x4 x5 σ = some (r0, σ0) → V X G 7 0 0 σ 149 [(0, .ref (ga G 6)), (3, .int x3), (4, .int x4), (5, .int x5)] [] := by
    intro σ h
    unfold f_X12_move_149 at h
    refine V_iconst C 0 (dt_at dt_X12_move_2 4 rfl) (by decide) ?_
    refine V_istore C [1, 2, 3, 4, 0] (lv' := [(0, .ref (ga G 6)), (3, .int x3), (4, .int x4), (5, .int x5), (6, .int 0)]) (dt_at dt_X12_move_2 5 rfl) (by decide) rfl ?_
    exact J_152 0 σ h
  have J_115 : ∀ (x6 : Int32) (σ : St), f_X12_move_115 x1 x2 x3 x4 x5 x6 σ = some (r0, σ0) → V X G 7 0 0 σ 115 [(0, .ref (ga G 6)), (1, .int x1), (2, .int x2), (3, .int x3), (4, .int x4), (5, .int x5), (6, .int x6)] [] := by
    intro x6 σ h
    refine it_v (P := fun z : Int32 × St => V X G 7 0 0 z.2 115 [(0, .ref (ga G 6)), (1, .int x1), (2, .int x2), (3, .int x3), (4, .int x4), (5, .int x5), (6, .int z.1)] []) ?_ (x6, σ) h
    clear h
    intro z w_115 h ih_115 ex_115
    obtain ⟨x6, σ⟩ := z
    have h : b_X12_move_115 x1 x2 x3 x4 x5 x6 σ = some w_115 := h
    show V X G 7 0 0 σ 115 [(0, .ref (ga G 6)), (1, .int x1), (2, .int x2), (3, .int x3), (4, .int x4), (5, .int x5), (6, .int x6)] []
    unfold b_X12_move_115 at h
    refine V_iload C (dt_at dt_X12_move_1 25 rfl) 6 rfl ?_
    refine V_iload C (dt_at dt_X12_move_1 26 rfl) 5 rfl ?_
    refine V_icmp_ge C 149 (dt_at dt_X12_move_1 27 rfl) (by decide) (fun q31 => ?_) (fun q31 => ?_)
    · have h := ite_f q31 h
      refine V_sub [0, 3, 4, 5] (lv' := [(0, .ref (ga G 6)), (3, .int x3), (4, .int x4), (5, .int x5)]) rfl ?_
      obtain ⟨t32, h, e_115⟩ := map_s h
      have e_115 := ex_115 _ e_115
      rw [e_115] at h
      exact J_149 σ h
    · have h := ite_t q31 h
      refine V_aload_n C (dt_at dt_X12_move_1 28 rfl) 0 rfl rfl ?_
      refine g_X12_87_6 C (dt_at dt_X12_move_1 29 rfl) ?_
      refine V_iload C (dt_at dt_X12_move_1 30 rfl) 6 rfl ?_
      refine V_aload_n C (dt_at dt_X12_move_1 31 rfl) 0 rfl rfl ?_
      refine g_X12_84_6 C (dt_at dt_X12_move_1 32 rfl) ?_
      refine V_bipush C 24 (dt_at dt_X12_move_1 33 rfl) (by decide) ?_
      refine V_iload_n C (dt_at dt_X12_move_1 34 rfl) 1 rfl rfl ?_
      refine V_imul C (dt_at dt_X12_move_1 35 rfl) ?_
      refine V_iload_n C (dt_at dt_X12_move_1 36 rfl) 2 rfl rfl ?_
      refine V_iadd C (dt_at dt_X12_move_1 37 rfl) ?_
      refine V_iload C (dt_at dt_X12_move_1 38 rfl) 6 rfl ?_
      refine V_iadd C (dt_at dt_X12_move_1 39 rfl) ?_
      obtain ⟨h33, h⟩ := chk_s h
      refine al_108 C h33 (dt_at dt_X12_move_2 0 rfl) ?_
      obtain ⟨h35, h⟩ := chk_s h
      obtain ⟨σ34, eσ34, h⟩ := nm_s h
      refine V_st eσ34 ?_ (fun k => as_109 C h35 (dt_at dt_X12_move_2 1 rfl) k)
      refine V_iinc C (x6 + 1) 6 [1, 2, 3, 4, 5, 6, 0] (lv' := [(0, .ref (ga G 6)), (1, .int x1), (2, .int x2), (3, .int x3), (4, .int x4), (5, .int x5), (6, .int (x6 + 1))]) (dt_at dt_X12_move_2 2 rfl) rfl (by rfl) (by decide) rfl ?_
      refine V_goto C 115 (dt_at dt_X12_move_2 3 rfl) (by decide) ?_
      exact ih_115 ((x6 + 1), σ34) (Option.some.inj h).symm
  have J_106 : ∀ (σ : St), f_X12_move_106 σ = some (r0, σ0) → V X G 7 0 0 σ 106 [(0, .ref (ga G 6))] [] := by
    intro σ h
    unfold f_X12_move_106 at h
    refine V_aload_n C (dt_at dt_X12_move_1 19 rfl) 0 rfl rfl ?_
    refine V_iconst C 1 (dt_at dt_X12_move_1 20 rfl) (by decide) ?_
    obtain ⟨r28, σ30, e29, h⟩ := bd2_s h
    refine cv_X12_finds C ww_462 1 e29 (Nat.le_of_ble_eq_true rfl) (Nat.le_of_ble_eq_true rfl) z0 (dt_at dt_X12_move_1 21 rfl) ?_
    obtain ⟨e1_, e2_⟩ := pin2 h
    subst e1_; subst e2_
    exact V_iret C hR (dt_at dt_X12_move_1 22 rfl)
  have J_38 : ∀ (σ : St), f_X12_move_38 σ = some (r0, σ0) → V X G 7 0 0 σ 38 [(0, .ref (ga G 6))] [] := by
    intro σ h
    unfold f_X12_move_38 at h
    refine V_aload_n C (dt_at dt_X12_move_0 20 rfl) 0 rfl rfl ?_
    refine V_iconst C 2 (dt_at dt_X12_move_0 21 rfl) (by decide) ?_
    obtain ⟨r25, σ27, e26, h⟩ := bd2_s h
    refine cv_X12_finds C ww_462 2 e26 (Nat.le_of_ble_eq_true rfl) (Nat.le_of_ble_eq_true rfl) z0 (dt_at dt_X12_move_0 22 rfl) ?_
    obtain ⟨e1_, e2_⟩ := pin2 h
    subst e1_; subst e2_
    exact V_iret C hR (dt_at dt_X12_move_0 23 rfl)
  have J_14 : ∀ (σ : St), f_X12_move_14 σ = some (r0, σ0) → V X G 7 0 0 σ 14 [(0, .ref (ga G 6))] [] := by
    intro σ h
    unfold f_X12_move_14 at h
    refine V_aload_n C (dt_at dt_X12_move_0 6 rfl) 0 rfl rfl ?_
    refine V_iconst C 1 (dt_at dt_X12_move_0 7 rfl) (by decide) ?_
    obtain ⟨r22, σ24, e23, h⟩ := bd2_s h
    refine cv_X12_finds C ww_462 1 e23 (Nat.le_of_ble_eq_true rfl) (Nat.le_of_ble_eq_true rfl) z0 (dt_at dt_X12_move_0 8 rfl) ?_
    obtain ⟨e1_, e2_⟩ := pin2 h
    subst e1_; subst e2_
    exact V_iret C hR (dt_at dt_X12_move_0 9 rfl)
  refine V_iload_n C (dt_at dt_X12_move_0 0 rfl) 1 rfl rfl ?_
  obtain ⟨r1, e2, h⟩ := bd_s h
  refine cv_X12_isSheet C ww_573 x1 e2 (Nat.le_of_ble_eq_true rfl) (Nat.le_of_ble_eq_true rfl) z0 (dt_at dt_X12_move_0 1 rfl) ?_
  refine V_if_eq C 14 (dt_at dt_X12_move_0 2 rfl) (by decide) (fun q4 => ?_) (fun q4 => ?_)
  · have h := ite_t q4 h
    refine V_sub [0] (lv' := [(0, .ref (ga G 6))]) rfl ?_
    exact J_14 σ h
  · have h := ite_f q4 h
    refine V_iload_n C (dt_at dt_X12_move_0 3 rfl) 3 rfl rfl ?_
    obtain ⟨r5, e6, h⟩ := bd_s h
    refine cv_X12_isSheet C ww_573 x3 e6 (Nat.le_of_ble_eq_true rfl) (Nat.le_of_ble_eq_true rfl) z0 (dt_at dt_X12_move_0 4 rfl) ?_
    refine V_if_ne C 20 (dt_at dt_X12_move_0 5 rfl) (by decide) (fun q8 => ?_) (fun q8 => ?_)
    · have h := ite_f q8 h
      refine V_aload_n C (dt_at dt_X12_move_0 10 rfl) 0 rfl rfl ?_
      refine g_X12_78_6 C (dt_at dt_X12_move_0 11 rfl) ?_
      refine V_iload_n C (dt_at dt_X12_move_0 12 rfl) 1 rfl rfl ?_
      obtain ⟨h9, h⟩ := chk_s h
      refine al_106 C h9 (dt_at dt_X12_move_0 13 rfl) ?_
      refine V_if_eq C 38 (dt_at dt_X12_move_0 14 rfl) (by decide) (fun q10 => ?_) (fun q10 => ?_)
      · have h := ite_t q10 h
        refine V_sub [0] (lv' := [(0, .ref (ga G 6))]) rfl ?_
        exact J_38 σ h
      · have h := ite_f q10 h
        refine V_aload_n C (dt_at dt_X12_move_0 15 rfl) 0 rfl rfl ?_
        refine g_X12_78_6 C (dt_at dt_X12_move_0 16 rfl) ?_
        refine V_iload_n C (dt_at dt_X12_move_0 17 rfl) 3 rfl rfl ?_
        obtain ⟨h11, h⟩ := chk_s h
        refine al_106 C h11 (dt_at dt_X12_move_0 18 rfl) ?_
        refine V_if_ne C 44 (dt_at dt_X12_move_0 19 rfl) (by decide) (fun q12 => ?_) (fun q12 => ?_)
        · have h := ite_f q12 h
          refine V_aload_n C (dt_at dt_X12_move_0 24 rfl) 0 rfl rfl ?_
          refine g_X12_78_6 C (dt_at dt_X12_move_0 25 rfl) ?_
          refine V_iload_n C (dt_at dt_X12_move_0 26 rfl) 1 rfl rfl ?_
          refine al_106 C h9 (dt_at dt_X12_move_0 27 rfl) ?_
          refine V_aload_n C (dt_at dt_X12_move_0 28 rfl) 0 rfl rfl ?_
          refine g_X12_78_6 C (dt_at dt_X12_move_0 29 rfl) ?_
          refine V_iload_n C (dt_at dt_X12_move_0 30 rfl) 3 rfl rfl ?_
          refine al_106 C h11 (dt_at dt_X12_move_0 31 rfl) ?_
          refine V_icmp_eq C 65 (dt_at dt_X12_move_0 32 rfl) (by decide) (fun q13 => ?_) (fun q13 => ?_)
          · have h := ite_t q13 h
            refine V_iload C (dt_at dt_X12_move_0 37 rfl) 5 rfl ?_
            refine V_if_lt C 106 (dt_at dt_X12_move_0 38 rfl) (by decide) (fun q14 => ?_) (fun q14 => ?_)
            · have h := ite_t q14 h
              refine V_sub [0] (lv' := [(0, .ref (ga G 6))]) rfl ?_
              exact J_106 σ h
            · have h := ite_f q14 h
              refine V_iload_n C (dt_at dt_X12_move_0 39 rfl) 2 rfl rfl ?_
              refine V_if_lt C 106 (dt_at dt_X12_move_1 0 rfl) (by decide) (fun q15 => ?_) (fun q15 => ?_)
              · have h := ite_t q15 h
                refine V_sub [0] (lv' := [(0, .ref (ga G 6))]) rfl ?_
                exact J_106 σ h
              · have h := ite_f q15 h
                refine V_iload C (dt_at dt_X12_move_1 1 rfl) 4 rfl ?_
                refine V_if_lt C 106 (dt_at dt_X12_move_1 2 rfl) (by decide) (fun q16 => ?_) (fun q16 => ?_)
                · have h := ite_t q16 h
                  refine V_sub [0] (lv' := [(0, .ref (ga G 6))]) rfl ?_
                  exact J_106 σ h
                · have h := ite_f q16 h
                  refine V_iload C (dt_at dt_X12_move_1 3 rfl) 5 rfl ?_
                  refine V_aload_n C (dt_at dt_X12_move_1 4 rfl) 0 rfl rfl ?_
                  refine g_X12_81_6 C (dt_at dt_X12_move_1 5 rfl) ?_
                  refine V_iload_n C (dt_at dt_X12_move_1 6 rfl) 1 rfl rfl ?_
                  refine al_107 C h9 (dt_at dt_X12_move_1 7 rfl) ?_
                  refine V_iload_n C (dt_at dt_X12_move_1 8 rfl) 2 rfl rfl ?_
                  refine V_isub C (dt_at dt_X12_move_1 9 rfl) ?_
                  refine V_icmp_gt C 106 (dt_at dt_X12_move_1 10 rfl) (by decide) (fun q17 => ?_) (fun q17 => ?_)
                  · have h := ite_t q17 h
                    refine V_sub [0] (lv' := [(0, .ref (ga G 6))]) rfl ?_
                    exact J_106 σ h
                  · have h := ite_f q17 h
                    refine V_iload C (dt_at dt_X12_move_1 11 rfl) 5 rfl ?_
                    refine V_aload_n C (dt_at dt_X12_move_1 12 rfl) 0 rfl rfl ?_
                    refine g_X12_81_6 C (dt_at dt_X12_move_1 13 rfl) ?_
                    refine V_iload_n C (dt_at dt_X12_move_1 14 rfl) 3 rfl rfl ?_
                    refine al_107 C h11 (dt_at dt_X12_move_1 15 rfl) ?_
                    refine V_iload C (dt_at dt_X12_move_1 16 rfl) 4 rfl ?_
                    refine V_isub C (dt_at dt_X12_move_1 17 rfl) ?_
                    refine V_icmp_le C 112 (dt_at dt_X12_move_1 18 rfl) (by decide) (fun q18 => ?_) (fun q18 => ?_)
                    · have h := ite_f q18 h
                      refine V_iconst C 0 (dt_at dt_X12_move_1 23 rfl) (by decide) ?_
                      refine V_istore C [1, 2, 3, 4, 5, 6, 0] (lv' := [(0, .ref (ga G 6)), (1, .int x1), (2, .int x2), (3, .int x3), (4, .int x4), (5, .int x5), (6, .int 0)]) (dt_at dt_X12_move_1 24 rfl) (by decide) rfl ?_
                      exact J_115 0 σ h
                    · have h := ite_t q18 h
                      refine V_sub [0] (lv' := [(0, .ref (ga G 6))]) rfl ?_
                      exact J_106 σ h
          · have h := ite_f q13 h
            refine V_aload_n C (dt_at dt_X12_move_0 33 rfl) 0 rfl rfl ?_
            refine V_iconst C 5 (dt_at dt_X12_move_0 34 rfl) (by decide) ?_
            obtain ⟨r19, σ21, e20, h⟩ := bd2_s h
            refine cv_X12_finds C ww_462 5 e20 (Nat.le_of_ble_eq_true rfl) (Nat.le_of_ble_eq_true rfl) z0 (dt_at dt_X12_move_0 35 rfl) ?_
            obtain ⟨e1_, e2_⟩ := pin2 h
            subst e1_; subst e2_
            exact V_iret C hR (dt_at dt_X12_move_0 36 rfl)
        · have h := ite_t q12 h
          refine V_sub [0] (lv' := [(0, .ref (ga G 6))]) rfl ?_
          exact J_38 σ h
    · have h := ite_t q8 h
      refine V_sub [0] (lv' := [(0, .ref (ga G 6))]) rfl ?_
      exact J_14 σ h
theorem cv_X12_move (C : Ck X G cc own nL d) {idx : Nat} (hlk : Cond.methodLink own idx yX12_move ∈ gtb) (x1 : Int32) (x2 : Int32) (x3 : Int32) (x4 : Int32) (x5 : Int32) {r0 : Int32} {σ0 : St} (e : f_X12_move x1 x2 x3 x4 x5 σ = some (r0, σ0)) (hdd : 4 ≤ d) (hroom : (rest.map fun v => v.category).sum ≤ 8) (hcs : cells ≤ (xR X).cells ∧ slots ≤ (xR X).slots) (hd : decode cc pc = .ok (.invokevirtual idx, 3)) (k : V X G nL cells slots σ0 (pc + 3) lv (.int r0 :: rest)) : V X G nL cells slots σ pc lv (.int x5 :: .int x4 :: .int x3 :: .int x2 :: .int x1 :: .ref (ga G 6) :: rest) := V_callV C (As := [.int x1, .int x2, .int x3, .int x4, .int x5]) (c_X12_move X.2.1 G x1 x2 x3 x4 x5 σ r0 σ0 e) cal_X12_move ww_752 ww_753 hlk rfl hdd (lt110 rfl) rfl rfl rfl hroom hcs hd k
theorem dt_X12_ofThree_0 : dtab cX12_ofThree [(0, .iload_n 0, 1), (1, .iload_n 1, 1), (2, .if_icmp .ne 8, 3), (5, .iload 4, 2), (7, .goto 28, 3), (10, .iload_n 0, 1), (11, .iload_n 2, 1), (12, .if_icmp .ne 10, 3), (15, .iload 4, 2), (17, .iconst 1, 1), (18, .iadd, 1), (19, .goto 16, 3), (22, .iload_n 0, 1), (23, .iload_n 3, 1), (24, .if_icmp .ne 10, 3), (27, .iload 4, 2), (29, .iconst 2, 1), (30, .iadd, 1), (31, .goto 4, 3), (34, .iconst (-1), 1), (35, .ireturn, 1)] = true := by decide +kernel
theorem cal_X12_ofThree : Cal yX12_ofThree cX12_ofThree 5 (some .int) 5 := ⟨ww_754, ww_429, ⟨by decide, by decide, by decide⟩, by decide⟩
set_option maxHeartbeats 4000000 in
set_option maxRecDepth 100000 in
theorem c_X12_ofThree (l : Launch) (G : Gx) (x0 : Int32) (x1 : Int32) (x2 : Int32) (x3 : Int32) (x4 : Int32) (σ : St) (r0 : Int32) (h : f_X12_ofThree x0 x1 x2 x3 x4 = some r0) : MI l G yX12_ofThree cX12_ofThree 5 (some .int) 1 [.int x0, .int x1, .int x2, .int x3, .int x4] σ (some (.int r0)) σ := by
  refine MI_of RX12 rfl (by decide) [(0, .int x0), (1, .int x1), (2, .int x2), (3, .int x3), (4, .int x4)] rfl (Nat.le_of_ble_eq_true rfl) ?_
  intro X hXl C hR
  unfold f_X12_ofThree at h
  refine V_iload_n C (dt_at dt_X12_ofThree_0 0 rfl) 0 rfl rfl ?_
  refine V_iload_n C (dt_at dt_X12_ofThree_0 1 rfl) 1 rfl rfl ?_
  refine V_icmp_ne C 10 (dt_at dt_X12_ofThree_0 2 rfl) (by decide) (fun q1 => ?_) (fun q1 => ?_)
  · have h := ite_f q1 h
    refine V_iload_n C (dt_at dt_X12_ofThree_0 5 rfl) 0 rfl rfl ?_
    refine V_iload_n C (dt_at dt_X12_ofThree_0 6 rfl) 2 rfl rfl ?_
    refine V_icmp_ne C 22 (dt_at dt_X12_ofThree_0 7 rfl) (by decide) (fun q2 => ?_) (fun q2 => ?_)
    · have h := ite_f q2 h
      refine V_iload_n C (dt_at dt_X12_ofThree_0 12 rfl) 0 rfl rfl ?_
      refine V_iload_n C (dt_at dt_X12_ofThree_0 13 rfl) 3 rfl rfl ?_
      refine V_icmp_ne C 34 (dt_at dt_X12_ofThree_0 14 rfl) (by decide) (fun q3 => ?_) (fun q3 => ?_)
      · have h := ite_f q3 h
        refine V_iconst C (-1) (dt_at dt_X12_ofThree_0 19 rfl) (by decide) ?_
        have e1_ := Option.some.inj h
        subst e1_
        exact V_iret C hR (dt_at dt_X12_ofThree_0 20 rfl)
      · have h := ite_t q3 h
        refine V_iload C (dt_at dt_X12_ofThree_0 15 rfl) 4 rfl ?_
        refine V_iconst C 2 (dt_at dt_X12_ofThree_0 16 rfl) (by decide) ?_
        refine V_iadd C (dt_at dt_X12_ofThree_0 17 rfl) ?_
        refine V_goto C 35 (dt_at dt_X12_ofThree_0 18 rfl) (by decide) ?_
        have e1_ := Option.some.inj h
        subst e1_
        exact V_iret C hR (dt_at dt_X12_ofThree_0 20 rfl)
    · have h := ite_t q2 h
      refine V_iload C (dt_at dt_X12_ofThree_0 8 rfl) 4 rfl ?_
      refine V_iconst C 1 (dt_at dt_X12_ofThree_0 9 rfl) (by decide) ?_
      refine V_iadd C (dt_at dt_X12_ofThree_0 10 rfl) ?_
      refine V_goto C 35 (dt_at dt_X12_ofThree_0 11 rfl) (by decide) ?_
      have e1_ := Option.some.inj h
      subst e1_
      exact V_iret C hR (dt_at dt_X12_ofThree_0 20 rfl)
  · have h := ite_t q1 h
    refine V_iload C (dt_at dt_X12_ofThree_0 3 rfl) 4 rfl ?_
    refine V_goto C 35 (dt_at dt_X12_ofThree_0 4 rfl) (by decide) ?_
    have e1_ := Option.some.inj h
    subst e1_
    exact V_iret C hR (dt_at dt_X12_ofThree_0 20 rfl)
theorem cv_X12_ofThree (C : Ck X G cc own nL d) {idx : Nat} (hlk : Cond.methodLink own idx yX12_ofThree ∈ gtb) (x0 : Int32) (x1 : Int32) (x2 : Int32) (x3 : Int32) (x4 : Int32) {r0 : Int32} (e : f_X12_ofThree x0 x1 x2 x3 x4 = some r0) (hdd : 2 ≤ d) (hroom : (rest.map fun v => v.category).sum ≤ 8) (hcs : cells ≤ (xR X).cells ∧ slots ≤ (xR X).slots) (hd : decode cc pc = .ok (.invokestatic idx, 3)) (k : V X G nL cells slots σ (pc + 3) lv (.int r0 :: rest)) : V X G nL cells slots σ pc lv (.int x4 :: .int x3 :: .int x2 :: .int x1 :: .int x0 :: rest) := V_callS C (As := [.int x0, .int x1, .int x2, .int x3, .int x4]) (c_X12_ofThree X.2.1 G x0 x1 x2 x3 x4 σ r0 e) cal_X12_ofThree ww_755 hlk rfl hdd rfl hroom hcs hd k
theorem dt_X12_nameOf_0 : dtab cX12_nameOf [(0, .iload_n 0, 1), (1, .iconst 1, 1), (2, .if_icmp .ne 17, 3), (5, .iload_n 1, 1), (6, .bipush 119, 2), (8, .bipush 118, 2), (10, .bipush 107, 2), (12, .iconst 0, 1), (13, .invokestatic 168, 3), (16, .goto 14, 3), (19, .iload_n 1, 1), (20, .bipush 103, 2), (22, .bipush 97, 2), (24, .bipush 110, 2), (26, .iconst 0, 1), (27, .invokestatic 168, 3), (30, .istore_n 2, 1), (31, .iload_n 2, 1), (32, .ifCond .ge 44, 3), (35, .iload_n 0, 1), (36, .iconst 1, 1), (37, .if_icmp .ne 17, 3), (40, .iload_n 1, 1), (41, .bipush 113, 2), (43, .bipush 115, 2), (45, .bipush (-2), 2), (47, .iconst 3, 1), (48, .invokestatic 168, 3), (51, .goto 24, 3), (54, .iload_n 1, 1), (55, .bipush 121, 2), (57, .bipush 107, 2), (59, .iload_n 0, 1), (60, .iconst 2, 1), (61, .if_icmp .ne 8, 3), (64, .bipush 108, 2), (66, .goto 5, 3), (69, .bipush (-2), 2), (71, .iconst 3, 1), (72, .invokestatic 168, 3)] = true := by decide +kernel
theorem dt_X12_nameOf_1 : dtab cX12_nameOf [(75, .istore_n 2, 1), (76, .iload_n 2, 1), (77, .ireturn, 1)] = true := by decide +kernel
theorem cal_X12_nameOf : Cal yX12_nameOf cX12_nameOf 3 (some .int) 2 := ⟨ww_757, ww_429, ⟨by decide, by decide, by decide⟩, by decide⟩
set_option maxHeartbeats 4000000 in
set_option maxRecDepth 100000 in
theorem c_X12_nameOf (l : Launch) (G : Gx) (x0 : Int32) (x1 : Int32) (σ : St) (r0 : Int32) (h : f_X12_nameOf x0 x1 = some r0) : MI l G yX12_nameOf cX12_nameOf 3 (some .int) 2 [.int x0, .int x1] σ (some (.int r0)) σ := by
  refine MI_of RX12 rfl (by decide) [(0, .int x0), (1, .int x1)] rfl (Nat.le_of_ble_eq_true rfl) ?_
  intro X hXl C hR
  unfold f_X12_nameOf at h
  have J_75 : ∀ (s0 : Int32), f_X12_nameOf_75 s0 = some r0 → V X G 3 0 0 σ 75 [] [.int s0] := by
    intro s0 h
    unfold f_X12_nameOf_75 at h
    refine V_istore_n C [0] (lv' := [(2, .int s0)]) (dt_at dt_X12_nameOf_1 0 rfl) rfl (by decide) rfl ?_
    refine V_iload_n C (dt_at dt_X12_nameOf_1 1 rfl) 0 rfl rfl ?_
    have e1_ := Option.some.inj h
    subst e1_
    exact V_iret C hR (dt_at dt_X12_nameOf_1 2 rfl)
  have J_71 : ∀ (s0 : Int32) (s1 : Int32) (s2 : Int32) (s3 : Int32), f_X12_nameOf_71 s0 s1 s2 s3 = some r0 → V X G 3 0 0 σ 71 [] [.int s0, .int s1, .int s2, .int s3] := by
    intro s0 s1 s2 s3 h
    unfold f_X12_nameOf_71 at h
    refine V_iconst C 3 (dt_at dt_X12_nameOf_0 38 rfl) (by decide) ?_
    obtain ⟨r14, e15, h⟩ := bd_s h
    refine cv_X12_ofThree C ww_756 s3 s2 s1 s0 3 e15 (Nat.le_of_ble_eq_true rfl) (Nat.le_of_ble_eq_true rfl) z0 (dt_at dt_X12_nameOf_0 39 rfl) ?_
    exact J_75 r14 h
  have J_30 : ∀ (s0 : Int32), f_X12_nameOf_30 x0 x1 s0 = some r0 → V X G 3 0 0 σ 30 [(0, .int x0), (1, .int x1)] [.int s0] := by
    intro s0 h
    unfold f_X12_nameOf_30 at h
    refine V_istore_n C [1, 2, 0] (lv' := [(0, .int x0), (1, .int x1), (2, .int s0)]) (dt_at dt_X12_nameOf_0 16 rfl) rfl (by decide) rfl ?_
    refine V_iload_n C (dt_at dt_X12_nameOf_0 17 rfl) 2 rfl rfl ?_
    refine V_if_ge C 76 (dt_at dt_X12_nameOf_0 18 rfl) (by decide) (fun q8 => ?_) (fun q8 => ?_)
    · have h := ite_f q8 h
      refine V_iload_n C (dt_at dt_X12_nameOf_1 1 rfl) 2 rfl rfl ?_
      have e1_ := Option.some.inj h
      subst e1_
      exact V_iret C hR (dt_at dt_X12_nameOf_1 2 rfl)
    · have h := ite_t q8 h
      refine V_iload_n C (dt_at dt_X12_nameOf_0 19 rfl) 0 rfl rfl ?_
      refine V_iconst C 1 (dt_at dt_X12_nameOf_0 20 rfl) (by decide) ?_
      refine V_icmp_ne C 54 (dt_at dt_X12_nameOf_0 21 rfl) (by decide) (fun q9 => ?_) (fun q9 => ?_)
      · have h := ite_f q9 h
        refine V_iload_n C (dt_at dt_X12_nameOf_0 29 rfl) 1 rfl rfl ?_
        refine V_bipush C 121 (dt_at dt_X12_nameOf_0 30 rfl) (by decide) ?_
        refine V_bipush C 107 (dt_at dt_X12_nameOf_0 31 rfl) (by decide) ?_
        refine V_iload_n C (dt_at dt_X12_nameOf_0 32 rfl) 0 rfl rfl ?_
        refine V_iconst C 2 (dt_at dt_X12_nameOf_0 33 rfl) (by decide) ?_
        refine V_icmp_ne C 69 (dt_at dt_X12_nameOf_0 34 rfl) (by decide) (fun q10 => ?_) (fun q10 => ?_)
        · have h := ite_f q10 h
          refine V_bipush C (-2) (dt_at dt_X12_nameOf_0 37 rfl) (by decide) ?_
          refine V_sub [] (lv' := []) rfl ?_
          exact J_71 (-2) 107 121 x1 h
        · have h := ite_t q10 h
          refine V_bipush C 108 (dt_at dt_X12_nameOf_0 35 rfl) (by decide) ?_
          refine V_goto C 71 (dt_at dt_X12_nameOf_0 36 rfl) (by decide) ?_
          refine V_sub [] (lv' := []) rfl ?_
          exact J_71 108 107 121 x1 h
      · have h := ite_t q9 h
        refine V_iload_n C (dt_at dt_X12_nameOf_0 22 rfl) 1 rfl rfl ?_
        refine V_bipush C 113 (dt_at dt_X12_nameOf_0 23 rfl) (by decide) ?_
        refine V_bipush C 115 (dt_at dt_X12_nameOf_0 24 rfl) (by decide) ?_
        refine V_bipush C (-2) (dt_at dt_X12_nameOf_0 25 rfl) (by decide) ?_
        refine V_iconst C 3 (dt_at dt_X12_nameOf_0 26 rfl) (by decide) ?_
        obtain ⟨r11, e12, h⟩ := bd_s h
        refine cv_X12_ofThree C ww_756 x1 113 115 (-2) 3 e12 (Nat.le_of_ble_eq_true rfl) (Nat.le_of_ble_eq_true rfl) z0 (dt_at dt_X12_nameOf_0 27 rfl) ?_
        refine V_goto C 75 (dt_at dt_X12_nameOf_0 28 rfl) (by decide) ?_
        refine V_sub [] (lv' := []) rfl ?_
        exact J_75 r11 h
  refine V_iload_n C (dt_at dt_X12_nameOf_0 0 rfl) 0 rfl rfl ?_
  refine V_iconst C 1 (dt_at dt_X12_nameOf_0 1 rfl) (by decide) ?_
  refine V_icmp_ne C 19 (dt_at dt_X12_nameOf_0 2 rfl) (by decide) (fun q1 => ?_) (fun q1 => ?_)
  · have h := ite_f q1 h
    refine V_iload_n C (dt_at dt_X12_nameOf_0 10 rfl) 1 rfl rfl ?_
    refine V_bipush C 103 (dt_at dt_X12_nameOf_0 11 rfl) (by decide) ?_
    refine V_bipush C 97 (dt_at dt_X12_nameOf_0 12 rfl) (by decide) ?_
    refine V_bipush C 110 (dt_at dt_X12_nameOf_0 13 rfl) (by decide) ?_
    refine V_iconst C 0 (dt_at dt_X12_nameOf_0 14 rfl) (by decide) ?_
    obtain ⟨r2, e3, h⟩ := bd_s h
    refine cv_X12_ofThree C ww_756 x1 103 97 110 0 e3 (Nat.le_of_ble_eq_true rfl) (Nat.le_of_ble_eq_true rfl) z0 (dt_at dt_X12_nameOf_0 15 rfl) ?_
    exact J_30 r2 h
  · have h := ite_t q1 h
    refine V_iload_n C (dt_at dt_X12_nameOf_0 3 rfl) 1 rfl rfl ?_
    refine V_bipush C 119 (dt_at dt_X12_nameOf_0 4 rfl) (by decide) ?_
    refine V_bipush C 118 (dt_at dt_X12_nameOf_0 5 rfl) (by decide) ?_
    refine V_bipush C 107 (dt_at dt_X12_nameOf_0 6 rfl) (by decide) ?_
    refine V_iconst C 0 (dt_at dt_X12_nameOf_0 7 rfl) (by decide) ?_
    obtain ⟨r5, e6, h⟩ := bd_s h
    refine cv_X12_ofThree C ww_756 x1 119 118 107 0 e6 (Nat.le_of_ble_eq_true rfl) (Nat.le_of_ble_eq_true rfl) z0 (dt_at dt_X12_nameOf_0 8 rfl) ?_
    refine V_goto C 30 (dt_at dt_X12_nameOf_0 9 rfl) (by decide) ?_
    exact J_30 r5 h
theorem cv_X12_nameOf (C : Ck X G cc own nL d) {idx : Nat} (hlk : Cond.methodLink own idx yX12_nameOf ∈ gtb) (x0 : Int32) (x1 : Int32) {r0 : Int32} (e : f_X12_nameOf x0 x1 = some r0) (hdd : 3 ≤ d) (hroom : (rest.map fun v => v.category).sum ≤ 8) (hcs : cells ≤ (xR X).cells ∧ slots ≤ (xR X).slots) (hd : decode cc pc = .ok (.invokestatic idx, 3)) (k : V X G nL cells slots σ (pc + 3) lv (.int r0 :: rest)) : V X G nL cells slots σ pc lv (.int x1 :: .int x0 :: rest) := V_callS C (As := [.int x0, .int x1]) (c_X12_nameOf X.2.1 G x0 x1 σ r0 e) cal_X12_nameOf ww_758 hlk rfl hdd rfl hroom hcs hd k
theorem dt_X12_never_0 : dtab cX12_never [(0, .aload_n 0, 1), (1, .iload_n 1, 1), (2, .invokevirtual 272, 3), (5, .ifCond .eq 20, 3), (8, .aload_n 0, 1), (9, .iload_n 2, 1), (10, .invokevirtual 145, 3), (13, .ifCond .eq 12, 3), (16, .iload_n 3, 1), (17, .iconst 0, 1), (18, .iconst 1, 1), (19, .invokestatic 91, 3), (22, .ifCond .ne 9, 3), (25, .aload_n 0, 1), (26, .iconst 1, 1), (27, .invokevirtual 95, 3), (30, .ireturn, 1), (31, .aload_n 0, 1), (32, .iload_n 1, 1), (33, .iconst 1, 1), (34, .iload_n 2, 1), (35, .ishl, 1), (36, .iconst (-1), 1), (37, .ixor, 1), (38, .iand, 1), (39, .invokevirtual 281, 3), (42, .iconst 0, 1), (43, .istore 4, 2), (45, .aload_n 0, 1), (46, .invokevirtual 249, 3), (49, .istore 5, 2), (51, .iconst 0, 1), (52, .istore 6, 2), (54, .iload_n 1, 1), (55, .iload_n 2, 1), (56, .ishr, 1), (57, .iconst 1, 1), (58, .iand, 1), (59, .iconst 1, 1), (60, .if_icmp .ne 7, 3)] = true := by decide +kernel
theorem dt_X12_never_1 : dtab cX12_never [(63, .iconst 1, 1), (64, .goto 4, 3), (67, .iconst 0, 1), (68, .istore 7, 2), (70, .iload 7, 2), (72, .ifCond .eq 8, 3), (75, .aload_n 0, 1), (76, .iload_n 2, 1), (77, .invokevirtual 256, 3), (80, .iconst 0, 1), (81, .istore 8, 2), (83, .iload 8, 2), (85, .iload 7, 2), (87, .ifCond .eq 10, 3), (90, .aload_n 0, 1), (91, .invokevirtual 249, 3), (94, .goto 4, 3), (97, .iconst 0, 1), (98, .if_icmp .gt 63, 3), (101, .iload 8, 2), (103, .ifCond .le 13, 3), (106, .aload_n 0, 1), (107, .getfield 52, 3), (110, .iload 8, 2), (112, .baload, 1), (113, .ifCond .eq 42, 3), (116, .aload_n 0, 1), (117, .getfield 62, 3), (120, .aload_n 0, 1), (121, .invokevirtual 249, 3), (124, .iload 8, 2), (126, .iconst (-1), 1), (127, .ixor, 1), (128, .iand, 1), (129, .laload, 1), (130, .lconst 0, 1), (131, .lcmp, 1), (132, .ifCond .ne 6, 3), (135, .goto 20, 3), (138, .iconst 1, 1)] = true := by decide +kernel
theorem dt_X12_never_2 : dtab cX12_never [(139, .istore 6, 2), (141, .iload 4, 2), (143, .iload 8, 2), (145, .ior, 1), (146, .istore 4, 2), (148, .iload 5, 2), (150, .iload 8, 2), (152, .iand, 1), (153, .istore 5, 2), (155, .iinc 8 1, 3), (158, .goto (-75), 3), (161, .iload 6, 2), (163, .ifCond .ne 9, 3), (166, .aload_n 0, 1), (167, .iconst 2, 1), (168, .invokevirtual 95, 3), (171, .ireturn, 1), (172, .iload_n 3, 1), (173, .ifCond .ne 15, 3), (176, .aload_n 0, 1), (177, .invokevirtual 249, 3), (180, .iload 4, 2), (182, .iconst (-1), 1), (183, .ixor, 1), (184, .iand, 1), (185, .goto 5, 3), (188, .iload 5, 2), (190, .ireturn, 1)] = true := by decide +kernel
theorem cal_X12_never : Cal yX12_never cX12_never 9 (some .int) 3 := ⟨ww_759, ww_429, ⟨by decide, by decide, by decide⟩, by decide⟩
set_option maxHeartbeats 4000000 in
set_option maxRecDepth 100000 in
theorem c_X12_never (l : Launch) (G : Gx) (x1 : Int32) (x2 : Int32) (x3 : Int32) (σ : St) (r0 : Int32) (σ0 : St) (h : f_X12_never x1 x2 x3 σ = some (r0, σ0)) : MI l G yX12_never cX12_never 9 (some .int) 8 [.ref (ga G 6), .int x1, .int x2, .int x3] σ (some (.int r0)) σ0 := by
  refine MI_of RX12 rfl (by decide) [(0, .ref (ga G 6)), (1, .int x1), (2, .int x2), (3, .int x3)] rfl (Nat.le_of_ble_eq_true rfl) ?_
  intro X hXl C hR
  unfold f_X12_never at h
  have J_161 : ∀ (x4 : Int32) (x5 : Int32) (x6 : Int32) (σ : St), f_X12_never_161 x3 x4 x5 x6 σ = some (r0, σ0) → V X G 9 0 0 σ 161 [(0, .ref (ga G 6)), (3, .int x3), (4, .int x4), (5, .int x5), (6, .int x6)] [] := by
    intro x4 x5 x6 σ h
    unfold f_X12_never_161 at h
    refine V_iload C (dt_at dt_X12_never_2 11 rfl) 4 rfl ?_
    refine V_if_ne C 172 (dt_at dt_X12_never_2 12 rfl) (by decide) (fun q41 => ?_) (fun q41 => ?_)
    · have h := ite_f q41 h
      refine V_iload_n C (dt_at dt_X12_never_2 17 rfl) 1 rfl rfl ?_
      refine V_if_ne C 188 (dt_at dt_X12_never_2 18 rfl) (by decide) (fun q42 => ?_) (fun q42 => ?_)
      · have h := ite_f q42 h
        refine V_iload C (dt_at dt_X12_never_2 26 rfl) 3 rfl ?_
        obtain ⟨e1_, e2_⟩ := pin2 h
        subst e1_; subst e2_
        exact V_iret C hR (dt_at dt_X12_never_2 27 rfl)
      · have h := ite_t q42 h
        refine V_aload_n C (dt_at dt_X12_never_2 19 rfl) 0 rfl rfl ?_
        obtain ⟨r43, e44, h⟩ := bd_s h
        refine cv_X12_allParts C ww_527  e44 (Nat.le_of_ble_eq_true rfl) (Nat.le_of_ble_eq_true rfl) z0 (dt_at dt_X12_never_2 20 rfl) ?_
        refine V_iload C (dt_at dt_X12_never_2 21 rfl) 2 rfl ?_
        refine V_iconst C (-1) (dt_at dt_X12_never_2 22 rfl) (by decide) ?_
        refine V_ixor C (dt_at dt_X12_never_2 23 rfl) ?_
        refine V_iand C (dt_at dt_X12_never_2 24 rfl) ?_
        refine V_goto C 190 (dt_at dt_X12_never_2 25 rfl) (by decide) ?_
        obtain ⟨e1_, e2_⟩ := pin2 h
        subst e1_; subst e2_
        exact V_iret C hR (dt_at dt_X12_never_2 27 rfl)
    · have h := ite_t q41 h
      refine V_aload_n C (dt_at dt_X12_never_2 13 rfl) 0 rfl rfl ?_
      refine V_iconst C 2 (dt_at dt_X12_never_2 14 rfl) (by decide) ?_
      obtain ⟨r46, σ48, e47, h⟩ := bd2_s h
      refine cv_X12_finds C ww_462 2 e47 (Nat.le_of_ble_eq_true rfl) (Nat.le_of_ble_eq_true rfl) z0 (dt_at dt_X12_never_2 15 rfl) ?_
      obtain ⟨e1_, e2_⟩ := pin2 h
      subst e1_; subst e2_
      exact V_iret C hR (dt_at dt_X12_never_2 16 rfl)
  have J_83 : ∀ (x4 : Int32) (x5 : Int32) (x6 : Int32) (x7 : Int32) (x8 : Int32) (σ : St), f_X12_never_83 x3 x4 x5 x6 x7 x8 σ = some (r0, σ0) → V X G 9 0 0 σ 83 [(0, .ref (ga G 6)), (3, .int x3), (4, .int x4), (5, .int x5), (6, .int x6), (7, .int x7), (8, .int x8)] [] := by
    intro x4 x5 x6 x7 x8 σ h
    refine it_v (P := fun z : Int32 × Int32 × Int32 × Int32 => V X G 9 0 0 σ 83 [(0, .ref (ga G 6)), (3, .int x3), (4, .int z.1), (5, .int z.2.1), (6, .int z.2.2.1), (7, .int x7), (8, .int z.2.2.2)] []) ?_ (x4, x5, x6, x8) h
    clear h
    intro z w_83 h ih_83 ex_83
    obtain ⟨x4, x5, x6, x8⟩ := z
    have h : b_X12_never_83 x3 x4 x5 x6 x7 x8 σ = some w_83 := h
    show V X G 9 0 0 σ 83 [(0, .ref (ga G 6)), (3, .int x3), (4, .int x4), (5, .int x5), (6, .int x6), (7, .int x7), (8, .int x8)] []
    unfold b_X12_never_83 at h
    have J_155 : ∀ (x4 : Int32) (x5 : Int32) (x6 : Int32) (x8 : Int32), f_X12_never_155 x3 x4 x5 x6 x7 x8 σ = some w_83 → V X G 9 0 0 σ 155 [(0, .ref (ga G 6)), (3, .int x3), (4, .int x4), (5, .int x5), (6, .int x6), (7, .int x7), (8, .int x8)] [] := by
      intro x4 x5 x6 x8 h
      unfold f_X12_never_155 at h
      refine V_iinc C (x8 + 1) 6 [1, 2, 3, 4, 5, 6, 0] (lv' := [(0, .ref (ga G 6)), (3, .int x3), (4, .int x4), (5, .int x5), (6, .int x6), (7, .int x7), (8, .int (x8 + 1))]) (dt_at dt_X12_never_2 9 rfl) rfl (by rfl) (by decide) rfl ?_
      refine V_goto C 83 (dt_at dt_X12_never_2 10 rfl) (by decide) ?_
      exact ih_83 (x4, x5, x6, (x8 + 1)) (Option.some.inj h).symm
    have J_116 : ∀ (x4 : Int32) (x5 : Int32) (x6 : Int32) (x8 : Int32), f_X12_never_116 x3 x4 x5 x6 x7 x8 σ = some w_83 → V X G 9 0 0 σ 116 [(0, .ref (ga G 6)), (3, .int x3), (4, .int x4), (5, .int x5), (6, .int x6), (7, .int x7), (8, .int x8)] [] := by
      intro x4 x5 x6 x8 h
      unfold f_X12_never_116 at h
      refine V_aload_n C (dt_at dt_X12_never_1 26 rfl) 0 rfl rfl ?_
      refine g_X12_62_6 C (dt_at dt_X12_never_1 27 rfl) ?_
      refine V_aload_n C (dt_at dt_X12_never_1 28 rfl) 0 rfl rfl ?_
      obtain ⟨r36, e37, h⟩ := bd_s h
      refine cv_X12_allParts C ww_527  e37 (Nat.le_of_ble_eq_true rfl) (Nat.le_of_ble_eq_true rfl) z0 (dt_at dt_X12_never_1 29 rfl) ?_
      refine V_iload C (dt_at dt_X12_never_1 30 rfl) 6 rfl ?_
      refine V_iconst C (-1) (dt_at dt_X12_never_1 31 rfl) (by decide) ?_
      refine V_ixor C (dt_at dt_X12_never_1 32 rfl) ?_
      refine V_iand C (dt_at dt_X12_never_1 33 rfl) ?_
      obtain ⟨h39, h⟩ := chk_s h
      refine V_lald C h39 (dt_at dt_X12_never_1 34 rfl) ?_
      refine V_lconst C 0 (dt_at dt_X12_never_1 35 rfl) (by decide) ?_
      refine V_lcmp C (dt_at dt_X12_never_1 36 rfl) ?_
      refine V_if_ne C 138 (dt_at dt_X12_never_1 37 rfl) (by decide) (fun q40 => ?_) (fun q40 => ?_)
      · have h := ite_f q40 h
        refine V_iconst C 1 (dt_at dt_X12_never_1 39 rfl) (by decide) ?_
        refine V_istore C [1, 2, 3, 4, 0, 5, 6] (lv' := [(0, .ref (ga G 6)), (3, .int x3), (4, .int x4), (5, .int x5), (6, .int 1), (7, .int x7), (8, .int x8)]) (dt_at dt_X12_never_2 0 rfl) (by decide) rfl ?_
        refine V_iload C (dt_at dt_X12_never_2 1 rfl) 2 rfl ?_
        refine V_iload C (dt_at dt_X12_never_2 2 rfl) 6 rfl ?_
        refine V_ior C (dt_at dt_X12_never_2 3 rfl) ?_
        refine V_istore C [1, 2, 0, 3, 4, 5, 6] (lv' := [(0, .ref (ga G 6)), (3, .int x3), (4, .int (x4 ||| x8)), (5, .int x5), (6, .int 1), (7, .int x7), (8, .int x8)]) (dt_at dt_X12_never_2 4 rfl) (by decide) rfl ?_
        refine V_iload C (dt_at dt_X12_never_2 5 rfl) 3 rfl ?_
        refine V_iload C (dt_at dt_X12_never_2 6 rfl) 6 rfl ?_
        refine V_iand C (dt_at dt_X12_never_2 7 rfl) ?_
        refine V_istore C [1, 2, 3, 0, 4, 5, 6] (lv' := [(0, .ref (ga G 6)), (3, .int x3), (4, .int (x4 ||| x8)), (5, .int (x5 &&& x8)), (6, .int 1), (7, .int x7), (8, .int x8)]) (dt_at dt_X12_never_2 8 rfl) (by decide) rfl ?_
        exact J_155 (x4 ||| x8) (x5 &&& x8) 1 x8 h
      · have h := ite_t q40 h
        refine V_goto C 155 (dt_at dt_X12_never_1 38 rfl) (by decide) ?_
        exact J_155 x4 x5 x6 x8 h
    have J_98 : ∀ (x4 : Int32) (x5 : Int32) (x6 : Int32) (x8 : Int32) (s0 : Int32) (s1 : Int32), f_X12_never_98 x3 x4 x5 x6 x7 x8 s0 s1 σ = some w_83 → V X G 9 0 0 σ 98 [(0, .ref (ga G 6)), (3, .int x3), (4, .int x4), (5, .int x5), (6, .int x6), (7, .int x7), (8, .int x8)] [.int s0, .int s1] := by
      intro x4 x5 x6 x8 s0 s1 h
      unfold f_X12_never_98 at h
      refine V_icmp_gt C 161 (dt_at dt_X12_never_1 18 rfl) (by decide) (fun q31 => ?_) (fun q31 => ?_)
      · have h := ite_t q31 h
        refine V_sub [0, 1, 2, 3, 4] (lv' := [(0, .ref (ga G 6)), (3, .int x3), (4, .int x4), (5, .int x5), (6, .int x6)]) rfl ?_
        obtain ⟨t32, h, e_83⟩ := map_s h
        have e_83 := ex_83 _ e_83
        rw [e_83] at h
        exact J_161 x4 x5 x6 σ h
      · have h := ite_f q31 h
        refine V_iload C (dt_at dt_X12_never_1 19 rfl) 6 rfl ?_
        refine V_if_le C 116 (dt_at dt_X12_never_1 20 rfl) (by decide) (fun q33 => ?_) (fun q33 => ?_)
        · have h := ite_f q33 h
          exact J_116 x4 x5 x6 x8 h
        · have h := ite_t q33 h
          refine V_aload_n C (dt_at dt_X12_never_1 21 rfl) 0 rfl rfl ?_
          refine g_X12_52_6 C (dt_at dt_X12_never_1 22 rfl) ?_
          refine V_iload C (dt_at dt_X12_never_1 23 rfl) 6 rfl ?_
          obtain ⟨h34, h⟩ := chk_s h
          refine V_zald C h34 (dt_at dt_X12_never_1 24 rfl) ?_
          refine V_if_eq C 155 (dt_at dt_X12_never_1 25 rfl) (by decide) (fun q35 => ?_) (fun q35 => ?_)
          · have h := ite_t q35 h
            exact J_155 x4 x5 x6 x8 h
          · have h := ite_f q35 h
            exact J_116 x4 x5 x6 x8 h
    refine V_iload C (dt_at dt_X12_never_1 11 rfl) 6 rfl ?_
    refine V_iload C (dt_at dt_X12_never_1 12 rfl) 5 rfl ?_
    refine V_if_eq C 97 (dt_at dt_X12_never_1 13 rfl) (by decide) (fun q27 => ?_) (fun q27 => ?_)
    · have h := ite_t q27 h
      refine V_iconst C 0 (dt_at dt_X12_never_1 17 rfl) (by decide) ?_
      exact J_98 x4 x5 x6 x8 0 x8 h
    · have h := ite_f q27 h
      refine V_aload_n C (dt_at dt_X12_never_1 14 rfl) 0 rfl rfl ?_
      obtain ⟨r28, e29, h⟩ := bd_s h
      refine cv_X12_allParts C ww_527  e29 (Nat.le_of_ble_eq_true rfl) (Nat.le_of_ble_eq_true rfl) z0 (dt_at dt_X12_never_1 15 rfl) ?_
      refine V_goto C 98 (dt_at dt_X12_never_1 16 rfl) (by decide) ?_
      exact J_98 x4 x5 x6 x8 r28 x8 h
  have J_80 : ∀ (x4 : Int32) (x5 : Int32) (x6 : Int32) (x7 : Int32) (σ : St), f_X12_never_80 x3 x4 x5 x6 x7 σ = some (r0, σ0) → V X G 9 0 0 σ 80 [(0, .ref (ga G 6)), (3, .int x3), (4, .int x4), (5, .int x5), (6, .int x6), (7, .int x7)] [] := by
    intro x4 x5 x6 x7 σ h
    unfold f_X12_never_80 at h
    refine V_iconst C 0 (dt_at dt_X12_never_1 9 rfl) (by decide) ?_
    refine V_istore C [1, 2, 3, 4, 5, 6, 0] (lv' := [(0, .ref (ga G 6)), (3, .int x3), (4, .int x4), (5, .int x5), (6, .int x6), (7, .int x7), (8, .int 0)]) (dt_at dt_X12_never_1 10 rfl) (by decide) rfl ?_
    exact J_83 x4 x5 x6 x7 0 σ h
  have J_68 : ∀ (x4 : Int32) (x5 : Int32) (x6 : Int32) (s0 : Int32) (σ : St), f_X12_never_68 x2 x3 x4 x5 x6 s0 σ = some (r0, σ0) → V X G 9 0 0 σ 68 [(0, .ref (ga G 6)), (2, .int x2), (3, .int x3), (4, .int x4), (5, .int x5), (6, .int x6)] [.int s0] := by
    intro x4 x5 x6 s0 σ h
    unfold f_X12_never_68 at h
    refine V_istore C [1, 2, 3, 4, 5, 6, 0] (lv' := [(0, .ref (ga G 6)), (2, .int x2), (3, .int x3), (4, .int x4), (5, .int x5), (6, .int x6), (7, .int s0)]) (dt_at dt_X12_never_1 3 rfl) (by decide) rfl ?_
    refine V_iload C (dt_at dt_X12_never_1 4 rfl) 6 rfl ?_
    refine V_if_eq C 80 (dt_at dt_X12_never_1 5 rfl) (by decide) (fun q23 => ?_) (fun q23 => ?_)
    · have h := ite_t q23 h
      refine V_sub [0, 2, 3, 4, 5, 6] (lv' := [(0, .ref (ga G 6)), (3, .int x3), (4, .int x4), (5, .int x5), (6, .int x6), (7, .int s0)]) rfl ?_
      exact J_80 x4 x5 x6 s0 σ h
    · have h := ite_f q23 h
      refine V_aload_n C (dt_at dt_X12_never_1 6 rfl) 0 rfl rfl ?_
      refine V_iload_n C (dt_at dt_X12_never_1 7 rfl) 1 rfl rfl ?_
      obtain ⟨σ26, e25, h⟩ := bd_s h
      refine cv_X12_findSets C ww_545 x2 e25 (Nat.le_of_ble_eq_true rfl) (Nat.le_of_ble_eq_true rfl) z0 (dt_at dt_X12_never_1 8 rfl) ?_
      refine V_sub [0, 2, 3, 4, 5, 6] (lv' := [(0, .ref (ga G 6)), (3, .int x3), (4, .int x4), (5, .int x5), (6, .int x6), (7, .int s0)]) rfl ?_
      exact J_80 x4 x5 x6 s0 σ26 h
  have J_25 : ∀ (σ : St), f_X12_never_25 σ = some (r0, σ0) → V X G 9 0 0 σ 25 [(0, .ref (ga G 6))] [] := by
    intro σ h
    unfold f_X12_never_25 at h
    refine V_aload_n C (dt_at dt_X12_never_0 13 rfl) 0 rfl rfl ?_
    refine V_iconst C 1 (dt_at dt_X12_never_0 14 rfl) (by decide) ?_
    obtain ⟨r20, σ22, e21, h⟩ := bd2_s h
    refine cv_X12_finds C ww_462 1 e21 (Nat.le_of_ble_eq_true rfl) (Nat.le_of_ble_eq_true rfl) z0 (dt_at dt_X12_never_0 15 rfl) ?_
    obtain ⟨e1_, e2_⟩ := pin2 h
    subst e1_; subst e2_
    exact V_iret C hR (dt_at dt_X12_never_0 16 rfl)
  refine V_aload_n C (dt_at dt_X12_never_0 0 rfl) 0 rfl rfl ?_
  refine V_iload_n C (dt_at dt_X12_never_0 1 rfl) 1 rfl rfl ?_
  obtain ⟨r1, e2, h⟩ := bd_s h
  refine cv_X12_isTroupe C ww_563 x1 e2 (Nat.le_of_ble_eq_true rfl) (Nat.le_of_ble_eq_true rfl) z0 (dt_at dt_X12_never_0 2 rfl) ?_
  refine V_if_eq C 25 (dt_at dt_X12_never_0 3 rfl) (by decide) (fun q4 => ?_) (fun q4 => ?_)
  · have h := ite_t q4 h
    refine V_sub [0] (lv' := [(0, .ref (ga G 6))]) rfl ?_
    exact J_25 σ h
  · have h := ite_f q4 h
    refine V_aload_n C (dt_at dt_X12_never_0 4 rfl) 0 rfl rfl ?_
    refine V_iload_n C (dt_at dt_X12_never_0 5 rfl) 2 rfl rfl ?_
    obtain ⟨r5, e6, h⟩ := bd_s h
    refine cv_X12_isPlayer C ww_626 x2 e6 (Nat.le_of_ble_eq_true rfl) (Nat.le_of_ble_eq_true rfl) z0 (dt_at dt_X12_never_0 6 rfl) ?_
    refine V_if_eq C 25 (dt_at dt_X12_never_0 7 rfl) (by decide) (fun q8 => ?_) (fun q8 => ?_)
    · have h := ite_t q8 h
      refine V_sub [0] (lv' := [(0, .ref (ga G 6))]) rfl ?_
      exact J_25 σ h
    · have h := ite_f q8 h
      refine V_iload_n C (dt_at dt_X12_never_0 8 rfl) 3 rfl rfl ?_
      refine V_iconst C 0 (dt_at dt_X12_never_0 9 rfl) (by decide) ?_
      refine V_iconst C 1 (dt_at dt_X12_never_0 10 rfl) (by decide) ?_
      obtain ⟨r9, e10, h⟩ := bd_s h
      refine cv_X12_in C ww_437 x3 0 1 e10 (Nat.le_of_ble_eq_true rfl) (Nat.le_of_ble_eq_true rfl) z0 (dt_at dt_X12_never_0 11 rfl) ?_
      refine V_if_ne C 31 (dt_at dt_X12_never_0 12 rfl) (by decide) (fun q12 => ?_) (fun q12 => ?_)
      · have h := ite_f q12 h
        refine V_aload_n C (dt_at dt_X12_never_0 17 rfl) 0 rfl rfl ?_
        refine V_iload_n C (dt_at dt_X12_never_0 18 rfl) 1 rfl rfl ?_
        refine V_iconst C 1 (dt_at dt_X12_never_0 19 rfl) (by decide) ?_
        refine V_iload_n C (dt_at dt_X12_never_0 20 rfl) 2 rfl rfl ?_
        refine V_ishl C (dt_at dt_X12_never_0 21 rfl) ?_
        refine V_iconst C (-1) (dt_at dt_X12_never_0 22 rfl) (by decide) ?_
        refine V_ixor C (dt_at dt_X12_never_0 23 rfl) ?_
        refine V_iand C (dt_at dt_X12_never_0 24 rfl) ?_
        obtain ⟨σ15, e14, h⟩ := bd_s h
        refine cv_X12_findWays C ww_644 (x1 &&& (((1 : Int32) <<< (x2 &&& 31)) ^^^ (-1))) e14 (Nat.le_of_ble_eq_true rfl) (Nat.le_of_ble_eq_true rfl) z0 (dt_at dt_X12_never_0 25 rfl) ?_
        refine V_iconst C 0 (dt_at dt_X12_never_0 26 rfl) (by decide) ?_
        refine V_istore C [1, 2, 3, 4, 0] (lv' := [(0, .ref (ga G 6)), (1, .int x1), (2, .int x2), (3, .int x3), (4, .int 0)]) (dt_at dt_X12_never_0 27 rfl) (by decide) rfl ?_
        refine V_aload_n C (dt_at dt_X12_never_0 28 rfl) 0 rfl rfl ?_
        obtain ⟨r16, e17, h⟩ := bd_s h
        refine cv_X12_allParts C ww_527  e17 (Nat.le_of_ble_eq_true rfl) (Nat.le_of_ble_eq_true rfl) z0 (dt_at dt_X12_never_0 29 rfl) ?_
        refine V_istore C [1, 2, 3, 4, 5, 0] (lv' := [(0, .ref (ga G 6)), (1, .int x1), (2, .int x2), (3, .int x3), (4, .int 0), (5, .int r16)]) (dt_at dt_X12_never_0 30 rfl) (by decide) rfl ?_
        refine V_iconst C 0 (dt_at dt_X12_never_0 31 rfl) (by decide) ?_
        refine V_istore C [1, 2, 3, 4, 5, 6, 0] (lv' := [(0, .ref (ga G 6)), (1, .int x1), (2, .int x2), (3, .int x3), (4, .int 0), (5, .int r16), (6, .int 0)]) (dt_at dt_X12_never_0 32 rfl) (by decide) rfl ?_
        refine V_iload_n C (dt_at dt_X12_never_0 33 rfl) 1 rfl rfl ?_
        refine V_iload_n C (dt_at dt_X12_never_0 34 rfl) 2 rfl rfl ?_
        refine V_ishr C (dt_at dt_X12_never_0 35 rfl) ?_
        refine V_iconst C 1 (dt_at dt_X12_never_0 36 rfl) (by decide) ?_
        refine V_iand C (dt_at dt_X12_never_0 37 rfl) ?_
        refine V_iconst C 1 (dt_at dt_X12_never_0 38 rfl) (by decide) ?_
        refine V_icmp_ne C 67 (dt_at dt_X12_never_0 39 rfl) (by decide) (fun q19 => ?_) (fun q19 => ?_)
        · have h := ite_f q19 h
          refine V_iconst C 0 (dt_at dt_X12_never_1 2 rfl) (by decide) ?_
          refine V_sub [0, 2, 3, 4, 5, 6] (lv' := [(0, .ref (ga G 6)), (2, .int x2), (3, .int x3), (4, .int 0), (5, .int r16), (6, .int 0)]) rfl ?_
          exact J_68 0 r16 0 0 σ15 h
        · have h := ite_t q19 h
          refine V_iconst C 1 (dt_at dt_X12_never_1 0 rfl) (by decide) ?_
          refine V_goto C 68 (dt_at dt_X12_never_1 1 rfl) (by decide) ?_
          refine V_sub [0, 2, 3, 4, 5, 6] (lv' := [(0, .ref (ga G 6)), (2, .int x2), (3, .int x3), (4, .int 0), (5, .int r16), (6, .int 0)]) rfl ?_
          exact J_68 0 r16 0 1 σ15 h
      · have h := ite_t q12 h
        refine V_sub [0] (lv' := [(0, .ref (ga G 6))]) rfl ?_
        exact J_25 σ h
theorem cv_X12_never (C : Ck X G cc own nL d) {idx : Nat} (hlk : Cond.methodLink own idx yX12_never ∈ gtb) (x1 : Int32) (x2 : Int32) (x3 : Int32) {r0 : Int32} {σ0 : St} (e : f_X12_never x1 x2 x3 σ = some (r0, σ0)) (hdd : 9 ≤ d) (hroom : (rest.map fun v => v.category).sum ≤ 8) (hcs : cells ≤ (xR X).cells ∧ slots ≤ (xR X).slots) (hd : decode cc pc = .ok (.invokevirtual idx, 3)) (k : V X G nL cells slots σ0 (pc + 3) lv (.int r0 :: rest)) : V X G nL cells slots σ pc lv (.int x3 :: .int x2 :: .int x1 :: .ref (ga G 6) :: rest) := V_callV C (As := [.int x1, .int x2, .int x3]) (c_X12_never X.2.1 G x1 x2 x3 σ r0 σ0 e) cal_X12_never ww_760 ww_761 hlk rfl hdd (lt110 rfl) rfl rfl rfl hroom hcs hd k
theorem dt_X12_on_0 : dtab cX12_on [(0, .iload_n 1, 1), (1, .iconst 0, 1), (2, .aload_n 0, 1), (3, .getfield 7, 3), (6, .iconst 0, 1), (7, .iaload, 1), (8, .iconst 1, 1), (9, .isub, 1), (10, .invokestatic 91, 3), (13, .ifCond .eq 12, 3), (16, .aload_n 0, 1), (17, .iload_n 1, 1), (18, .iconst 1, 1), (19, .invokevirtual 141, 3), (22, .goto 8, 3), (25, .aload_n 0, 1), (26, .iconst 1, 1), (27, .invokevirtual 95, 3), (30, .ireturn, 1)] = true := by decide +kernel
theorem cal_X12_on : Cal yX12_on cX12_on 2 (some .int) 1 := ⟨ww_762, ww_429, ⟨by decide, by decide, by decide⟩, by decide⟩
set_option maxHeartbeats 4000000 in
set_option maxRecDepth 100000 in
theorem c_X12_on (l : Launch) (G : Gx) (x1 : Int32) (σ : St) (r0 : Int32) (σ0 : St) (h : f_X12_on x1 σ = some (r0, σ0)) : MI l G yX12_on cX12_on 2 (some .int) 4 [.ref (ga G 6), .int x1] σ (some (.int r0)) σ0 := by
  refine MI_of RX12 rfl (by decide) [(0, .ref (ga G 6)), (1, .int x1)] rfl (Nat.le_of_ble_eq_true rfl) ?_
  intro X hXl C hR
  unfold f_X12_on at h
  refine V_iload_n C (dt_at dt_X12_on_0 0 rfl) 1 rfl rfl ?_
  refine V_iconst C 0 (dt_at dt_X12_on_0 1 rfl) (by decide) ?_
  refine V_aload_n C (dt_at dt_X12_on_0 2 rfl) 0 rfl rfl ?_
  refine g_X12_7_6 C (dt_at dt_X12_on_0 3 rfl) ?_
  refine V_iconst C 0 (dt_at dt_X12_on_0 4 rfl) (by decide) ?_
  obtain ⟨h1, h⟩ := chk_s h
  refine al_84 C h1 (dt_at dt_X12_on_0 5 rfl) ?_
  refine V_iconst C 1 (dt_at dt_X12_on_0 6 rfl) (by decide) ?_
  refine V_isub C (dt_at dt_X12_on_0 7 rfl) ?_
  obtain ⟨r2, e3, h⟩ := bd_s h
  refine cv_X12_in C ww_437 x1 0 ((rd σ 84 0) - 1) e3 (Nat.le_of_ble_eq_true rfl) (Nat.le_of_ble_eq_true rfl) z0 (dt_at dt_X12_on_0 8 rfl) ?_
  refine V_if_eq C 25 (dt_at dt_X12_on_0 9 rfl) (by decide) (fun q5 => ?_) (fun q5 => ?_)
  · have h := ite_t q5 h
    refine V_aload_n C (dt_at dt_X12_on_0 15 rfl) 0 rfl rfl ?_
    refine V_iconst C 1 (dt_at dt_X12_on_0 16 rfl) (by decide) ?_
    obtain ⟨r6, σ8, e7, h⟩ := bd2_s h
    refine cv_X12_finds C ww_462 1 e7 (Nat.le_of_ble_eq_true rfl) (Nat.le_of_ble_eq_true rfl) z0 (dt_at dt_X12_on_0 17 rfl) ?_
    obtain ⟨e1_, e2_⟩ := pin2 h
    subst e1_; subst e2_
    exact V_iret C hR (dt_at dt_X12_on_0 18 rfl)
  · have h := ite_f q5 h
    refine V_aload_n C (dt_at dt_X12_on_0 10 rfl) 0 rfl rfl ?_
    refine V_iload_n C (dt_at dt_X12_on_0 11 rfl) 1 rfl rfl ?_
    refine V_iconst C 1 (dt_at dt_X12_on_0 12 rfl) (by decide) ?_
    obtain ⟨r9, e10, h⟩ := bd_s h
    refine cv_X12_manyOn C ww_660 x1 1 e10 (Nat.le_of_ble_eq_true rfl) (Nat.le_of_ble_eq_true rfl) z0 (dt_at dt_X12_on_0 13 rfl) ?_
    refine V_goto C 30 (dt_at dt_X12_on_0 14 rfl) (by decide) ?_
    obtain ⟨e1_, e2_⟩ := pin2 h
    subst e1_; subst e2_
    exact V_iret C hR (dt_at dt_X12_on_0 18 rfl)
theorem cv_X12_on (C : Ck X G cc own nL d) {idx : Nat} (hlk : Cond.methodLink own idx yX12_on ∈ gtb) (x1 : Int32) {r0 : Int32} {σ0 : St} (e : f_X12_on x1 σ = some (r0, σ0)) (hdd : 5 ≤ d) (hroom : (rest.map fun v => v.category).sum ≤ 8) (hcs : cells ≤ (xR X).cells ∧ slots ≤ (xR X).slots) (hd : decode cc pc = .ok (.invokevirtual idx, 3)) (k : V X G nL cells slots σ0 (pc + 3) lv (.int r0 :: rest)) : V X G nL cells slots σ pc lv (.int x1 :: .ref (ga G 6) :: rest) := V_callV C (As := [.int x1]) (c_X12_on X.2.1 G x1 σ r0 σ0 e) cal_X12_on ww_763 ww_764 hlk rfl hdd (lt110 rfl) rfl rfl rfl hroom hcs hd k
theorem dt_X12_openMany_0 : dtab cX12_openMany [(0, .iconst 0, 1), (1, .istore_n 1, 1), (2, .iconst 0, 1), (3, .istore_n 2, 1), (4, .iload_n 2, 1), (5, .aload_n 0, 1), (6, .getfield 176, 3), (9, .if_icmp .ge 39, 3), (12, .iload_n 1, 1), (13, .aload_n 0, 1), (14, .getfield 34, 3), (17, .iload_n 2, 1), (18, .iaload, 1), (19, .bipush 33, 2), (21, .if_icmp .eq 14, 3), (24, .aload_n 0, 1), (25, .getfield 34, 3), (28, .iload_n 2, 1), (29, .iaload, 1), (30, .bipush 40, 2), (32, .if_icmp .ne 7, 3), (35, .iconst 1, 1), (36, .goto 4, 3), (39, .iconst 0, 1), (40, .iadd, 1), (41, .istore_n 1, 1), (42, .iinc 2 1, 3), (45, .goto (-41), 3), (48, .iload_n 1, 1), (49, .ireturn, 1)] = true := by decide +kernel
theorem cal_X12_openMany : Cal yX12_openMany cX12_openMany 3 (some .int) 0 := ⟨ww_765, ww_429, ⟨by decide, by decide, by decide⟩, by decide⟩
set_option maxHeartbeats 4000000 in
set_option maxRecDepth 100000 in
theorem c_X12_openMany (l : Launch) (G : Gx) (σ : St) (r0 : Int32) (h : f_X12_openMany σ = some r0) : MI l G yX12_openMany cX12_openMany 3 (some .int) 1 [.ref (ga G 6)] σ (some (.int r0)) σ := by
  refine MI_of RX12 rfl (by decide) [(0, .ref (ga G 6))] rfl (Nat.le_of_ble_eq_true rfl) ?_
  intro X hXl C hR
  unfold f_X12_openMany at h
  have J_4 : ∀ (x1 : Int32) (x2 : Int32), f_X12_openMany_4 x1 x2 σ = some r0 → V X G 3 0 0 σ 4 [(0, .ref (ga G 6)), (1, .int x1), (2, .int x2)] [] := by
    intro x1 x2 h
    refine it_v (P := fun z : Int32 × Int32 => V X G 3 0 0 σ 4 [(0, .ref (ga G 6)), (1, .int z.1), (2, .int z.2)] []) ?_ (x1, x2) h
    clear h
    intro z w_4 h ih_4 ex_4
    obtain ⟨x1, x2⟩ := z
    have h : b_X12_openMany_4 x1 x2 σ = some w_4 := h
    show V X G 3 0 0 σ 4 [(0, .ref (ga G 6)), (1, .int x1), (2, .int x2)] []
    unfold b_X12_openMany_4 at h
    have J_40 : ∀ (x2 : Int32) (s0 : Int32) (s1 : Int32), f_X12_openMany_40 x2 s0 s1 σ = some w_4 → V X G 3 0 0 σ 40 [(0, .ref (ga G 6)), (2, .int x2)] [.int s0, .int s1] := by
      intro x2 s0 s1 h
      unfold f_X12_openMany_40 at h
      refine V_iadd C (dt_at dt_X12_openMany_0 24 rfl) ?_
      refine V_istore_n C [1, 0, 2] (lv' := [(0, .ref (ga G 6)), (1, .int (s1 + s0)), (2, .int x2)]) (dt_at dt_X12_openMany_0 25 rfl) rfl (by decide) rfl ?_
      refine V_iinc C (x2 + 1) 2 [1, 2, 0] (lv' := [(0, .ref (ga G 6)), (1, .int (s1 + s0)), (2, .int (x2 + 1))]) (dt_at dt_X12_openMany_0 26 rfl) rfl (by rfl) (by decide) rfl ?_
      refine V_goto C 4 (dt_at dt_X12_openMany_0 27 rfl) (by decide) ?_
      exact ih_4 ((s1 + s0), (x2 + 1)) (Option.some.inj h).symm
    have J_35 : ∀ (x2 : Int32) (s0 : Int32), f_X12_openMany_35 x2 s0 σ = some w_4 → V X G 3 0 0 σ 35 [(0, .ref (ga G 6)), (2, .int x2)] [.int s0] := by
      intro x2 s0 h
      unfold f_X12_openMany_35 at h
      refine V_iconst C 1 (dt_at dt_X12_openMany_0 21 rfl) (by decide) ?_
      refine V_goto C 40 (dt_at dt_X12_openMany_0 22 rfl) (by decide) ?_
      exact J_40 x2 1 s0 h
    refine V_iload_n C (dt_at dt_X12_openMany_0 4 rfl) 2 rfl rfl ?_
    refine V_aload_n C (dt_at dt_X12_openMany_0 5 rfl) 0 rfl rfl ?_
    refine g_X12_176_6 C (dt_at dt_X12_openMany_0 6 rfl) ?_
    refine V_icmp_ge C 48 (dt_at dt_X12_openMany_0 7 rfl) (by decide) (fun q1 => ?_) (fun q1 => ?_)
    · have h := ite_f q1 h
      refine V_iload_n C (dt_at dt_X12_openMany_0 28 rfl) 1 rfl rfl ?_
      have e_4 := ex_4 _ (Option.some.inj h).symm
      subst e_4
      exact V_iret C hR (dt_at dt_X12_openMany_0 29 rfl)
    · have h := ite_t q1 h
      refine V_iload_n C (dt_at dt_X12_openMany_0 8 rfl) 1 rfl rfl ?_
      refine V_aload_n C (dt_at dt_X12_openMany_0 9 rfl) 0 rfl rfl ?_
      refine g_X12_34_6 C (dt_at dt_X12_openMany_0 10 rfl) ?_
      refine V_iload_n C (dt_at dt_X12_openMany_0 11 rfl) 2 rfl rfl ?_
      obtain ⟨h2, h⟩ := chk_s h
      refine al_92 C h2 (dt_at dt_X12_openMany_0 12 rfl) ?_
      refine V_bipush C 33 (dt_at dt_X12_openMany_0 13 rfl) (by decide) ?_
      refine V_icmp_eq C 35 (dt_at dt_X12_openMany_0 14 rfl) (by decide) (fun q3 => ?_) (fun q3 => ?_)
      · have h := ite_t q3 h
        refine V_sub [0, 2] (lv' := [(0, .ref (ga G 6)), (2, .int x2)]) rfl ?_
        exact J_35 x2 x1 h
      · have h := ite_f q3 h
        refine V_aload_n C (dt_at dt_X12_openMany_0 15 rfl) 0 rfl rfl ?_
        refine g_X12_34_6 C (dt_at dt_X12_openMany_0 16 rfl) ?_
        refine V_iload_n C (dt_at dt_X12_openMany_0 17 rfl) 2 rfl rfl ?_
        refine al_92 C h2 (dt_at dt_X12_openMany_0 18 rfl) ?_
        refine V_bipush C 40 (dt_at dt_X12_openMany_0 19 rfl) (by decide) ?_
        refine V_icmp_ne C 39 (dt_at dt_X12_openMany_0 20 rfl) (by decide) (fun q4 => ?_) (fun q4 => ?_)
        · have h := ite_f q4 h
          refine V_iconst C 0 (dt_at dt_X12_openMany_0 23 rfl) (by decide) ?_
          refine V_sub [0, 2] (lv' := [(0, .ref (ga G 6)), (2, .int x2)]) rfl ?_
          exact J_40 x2 0 x1 h
        · have h := ite_t q4 h
          refine V_sub [0, 2] (lv' := [(0, .ref (ga G 6)), (2, .int x2)]) rfl ?_
          exact J_35 x2 x1 h
  refine V_iconst C 0 (dt_at dt_X12_openMany_0 0 rfl) (by decide) ?_
  refine V_istore_n C [1, 0] (lv' := [(0, .ref (ga G 6)), (1, .int 0)]) (dt_at dt_X12_openMany_0 1 rfl) rfl (by decide) rfl ?_
  refine V_iconst C 0 (dt_at dt_X12_openMany_0 2 rfl) (by decide) ?_
  refine V_istore_n C [1, 2, 0] (lv' := [(0, .ref (ga G 6)), (1, .int 0), (2, .int 0)]) (dt_at dt_X12_openMany_0 3 rfl) rfl (by decide) rfl ?_
  exact J_4 0 0 h
theorem cv_X12_openMany (C : Ck X G cc own nL d) {idx : Nat} (hlk : Cond.methodLink own idx yX12_openMany ∈ gtb) {r0 : Int32} (e : f_X12_openMany σ = some r0) (hdd : 2 ≤ d) (hroom : (rest.map fun v => v.category).sum ≤ 8) (hcs : cells ≤ (xR X).cells ∧ slots ≤ (xR X).slots) (hd : decode cc pc = .ok (.invokevirtual idx, 3)) (k : V X G nL cells slots σ (pc + 3) lv (.int r0 :: rest)) : V X G nL cells slots σ pc lv (.ref (ga G 6) :: rest) := V_callV C (As := []) (c_X12_openMany X.2.1 G  σ r0 e) cal_X12_openMany ww_766 ww_767 hlk rfl hdd (lt110 rfl) rfl rfl rfl hroom hcs hd k
theorem dt_X12_part_0 : dtab cX12_part [(0, .iload_n 1, 1), (1, .iconst 0, 1), (2, .iconst 5, 1), (3, .invokestatic 91, 3), (6, .ifCond .eq 14, 3), (9, .iload_n 2, 1), (10, .iconst 0, 1), (11, .sipush 9999, 3), (14, .invokestatic 91, 3), (17, .ifCond .ne 9, 3), (20, .aload_n 0, 1), (21, .iconst 1, 1), (22, .invokevirtual 95, 3), (25, .ireturn, 1), (26, .aload_n 0, 1), (27, .getfield 7, 3), (30, .iconst 1, 1), (31, .iaload, 1), (32, .bipush 10, 2), (34, .if_icmp .ne 9, 3), (37, .aload_n 0, 1), (38, .iconst 4, 1), (39, .invokevirtual 95, 3), (42, .ireturn, 1), (43, .bipush 10, 2), (45, .iconst 5, 1), (46, .aload_n 0, 1), (47, .getfield 7, 3), (50, .iconst 1, 1), (51, .iaload, 1), (52, .imul, 1), (53, .iadd, 1), (54, .istore_n 3, 1), (55, .aload_n 0, 1), (56, .getfield 7, 3), (59, .iload_n 3, 1), (60, .iload_n 1, 1), (61, .iastore, 1), (62, .aload_n 0, 1), (63, .getfield 7, 3)] = true := by decide +kernel
theorem dt_X12_part_1 : dtab cX12_part [(66, .iload_n 3, 1), (67, .iconst 1, 1), (68, .iadd, 1), (69, .iload_n 2, 1), (70, .sipush 1000, 3), (73, .idiv, 1), (74, .iastore, 1), (75, .aload_n 0, 1), (76, .getfield 7, 3), (79, .iload_n 3, 1), (80, .iconst 2, 1), (81, .iadd, 1), (82, .iload_n 2, 1), (83, .bipush 10, 2), (85, .idiv, 1), (86, .bipush 100, 2), (88, .irem, 1), (89, .iastore, 1), (90, .aload_n 0, 1), (91, .getfield 7, 3), (94, .iload_n 3, 1), (95, .iconst 3, 1), (96, .iadd, 1), (97, .iload_n 2, 1), (98, .bipush 10, 2), (100, .irem, 1), (101, .iastore, 1), (102, .aload_n 0, 1), (103, .getfield 7, 3), (106, .iload_n 3, 1), (107, .iconst 4, 1), (108, .iadd, 1), (109, .iconst (-1), 1), (110, .iastore, 1), (111, .aload_n 0, 1), (112, .getfield 7, 3), (115, .iconst 1, 1), (116, .dup2, 1), (117, .iaload, 1), (118, .iconst 1, 1)] = true := by decide +kernel
theorem dt_X12_part_2 : dtab cX12_part [(119, .iadd, 1), (120, .iastore, 1), (121, .aload_n 0, 1), (122, .iconst 0, 1), (123, .putfield 106, 3), (126, .aload_n 0, 1), (127, .getfield 7, 3), (130, .iconst 1, 1), (131, .iaload, 1), (132, .iconst 1, 1), (133, .isub, 1), (134, .ireturn, 1)] = true := by decide +kernel
theorem cal_X12_part : Cal yX12_part cX12_part 4 (some .int) 2 := ⟨ww_768, ww_429, ⟨by decide, by decide, by decide⟩, by decide⟩
set_option maxHeartbeats 4000000 in
set_option maxRecDepth 100000 in
theorem c_X12_part (l : Launch) (G : Gx) (x1 : Int32) (x2 : Int32) (σ : St) (r0 : Int32) (σ0 : St) (h : f_X12_part x1 x2 σ = some (r0, σ0)) : MI l G yX12_part cX12_part 4 (some .int) 2 [.ref (ga G 6), .int x1, .int x2] σ (some (.int r0)) σ0 := by
  refine MI_of RX12 rfl (by decide) [(0, .ref (ga G 6)), (1, .int x1), (2, .int x2)] rfl (Nat.le_of_ble_eq_true rfl) ?_
  intro X hXl C hR
  unfold f_X12_part at h
  have J_20 : ∀ (σ : St), f_X12_part_20 σ = some (r0, σ0) → V X G 4 0 0 σ 20 [(0, .ref (ga G 6))] [] := by
    intro σ h
    unfold f_X12_part_20 at h
    refine V_aload_n C (dt_at dt_X12_part_0 10 rfl) 0 rfl rfl ?_
    refine V_iconst C 1 (dt_at dt_X12_part_0 11 rfl) (by decide) ?_
    obtain ⟨r26, σ28, e27, h⟩ := bd2_s h
    refine cv_X12_finds C ww_462 1 e27 (Nat.le_of_ble_eq_true rfl) (Nat.le_of_ble_eq_true rfl) z0 (dt_at dt_X12_part_0 12 rfl) ?_
    obtain ⟨e1_, e2_⟩ := pin2 h
    subst e1_; subst e2_
    exact V_iret C hR (dt_at dt_X12_part_0 13 rfl)
  refine V_iload_n C (dt_at dt_X12_part_0 0 rfl) 1 rfl rfl ?_
  refine V_iconst C 0 (dt_at dt_X12_part_0 1 rfl) (by decide) ?_
  refine V_iconst C 5 (dt_at dt_X12_part_0 2 rfl) (by decide) ?_
  obtain ⟨r1, e2, h⟩ := bd_s h
  refine cv_X12_in C ww_437 x1 0 5 e2 (Nat.le_of_ble_eq_true rfl) (Nat.le_of_ble_eq_true rfl) z0 (dt_at dt_X12_part_0 3 rfl) ?_
  refine V_if_eq C 20 (dt_at dt_X12_part_0 4 rfl) (by decide) (fun q4 => ?_) (fun q4 => ?_)
  · have h := ite_t q4 h
    refine V_sub [0] (lv' := [(0, .ref (ga G 6))]) rfl ?_
    exact J_20 σ h
  · have h := ite_f q4 h
    refine V_iload_n C (dt_at dt_X12_part_0 5 rfl) 2 rfl rfl ?_
    refine V_iconst C 0 (dt_at dt_X12_part_0 6 rfl) (by decide) ?_
    refine V_sipush C 9999 (dt_at dt_X12_part_0 7 rfl) (by decide) ?_
    obtain ⟨r5, e6, h⟩ := bd_s h
    refine cv_X12_in C ww_437 x2 0 9999 e6 (Nat.le_of_ble_eq_true rfl) (Nat.le_of_ble_eq_true rfl) z0 (dt_at dt_X12_part_0 8 rfl) ?_
    refine V_if_ne C 26 (dt_at dt_X12_part_0 9 rfl) (by decide) (fun q8 => ?_) (fun q8 => ?_)
    · have h := ite_f q8 h
      refine V_aload_n C (dt_at dt_X12_part_0 14 rfl) 0 rfl rfl ?_
      refine g_X12_7_6 C (dt_at dt_X12_part_0 15 rfl) ?_
      refine V_iconst C 1 (dt_at dt_X12_part_0 16 rfl) (by decide) ?_
      obtain ⟨h9, h⟩ := chk_s h
      refine al_84 C h9 (dt_at dt_X12_part_0 17 rfl) ?_
      refine V_bipush C 10 (dt_at dt_X12_part_0 18 rfl) (by decide) ?_
      refine V_icmp_ne C 43 (dt_at dt_X12_part_0 19 rfl) (by decide) (fun q10 => ?_) (fun q10 => ?_)
      · have h := ite_f q10 h
        refine V_bipush C 10 (dt_at dt_X12_part_0 24 rfl) (by decide) ?_
        refine V_iconst C 5 (dt_at dt_X12_part_0 25 rfl) (by decide) ?_
        refine V_aload_n C (dt_at dt_X12_part_0 26 rfl) 0 rfl rfl ?_
        refine g_X12_7_6 C (dt_at dt_X12_part_0 27 rfl) ?_
        refine V_iconst C 1 (dt_at dt_X12_part_0 28 rfl) (by decide) ?_
        refine al_84 C h9 (dt_at dt_X12_part_0 29 rfl) ?_
        refine V_imul C (dt_at dt_X12_part_0 30 rfl) ?_
        refine V_iadd C (dt_at dt_X12_part_0 31 rfl) ?_
        refine V_istore_n C [1, 2, 3, 0] (lv' := [(0, .ref (ga G 6)), (1, .int x1), (2, .int x2), (3, .int (10 + (5 * (rd σ 84 1))))]) (dt_at dt_X12_part_0 32 rfl) rfl (by decide) rfl ?_
        refine V_aload_n C (dt_at dt_X12_part_0 33 rfl) 0 rfl rfl ?_
        refine g_X12_7_6 C (dt_at dt_X12_part_0 34 rfl) ?_
        refine V_iload_n C (dt_at dt_X12_part_0 35 rfl) 3 rfl rfl ?_
        refine V_iload_n C (dt_at dt_X12_part_0 36 rfl) 1 rfl rfl ?_
        obtain ⟨h12, h⟩ := chk_s h
        obtain ⟨σ11, eσ11, h⟩ := nm_s h
        refine V_st eσ11 ?_ (fun k => as_84 C h12 (dt_at dt_X12_part_0 37 rfl) k)
        refine V_aload_n C (dt_at dt_X12_part_0 38 rfl) 0 rfl rfl ?_
        refine g_X12_7_6 C (dt_at dt_X12_part_0 39 rfl) ?_
        refine V_iload_n C (dt_at dt_X12_part_1 0 rfl) 3 rfl rfl ?_
        refine V_iconst C 1 (dt_at dt_X12_part_1 1 rfl) (by decide) ?_
        refine V_iadd C (dt_at dt_X12_part_1 2 rfl) ?_
        refine V_iload_n C (dt_at dt_X12_part_1 3 rfl) 2 rfl rfl ?_
        refine V_sipush C 1000 (dt_at dt_X12_part_1 4 rfl) (by decide) ?_
        refine V_idiv C (dt_at dt_X12_part_1 5 rfl) (by decide) ?_
        obtain ⟨h14, h⟩ := chk_s h
        obtain ⟨σ13, eσ13, h⟩ := nm_s h
        refine V_st eσ13 ?_ (fun k => as_84 C h14 (dt_at dt_X12_part_1 6 rfl) k)
        refine V_aload_n C (dt_at dt_X12_part_1 7 rfl) 0 rfl rfl ?_
        refine g_X12_7_6 C (dt_at dt_X12_part_1 8 rfl) ?_
        refine V_iload_n C (dt_at dt_X12_part_1 9 rfl) 3 rfl rfl ?_
        refine V_iconst C 2 (dt_at dt_X12_part_1 10 rfl) (by decide) ?_
        refine V_iadd C (dt_at dt_X12_part_1 11 rfl) ?_
        refine V_iload_n C (dt_at dt_X12_part_1 12 rfl) 2 rfl rfl ?_
        refine V_bipush C 10 (dt_at dt_X12_part_1 13 rfl) (by decide) ?_
        refine V_idiv C (dt_at dt_X12_part_1 14 rfl) (by decide) ?_
        refine V_bipush C 100 (dt_at dt_X12_part_1 15 rfl) (by decide) ?_
        refine V_irem C (dt_at dt_X12_part_1 16 rfl) (by decide) ?_
        obtain ⟨h16, h⟩ := chk_s h
        obtain ⟨σ15, eσ15, h⟩ := nm_s h
        refine V_st eσ15 ?_ (fun k => as_84 C h16 (dt_at dt_X12_part_1 17 rfl) k)
        refine V_aload_n C (dt_at dt_X12_part_1 18 rfl) 0 rfl rfl ?_
        refine g_X12_7_6 C (dt_at dt_X12_part_1 19 rfl) ?_
        refine V_iload_n C (dt_at dt_X12_part_1 20 rfl) 3 rfl rfl ?_
        refine V_iconst C 3 (dt_at dt_X12_part_1 21 rfl) (by decide) ?_
        refine V_iadd C (dt_at dt_X12_part_1 22 rfl) ?_
        refine V_iload_n C (dt_at dt_X12_part_1 23 rfl) 2 rfl rfl ?_
        refine V_bipush C 10 (dt_at dt_X12_part_1 24 rfl) (by decide) ?_
        refine V_irem C (dt_at dt_X12_part_1 25 rfl) (by decide) ?_
        obtain ⟨h18, h⟩ := chk_s h
        obtain ⟨σ17, eσ17, h⟩ := nm_s h
        refine V_st eσ17 ?_ (fun k => as_84 C h18 (dt_at dt_X12_part_1 26 rfl) k)
        refine V_aload_n C (dt_at dt_X12_part_1 27 rfl) 0 rfl rfl ?_
        refine g_X12_7_6 C (dt_at dt_X12_part_1 28 rfl) ?_
        refine V_iload_n C (dt_at dt_X12_part_1 29 rfl) 3 rfl rfl ?_
        refine V_iconst C 4 (dt_at dt_X12_part_1 30 rfl) (by decide) ?_
        refine V_iadd C (dt_at dt_X12_part_1 31 rfl) ?_
        refine V_iconst C (-1) (dt_at dt_X12_part_1 32 rfl) (by decide) ?_
        obtain ⟨h20, h⟩ := chk_s h
        obtain ⟨σ19, eσ19, h⟩ := nm_s h
        refine V_st eσ19 ?_ (fun k => as_84 C h20 (dt_at dt_X12_part_1 33 rfl) k)
        refine V_aload_n C (dt_at dt_X12_part_1 34 rfl) 0 rfl rfl ?_
        refine g_X12_7_6 C (dt_at dt_X12_part_1 35 rfl) ?_
        refine V_iconst C 1 (dt_at dt_X12_part_1 36 rfl) (by decide) ?_
        refine V_dup2 C (dt_at dt_X12_part_1 37 rfl) rfl rfl ?_
        refine al_84 C h9 (dt_at dt_X12_part_1 38 rfl) ?_
        refine V_iconst C 1 (dt_at dt_X12_part_1 39 rfl) (by decide) ?_
        refine V_iadd C (dt_at dt_X12_part_2 0 rfl) ?_
        obtain ⟨σ21, eσ21, h⟩ := nm_s h
        refine V_st eσ21 ?_ (fun k => as_84 C h9 (dt_at dt_X12_part_2 1 rfl) k)
        refine V_aload_n C (dt_at dt_X12_part_2 2 rfl) 0 rfl rfl ?_
        refine V_iconst C 0 (dt_at dt_X12_part_2 3 rfl) (by decide) ?_
        obtain ⟨σ22, eσ22, h⟩ := nm_s h
        refine V_st eσ22 ?_ (fun k => p_X12_106_6 C rfl rfl (dt_at dt_X12_part_2 4 rfl) k)
        refine V_aload_n C (dt_at dt_X12_part_2 5 rfl) 0 rfl rfl ?_
        refine g_X12_7_6 C (dt_at dt_X12_part_2 6 rfl) ?_
        refine V_iconst C 1 (dt_at dt_X12_part_2 7 rfl) (by decide) ?_
        refine al_84 C h9 (dt_at dt_X12_part_2 8 rfl) ?_
        refine V_iconst C 1 (dt_at dt_X12_part_2 9 rfl) (by decide) ?_
        refine V_isub C (dt_at dt_X12_part_2 10 rfl) ?_
        obtain ⟨e1_, e2_⟩ := pin2 h
        subst e1_; subst e2_
        exact V_iret C hR (dt_at dt_X12_part_2 11 rfl)
      · have h := ite_t q10 h
        refine V_aload_n C (dt_at dt_X12_part_0 20 rfl) 0 rfl rfl ?_
        refine V_iconst C 4 (dt_at dt_X12_part_0 21 rfl) (by decide) ?_
        obtain ⟨r23, σ25, e24, h⟩ := bd2_s h
        refine cv_X12_finds C ww_462 4 e24 (Nat.le_of_ble_eq_true rfl) (Nat.le_of_ble_eq_true rfl) z0 (dt_at dt_X12_part_0 22 rfl) ?_
        obtain ⟨e1_, e2_⟩ := pin2 h
        subst e1_; subst e2_
        exact V_iret C hR (dt_at dt_X12_part_0 23 rfl)
    · have h := ite_t q8 h
      refine V_sub [0] (lv' := [(0, .ref (ga G 6))]) rfl ?_
      exact J_20 σ h
theorem cv_X12_part (C : Ck X G cc own nL d) {idx : Nat} (hlk : Cond.methodLink own idx yX12_part ∈ gtb) (x1 : Int32) (x2 : Int32) {r0 : Int32} {σ0 : St} (e : f_X12_part x1 x2 σ = some (r0, σ0)) (hdd : 3 ≤ d) (hroom : (rest.map fun v => v.category).sum ≤ 8) (hcs : cells ≤ (xR X).cells ∧ slots ≤ (xR X).slots) (hd : decode cc pc = .ok (.invokevirtual idx, 3)) (k : V X G nL cells slots σ0 (pc + 3) lv (.int r0 :: rest)) : V X G nL cells slots σ pc lv (.int x2 :: .int x1 :: .ref (ga G 6) :: rest) := V_callV C (As := [.int x1, .int x2]) (c_X12_part X.2.1 G x1 x2 σ r0 σ0 e) cal_X12_part ww_769 ww_770 hlk rfl hdd (lt110 rfl) rfl rfl rfl hroom hcs hd k
theorem dt_X12_partIs_0 : dtab cX12_partIs [(0, .aload_n 0, 1), (1, .iload_n 1, 1), (2, .invokevirtual 110, 3), (5, .ifCond .eq 12, 3), (8, .iload_n 2, 1), (9, .iconst 0, 1), (10, .iconst 5, 1), (11, .invokestatic 91, 3), (14, .ifCond .ne 9, 3), (17, .aload_n 0, 1), (18, .iconst 1, 1), (19, .invokevirtual 95, 3), (22, .ireturn, 1), (23, .iload_n 2, 1), (24, .iconst 4, 1), (25, .if_icmp .ge 12, 3), (28, .aload_n 0, 1), (29, .iload_n 1, 1), (30, .iload_n 2, 1), (31, .invokevirtual 114, 3), (34, .goto 21, 3), (37, .iload_n 2, 1), (38, .iconst 4, 1), (39, .if_icmp .ne 11, 3), (42, .aload_n 0, 1), (43, .iload_n 1, 1), (44, .invokevirtual 121, 3), (47, .goto 8, 3), (50, .aload_n 0, 1), (51, .iload_n 1, 1), (52, .invokevirtual 124, 3), (55, .ireturn, 1)] = true := by decide +kernel
theorem cal_X12_partIs : Cal yX12_partIs cX12_partIs 3 (some .int) 2 := ⟨ww_772, ww_429, ⟨by decide, by decide, by decide⟩, by decide⟩
set_option maxHeartbeats 4000000 in
set_option maxRecDepth 100000 in
theorem c_X12_partIs (l : Launch) (G : Gx) (x1 : Int32) (x2 : Int32) (σ : St) (r0 : Int32) (σ0 : St) (h : f_X12_partIs x1 x2 σ = some (r0, σ0)) : MI l G yX12_partIs cX12_partIs 3 (some .int) 3 [.ref (ga G 6), .int x1, .int x2] σ (some (.int r0)) σ0 := by
  refine MI_of RX12 rfl (by decide) [(0, .ref (ga G 6)), (1, .int x1), (2, .int x2)] rfl (Nat.le_of_ble_eq_true rfl) ?_
  intro X hXl C hR
  unfold f_X12_partIs at h
  have J_17 : ∀ (σ : St), f_X12_partIs_17 σ = some (r0, σ0) → V X G 3 0 0 σ 17 [(0, .ref (ga G 6))] [] := by
    intro σ h
    unfold f_X12_partIs_17 at h
    refine V_aload_n C (dt_at dt_X12_partIs_0 9 rfl) 0 rfl rfl ?_
    refine V_iconst C 1 (dt_at dt_X12_partIs_0 10 rfl) (by decide) ?_
    obtain ⟨r20, σ22, e21, h⟩ := bd2_s h
    refine cv_X12_finds C ww_462 1 e21 (Nat.le_of_ble_eq_true rfl) (Nat.le_of_ble_eq_true rfl) z0 (dt_at dt_X12_partIs_0 11 rfl) ?_
    obtain ⟨e1_, e2_⟩ := pin2 h
    subst e1_; subst e2_
    exact V_iret C hR (dt_at dt_X12_partIs_0 12 rfl)
  refine V_aload_n C (dt_at dt_X12_partIs_0 0 rfl) 0 rfl rfl ?_
  refine V_iload_n C (dt_at dt_X12_partIs_0 1 rfl) 1 rfl rfl ?_
  obtain ⟨r1, e2, h⟩ := bd_s h
  refine cv_X12_isPart C ww_459 x1 e2 (Nat.le_of_ble_eq_true rfl) (Nat.le_of_ble_eq_true rfl) z0 (dt_at dt_X12_partIs_0 2 rfl) ?_
  refine V_if_eq C 17 (dt_at dt_X12_partIs_0 3 rfl) (by decide) (fun q4 => ?_) (fun q4 => ?_)
  · have h := ite_t q4 h
    refine V_sub [0] (lv' := [(0, .ref (ga G 6))]) rfl ?_
    exact J_17 σ h
  · have h := ite_f q4 h
    refine V_iload_n C (dt_at dt_X12_partIs_0 4 rfl) 2 rfl rfl ?_
    refine V_iconst C 0 (dt_at dt_X12_partIs_0 5 rfl) (by decide) ?_
    refine V_iconst C 5 (dt_at dt_X12_partIs_0 6 rfl) (by decide) ?_
    obtain ⟨r5, e6, h⟩ := bd_s h
    refine cv_X12_in C ww_437 x2 0 5 e6 (Nat.le_of_ble_eq_true rfl) (Nat.le_of_ble_eq_true rfl) z0 (dt_at dt_X12_partIs_0 7 rfl) ?_
    refine V_if_ne C 23 (dt_at dt_X12_partIs_0 8 rfl) (by decide) (fun q8 => ?_) (fun q8 => ?_)
    · have h := ite_f q8 h
      refine V_iload_n C (dt_at dt_X12_partIs_0 13 rfl) 2 rfl rfl ?_
      refine V_iconst C 4 (dt_at dt_X12_partIs_0 14 rfl) (by decide) ?_
      refine V_icmp_ge C 37 (dt_at dt_X12_partIs_0 15 rfl) (by decide) (fun q9 => ?_) (fun q9 => ?_)
      · have h := ite_f q9 h
        refine V_iload_n C (dt_at dt_X12_partIs_0 21 rfl) 2 rfl rfl ?_
        refine V_iconst C 4 (dt_at dt_X12_partIs_0 22 rfl) (by decide) ?_
        refine V_icmp_ne C 50 (dt_at dt_X12_partIs_0 23 rfl) (by decide) (fun q10 => ?_) (fun q10 => ?_)
        · have h := ite_f q10 h
          refine V_aload_n C (dt_at dt_X12_partIs_0 28 rfl) 0 rfl rfl ?_
          refine V_iload_n C (dt_at dt_X12_partIs_0 29 rfl) 1 rfl rfl ?_
          obtain ⟨r11, e12, h⟩ := bd_s h
          refine cv_X12_entriesOf C ww_771 x1 e12 (Nat.le_of_ble_eq_true rfl) (Nat.le_of_ble_eq_true rfl) z0 (dt_at dt_X12_partIs_0 30 rfl) ?_
          obtain ⟨e1_, e2_⟩ := pin2 h
          subst e1_; subst e2_
          exact V_iret C hR (dt_at dt_X12_partIs_0 31 rfl)
        · have h := ite_t q10 h
          refine V_aload_n C (dt_at dt_X12_partIs_0 24 rfl) 0 rfl rfl ?_
          refine V_iload_n C (dt_at dt_X12_partIs_0 25 rfl) 1 rfl rfl ?_
          obtain ⟨r14, e15, h⟩ := bd_s h
          refine cv_X12_weight C ww_463 x1 e15 (Nat.le_of_ble_eq_true rfl) (Nat.le_of_ble_eq_true rfl) z0 (dt_at dt_X12_partIs_0 26 rfl) ?_
          refine V_goto C 55 (dt_at dt_X12_partIs_0 27 rfl) (by decide) ?_
          obtain ⟨e1_, e2_⟩ := pin2 h
          subst e1_; subst e2_
          exact V_iret C hR (dt_at dt_X12_partIs_0 31 rfl)
      · have h := ite_t q9 h
        refine V_aload_n C (dt_at dt_X12_partIs_0 16 rfl) 0 rfl rfl ?_
        refine V_iload_n C (dt_at dt_X12_partIs_0 17 rfl) 1 rfl rfl ?_
        refine V_iload_n C (dt_at dt_X12_partIs_0 18 rfl) 2 rfl rfl ?_
        obtain ⟨r17, e18, h⟩ := bd_s h
        refine cv_X12_its C ww_460 x1 x2 e18 (Nat.le_of_ble_eq_true rfl) (Nat.le_of_ble_eq_true rfl) z0 (dt_at dt_X12_partIs_0 19 rfl) ?_
        refine V_goto C 55 (dt_at dt_X12_partIs_0 20 rfl) (by decide) ?_
        obtain ⟨e1_, e2_⟩ := pin2 h
        subst e1_; subst e2_
        exact V_iret C hR (dt_at dt_X12_partIs_0 31 rfl)
    · have h := ite_t q8 h
      refine V_sub [0] (lv' := [(0, .ref (ga G 6))]) rfl ?_
      exact J_17 σ h
theorem cv_X12_partIs (C : Ck X G cc own nL d) {idx : Nat} (hlk : Cond.methodLink own idx yX12_partIs ∈ gtb) (x1 : Int32) (x2 : Int32) {r0 : Int32} {σ0 : St} (e : f_X12_partIs x1 x2 σ = some (r0, σ0)) (hdd : 4 ≤ d) (hroom : (rest.map fun v => v.category).sum ≤ 8) (hcs : cells ≤ (xR X).cells ∧ slots ≤ (xR X).slots) (hd : decode cc pc = .ok (.invokevirtual idx, 3)) (k : V X G nL cells slots σ0 (pc + 3) lv (.int r0 :: rest)) : V X G nL cells slots σ pc lv (.int x2 :: .int x1 :: .ref (ga G 6) :: rest) := V_callV C (As := [.int x1, .int x2]) (c_X12_partIs X.2.1 G x1 x2 σ r0 σ0 e) cal_X12_partIs ww_773 ww_774 hlk rfl hdd (lt110 rfl) rfl rfl rfl hroom hcs hd k
end WK
