section WK
variable {X : Xx} {G : Gx} {cc : ByteArray} {own : String} {nL d cells slots pc : Nat} {σ : St} {lv : List (Nat × Value)} {rest : List Value}
theorem dt_X4_delay_0 : dtab cX4_delay [(0, .aload_n 0, 1), (1, .getfield 37, 3), (4, .iload_n 1, 1), (5, .dup2, 1), (6, .iaload, 1), (7, .iload_n 2, 1), (8, .iadd, 1), (9, .iastore, 1), (10, .aload_n 0, 1), (11, .getfield 40, 3), (14, .iload_n 1, 1), (15, .dup2, 1), (16, .iaload, 1), (17, .iload_n 2, 1), (18, .iadd, 1), (19, .iastore, 1), (20, .return_, 1)] = true := by decide +kernel
theorem cal_X4_delay : Cal yX4_delay cX4_delay 3 none 2 := ⟨ww_302, ww_92, ⟨by decide, by decide, by decide⟩, by decide⟩
set_option maxHeartbeats 4000000 in
set_option maxRecDepth 100000 in
theorem c_X4_delay (l : Launch) (G : Gx) (x1 : Int32) (x2 : Int32) (σ : St) (σ0 : St) (h : f_X4_delay x1 x2 σ = some σ0) : MI l G yX4_delay cX4_delay 3 none 1 [.ref (ga G 1), .int x1, .int x2] σ none σ0 := by
  refine MI_of RX4 rfl (by decide) [(0, .ref (ga G 1)), (1, .int x1), (2, .int x2)] rfl (Nat.le_of_ble_eq_true rfl) ?_
  intro X hXl C hR
  unfold f_X4_delay at h
  refine V_aload_n C (dt_at dt_X4_delay_0 0 rfl) 0 rfl rfl ?_
  refine g_X4_37_1 C (dt_at dt_X4_delay_0 1 rfl) ?_
  refine V_iload_n C (dt_at dt_X4_delay_0 2 rfl) 1 rfl rfl ?_
  refine V_dup2 C (dt_at dt_X4_delay_0 3 rfl) rfl rfl ?_
  obtain ⟨h1, h⟩ := chk_s h
  refine al_13 C h1 (dt_at dt_X4_delay_0 4 rfl) ?_
  refine V_iload_n C (dt_at dt_X4_delay_0 5 rfl) 2 rfl rfl ?_
  refine V_iadd C (dt_at dt_X4_delay_0 6 rfl) ?_
  obtain ⟨σ2, eσ2, h⟩ := nm_s h
  refine V_st eσ2 ?_ (fun k => as_13 C h1 (dt_at dt_X4_delay_0 7 rfl) k)
  refine V_aload_n C (dt_at dt_X4_delay_0 8 rfl) 0 rfl rfl ?_
  refine g_X4_40_1 C (dt_at dt_X4_delay_0 9 rfl) ?_
  refine V_iload_n C (dt_at dt_X4_delay_0 10 rfl) 1 rfl rfl ?_
  refine V_dup2 C (dt_at dt_X4_delay_0 11 rfl) rfl rfl ?_
  refine al_14 C h1 (dt_at dt_X4_delay_0 12 rfl) ?_
  refine V_iload_n C (dt_at dt_X4_delay_0 13 rfl) 2 rfl rfl ?_
  refine V_iadd C (dt_at dt_X4_delay_0 14 rfl) ?_
  obtain ⟨σ3, eσ3, h⟩ := nm_s h
  refine V_st eσ3 ?_ (fun k => as_14 C h1 (dt_at dt_X4_delay_0 15 rfl) k)
  have e1_ := Option.some.inj h
  subst e1_
  exact V_vret C hR (dt_at dt_X4_delay_0 16 rfl)
theorem cv_X4_delay (C : Ck X G cc own nL d) {idx : Nat} (hlk : Cond.methodLink own idx yX4_delay ∈ gtb) (x1 : Int32) (x2 : Int32) {σ0 : St} (e : f_X4_delay x1 x2 σ = some σ0) (hdd : 2 ≤ d) (hroom : (rest.map fun v => v.category).sum ≤ 8) (hcs : cells ≤ (xR X).cells ∧ slots ≤ (xR X).slots) (hd : decode cc pc = .ok (.invokevirtual idx, 3)) (k : V X G nL cells slots σ0 (pc + 3) lv (rest)) : V X G nL cells slots σ pc lv (.int x2 :: .int x1 :: .ref (ga G 1) :: rest) := V_callV C (As := [.int x1, .int x2]) (c_X4_delay X.2.1 G x1 x2 σ σ0 e) cal_X4_delay ww_303 ww_304 hlk rfl hdd (lt110 rfl) rfl rfl rfl hroom hcs hd k
theorem dt_X7_become_0 : dtab cX7_become [(0, .aload_n 1, 1), (1, .getfield 13, 3), (4, .iconst 0, 1), (5, .aload_n 0, 1), (6, .getfield 13, 3), (9, .iconst 0, 1), (10, .aload_n 1, 1), (11, .getfield 7, 3), (14, .invokestatic 17, 3), (17, .aload_n 0, 1), (18, .aload_n 1, 1), (19, .getfield 7, 3), (22, .putfield 7, 3), (25, .return_, 1)] = true := by decide +kernel
theorem cal_X7_become : Cal yX7_become cX7_become 2 none 1 := ⟨ww_306, ww_17, ⟨by decide, by decide, by decide⟩, by decide⟩
set_option maxHeartbeats 4000000 in
set_option maxRecDepth 100000 in
theorem c_X7_become (l : Launch) (G : Gx) (c0 : Nat) (c1 : Nat) (σ : St) (σ0 : St) (h : f_X7_become c0 c1 σ = some σ0) : MI l G yX7_become cX7_become 2 none 1 [.ref (ga G c0), .ref (ga G c1)] σ none σ0 := by
  refine MI_of RX7 rfl (by decide) [(0, .ref (ga G c0)), (1, .ref (ga G c1))] rfl (Nat.le_of_ble_eq_true rfl) ?_
  intro X hXl C hR
  unfold f_X7_become at h
  obtain ⟨hc_c1, h⟩ := chk_s h
  obtain ⟨hc_c0, h⟩ := chk_s h
  refine V_aload_n C (dt_at dt_X7_become_0 0 rfl) 1 rfl rfl ?_
  refine gw_X7_13 C (K := c1) hc_c1 (dt_at dt_X7_become_0 1 rfl) ?_
  refine V_iconst C 0 (dt_at dt_X7_become_0 2 rfl) (by decide) ?_
  refine V_aload_n C (dt_at dt_X7_become_0 3 rfl) 0 rfl rfl ?_
  refine gw_X7_13 C (K := c0) hc_c0 (dt_at dt_X7_become_0 4 rfl) ?_
  refine V_iconst C 0 (dt_at dt_X7_become_0 5 rfl) (by decide) ?_
  refine V_aload_n C (dt_at dt_X7_become_0 6 rfl) 1 rfl rfl ?_
  refine gw_X7_7 C (K := c1) hc_c1 (dt_at dt_X7_become_0 7 rfl) ?_
  obtain ⟨h1, h⟩ := chk_s h
  obtain ⟨σ2, eσ2, h⟩ := nm_s h
  refine V_st eσ2 ?_ (fun k => V_copy C (K0 := c1 + 1) (K1 := c0 + 1) ww_305 w_copy (isRowA_lt hc_c1) (isRowA_lt hc_c0) (lay_rowA G hc_c1 _ _) (fun f => (lay_rowA G hc_c0 f _)) h1 (Nat.le_of_ble_eq_true rfl) (Nat.le_of_ble_eq_true rfl) (dt_at dt_X7_become_0 8 rfl) k)
  refine V_aload_n C (dt_at dt_X7_become_0 9 rfl) 0 rfl rfl ?_
  refine V_aload_n C (dt_at dt_X7_become_0 10 rfl) 1 rfl rfl ?_
  refine gw_X7_7 C (K := c1) hc_c1 (dt_at dt_X7_become_0 11 rfl) ?_
  obtain ⟨σ3, eσ3, h⟩ := nm_s h
  refine V_st eσ3 ?_ (fun k => p_X7_7_row C (K := c0) hc_c0 (dt_at dt_X7_become_0 12 rfl) k)
  have e1_ := Option.some.inj h
  subst e1_
  exact V_vret C hR (dt_at dt_X7_become_0 13 rfl)
theorem cv_X7_become (C : Ck X G cc own nL d) {idx : Nat} (hlk : Cond.methodLink own idx yX7_become ∈ gtb) (c0 : Nat) (c1 : Nat) {σ0 : St} (e : f_X7_become c0 c1 σ = some σ0) (hdd : 2 ≤ d) (hroom : (rest.map fun v => v.category).sum ≤ 8) (hcs : cells ≤ (xR X).cells ∧ slots ≤ (xR X).slots) (hd : decode cc pc = .ok (.invokevirtual idx, 3)) (k : V X G nL cells slots σ0 (pc + 3) lv (rest)) : V X G nL cells slots σ pc lv (.ref (ga G c1) :: .ref (ga G c0) :: rest) := by
  have hr9 : isRow c0 = true := by
    have e9 := e
    unfold f_X7_become at e9
    obtain ⟨-, e9⟩ := chk_s e9
    obtain ⟨q9, -⟩ := chk_s e9
    exact q9
  exact V_callV C (As := [.ref (ga G c1)]) (c_X7_become X.2.1 G c0 c1 σ σ0 e) cal_X7_become ww_307 ww_308 hlk rfl hdd (isRow_lt hr9) (lay_row G hr9 _ _) rfl rfl hroom hcs hd k
theorem dt_X11_know_0 : dtab cX11_know [(0, .aload_n 0, 1), (1, .getfield 12, 3), (4, .iload_n 1, 1), (5, .invokevirtual 171, 3), (8, .ifCond .eq 14, 3), (11, .aload_n 0, 1), (12, .getfield 12, 3), (15, .iload_n 2, 1), (16, .invokevirtual 94, 3), (19, .ifCond .ne 9, 3), (22, .aload_n 0, 1), (23, .iconst 1, 1), (24, .invokevirtual 68, 3), (27, .ireturn, 1), (28, .aload_n 0, 1), (29, .getfield 12, 3), (32, .iload_n 1, 1), (33, .iload_n 2, 1), (34, .invokevirtual 174, 3), (37, .iload_n 3, 1), (38, .if_icmp .ne 5, 3), (41, .iconst 0, 1), (42, .ireturn, 1), (43, .aload_n 0, 1), (44, .getfield 12, 3), (47, .getfield 177, 3), (50, .iload_n 1, 1), (51, .dup2, 1), (52, .iaload, 1), (53, .iconst 1, 1), (54, .iload_n 2, 1), (55, .ishl, 1), (56, .ixor, 1), (57, .iastore, 1), (58, .iconst 1, 1), (59, .ireturn, 1)] = true := by decide +kernel
theorem cal_X11_know : Cal yX11_know cX11_know 4 (some .int) 3 := ⟨ww_311, ww_100, ⟨by decide, by decide, by decide⟩, by decide⟩
set_option maxHeartbeats 4000000 in
set_option maxRecDepth 100000 in
theorem c_X11_know (l : Launch) (G : Gx) (x1 : Int32) (x2 : Int32) (x3 : Int32) (σ : St) (r0 : Int32) (σ0 : St) (h : f_X11_know x1 x2 x3 σ = some (r0, σ0)) : MI l G yX11_know cX11_know 4 (some .int) 3 [.ref (ga G 0), .int x1, .int x2, .int x3] σ (some (.int r0)) σ0 := by
  refine MI_of RX11 rfl (by decide) [(0, .ref (ga G 0)), (1, .int x1), (2, .int x2), (3, .int x3)] rfl (Nat.le_of_ble_eq_true rfl) ?_
  intro X hXl C hR
  unfold f_X11_know at h
  have J_22 : ∀ (σ : St), f_X11_know_22 σ = some (r0, σ0) → V X G 4 0 0 σ 22 [(0, .ref (ga G 0))] [] := by
    intro σ h
    unfold f_X11_know_22 at h
    refine V_aload_n C (dt_at dt_X11_know_0 10 rfl) 0 rfl rfl ?_
    refine V_iconst C 1 (dt_at dt_X11_know_0 11 rfl) (by decide) ?_
    obtain ⟨r15, σ17, e16, h⟩ := bd2_s h
    refine cv_X11_error C ww_193 1 e16 (Nat.le_of_ble_eq_true rfl) (Nat.le_of_ble_eq_true rfl) z0 (dt_at dt_X11_know_0 12 rfl) ?_
    obtain ⟨e1_, e2_⟩ := pin2 h
    subst e1_; subst e2_
    exact V_iret C hR (dt_at dt_X11_know_0 13 rfl)
  refine V_aload_n C (dt_at dt_X11_know_0 0 rfl) 0 rfl rfl ?_
  refine g_X11_12_0 C (dt_at dt_X11_know_0 1 rfl) ?_
  refine V_iload_n C (dt_at dt_X11_know_0 2 rfl) 1 rfl rfl ?_
  obtain ⟨r1, e2, h⟩ := bd_s h
  refine cv_X4_hasPlayer C ww_209 x1 e2 (Nat.le_of_ble_eq_true rfl) (Nat.le_of_ble_eq_true rfl) z0 (dt_at dt_X11_know_0 3 rfl) ?_
  refine V_if_eq C 22 (dt_at dt_X11_know_0 4 rfl) (by decide) (fun q4 => ?_) (fun q4 => ?_)
  · have h := ite_t q4 h
    refine V_sub [0] (lv' := [(0, .ref (ga G 0))]) rfl ?_
    exact J_22 σ h
  · have h := ite_f q4 h
    refine V_aload_n C (dt_at dt_X11_know_0 5 rfl) 0 rfl rfl ?_
    refine g_X11_12_0 C (dt_at dt_X11_know_0 6 rfl) ?_
    refine V_iload_n C (dt_at dt_X11_know_0 7 rfl) 2 rfl rfl ?_
    obtain ⟨r5, e6, h⟩ := bd_s h
    refine cv_X4_hasPart C ww_215 x2 e6 (Nat.le_of_ble_eq_true rfl) (Nat.le_of_ble_eq_true rfl) z0 (dt_at dt_X11_know_0 8 rfl) ?_
    refine V_if_ne C 28 (dt_at dt_X11_know_0 9 rfl) (by decide) (fun q8 => ?_) (fun q8 => ?_)
    · have h := ite_f q8 h
      refine V_aload_n C (dt_at dt_X11_know_0 14 rfl) 0 rfl rfl ?_
      refine g_X11_12_0 C (dt_at dt_X11_know_0 15 rfl) ?_
      refine V_iload_n C (dt_at dt_X11_know_0 16 rfl) 1 rfl rfl ?_
      refine V_iload_n C (dt_at dt_X11_know_0 17 rfl) 2 rfl rfl ?_
      obtain ⟨r9, e10, h⟩ := bd_s h
      refine cv_X4_knows C ww_309 x1 x2 e10 (Nat.le_of_ble_eq_true rfl) (Nat.le_of_ble_eq_true rfl) z0 (dt_at dt_X11_know_0 18 rfl) ?_
      refine V_iload_n C (dt_at dt_X11_know_0 19 rfl) 3 rfl rfl ?_
      refine V_icmp_ne C 43 (dt_at dt_X11_know_0 20 rfl) (by decide) (fun q12 => ?_) (fun q12 => ?_)
      · have h := ite_f q12 h
        refine V_aload_n C (dt_at dt_X11_know_0 23 rfl) 0 rfl rfl ?_
        refine g_X11_12_0 C (dt_at dt_X11_know_0 24 rfl) ?_
        refine g_X11_177_1 C (dt_at dt_X11_know_0 25 rfl) ?_
        refine V_iload_n C (dt_at dt_X11_know_0 26 rfl) 1 rfl rfl ?_
        refine V_dup2 C (dt_at dt_X11_know_0 27 rfl) rfl rfl ?_
        obtain ⟨h13, h⟩ := chk_s h
        refine al_18 C h13 (dt_at dt_X11_know_0 28 rfl) ?_
        refine V_iconst C 1 (dt_at dt_X11_know_0 29 rfl) (by decide) ?_
        refine V_iload_n C (dt_at dt_X11_know_0 30 rfl) 2 rfl rfl ?_
        refine V_ishl C (dt_at dt_X11_know_0 31 rfl) ?_
        refine V_ixor C (dt_at dt_X11_know_0 32 rfl) ?_
        obtain ⟨σ14, eσ14, h⟩ := nm_s h
        refine V_st eσ14 ?_ (fun k => as_18 C h13 (dt_at dt_X11_know_0 33 rfl) k)
        refine V_iconst C 1 (dt_at dt_X11_know_0 34 rfl) (by decide) ?_
        obtain ⟨e1_, e2_⟩ := pin2 h
        subst e1_; subst e2_
        exact V_iret C hR (dt_at dt_X11_know_0 35 rfl)
      · have h := ite_t q12 h
        refine V_iconst C 0 (dt_at dt_X11_know_0 21 rfl) (by decide) ?_
        obtain ⟨e1_, e2_⟩ := pin2 h
        subst e1_; subst e2_
        exact V_iret C hR (dt_at dt_X11_know_0 22 rfl)
    · have h := ite_t q8 h
      refine V_sub [0] (lv' := [(0, .ref (ga G 0))]) rfl ?_
      exact J_22 σ h
theorem cv_X11_know (C : Ck X G cc own nL d) {idx : Nat} (hlk : Cond.methodLink own idx yX11_know ∈ gtb) (x1 : Int32) (x2 : Int32) (x3 : Int32) {r0 : Int32} {σ0 : St} (e : f_X11_know x1 x2 x3 σ = some (r0, σ0)) (hdd : 4 ≤ d) (hroom : (rest.map fun v => v.category).sum ≤ 8) (hcs : cells ≤ (xR X).cells ∧ slots ≤ (xR X).slots) (hd : decode cc pc = .ok (.invokevirtual idx, 3)) (k : V X G nL cells slots σ0 (pc + 3) lv (.int r0 :: rest)) : V X G nL cells slots σ pc lv (.int x3 :: .int x2 :: .int x1 :: .ref (ga G 0) :: rest) := V_callV C (As := [.int x1, .int x2, .int x3]) (c_X11_know X.2.1 G x1 x2 x3 σ r0 σ0 e) cal_X11_know ww_312 ww_313 hlk rfl hdd (lt110 rfl) rfl rfl rfl hroom hcs hd k
theorem dt_X8_weighSets_0 : dtab cX8_weighSets [(0, .aload_n 0, 1), (1, .getfield 30, 3), (4, .iconst 0, 1), (5, .iconst 0, 1), (6, .iastore, 1), (7, .iconst 0, 1), (8, .istore_n 1, 1), (9, .iload_n 1, 1), (10, .aload_n 0, 1), (11, .getfield 51, 3), (14, .getfield 64, 3), (17, .if_icmp .ge 55, 3), (20, .iconst 1, 1), (21, .iload_n 1, 1), (22, .ishl, 1), (23, .istore_n 2, 1), (24, .aload_n 0, 1), (25, .getfield 51, 3), (28, .iload_n 1, 1), (29, .invokevirtual 105, 3), (32, .istore_n 3, 1), (33, .iconst 0, 1), (34, .istore 4, 2), (36, .iload 4, 2), (38, .iload_n 2, 1), (39, .if_icmp .ge 27, 3), (42, .aload_n 0, 1), (43, .getfield 30, 3), (46, .iload 4, 2), (48, .iload_n 2, 1), (49, .ior, 1), (50, .aload_n 0, 1), (51, .getfield 30, 3), (54, .iload 4, 2), (56, .iaload, 1), (57, .iload_n 3, 1), (58, .iadd, 1), (59, .iastore, 1), (60, .iinc 4 1, 3), (63, .goto (-27), 3)] = true := by decide +kernel
theorem dt_X8_weighSets_1 : dtab cX8_weighSets [(66, .iinc 1 1, 3), (69, .goto (-60), 3), (72, .return_, 1)] = true := by decide +kernel
theorem cal_X8_weighSets : Cal yX8_weighSets cX8_weighSets 5 none 0 := ⟨ww_314, ww_129, ⟨by decide, by decide, by decide⟩, by decide⟩
set_option maxHeartbeats 4000000 in
set_option maxRecDepth 100000 in
theorem c_X8_weighSets (l : Launch) (G : Gx) (σ : St) (σ0 : St) (h : f_X8_weighSets σ = some σ0) : MI l G yX8_weighSets cX8_weighSets 5 none 2 [.ref (ga G 4)] σ none σ0 := by
  refine MI_of RX8 rfl (by decide) [(0, .ref (ga G 4))] rfl (Nat.le_of_ble_eq_true rfl) ?_
  intro X hXl C hR
  unfold f_X8_weighSets at h
  have J_9 : ∀ (x1 : Int32) (σ : St), f_X8_weighSets_9 x1 σ = some σ0 → V X G 5 0 0 σ 9 [(0, .ref (ga G 4)), (1, .int x1)] [] := by
    intro x1 σ h
    refine it_v (P := fun z : Int32 × St => V X G 5 0 0 z.2 9 [(0, .ref (ga G 4)), (1, .int z.1)] []) ?_ (x1, σ) h
    clear h
    intro z w_9 h ih_9 ex_9
    obtain ⟨x1, σ⟩ := z
    have h : b_X8_weighSets_9 x1 σ = some w_9 := h
    show V X G 5 0 0 σ 9 [(0, .ref (ga G 4)), (1, .int x1)] []
    unfold b_X8_weighSets_9 at h
    have J_66 : ∀ (x1 : Int32) (σ : St), f_X8_weighSets_66 x1 σ = some w_9 → V X G 5 0 0 σ 66 [(0, .ref (ga G 4)), (1, .int x1)] [] := by
      intro x1 σ h
      unfold f_X8_weighSets_66 at h
      refine V_iinc C (x1 + 1) 1 [1, 0] (lv' := [(0, .ref (ga G 4)), (1, .int (x1 + 1))]) (dt_at dt_X8_weighSets_1 0 rfl) rfl (by rfl) (by decide) rfl ?_
      refine V_goto C 9 (dt_at dt_X8_weighSets_1 1 rfl) (by decide) ?_
      exact ih_9 ((x1 + 1), σ) (Option.some.inj h).symm
    have J_36 : ∀ (x1 : Int32) (x2 : Int32) (x3 : Int32) (x4 : Int32) (σ : St), f_X8_weighSets_36 x1 x2 x3 x4 σ = some w_9 → V X G 5 0 0 σ 36 [(0, .ref (ga G 4)), (1, .int x1), (2, .int x2), (3, .int x3), (4, .int x4)] [] := by
      intro x1 x2 x3 x4 σ h
      refine it_v (P := fun z : Int32 × St => V X G 5 0 0 z.2 36 [(0, .ref (ga G 4)), (1, .int x1), (2, .int x2), (3, .int x3), (4, .int z.1)] []) ?_ (x4, σ) h
      clear h
      intro z w_36 h ih_36 ex_36
      obtain ⟨x4, σ⟩ := z
      have h : b_X8_weighSets_36 x1 x2 x3 x4 σ = some w_36 := h
      show V X G 5 0 0 σ 36 [(0, .ref (ga G 4)), (1, .int x1), (2, .int x2), (3, .int x3), (4, .int x4)] []
      unfold b_X8_weighSets_36 at h
      refine V_iload C (dt_at dt_X8_weighSets_0 23 rfl) 4 rfl ?_
      refine V_iload_n C (dt_at dt_X8_weighSets_0 24 rfl) 2 rfl rfl ?_
      refine V_icmp_ge C 66 (dt_at dt_X8_weighSets_0 25 rfl) (by decide) (fun q7 => ?_) (fun q7 => ?_)
      · have h := ite_f q7 h
        refine V_sub [0, 1] (lv' := [(0, .ref (ga G 4)), (1, .int x1)]) rfl ?_
        obtain ⟨t8, h, e_36⟩ := map_s h
        have e_36 := ex_36 _ e_36
        rw [e_36] at h
        exact J_66 x1 σ h
      · have h := ite_t q7 h
        refine V_aload_n C (dt_at dt_X8_weighSets_0 26 rfl) 0 rfl rfl ?_
        refine g_X8_30_4 C (dt_at dt_X8_weighSets_0 27 rfl) ?_
        refine V_iload C (dt_at dt_X8_weighSets_0 28 rfl) 4 rfl ?_
        refine V_iload_n C (dt_at dt_X8_weighSets_0 29 rfl) 2 rfl rfl ?_
        refine V_ior C (dt_at dt_X8_weighSets_0 30 rfl) ?_
        refine V_aload_n C (dt_at dt_X8_weighSets_0 31 rfl) 0 rfl rfl ?_
        refine g_X8_30_4 C (dt_at dt_X8_weighSets_0 32 rfl) ?_
        refine V_iload C (dt_at dt_X8_weighSets_0 33 rfl) 4 rfl ?_
        obtain ⟨h9, h⟩ := chk_s h
        refine al_37 C h9 (dt_at dt_X8_weighSets_0 34 rfl) ?_
        refine V_iload_n C (dt_at dt_X8_weighSets_0 35 rfl) 3 rfl rfl ?_
        refine V_iadd C (dt_at dt_X8_weighSets_0 36 rfl) ?_
        obtain ⟨h11, h⟩ := chk_s h
        obtain ⟨σ10, eσ10, h⟩ := nm_s h
        refine V_st eσ10 ?_ (fun k => as_37 C h11 (dt_at dt_X8_weighSets_0 37 rfl) k)
        refine V_iinc C (x4 + 1) 4 [1, 2, 3, 4, 0] (lv' := [(0, .ref (ga G 4)), (1, .int x1), (2, .int x2), (3, .int x3), (4, .int (x4 + 1))]) (dt_at dt_X8_weighSets_0 38 rfl) rfl (by rfl) (by decide) rfl ?_
        refine V_goto C 36 (dt_at dt_X8_weighSets_0 39 rfl) (by decide) ?_
        exact ih_36 ((x4 + 1), σ10) (Option.some.inj h).symm
    refine V_iload_n C (dt_at dt_X8_weighSets_0 7 rfl) 1 rfl rfl ?_
    refine V_aload_n C (dt_at dt_X8_weighSets_0 8 rfl) 0 rfl rfl ?_
    refine g_X8_51_4 C (dt_at dt_X8_weighSets_0 9 rfl) ?_
    refine g_X8_64_1 C (dt_at dt_X8_weighSets_0 10 rfl) ?_
    refine V_icmp_ge C 72 (dt_at dt_X8_weighSets_0 11 rfl) (by decide) (fun q3 => ?_) (fun q3 => ?_)
    · have h := ite_f q3 h
      have e_9 := ex_9 _ (Option.some.inj h).symm
      subst e_9
      exact V_vret C hR (dt_at dt_X8_weighSets_1 2 rfl)
    · have h := ite_t q3 h
      refine V_iconst C 1 (dt_at dt_X8_weighSets_0 12 rfl) (by decide) ?_
      refine V_iload_n C (dt_at dt_X8_weighSets_0 13 rfl) 1 rfl rfl ?_
      refine V_ishl C (dt_at dt_X8_weighSets_0 14 rfl) ?_
      refine V_istore_n C [1, 2, 0] (lv' := [(0, .ref (ga G 4)), (1, .int x1), (2, .int ((1 : Int32) <<< (x1 &&& 31)))]) (dt_at dt_X8_weighSets_0 15 rfl) rfl (by decide) rfl ?_
      refine V_aload_n C (dt_at dt_X8_weighSets_0 16 rfl) 0 rfl rfl ?_
      refine g_X8_51_4 C (dt_at dt_X8_weighSets_0 17 rfl) ?_
      refine V_iload_n C (dt_at dt_X8_weighSets_0 18 rfl) 1 rfl rfl ?_
      obtain ⟨r4, e5, h⟩ := bd_s h
      refine cv_X4_weight C ww_126 x1 e5 (Nat.le_of_ble_eq_true rfl) (Nat.le_of_ble_eq_true rfl) z0 (dt_at dt_X8_weighSets_0 19 rfl) ?_
      refine V_istore_n C [1, 2, 3, 0] (lv' := [(0, .ref (ga G 4)), (1, .int x1), (2, .int ((1 : Int32) <<< (x1 &&& 31))), (3, .int r4)]) (dt_at dt_X8_weighSets_0 20 rfl) rfl (by decide) rfl ?_
      refine V_iconst C 0 (dt_at dt_X8_weighSets_0 21 rfl) (by decide) ?_
      refine V_istore C [1, 2, 3, 4, 0] (lv' := [(0, .ref (ga G 4)), (1, .int x1), (2, .int ((1 : Int32) <<< (x1 &&& 31))), (3, .int r4), (4, .int 0)]) (dt_at dt_X8_weighSets_0 22 rfl) (by decide) rfl ?_
      exact J_36 x1 ((1 : Int32) <<< (x1 &&& 31)) r4 0 σ h
  refine V_aload_n C (dt_at dt_X8_weighSets_0 0 rfl) 0 rfl rfl ?_
  refine g_X8_30_4 C (dt_at dt_X8_weighSets_0 1 rfl) ?_
  refine V_iconst C 0 (dt_at dt_X8_weighSets_0 2 rfl) (by decide) ?_
  refine V_iconst C 0 (dt_at dt_X8_weighSets_0 3 rfl) (by decide) ?_
  obtain ⟨h2, h⟩ := chk_s h
  obtain ⟨σ1, eσ1, h⟩ := nm_s h
  refine V_st eσ1 ?_ (fun k => as_37 C h2 (dt_at dt_X8_weighSets_0 4 rfl) k)
  refine V_iconst C 0 (dt_at dt_X8_weighSets_0 5 rfl) (by decide) ?_
  refine V_istore_n C [1, 0] (lv' := [(0, .ref (ga G 4)), (1, .int 0)]) (dt_at dt_X8_weighSets_0 6 rfl) rfl (by decide) rfl ?_
  exact J_9 0 σ1 h
theorem cv_X8_weighSets (C : Ck X G cc own nL d) {idx : Nat} (hlk : Cond.methodLink own idx yX8_weighSets ∈ gtb) {σ0 : St} (e : f_X8_weighSets σ = some σ0) (hdd : 3 ≤ d) (hroom : (rest.map fun v => v.category).sum ≤ 8) (hcs : cells ≤ (xR X).cells ∧ slots ≤ (xR X).slots) (hd : decode cc pc = .ok (.invokevirtual idx, 3)) (k : V X G nL cells slots σ0 (pc + 3) lv (rest)) : V X G nL cells slots σ pc lv (.ref (ga G 4) :: rest) := V_callV C (As := []) (c_X8_weighSets X.2.1 G  σ σ0 e) cal_X8_weighSets ww_315 ww_316 hlk rfl hdd (lt110 rfl) rfl rfl rfl hroom hcs hd k
theorem dt_X8_isLess_0 : dtab cX8_isLess [(0, .aload_n 0, 1), (1, .getfield 30, 3), (4, .iload_n 1, 1), (5, .iaload, 1), (6, .aload_n 0, 1), (7, .getfield 30, 3), (10, .iload_n 2, 1), (11, .iaload, 1), (12, .if_icmp .eq 24, 3), (15, .aload_n 0, 1), (16, .getfield 30, 3), (19, .iload_n 1, 1), (20, .iaload, 1), (21, .aload_n 0, 1), (22, .getfield 30, 3), (25, .iload_n 2, 1), (26, .iaload, 1), (27, .if_icmp .ge 7, 3), (30, .iconst 1, 1), (31, .goto 4, 3), (34, .iconst 0, 1), (35, .ireturn, 1), (36, .iload_n 1, 1), (37, .invokestatic 166, 3), (40, .iload_n 2, 1), (41, .invokestatic 166, 3), (44, .isub, 1), (45, .istore_n 3, 1), (46, .iload_n 3, 1), (47, .ifCond .eq 15, 3), (50, .iload_n 3, 1), (51, .ifCond .ge 7, 3), (54, .iconst 1, 1), (55, .goto 17, 3), (58, .iconst 0, 1), (59, .goto 13, 3), (62, .iload_n 1, 1), (63, .iload_n 2, 1), (64, .if_icmp .ge 7, 3), (67, .iconst 1, 1)] = true := by decide +kernel
theorem dt_X8_isLess_1 : dtab cX8_isLess [(68, .goto 4, 3), (71, .iconst 0, 1), (72, .ireturn, 1)] = true := by decide +kernel
theorem cal_X8_isLess : Cal yX8_isLess cX8_isLess 4 (some .boolean) 2 := ⟨ww_318, ww_129, ⟨by decide, by decide, by decide⟩, by decide⟩
set_option maxHeartbeats 4000000 in
set_option maxRecDepth 100000 in
theorem c_X8_isLess (l : Launch) (G : Gx) (x1 : Int32) (x2 : Int32) (σ : St) (r0 : Int32) (h : f_X8_isLess x1 x2 σ = some r0) : MI l G yX8_isLess cX8_isLess 4 (some .boolean) 2 [.ref (ga G 4), .int x1, .int x2] σ (some (.int r0)) σ := by
  refine MI_of RX8 rfl (by decide) [(0, .ref (ga G 4)), (1, .int x1), (2, .int x2)] rfl (Nat.le_of_ble_eq_true rfl) ?_
  intro X hXl C hR
  unfold f_X8_isLess at h
  refine V_aload_n C (dt_at dt_X8_isLess_0 0 rfl) 0 rfl rfl ?_
  refine g_X8_30_4 C (dt_at dt_X8_isLess_0 1 rfl) ?_
  refine V_iload_n C (dt_at dt_X8_isLess_0 2 rfl) 1 rfl rfl ?_
  obtain ⟨h1, h⟩ := chk_s h
  refine al_37 C h1 (dt_at dt_X8_isLess_0 3 rfl) ?_
  refine V_aload_n C (dt_at dt_X8_isLess_0 4 rfl) 0 rfl rfl ?_
  refine g_X8_30_4 C (dt_at dt_X8_isLess_0 5 rfl) ?_
  refine V_iload_n C (dt_at dt_X8_isLess_0 6 rfl) 2 rfl rfl ?_
  obtain ⟨h2, h⟩ := chk_s h
  refine al_37 C h2 (dt_at dt_X8_isLess_0 7 rfl) ?_
  refine V_icmp_eq C 36 (dt_at dt_X8_isLess_0 8 rfl) (by decide) (fun q3 => ?_) (fun q3 => ?_)
  · have h := ite_t q3 h
    refine V_iload_n C (dt_at dt_X8_isLess_0 22 rfl) 1 rfl rfl ?_
    obtain ⟨r4, e5, h⟩ := bd_s h
    refine cv_J6_bitCount_0f7a4 C ww_317 x1 e5 (Nat.le_of_ble_eq_true rfl) (Nat.le_of_ble_eq_true rfl) z0 (dt_at dt_X8_isLess_0 23 rfl) ?_
    refine V_iload_n C (dt_at dt_X8_isLess_0 24 rfl) 2 rfl rfl ?_
    obtain ⟨r7, e8, h⟩ := bd_s h
    refine cv_J6_bitCount_0f7a4 C ww_317 x2 e8 (Nat.le_of_ble_eq_true rfl) (Nat.le_of_ble_eq_true rfl) z0 (dt_at dt_X8_isLess_0 25 rfl) ?_
    refine V_isub C (dt_at dt_X8_isLess_0 26 rfl) ?_
    refine V_istore_n C [1, 2, 3, 0] (lv' := [(0, .ref (ga G 4)), (1, .int x1), (2, .int x2), (3, .int (r4 - r7))]) (dt_at dt_X8_isLess_0 27 rfl) rfl (by decide) rfl ?_
    refine V_iload_n C (dt_at dt_X8_isLess_0 28 rfl) 3 rfl rfl ?_
    refine V_if_eq C 62 (dt_at dt_X8_isLess_0 29 rfl) (by decide) (fun q10 => ?_) (fun q10 => ?_)
    · have h := ite_t q10 h
      refine V_iload_n C (dt_at dt_X8_isLess_0 36 rfl) 1 rfl rfl ?_
      refine V_iload_n C (dt_at dt_X8_isLess_0 37 rfl) 2 rfl rfl ?_
      refine V_icmp_ge C 71 (dt_at dt_X8_isLess_0 38 rfl) (by decide) (fun q11 => ?_) (fun q11 => ?_)
      · have h := ite_f q11 h
        refine V_iconst C 0 (dt_at dt_X8_isLess_1 1 rfl) (by decide) ?_
        have e1_ := Option.some.inj h
        subst e1_
        exact V_zret C rfl hR (dt_at dt_X8_isLess_1 2 rfl)
      · have h := ite_t q11 h
        refine V_iconst C 1 (dt_at dt_X8_isLess_0 39 rfl) (by decide) ?_
        refine V_goto C 72 (dt_at dt_X8_isLess_1 0 rfl) (by decide) ?_
        have e1_ := Option.some.inj h
        subst e1_
        exact V_zret C rfl hR (dt_at dt_X8_isLess_1 2 rfl)
    · have h := ite_f q10 h
      refine V_iload_n C (dt_at dt_X8_isLess_0 30 rfl) 3 rfl rfl ?_
      refine V_if_ge C 58 (dt_at dt_X8_isLess_0 31 rfl) (by decide) (fun q12 => ?_) (fun q12 => ?_)
      · have h := ite_f q12 h
        refine V_iconst C 0 (dt_at dt_X8_isLess_0 34 rfl) (by decide) ?_
        refine V_goto C 72 (dt_at dt_X8_isLess_0 35 rfl) (by decide) ?_
        have e1_ := Option.some.inj h
        subst e1_
        exact V_zret C rfl hR (dt_at dt_X8_isLess_1 2 rfl)
      · have h := ite_t q12 h
        refine V_iconst C 1 (dt_at dt_X8_isLess_0 32 rfl) (by decide) ?_
        refine V_goto C 72 (dt_at dt_X8_isLess_0 33 rfl) (by decide) ?_
        have e1_ := Option.some.inj h
        subst e1_
        exact V_zret C rfl hR (dt_at dt_X8_isLess_1 2 rfl)
  · have h := ite_f q3 h
    refine V_aload_n C (dt_at dt_X8_isLess_0 9 rfl) 0 rfl rfl ?_
    refine g_X8_30_4 C (dt_at dt_X8_isLess_0 10 rfl) ?_
    refine V_iload_n C (dt_at dt_X8_isLess_0 11 rfl) 1 rfl rfl ?_
    refine al_37 C h1 (dt_at dt_X8_isLess_0 12 rfl) ?_
    refine V_aload_n C (dt_at dt_X8_isLess_0 13 rfl) 0 rfl rfl ?_
    refine g_X8_30_4 C (dt_at dt_X8_isLess_0 14 rfl) ?_
    refine V_iload_n C (dt_at dt_X8_isLess_0 15 rfl) 2 rfl rfl ?_
    refine al_37 C h2 (dt_at dt_X8_isLess_0 16 rfl) ?_
    refine V_icmp_ge C 34 (dt_at dt_X8_isLess_0 17 rfl) (by decide) (fun q13 => ?_) (fun q13 => ?_)
    · have h := ite_f q13 h
      refine V_iconst C 0 (dt_at dt_X8_isLess_0 20 rfl) (by decide) ?_
      have e1_ := Option.some.inj h
      subst e1_
      exact V_zret C rfl hR (dt_at dt_X8_isLess_0 21 rfl)
    · have h := ite_t q13 h
      refine V_iconst C 1 (dt_at dt_X8_isLess_0 18 rfl) (by decide) ?_
      refine V_goto C 35 (dt_at dt_X8_isLess_0 19 rfl) (by decide) ?_
      have e1_ := Option.some.inj h
      subst e1_
      exact V_zret C rfl hR (dt_at dt_X8_isLess_0 21 rfl)
theorem cv_X8_isLess (C : Ck X G cc own nL d) {idx : Nat} (hlk : Cond.methodLink own idx yX8_isLess ∈ gtb) (x1 : Int32) (x2 : Int32) {r0 : Int32} (e : f_X8_isLess x1 x2 σ = some r0) (hdd : 3 ≤ d) (hroom : (rest.map fun v => v.category).sum ≤ 8) (hcs : cells ≤ (xR X).cells ∧ slots ≤ (xR X).slots) (hd : decode cc pc = .ok (.invokevirtual idx, 3)) (k : V X G nL cells slots σ (pc + 3) lv (.int r0 :: rest)) : V X G nL cells slots σ pc lv (.int x2 :: .int x1 :: .ref (ga G 4) :: rest) := V_callV C (As := [.int x1, .int x2]) (c_X8_isLess X.2.1 G x1 x2 σ r0 e) cal_X8_isLess ww_319 ww_320 hlk rfl hdd (lt110 rfl) rfl rfl rfl hroom hcs hd k
theorem dt_X8_leftOut_0 : dtab cX8_leftOut [(0, .aload_n 0, 1), (1, .invokevirtual 160, 3), (4, .aload_n 0, 1), (5, .getfield 51, 3), (8, .invokevirtual 112, 3), (11, .istore_n 1, 1), (12, .iload_n 1, 1), (13, .istore_n 2, 1), (14, .iconst 0, 1), (15, .istore_n 3, 1), (16, .iload_n 3, 1), (17, .iload_n 1, 1), (18, .if_icmp .ge 31, 3), (21, .aload_n 0, 1), (22, .getfield 36, 3), (25, .iload_n 1, 1), (26, .iload_n 3, 1), (27, .ixor, 1), (28, .iaload, 1), (29, .ifCond .le 14, 3), (32, .aload_n 0, 1), (33, .iload_n 3, 1), (34, .iload_n 2, 1), (35, .invokevirtual 163, 3), (38, .ifCond .eq 5, 3), (41, .iload_n 3, 1), (42, .istore_n 2, 1), (43, .iinc 3 1, 3), (46, .goto (-30), 3), (49, .iload_n 2, 1), (50, .ireturn, 1)] = true := by decide +kernel
theorem cal_X8_leftOut : Cal yX8_leftOut cX8_leftOut 4 (some .int) 0 := ⟨ww_324, ww_129, ⟨by decide, by decide, by decide⟩, by decide⟩
set_option maxHeartbeats 4000000 in
set_option maxRecDepth 100000 in
theorem c_X8_leftOut (l : Launch) (G : Gx) (σ : St) (r0 : Int32) (σ0 : St) (h : f_X8_leftOut σ = some (r0, σ0)) : MI l G yX8_leftOut cX8_leftOut 4 (some .int) 3 [.ref (ga G 4)] σ (some (.int r0)) σ0 := by
  refine MI_of RX8 rfl (by decide) [(0, .ref (ga G 4))] rfl (Nat.le_of_ble_eq_true rfl) ?_
  intro X hXl C hR
  unfold f_X8_leftOut at h
  have J_16 : ∀ (x1 : Int32) (x2 : Int32) (x3 : Int32) (σ : St), f_X8_leftOut_16 x1 x2 x3 σ = some (r0, σ0) → V X G 4 0 0 σ 16 [(0, .ref (ga G 4)), (1, .int x1), (2, .int x2), (3, .int x3)] [] := by
    intro x1 x2 x3 σ h
    refine it_v (P := fun z : Int32 × Int32 => V X G 4 0 0 σ 16 [(0, .ref (ga G 4)), (1, .int x1), (2, .int z.1), (3, .int z.2)] []) ?_ (x2, x3) h
    clear h
    intro z w_16 h ih_16 ex_16
    obtain ⟨x2, x3⟩ := z
    have h : b_X8_leftOut_16 x1 x2 x3 σ = some w_16 := h
    show V X G 4 0 0 σ 16 [(0, .ref (ga G 4)), (1, .int x1), (2, .int x2), (3, .int x3)] []
    unfold b_X8_leftOut_16 at h
    have J_43 : ∀ (x2 : Int32) (x3 : Int32), f_X8_leftOut_43 x1 x2 x3 σ = some w_16 → V X G 4 0 0 σ 43 [(0, .ref (ga G 4)), (1, .int x1), (2, .int x2), (3, .int x3)] [] := by
      intro x2 x3 h
      unfold f_X8_leftOut_43 at h
      refine V_iinc C (x3 + 1) 3 [1, 2, 3, 0] (lv' := [(0, .ref (ga G 4)), (1, .int x1), (2, .int x2), (3, .int (x3 + 1))]) (dt_at dt_X8_leftOut_0 27 rfl) rfl (by rfl) (by decide) rfl ?_
      refine V_goto C 16 (dt_at dt_X8_leftOut_0 28 rfl) (by decide) ?_
      exact ih_16 (x2, (x3 + 1)) (Option.some.inj h).symm
    refine V_iload_n C (dt_at dt_X8_leftOut_0 10 rfl) 3 rfl rfl ?_
    refine V_iload_n C (dt_at dt_X8_leftOut_0 11 rfl) 1 rfl rfl ?_
    refine V_icmp_ge C 49 (dt_at dt_X8_leftOut_0 12 rfl) (by decide) (fun q7 => ?_) (fun q7 => ?_)
    · have h := ite_f q7 h
      refine V_iload_n C (dt_at dt_X8_leftOut_0 29 rfl) 2 rfl rfl ?_
      have e_16 := ex_16 _ (Option.some.inj h).symm
      obtain ⟨e1_, e2_⟩ := Prod.mk.inj e_16
      subst e1_; subst e2_
      exact V_iret C hR (dt_at dt_X8_leftOut_0 30 rfl)
    · have h := ite_t q7 h
      refine V_aload_n C (dt_at dt_X8_leftOut_0 13 rfl) 0 rfl rfl ?_
      refine g_X8_36_4 C (dt_at dt_X8_leftOut_0 14 rfl) ?_
      obtain ⟨h8, h⟩ := chk_s h
      refine V_iload_n C (dt_at dt_X8_leftOut_0 15 rfl) 1 rfl rfl ?_
      refine V_iload_n C (dt_at dt_X8_leftOut_0 16 rfl) 3 rfl rfl ?_
      refine V_ixor C (dt_at dt_X8_leftOut_0 17 rfl) ?_
      obtain ⟨h9, h⟩ := chk_s h
      refine V_iald C (K := (rc σ 4 9)) (isLeast_lt h8) (lay_least G h8 (_) _) h9 (dt_at dt_X8_leftOut_0 18 rfl) ?_
      refine V_if_le C 43 (dt_at dt_X8_leftOut_0 19 rfl) (by decide) (fun q10 => ?_) (fun q10 => ?_)
      · have h := ite_f q10 h
        exact J_43 x2 x3 h
      · have h := ite_t q10 h
        refine V_aload_n C (dt_at dt_X8_leftOut_0 20 rfl) 0 rfl rfl ?_
        refine V_iload_n C (dt_at dt_X8_leftOut_0 21 rfl) 3 rfl rfl ?_
        refine V_iload_n C (dt_at dt_X8_leftOut_0 22 rfl) 2 rfl rfl ?_
        obtain ⟨r11, e12, h⟩ := bd_s h
        refine cv_X8_isLess C ww_323 x3 x2 e12 (Nat.le_of_ble_eq_true rfl) (Nat.le_of_ble_eq_true rfl) z0 (dt_at dt_X8_leftOut_0 23 rfl) ?_
        refine V_if_eq C 43 (dt_at dt_X8_leftOut_0 24 rfl) (by decide) (fun q14 => ?_) (fun q14 => ?_)
        · have h := ite_t q14 h
          exact J_43 x2 x3 h
        · have h := ite_f q14 h
          refine V_iload_n C (dt_at dt_X8_leftOut_0 25 rfl) 3 rfl rfl ?_
          refine V_istore_n C [1, 2, 0, 3] (lv' := [(0, .ref (ga G 4)), (1, .int x1), (2, .int x3), (3, .int x3)]) (dt_at dt_X8_leftOut_0 26 rfl) rfl (by decide) rfl ?_
          exact J_43 x3 x3 h
  refine V_aload_n C (dt_at dt_X8_leftOut_0 0 rfl) 0 rfl rfl ?_
  obtain ⟨σ3, e2, h⟩ := bd_s h
  refine cv_X8_weighSets C ww_321  e2 (Nat.le_of_ble_eq_true rfl) (Nat.le_of_ble_eq_true rfl) z0 (dt_at dt_X8_leftOut_0 1 rfl) ?_
  refine V_aload_n C (dt_at dt_X8_leftOut_0 2 rfl) 0 rfl rfl ?_
  refine g_X8_51_4 C (dt_at dt_X8_leftOut_0 3 rfl) ?_
  obtain ⟨r4, e5, h⟩ := bd_s h
  refine cv_X4_allParts C ww_322  e5 (Nat.le_of_ble_eq_true rfl) (Nat.le_of_ble_eq_true rfl) z0 (dt_at dt_X8_leftOut_0 4 rfl) ?_
  refine V_istore_n C [1, 0] (lv' := [(0, .ref (ga G 4)), (1, .int r4)]) (dt_at dt_X8_leftOut_0 5 rfl) rfl (by decide) rfl ?_
  refine V_iload_n C (dt_at dt_X8_leftOut_0 6 rfl) 1 rfl rfl ?_
  refine V_istore_n C [1, 2, 0] (lv' := [(0, .ref (ga G 4)), (1, .int r4), (2, .int r4)]) (dt_at dt_X8_leftOut_0 7 rfl) rfl (by decide) rfl ?_
  refine V_iconst C 0 (dt_at dt_X8_leftOut_0 8 rfl) (by decide) ?_
  refine V_istore_n C [1, 2, 3, 0] (lv' := [(0, .ref (ga G 4)), (1, .int r4), (2, .int r4), (3, .int 0)]) (dt_at dt_X8_leftOut_0 9 rfl) rfl (by decide) rfl ?_
  exact J_16 r4 r4 0 σ3 h
theorem cv_X8_leftOut (C : Ck X G cc own nL d) {idx : Nat} (hlk : Cond.methodLink own idx yX8_leftOut ∈ gtb) {r0 : Int32} {σ0 : St} (e : f_X8_leftOut σ = some (r0, σ0)) (hdd : 4 ≤ d) (hroom : (rest.map fun v => v.category).sum ≤ 8) (hcs : cells ≤ (xR X).cells ∧ slots ≤ (xR X).slots) (hd : decode cc pc = .ok (.invokevirtual idx, 3)) (k : V X G nL cells slots σ0 (pc + 3) lv (.int r0 :: rest)) : V X G nL cells slots σ pc lv (.ref (ga G 4) :: rest) := V_callV C (As := []) (c_X8_leftOut X.2.1 G  σ r0 σ0 e) cal_X8_leftOut ww_325 ww_326 hlk rfl hdd (lt110 rfl) rfl rfl rfl hroom hcs hd k
theorem dt_X4_weightOfSet_0 : dtab cX4_weightOfSet [(0, .iconst 0, 1), (1, .istore_n 2, 1), (2, .iconst 0, 1), (3, .istore_n 3, 1), (4, .iload_n 3, 1), (5, .aload_n 0, 1), (6, .getfield 15, 3), (9, .if_icmp .ge 25, 3), (12, .iload_n 1, 1), (13, .iload_n 3, 1), (14, .ishr, 1), (15, .iconst 1, 1), (16, .iand, 1), (17, .ifCond .eq 11, 3), (20, .iload_n 2, 1), (21, .aload_n 0, 1), (22, .iload_n 3, 1), (23, .invokevirtual 95, 3), (26, .iadd, 1), (27, .istore_n 2, 1), (28, .iinc 3 1, 3), (31, .goto (-27), 3), (34, .iload_n 2, 1), (35, .ireturn, 1)] = true := by decide +kernel
theorem cal_X4_weightOfSet : Cal yX4_weightOfSet cX4_weightOfSet 4 (some .int) 1 := ⟨ww_328, ww_92, ⟨by decide, by decide, by decide⟩, by decide⟩
set_option maxHeartbeats 4000000 in
set_option maxRecDepth 100000 in
theorem c_X4_weightOfSet (l : Launch) (G : Gx) (x1 : Int32) (σ : St) (r0 : Int32) (h : f_X4_weightOfSet x1 σ = some r0) : MI l G yX4_weightOfSet cX4_weightOfSet 4 (some .int) 2 [.ref (ga G 1), .int x1] σ (some (.int r0)) σ := by
  refine MI_of RX4 rfl (by decide) [(0, .ref (ga G 1)), (1, .int x1)] rfl (Nat.le_of_ble_eq_true rfl) ?_
  intro X hXl C hR
  unfold f_X4_weightOfSet at h
  have J_4 : ∀ (x2 : Int32) (x3 : Int32), f_X4_weightOfSet_4 x1 x2 x3 σ = some r0 → V X G 4 0 0 σ 4 [(0, .ref (ga G 1)), (1, .int x1), (2, .int x2), (3, .int x3)] [] := by
    intro x2 x3 h
    refine it_v (P := fun z : Int32 × Int32 => V X G 4 0 0 σ 4 [(0, .ref (ga G 1)), (1, .int x1), (2, .int z.1), (3, .int z.2)] []) ?_ (x2, x3) h
    clear h
    intro z w_4 h ih_4 ex_4
    obtain ⟨x2, x3⟩ := z
    have h : b_X4_weightOfSet_4 x1 x2 x3 σ = some w_4 := h
    show V X G 4 0 0 σ 4 [(0, .ref (ga G 1)), (1, .int x1), (2, .int x2), (3, .int x3)] []
    unfold b_X4_weightOfSet_4 at h
    have J_28 : ∀ (x2 : Int32) (x3 : Int32), f_X4_weightOfSet_28 x1 x2 x3 σ = some w_4 → V X G 4 0 0 σ 28 [(0, .ref (ga G 1)), (1, .int x1), (2, .int x2), (3, .int x3)] [] := by
      intro x2 x3 h
      unfold f_X4_weightOfSet_28 at h
      refine V_iinc C (x3 + 1) 3 [1, 2, 3, 0] (lv' := [(0, .ref (ga G 1)), (1, .int x1), (2, .int x2), (3, .int (x3 + 1))]) (dt_at dt_X4_weightOfSet_0 20 rfl) rfl (by rfl) (by decide) rfl ?_
      refine V_goto C 4 (dt_at dt_X4_weightOfSet_0 21 rfl) (by decide) ?_
      exact ih_4 (x2, (x3 + 1)) (Option.some.inj h).symm
    refine V_iload_n C (dt_at dt_X4_weightOfSet_0 4 rfl) 3 rfl rfl ?_
    refine V_aload_n C (dt_at dt_X4_weightOfSet_0 5 rfl) 0 rfl rfl ?_
    refine g_X4_15_1 C (dt_at dt_X4_weightOfSet_0 6 rfl) ?_
    refine V_icmp_ge C 34 (dt_at dt_X4_weightOfSet_0 7 rfl) (by decide) (fun q1 => ?_) (fun q1 => ?_)
    · have h := ite_f q1 h
      refine V_iload_n C (dt_at dt_X4_weightOfSet_0 22 rfl) 2 rfl rfl ?_
      have e_4 := ex_4 _ (Option.some.inj h).symm
      subst e_4
      exact V_iret C hR (dt_at dt_X4_weightOfSet_0 23 rfl)
    · have h := ite_t q1 h
      refine V_iload_n C (dt_at dt_X4_weightOfSet_0 8 rfl) 1 rfl rfl ?_
      refine V_iload_n C (dt_at dt_X4_weightOfSet_0 9 rfl) 3 rfl rfl ?_
      refine V_ishr C (dt_at dt_X4_weightOfSet_0 10 rfl) ?_
      refine V_iconst C 1 (dt_at dt_X4_weightOfSet_0 11 rfl) (by decide) ?_
      refine V_iand C (dt_at dt_X4_weightOfSet_0 12 rfl) ?_
      refine V_if_eq C 28 (dt_at dt_X4_weightOfSet_0 13 rfl) (by decide) (fun q2 => ?_) (fun q2 => ?_)
      · have h := ite_t q2 h
        exact J_28 x2 x3 h
      · have h := ite_f q2 h
        refine V_iload_n C (dt_at dt_X4_weightOfSet_0 14 rfl) 2 rfl rfl ?_
        refine V_aload_n C (dt_at dt_X4_weightOfSet_0 15 rfl) 0 rfl rfl ?_
        refine V_iload_n C (dt_at dt_X4_weightOfSet_0 16 rfl) 3 rfl rfl ?_
        obtain ⟨r3, e4, h⟩ := bd_s h
        refine cv_X4_weight C ww_327 x3 e4 (Nat.le_of_ble_eq_true rfl) (Nat.le_of_ble_eq_true rfl) z0 (dt_at dt_X4_weightOfSet_0 17 rfl) ?_
        refine V_iadd C (dt_at dt_X4_weightOfSet_0 18 rfl) ?_
        refine V_istore_n C [1, 2, 0, 3] (lv' := [(0, .ref (ga G 1)), (1, .int x1), (2, .int (x2 + r3)), (3, .int x3)]) (dt_at dt_X4_weightOfSet_0 19 rfl) rfl (by decide) rfl ?_
        exact J_28 (x2 + r3) x3 h
  refine V_iconst C 0 (dt_at dt_X4_weightOfSet_0 0 rfl) (by decide) ?_
  refine V_istore_n C [1, 2, 0] (lv' := [(0, .ref (ga G 1)), (1, .int x1), (2, .int 0)]) (dt_at dt_X4_weightOfSet_0 1 rfl) rfl (by decide) rfl ?_
  refine V_iconst C 0 (dt_at dt_X4_weightOfSet_0 2 rfl) (by decide) ?_
  refine V_istore_n C [1, 2, 3, 0] (lv' := [(0, .ref (ga G 1)), (1, .int x1), (2, .int 0), (3, .int 0)]) (dt_at dt_X4_weightOfSet_0 3 rfl) rfl (by decide) rfl ?_
  exact J_4 0 0 h
theorem cv_X4_weightOfSet (C : Ck X G cc own nL d) {idx : Nat} (hlk : Cond.methodLink own idx yX4_weightOfSet ∈ gtb) (x1 : Int32) {r0 : Int32} (e : f_X4_weightOfSet x1 σ = some r0) (hdd : 3 ≤ d) (hroom : (rest.map fun v => v.category).sum ≤ 8) (hcs : cells ≤ (xR X).cells ∧ slots ≤ (xR X).slots) (hd : decode cc pc = .ok (.invokevirtual idx, 3)) (k : V X G nL cells slots σ (pc + 3) lv (.int r0 :: rest)) : V X G nL cells slots σ pc lv (.int x1 :: .ref (ga G 1) :: rest) := V_callV C (As := [.int x1]) (c_X4_weightOfSet X.2.1 G x1 σ r0 e) cal_X4_weightOfSet ww_329 ww_330 hlk rfl hdd (lt110 rfl) rfl rfl rfl hroom hcs hd k
theorem dt_X4_lastLine_0 : dtab cX4_lastLine [(0, .iconst (-1), 1), (1, .istore_n 1, 1), (2, .iconst 0, 1), (3, .istore_n 2, 1), (4, .iload_n 2, 1), (5, .aload_n 0, 1), (6, .getfield 18, 3), (9, .if_icmp .ge 20, 3), (12, .iload_n 1, 1), (13, .aload_n 0, 1), (14, .getfield 40, 3), (17, .iload_n 2, 1), (18, .iaload, 1), (19, .invokestatic 89, 3), (22, .istore_n 1, 1), (23, .iinc 2 1, 3), (26, .goto (-22), 3), (29, .iload_n 1, 1), (30, .ireturn, 1)] = true := by decide +kernel
theorem cal_X4_lastLine : Cal yX4_lastLine cX4_lastLine 3 (some .int) 0 := ⟨ww_332, ww_92, ⟨by decide, by decide, by decide⟩, by decide⟩
set_option maxHeartbeats 4000000 in
set_option maxRecDepth 100000 in
theorem c_X4_lastLine (l : Launch) (G : Gx) (σ : St) (r0 : Int32) (h : f_X4_lastLine σ = some r0) : MI l G yX4_lastLine cX4_lastLine 3 (some .int) 1 [.ref (ga G 1)] σ (some (.int r0)) σ := by
  refine MI_of RX4 rfl (by decide) [(0, .ref (ga G 1))] rfl (Nat.le_of_ble_eq_true rfl) ?_
  intro X hXl C hR
  unfold f_X4_lastLine at h
  have J_4 : ∀ (x1 : Int32) (x2 : Int32), f_X4_lastLine_4 x1 x2 σ = some r0 → V X G 3 0 0 σ 4 [(0, .ref (ga G 1)), (1, .int x1), (2, .int x2)] [] := by
    intro x1 x2 h
    refine it_v (P := fun z : Int32 × Int32 => V X G 3 0 0 σ 4 [(0, .ref (ga G 1)), (1, .int z.1), (2, .int z.2)] []) ?_ (x1, x2) h
    clear h
    intro z w_4 h ih_4 ex_4
    obtain ⟨x1, x2⟩ := z
    have h : b_X4_lastLine_4 x1 x2 σ = some w_4 := h
    show V X G 3 0 0 σ 4 [(0, .ref (ga G 1)), (1, .int x1), (2, .int x2)] []
    unfold b_X4_lastLine_4 at h
    refine V_iload_n C (dt_at dt_X4_lastLine_0 4 rfl) 2 rfl rfl ?_
    refine V_aload_n C (dt_at dt_X4_lastLine_0 5 rfl) 0 rfl rfl ?_
    refine g_X4_18_1 C (dt_at dt_X4_lastLine_0 6 rfl) ?_
    refine V_icmp_ge C 29 (dt_at dt_X4_lastLine_0 7 rfl) (by decide) (fun q1 => ?_) (fun q1 => ?_)
    · have h := ite_f q1 h
      refine V_iload_n C (dt_at dt_X4_lastLine_0 17 rfl) 1 rfl rfl ?_
      have e_4 := ex_4 _ (Option.some.inj h).symm
      subst e_4
      exact V_iret C hR (dt_at dt_X4_lastLine_0 18 rfl)
    · have h := ite_t q1 h
      refine V_iload_n C (dt_at dt_X4_lastLine_0 8 rfl) 1 rfl rfl ?_
      refine V_aload_n C (dt_at dt_X4_lastLine_0 9 rfl) 0 rfl rfl ?_
      refine g_X4_40_1 C (dt_at dt_X4_lastLine_0 10 rfl) ?_
      refine V_iload_n C (dt_at dt_X4_lastLine_0 11 rfl) 2 rfl rfl ?_
      obtain ⟨h2, h⟩ := chk_s h
      refine al_14 C h2 (dt_at dt_X4_lastLine_0 12 rfl) ?_
      refine V_max C ww_331 w_max (Nat.le_of_ble_eq_true rfl) (Nat.le_of_ble_eq_true rfl) z0 (dt_at dt_X4_lastLine_0 13 rfl) ?_
      refine V_istore_n C [1, 0, 2] (lv' := [(0, .ref (ga G 1)), (1, .int (if x1 < (rd σ 14 x2) then (rd σ 14 x2) else x1)), (2, .int x2)]) (dt_at dt_X4_lastLine_0 14 rfl) rfl (by decide) rfl ?_
      refine V_iinc C (x2 + 1) 2 [1, 2, 0] (lv' := [(0, .ref (ga G 1)), (1, .int (if x1 < (rd σ 14 x2) then (rd σ 14 x2) else x1)), (2, .int (x2 + 1))]) (dt_at dt_X4_lastLine_0 15 rfl) rfl (by rfl) (by decide) rfl ?_
      refine V_goto C 4 (dt_at dt_X4_lastLine_0 16 rfl) (by decide) ?_
      exact ih_4 ((if x1 < (rd σ 14 x2) then (rd σ 14 x2) else x1), (x2 + 1)) (Option.some.inj h).symm
  refine V_iconst C (-1) (dt_at dt_X4_lastLine_0 0 rfl) (by decide) ?_
  refine V_istore_n C [1, 0] (lv' := [(0, .ref (ga G 1)), (1, .int (-1))]) (dt_at dt_X4_lastLine_0 1 rfl) rfl (by decide) rfl ?_
  refine V_iconst C 0 (dt_at dt_X4_lastLine_0 2 rfl) (by decide) ?_
  refine V_istore_n C [1, 2, 0] (lv' := [(0, .ref (ga G 1)), (1, .int (-1)), (2, .int 0)]) (dt_at dt_X4_lastLine_0 3 rfl) rfl (by decide) rfl ?_
  exact J_4 (-1) 0 h
theorem cv_X4_lastLine (C : Ck X G cc own nL d) {idx : Nat} (hlk : Cond.methodLink own idx yX4_lastLine ∈ gtb) {r0 : Int32} (e : f_X4_lastLine σ = some r0) (hdd : 2 ≤ d) (hroom : (rest.map fun v => v.category).sum ≤ 8) (hcs : cells ≤ (xR X).cells ∧ slots ≤ (xR X).slots) (hd : decode cc pc = .ok (.invokevirtual idx, 3)) (k : V X G nL cells slots σ (pc + 3) lv (.int r0 :: rest)) : V X G nL cells slots σ pc lv (.ref (ga G 1) :: rest) := V_callV C (As := []) (c_X4_lastLine X.2.1 G  σ r0 e) cal_X4_lastLine ww_333 ww_334 hlk rfl hdd (lt110 rfl) rfl rfl rfl hroom hcs hd k
theorem dt_X11_lines_0 : dtab cX11_lines [(0, .iload_n 1, 1), (1, .bipush 10, 2), (3, .if_icmp .lt 10, 3), (6, .iload_n 1, 1), (7, .sipush 200, 3), (10, .if_icmp .le 9, 3), (13, .aload_n 0, 1), (14, .iconst 1, 1), (15, .invokevirtual 68, 3), (18, .ireturn, 1), (19, .aload_n 0, 1), (20, .getfield 12, 3), (23, .invokevirtual 72, 3), (26, .iload_n 1, 1), (27, .if_icmp .lt 9, 3), (30, .aload_n 0, 1), (31, .iconst 3, 1), (32, .invokevirtual 68, 3), (35, .ireturn, 1), (36, .aload_n 0, 1), (37, .getfield 12, 3), (40, .getfield 76, 3), (43, .istore_n 2, 1), (44, .aload_n 0, 1), (45, .getfield 12, 3), (48, .iload_n 1, 1), (49, .putfield 76, 3), (52, .iload_n 2, 1), (53, .ireturn, 1)] = true := by decide +kernel
theorem cal_X11_lines : Cal yX11_lines cX11_lines 3 (some .int) 1 := ⟨ww_336, ww_100, ⟨by decide, by decide, by decide⟩, by decide⟩
set_option maxHeartbeats 4000000 in
set_option maxRecDepth 100000 in
theorem c_X11_lines (l : Launch) (G : Gx) (x1 : Int32) (σ : St) (r0 : Int32) (σ0 : St) (h : f_X11_lines x1 σ = some (r0, σ0)) : MI l G yX11_lines cX11_lines 3 (some .int) 2 [.ref (ga G 0), .int x1] σ (some (.int r0)) σ0 := by
  refine MI_of RX11 rfl (by decide) [(0, .ref (ga G 0)), (1, .int x1)] rfl (Nat.le_of_ble_eq_true rfl) ?_
  intro X hXl C hR
  unfold f_X11_lines at h
  have J_13 : ∀ (σ : St), f_X11_lines_13 σ = some (r0, σ0) → V X G 3 0 0 σ 13 [(0, .ref (ga G 0))] [] := by
    intro σ h
    unfold f_X11_lines_13 at h
    refine V_aload_n C (dt_at dt_X11_lines_0 6 rfl) 0 rfl rfl ?_
    refine V_iconst C 1 (dt_at dt_X11_lines_0 7 rfl) (by decide) ?_
    obtain ⟨r11, σ13, e12, h⟩ := bd2_s h
    refine cv_X11_error C ww_193 1 e12 (Nat.le_of_ble_eq_true rfl) (Nat.le_of_ble_eq_true rfl) z0 (dt_at dt_X11_lines_0 8 rfl) ?_
    obtain ⟨e1_, e2_⟩ := pin2 h
    subst e1_; subst e2_
    exact V_iret C hR (dt_at dt_X11_lines_0 9 rfl)
  refine V_iload_n C (dt_at dt_X11_lines_0 0 rfl) 1 rfl rfl ?_
  refine V_bipush C 10 (dt_at dt_X11_lines_0 1 rfl) (by decide) ?_
  refine V_icmp_lt C 13 (dt_at dt_X11_lines_0 2 rfl) (by decide) (fun q1 => ?_) (fun q1 => ?_)
  · have h := ite_t q1 h
    refine V_sub [0] (lv' := [(0, .ref (ga G 0))]) rfl ?_
    exact J_13 σ h
  · have h := ite_f q1 h
    refine V_iload_n C (dt_at dt_X11_lines_0 3 rfl) 1 rfl rfl ?_
    refine V_sipush C 200 (dt_at dt_X11_lines_0 4 rfl) (by decide) ?_
    refine V_icmp_le C 19 (dt_at dt_X11_lines_0 5 rfl) (by decide) (fun q2 => ?_) (fun q2 => ?_)
    · have h := ite_f q2 h
      refine V_aload_n C (dt_at dt_X11_lines_0 10 rfl) 0 rfl rfl ?_
      refine g_X11_12_0 C (dt_at dt_X11_lines_0 11 rfl) ?_
      obtain ⟨r3, e4, h⟩ := bd_s h
      refine cv_X4_lastLine C ww_335  e4 (Nat.le_of_ble_eq_true rfl) (Nat.le_of_ble_eq_true rfl) z0 (dt_at dt_X11_lines_0 12 rfl) ?_
      refine V_iload_n C (dt_at dt_X11_lines_0 13 rfl) 1 rfl rfl ?_
      refine V_icmp_lt C 36 (dt_at dt_X11_lines_0 14 rfl) (by decide) (fun q6 => ?_) (fun q6 => ?_)
      · have h := ite_t q6 h
        refine V_aload_n C (dt_at dt_X11_lines_0 19 rfl) 0 rfl rfl ?_
        refine g_X11_12_0 C (dt_at dt_X11_lines_0 20 rfl) ?_
        refine g_X11_76_1 C (dt_at dt_X11_lines_0 21 rfl) ?_
        refine V_istore_n C [1, 2, 0] (lv' := [(0, .ref (ga G 0)), (1, .int x1), (2, .int (fd σ 1 0))]) (dt_at dt_X11_lines_0 22 rfl) rfl (by decide) rfl ?_
        refine V_aload_n C (dt_at dt_X11_lines_0 23 rfl) 0 rfl rfl ?_
        refine g_X11_12_0 C (dt_at dt_X11_lines_0 24 rfl) ?_
        refine V_iload_n C (dt_at dt_X11_lines_0 25 rfl) 1 rfl rfl ?_
        obtain ⟨σ7, eσ7, h⟩ := nm_s h
        refine V_st eσ7 ?_ (fun k => p_X11_76_1 C (dt_at dt_X11_lines_0 26 rfl) k)
        refine V_iload_n C (dt_at dt_X11_lines_0 27 rfl) 2 rfl rfl ?_
        obtain ⟨e1_, e2_⟩ := pin2 h
        subst e1_; subst e2_
        exact V_iret C hR (dt_at dt_X11_lines_0 28 rfl)
      · have h := ite_f q6 h
        refine V_aload_n C (dt_at dt_X11_lines_0 15 rfl) 0 rfl rfl ?_
        refine V_iconst C 3 (dt_at dt_X11_lines_0 16 rfl) (by decide) ?_
        obtain ⟨r8, σ10, e9, h⟩ := bd2_s h
        refine cv_X11_error C ww_193 3 e9 (Nat.le_of_ble_eq_true rfl) (Nat.le_of_ble_eq_true rfl) z0 (dt_at dt_X11_lines_0 17 rfl) ?_
        obtain ⟨e1_, e2_⟩ := pin2 h
        subst e1_; subst e2_
        exact V_iret C hR (dt_at dt_X11_lines_0 18 rfl)
    · have h := ite_t q2 h
      refine V_sub [0] (lv' := [(0, .ref (ga G 0))]) rfl ?_
      exact J_13 σ h
theorem cv_X11_lines (C : Ck X G cc own nL d) {idx : Nat} (hlk : Cond.methodLink own idx yX11_lines ∈ gtb) (x1 : Int32) {r0 : Int32} {σ0 : St} (e : f_X11_lines x1 σ = some (r0, σ0)) (hdd : 3 ≤ d) (hroom : (rest.map fun v => v.category).sum ≤ 8) (hcs : cells ≤ (xR X).cells ∧ slots ≤ (xR X).slots) (hd : decode cc pc = .ok (.invokevirtual idx, 3)) (k : V X G nL cells slots σ0 (pc + 3) lv (.int r0 :: rest)) : V X G nL cells slots σ pc lv (.int x1 :: .ref (ga G 0) :: rest) := V_callV C (As := [.int x1]) (c_X11_lines X.2.1 G x1 σ r0 σ0 e) cal_X11_lines ww_337 ww_338 hlk rfl hdd (lt110 rfl) rfl rfl rfl hroom hcs hd k
theorem dt_X11_lowestBits_0 : dtab cX11_lowestBits [(0, .iload_n 1, 1), (1, .lookupswitch 33 #[(8, 27), (16, 30)], 27), (28, .iload_n 0, 1), (29, .i2b, 1), (30, .ireturn, 1), (31, .iload_n 0, 1), (32, .i2s, 1), (33, .ireturn, 1), (34, .iload_n 0, 1), (35, .ireturn, 1)] = true := by decide +kernel
theorem cal_X11_lowestBits : Cal yX11_lowestBits cX11_lowestBits 2 (some .int) 2 := ⟨ww_339, ww_100, ⟨by decide, by decide, by decide⟩, by decide⟩
set_option maxHeartbeats 4000000 in
set_option maxRecDepth 100000 in
theorem c_X11_lowestBits (l : Launch) (G : Gx) (x0 : Int32) (x1 : Int32) (σ : St) (r0 : Int32) (h : f_X11_lowestBits x0 x1 = some r0) : MI l G yX11_lowestBits cX11_lowestBits 2 (some .int) 1 [.int x0, .int x1] σ (some (.int r0)) σ := by
  refine MI_of RX11 rfl (by decide) [(0, .int x0), (1, .int x1)] rfl (Nat.le_of_ble_eq_true rfl) ?_
  intro X hXl C hR
  unfold f_X11_lowestBits at h
  refine V_iload_n C (dt_at dt_X11_lowestBits_0 0 rfl) 1 rfl rfl ?_
  by_cases q1 : x1 = 8
  · have h := ite_t q1 h
    refine V_lkp C 28 (dt_at dt_X11_lowestBits_0 1 rfl) rfl (by rw [q1] <;> rfl) (by decide) ?_
    refine V_iload_n C (dt_at dt_X11_lowestBits_0 2 rfl) 0 rfl rfl ?_
    refine V_i2b C (dt_at dt_X11_lowestBits_0 3 rfl) ?_
    have e1_ := Option.some.inj h
    subst e1_
    exact V_iret C hR (dt_at dt_X11_lowestBits_0 4 rfl)
  replace h := ite_f q1 h
  by_cases q2 : x1 = 16
  · have h := ite_t q2 h
    refine V_lkp C 31 (dt_at dt_X11_lowestBits_0 1 rfl) rfl (by rw [q2] <;> rfl) (by decide) ?_
    refine V_iload_n C (dt_at dt_X11_lowestBits_0 5 rfl) 0 rfl rfl ?_
    refine V_i2s C (dt_at dt_X11_lowestBits_0 6 rfl) ?_
    have e1_ := Option.some.inj h
    subst e1_
    exact V_iret C hR (dt_at dt_X11_lowestBits_0 7 rfl)
  replace h := ite_f q2 h
  refine V_lkp C (off := 33) 34 (dt_at dt_X11_lowestBits_0 1 rfl) rfl ((lv_osw q1 (a := 8) rfl).trans ((lv_osw q2 (a := 16) rfl).trans (rfl))) (by decide) ?_
  refine V_iload_n C (dt_at dt_X11_lowestBits_0 8 rfl) 0 rfl rfl ?_
  have e1_ := Option.some.inj h
  subst e1_
  exact V_iret C hR (dt_at dt_X11_lowestBits_0 9 rfl)
theorem cv_X11_lowestBits (C : Ck X G cc own nL d) {idx : Nat} (hlk : Cond.methodLink own idx yX11_lowestBits ∈ gtb) (x0 : Int32) (x1 : Int32) {r0 : Int32} (e : f_X11_lowestBits x0 x1 = some r0) (hdd : 2 ≤ d) (hroom : (rest.map fun v => v.category).sum ≤ 8) (hcs : cells ≤ (xR X).cells ∧ slots ≤ (xR X).slots) (hd : decode cc pc = .ok (.invokestatic idx, 3)) (k : V X G nL cells slots σ (pc + 3) lv (.int r0 :: rest)) : V X G nL cells slots σ pc lv (.int x1 :: .int x0 :: rest) := V_callS C (As := [.int x0, .int x1]) (c_X11_lowestBits X.2.1 G x0 x1 σ r0 e) cal_X11_lowestBits ww_340 hlk rfl hdd rfl hroom hcs hd k
theorem dt_X7_holds_0 : dtab cX7_holds [(0, .iload_n 1, 1), (1, .ifCond .lt 25, 3), (4, .iload_n 2, 1), (5, .ifCond .lt 21, 3), (8, .iload_n 1, 1), (9, .i2l, 1), (10, .iload_n 2, 1), (11, .i2l, 1), (12, .ladd, 1), (13, .aload_n 0, 1), (14, .getfield 7, 3), (17, .i2l, 1), (18, .lcmp, 1), (19, .ifCond .gt 7, 3), (22, .iconst 1, 1), (23, .goto 4, 3), (26, .iconst 0, 1), (27, .ireturn, 1)] = true := by decide +kernel
theorem cal_X7_holds : Cal yX7_holds cX7_holds 3 (some .boolean) 2 := ⟨ww_341, ww_17, ⟨by decide, by decide, by decide⟩, by decide⟩
set_option maxHeartbeats 4000000 in
set_option maxRecDepth 100000 in
theorem c_X7_holds (l : Launch) (G : Gx) (c0 : Nat) (x1 : Int32) (x2 : Int32) (σ : St) (r0 : Int32) (h : f_X7_holds c0 x1 x2 σ = some r0) : MI l G yX7_holds cX7_holds 3 (some .boolean) 1 [.ref (ga G c0), .int x1, .int x2] σ (some (.int r0)) σ := by
  refine MI_of RX7 rfl (by decide) [(0, .ref (ga G c0)), (1, .int x1), (2, .int x2)] rfl (Nat.le_of_ble_eq_true rfl) ?_
  intro X hXl C hR
  unfold f_X7_holds at h
  obtain ⟨hc_c0, h⟩ := chk_s h
  refine V_iload_n C (dt_at dt_X7_holds_0 0 rfl) 1 rfl rfl ?_
  refine V_if_lt C 26 (dt_at dt_X7_holds_0 1 rfl) (by decide) (fun q1 => ?_) (fun q1 => ?_)
  · have h := ite_t q1 h
    refine V_iconst C 0 (dt_at dt_X7_holds_0 16 rfl) (by decide) ?_
    have e1_ := Option.some.inj h
    subst e1_
    exact V_zret C rfl hR (dt_at dt_X7_holds_0 17 rfl)
  · have h := ite_f q1 h
    refine V_iload_n C (dt_at dt_X7_holds_0 2 rfl) 2 rfl rfl ?_
    refine V_if_lt C 26 (dt_at dt_X7_holds_0 3 rfl) (by decide) (fun q2 => ?_) (fun q2 => ?_)
    · have h := ite_t q2 h
      refine V_iconst C 0 (dt_at dt_X7_holds_0 16 rfl) (by decide) ?_
      have e1_ := Option.some.inj h
      subst e1_
      exact V_zret C rfl hR (dt_at dt_X7_holds_0 17 rfl)
    · have h := ite_f q2 h
      refine V_iload_n C (dt_at dt_X7_holds_0 4 rfl) 1 rfl rfl ?_
      refine V_i2l C (dt_at dt_X7_holds_0 5 rfl) ?_
      refine V_iload_n C (dt_at dt_X7_holds_0 6 rfl) 2 rfl rfl ?_
      refine V_i2l C (dt_at dt_X7_holds_0 7 rfl) ?_
      refine V_ladd C (dt_at dt_X7_holds_0 8 rfl) ?_
      refine V_aload_n C (dt_at dt_X7_holds_0 9 rfl) 0 rfl rfl ?_
      refine gw_X7_7 C (K := c0) hc_c0 (dt_at dt_X7_holds_0 10 rfl) ?_
      refine V_i2l C (dt_at dt_X7_holds_0 11 rfl) ?_
      refine V_lcmp C (dt_at dt_X7_holds_0 12 rfl) ?_
      refine V_if_gt C 26 (dt_at dt_X7_holds_0 13 rfl) (by decide) (fun q3 => ?_) (fun q3 => ?_)
      · have h := ite_t q3 h
        refine V_iconst C 0 (dt_at dt_X7_holds_0 16 rfl) (by decide) ?_
        have e1_ := Option.some.inj h
        subst e1_
        exact V_zret C rfl hR (dt_at dt_X7_holds_0 17 rfl)
      · have h := ite_f q3 h
        refine V_iconst C 1 (dt_at dt_X7_holds_0 14 rfl) (by decide) ?_
        refine V_goto C 27 (dt_at dt_X7_holds_0 15 rfl) (by decide) ?_
        have e1_ := Option.some.inj h
        subst e1_
        exact V_zret C rfl hR (dt_at dt_X7_holds_0 17 rfl)
theorem cv_X7_holds (C : Ck X G cc own nL d) {idx : Nat} (hlk : Cond.methodLink own idx yX7_holds ∈ gtb) (c0 : Nat) (x1 : Int32) (x2 : Int32) {r0 : Int32} (e : f_X7_holds c0 x1 x2 σ = some r0) (hdd : 2 ≤ d) (hroom : (rest.map fun v => v.category).sum ≤ 8) (hcs : cells ≤ (xR X).cells ∧ slots ≤ (xR X).slots) (hd : decode cc pc = .ok (.invokevirtual idx, 3)) (k : V X G nL cells slots σ (pc + 3) lv (.int r0 :: rest)) : V X G nL cells slots σ pc lv (.int x2 :: .int x1 :: .ref (ga G c0) :: rest) := by
  have hr9 : isRow c0 = true := by
    have e9 := e
    unfold f_X7_holds at e9
    obtain ⟨q9, -⟩ := chk_s e9
    exact q9
  exact V_callV C (As := [.int x1, .int x2]) (c_X7_holds X.2.1 G c0 x1 x2 σ r0 e) cal_X7_holds ww_342 ww_343 hlk rfl hdd (isRow_lt hr9) (lay_row G hr9 _ _) rfl rfl hroom hcs hd k
theorem dt_X11_move_0 : dtab cX11_move [(0, .iload_n 1, 1), (1, .iconst 4, 1), (2, .invokestatic 79, 3), (5, .ifCond .eq 11, 3), (8, .iload_n 3, 1), (9, .iconst 4, 1), (10, .invokestatic 79, 3), (13, .ifCond .ne 9, 3), (16, .aload_n 0, 1), (17, .iconst 1, 1), (18, .invokevirtual 68, 3), (21, .ireturn, 1), (22, .aload_n 0, 1), (23, .iload_n 1, 1), (24, .invokevirtual 231, 3), (27, .ifCond .ne 11, 3), (30, .aload_n 0, 1), (31, .iload_n 3, 1), (32, .invokevirtual 231, 3), (35, .ifCond .eq 9, 3), (38, .aload_n 0, 1), (39, .iconst 2, 1), (40, .invokevirtual 68, 3), (43, .ireturn, 1), (44, .aload_n 0, 1), (45, .getfield 57, 3), (48, .iload_n 1, 1), (49, .iaload, 1), (50, .aload_n 0, 1), (51, .getfield 57, 3), (54, .iload_n 3, 1), (55, .iaload, 1), (56, .if_icmp .eq 9, 3), (59, .aload_n 0, 1), (60, .iconst 5, 1), (61, .invokevirtual 68, 3), (64, .ireturn, 1), (65, .aload_n 0, 1), (66, .getfield 53, 3), (69, .iload_n 1, 1)] = true := by decide +kernel
theorem dt_X11_move_1 : dtab cX11_move [(70, .aaload, 1), (71, .iload_n 2, 1), (72, .iload 5, 2), (74, .invokevirtual 331, 3), (77, .ifCond .eq 19, 3), (80, .aload_n 0, 1), (81, .getfield 53, 3), (84, .iload_n 3, 1), (85, .aaload, 1), (86, .iload 4, 2), (88, .iload 5, 2), (90, .invokevirtual 331, 3), (93, .ifCond .ne 9, 3), (96, .aload_n 0, 1), (97, .iconst 1, 1), (98, .invokevirtual 68, 3), (101, .ireturn, 1), (102, .aload_n 0, 1), (103, .getfield 53, 3), (106, .iload_n 1, 1), (107, .aaload, 1), (108, .getfield 239, 3), (111, .iload_n 2, 1), (112, .aload_n 0, 1), (113, .getfield 53, 3), (116, .iload_n 3, 1), (117, .aaload, 1), (118, .getfield 239, 3), (121, .iload 4, 2), (123, .iload 5, 2), (125, .invokestatic 242, 3), (128, .iload 5, 2), (130, .ireturn, 1)] = true := by decide +kernel
theorem cal_X11_move : Cal yX11_move cX11_move 6 (some .int) 5 := ⟨ww_345, ww_100, ⟨by decide, by decide, by decide⟩, by decide⟩
set_option maxHeartbeats 4000000 in
set_option maxRecDepth 100000 in
theorem c_X11_move (l : Launch) (G : Gx) (x1 : Int32) (x2 : Int32) (x3 : Int32) (x4 : Int32) (x5 : Int32) (σ : St) (r0 : Int32) (σ0 : St) (h : f_X11_move x1 x2 x3 x4 x5 σ = some (r0, σ0)) : MI l G yX11_move cX11_move 6 (some .int) 2 [.ref (ga G 0), .int x1, .int x2, .int x3, .int x4, .int x5] σ (some (.int r0)) σ0 := by
  refine MI_of RX11 rfl (by decide) [(0, .ref (ga G 0)), (1, .int x1), (2, .int x2), (3, .int x3), (4, .int x4), (5, .int x5)] rfl (Nat.le_of_ble_eq_true rfl) ?_
  intro X hXl C hR
  unfold f_X11_move at h
  have J_96 : ∀ (σ : St), f_X11_move_96 σ = some (r0, σ0) → V X G 6 0 0 σ 96 [(0, .ref (ga G 0))] [] := by
    intro σ h
    unfold f_X11_move_96 at h
    refine V_aload_n C (dt_at dt_X11_move_1 13 rfl) 0 rfl rfl ?_
    refine V_iconst C 1 (dt_at dt_X11_move_1 14 rfl) (by decide) ?_
    obtain ⟨r43, σ45, e44, h⟩ := bd2_s h
    refine cv_X11_error C ww_193 1 e44 (Nat.le_of_ble_eq_true rfl) (Nat.le_of_ble_eq_true rfl) z0 (dt_at dt_X11_move_1 15 rfl) ?_
    obtain ⟨e1_, e2_⟩ := pin2 h
    subst e1_; subst e2_
    exact V_iret C hR (dt_at dt_X11_move_1 16 rfl)
  have J_38 : ∀ (σ : St), f_X11_move_38 σ = some (r0, σ0) → V X G 6 0 0 σ 38 [(0, .ref (ga G 0))] [] := by
    intro σ h
    unfold f_X11_move_38 at h
    refine V_aload_n C (dt_at dt_X11_move_0 20 rfl) 0 rfl rfl ?_
    refine V_iconst C 2 (dt_at dt_X11_move_0 21 rfl) (by decide) ?_
    obtain ⟨r40, σ42, e41, h⟩ := bd2_s h
    refine cv_X11_error C ww_193 2 e41 (Nat.le_of_ble_eq_true rfl) (Nat.le_of_ble_eq_true rfl) z0 (dt_at dt_X11_move_0 22 rfl) ?_
    obtain ⟨e1_, e2_⟩ := pin2 h
    subst e1_; subst e2_
    exact V_iret C hR (dt_at dt_X11_move_0 23 rfl)
  have J_16 : ∀ (σ : St), f_X11_move_16 σ = some (r0, σ0) → V X G 6 0 0 σ 16 [(0, .ref (ga G 0))] [] := by
    intro σ h
    unfold f_X11_move_16 at h
    refine V_aload_n C (dt_at dt_X11_move_0 8 rfl) 0 rfl rfl ?_
    refine V_iconst C 1 (dt_at dt_X11_move_0 9 rfl) (by decide) ?_
    obtain ⟨r37, σ39, e38, h⟩ := bd2_s h
    refine cv_X11_error C ww_193 1 e38 (Nat.le_of_ble_eq_true rfl) (Nat.le_of_ble_eq_true rfl) z0 (dt_at dt_X11_move_0 10 rfl) ?_
    obtain ⟨e1_, e2_⟩ := pin2 h
    subst e1_; subst e2_
    exact V_iret C hR (dt_at dt_X11_move_0 11 rfl)
  refine V_iload_n C (dt_at dt_X11_move_0 0 rfl) 1 rfl rfl ?_
  refine V_iconst C 4 (dt_at dt_X11_move_0 1 rfl) (by decide) ?_
  obtain ⟨r1, e2, h⟩ := bd_s h
  refine cv_X11_isWithin C ww_186 x1 4 e2 (Nat.le_of_ble_eq_true rfl) (Nat.le_of_ble_eq_true rfl) z0 (dt_at dt_X11_move_0 2 rfl) ?_
  refine V_if_eq C 16 (dt_at dt_X11_move_0 3 rfl) (by decide) (fun q4 => ?_) (fun q4 => ?_)
  · have h := ite_t q4 h
    refine V_sub [0] (lv' := [(0, .ref (ga G 0))]) rfl ?_
    exact J_16 σ h
  · have h := ite_f q4 h
    refine V_iload_n C (dt_at dt_X11_move_0 4 rfl) 3 rfl rfl ?_
    refine V_iconst C 4 (dt_at dt_X11_move_0 5 rfl) (by decide) ?_
    obtain ⟨r5, e6, h⟩ := bd_s h
    refine cv_X11_isWithin C ww_186 x3 4 e6 (Nat.le_of_ble_eq_true rfl) (Nat.le_of_ble_eq_true rfl) z0 (dt_at dt_X11_move_0 6 rfl) ?_
    refine V_if_ne C 22 (dt_at dt_X11_move_0 7 rfl) (by decide) (fun q8 => ?_) (fun q8 => ?_)
    · have h := ite_f q8 h
      refine V_aload_n C (dt_at dt_X11_move_0 12 rfl) 0 rfl rfl ?_
      refine V_iload_n C (dt_at dt_X11_move_0 13 rfl) 1 rfl rfl ?_
      obtain ⟨r9, e10, h⟩ := bd_s h
      refine cv_X11_isMissing C ww_187 x1 e10 (Nat.le_of_ble_eq_true rfl) (Nat.le_of_ble_eq_true rfl) z0 (dt_at dt_X11_move_0 14 rfl) ?_
      refine V_if_ne C 38 (dt_at dt_X11_move_0 15 rfl) (by decide) (fun q12 => ?_) (fun q12 => ?_)
      · have h := ite_f q12 h
        refine V_sub [0] (lv' := [(0, .ref (ga G 0))]) rfl ?_
        exact J_38 σ h
      · have h := ite_t q12 h
        refine V_aload_n C (dt_at dt_X11_move_0 16 rfl) 0 rfl rfl ?_
        refine V_iload_n C (dt_at dt_X11_move_0 17 rfl) 3 rfl rfl ?_
        obtain ⟨r13, e14, h⟩ := bd_s h
        refine cv_X11_isMissing C ww_187 x3 e14 (Nat.le_of_ble_eq_true rfl) (Nat.le_of_ble_eq_true rfl) z0 (dt_at dt_X11_move_0 18 rfl) ?_
        refine V_if_eq C 44 (dt_at dt_X11_move_0 19 rfl) (by decide) (fun q16 => ?_) (fun q16 => ?_)
        · have h := ite_t q16 h
          refine V_aload_n C (dt_at dt_X11_move_0 24 rfl) 0 rfl rfl ?_
          refine g_X11_57_0 C (dt_at dt_X11_move_0 25 rfl) ?_
          refine V_iload_n C (dt_at dt_X11_move_0 26 rfl) 1 rfl rfl ?_
          obtain ⟨h17, h⟩ := chk_s h
          refine al_8 C h17 (dt_at dt_X11_move_0 27 rfl) ?_
          refine V_aload_n C (dt_at dt_X11_move_0 28 rfl) 0 rfl rfl ?_
          refine g_X11_57_0 C (dt_at dt_X11_move_0 29 rfl) ?_
          refine V_iload_n C (dt_at dt_X11_move_0 30 rfl) 3 rfl rfl ?_
          obtain ⟨h18, h⟩ := chk_s h
          refine al_8 C h18 (dt_at dt_X11_move_0 31 rfl) ?_
          refine V_icmp_eq C 65 (dt_at dt_X11_move_0 32 rfl) (by decide) (fun q19 => ?_) (fun q19 => ?_)
          · have h := ite_t q19 h
            refine V_aload_n C (dt_at dt_X11_move_0 37 rfl) 0 rfl rfl ?_
            refine g_X11_53_0 C (dt_at dt_X11_move_0 38 rfl) ?_
            refine V_iload_n C (dt_at dt_X11_move_0 39 rfl) 1 rfl rfl ?_
            refine V_aa7 C h17 (dt_at dt_X11_move_1 0 rfl) ?_
            have h20 : isRow (76 + 2 * x1.toNatClampNeg) = true := ok_7 h17
            refine V_iload_n C (dt_at dt_X11_move_1 1 rfl) 2 rfl rfl ?_
            refine V_iload C (dt_at dt_X11_move_1 2 rfl) 5 rfl ?_
            obtain ⟨r21, e22, h⟩ := bd_s h
            refine cv_X7_holds C ww_344 (76 + 2 * x1.toNatClampNeg) x2 x5 e22 (Nat.le_of_ble_eq_true rfl) (Nat.le_of_ble_eq_true rfl) z0 (dt_at dt_X11_move_1 3 rfl) ?_
            refine V_if_eq C 96 (dt_at dt_X11_move_1 4 rfl) (by decide) (fun q24 => ?_) (fun q24 => ?_)
            · have h := ite_t q24 h
              refine V_sub [0] (lv' := [(0, .ref (ga G 0))]) rfl ?_
              exact J_96 σ h
            · have h := ite_f q24 h
              refine V_aload_n C (dt_at dt_X11_move_1 5 rfl) 0 rfl rfl ?_
              refine g_X11_53_0 C (dt_at dt_X11_move_1 6 rfl) ?_
              refine V_iload_n C (dt_at dt_X11_move_1 7 rfl) 3 rfl rfl ?_
              refine V_aa7 C h18 (dt_at dt_X11_move_1 8 rfl) ?_
              have h25 : isRow (76 + 2 * x3.toNatClampNeg) = true := ok_7 h18
              refine V_iload C (dt_at dt_X11_move_1 9 rfl) 4 rfl ?_
              refine V_iload C (dt_at dt_X11_move_1 10 rfl) 5 rfl ?_
              obtain ⟨r26, e27, h⟩ := bd_s h
              refine cv_X7_holds C ww_344 (76 + 2 * x3.toNatClampNeg) x4 x5 e27 (Nat.le_of_ble_eq_true rfl) (Nat.le_of_ble_eq_true rfl) z0 (dt_at dt_X11_move_1 11 rfl) ?_
              refine V_if_ne C 102 (dt_at dt_X11_move_1 12 rfl) (by decide) (fun q29 => ?_) (fun q29 => ?_)
              · have h := ite_f q29 h
                refine V_aload_n C (dt_at dt_X11_move_1 17 rfl) 0 rfl rfl ?_
                refine g_X11_53_0 C (dt_at dt_X11_move_1 18 rfl) ?_
                refine V_iload_n C (dt_at dt_X11_move_1 19 rfl) 1 rfl rfl ?_
                refine V_aa7 C h17 (dt_at dt_X11_move_1 20 rfl) ?_
                have h30 : isRow (76 + 2 * x1.toNatClampNeg) = true := ok_7 h17
                refine gw_X11_239 C (K := (76 + 2 * x1.toNatClampNeg)) h30 (dt_at dt_X11_move_1 21 rfl) ?_
                refine V_iload_n C (dt_at dt_X11_move_1 22 rfl) 2 rfl rfl ?_
                refine V_aload_n C (dt_at dt_X11_move_1 23 rfl) 0 rfl rfl ?_
                refine g_X11_53_0 C (dt_at dt_X11_move_1 24 rfl) ?_
                refine V_iload_n C (dt_at dt_X11_move_1 25 rfl) 3 rfl rfl ?_
                refine V_aa7 C h18 (dt_at dt_X11_move_1 26 rfl) ?_
                have h31 : isRow (76 + 2 * x3.toNatClampNeg) = true := ok_7 h18
                refine gw_X11_239 C (K := (76 + 2 * x3.toNatClampNeg)) h31 (dt_at dt_X11_move_1 27 rfl) ?_
                refine V_iload C (dt_at dt_X11_move_1 28 rfl) 4 rfl ?_
                refine V_iload C (dt_at dt_X11_move_1 29 rfl) 5 rfl ?_
                obtain ⟨h32, h⟩ := chk_s h
                obtain ⟨σ33, eσ33, h⟩ := nm_s h
                refine V_st eσ33 ?_ (fun k => V_copy C (K0 := (76 + 2 * x1.toNatClampNeg) + 1) (K1 := (76 + 2 * x3.toNatClampNeg) + 1) ww_197 w_copy (isRowA_lt h30) (isRowA_lt h31) (lay_rowA G h30 _ _) (fun f => (lay_rowA G h31 f _)) h32 (Nat.le_of_ble_eq_true rfl) (Nat.le_of_ble_eq_true rfl) (dt_at dt_X11_move_1 30 rfl) k)
                refine V_iload C (dt_at dt_X11_move_1 31 rfl) 5 rfl ?_
                obtain ⟨e1_, e2_⟩ := pin2 h
                subst e1_; subst e2_
                exact V_iret C hR (dt_at dt_X11_move_1 32 rfl)
              · have h := ite_t q29 h
                refine V_sub [0] (lv' := [(0, .ref (ga G 0))]) rfl ?_
                exact J_96 σ h
          · have h := ite_f q19 h
            refine V_aload_n C (dt_at dt_X11_move_0 33 rfl) 0 rfl rfl ?_
            refine V_iconst C 5 (dt_at dt_X11_move_0 34 rfl) (by decide) ?_
            obtain ⟨r34, σ36, e35, h⟩ := bd2_s h
            refine cv_X11_error C ww_193 5 e35 (Nat.le_of_ble_eq_true rfl) (Nat.le_of_ble_eq_true rfl) z0 (dt_at dt_X11_move_0 35 rfl) ?_
            obtain ⟨e1_, e2_⟩ := pin2 h
            subst e1_; subst e2_
            exact V_iret C hR (dt_at dt_X11_move_0 36 rfl)
        · have h := ite_f q16 h
          refine V_sub [0] (lv' := [(0, .ref (ga G 0))]) rfl ?_
          exact J_38 σ h
    · have h := ite_t q8 h
      refine V_sub [0] (lv' := [(0, .ref (ga G 0))]) rfl ?_
      exact J_16 σ h
theorem cv_X11_move (C : Ck X G cc own nL d) {idx : Nat} (hlk : Cond.methodLink own idx yX11_move ∈ gtb) (x1 : Int32) (x2 : Int32) (x3 : Int32) (x4 : Int32) (x5 : Int32) {r0 : Int32} {σ0 : St} (e : f_X11_move x1 x2 x3 x4 x5 σ = some (r0, σ0)) (hdd : 3 ≤ d) (hroom : (rest.map fun v => v.category).sum ≤ 8) (hcs : cells ≤ (xR X).cells ∧ slots ≤ (xR X).slots) (hd : decode cc pc = .ok (.invokevirtual idx, 3)) (k : V X G nL cells slots σ0 (pc + 3) lv (.int r0 :: rest)) : V X G nL cells slots σ pc lv (.int x5 :: .int x4 :: .int x3 :: .int x2 :: .int x1 :: .ref (ga G 0) :: rest) := V_callV C (As := [.int x1, .int x2, .int x3, .int x4, .int x5]) (c_X11_move X.2.1 G x1 x2 x3 x4 x5 σ r0 σ0 e) cal_X11_move ww_346 ww_347 hlk rfl hdd (lt110 rfl) rfl rfl rfl hroom hcs hd k
theorem dt_X8_findShares_0 : dtab cX8_findShares [(0, .aload_n 0, 1), (1, .getfield 51, 3), (4, .invokevirtual 112, 3), (7, .istore_n 3, 1), (8, .aload_n 0, 1), (9, .iconst 0, 1), (10, .putfield 45, 3), (13, .iload_n 2, 1), (14, .ifCond .ne 23, 3), (17, .aload_n 0, 1), (18, .iconst 0, 1), (19, .putfield 48, 3), (22, .aload_n 0, 1), (23, .getfield 36, 3), (26, .iload_n 3, 1), (27, .iaload, 1), (28, .ifCond .le 7, 3), (31, .iconst 1, 1), (32, .goto 4, 3), (35, .iconst 0, 1), (36, .ireturn, 1), (37, .aload_n 0, 1), (38, .iload_n 3, 1), (39, .putfield 48, 3), (42, .aload_n 0, 1), (43, .iload_n 1, 1), (44, .iconst 3, 1), (45, .invokevirtual 85, 3), (48, .aload_n 0, 1), (49, .iload_n 1, 1), (50, .invokevirtual 119, 3), (53, .iconst 0, 1), (54, .istore 4, 2), (56, .iconst 0, 1), (57, .istore 5, 2), (59, .iload 5, 2), (61, .iload_n 3, 1), (62, .if_icmp .gt 58, 3), (65, .aload_n 0, 1), (66, .getfield 30, 3)] = true := by decide +kernel
theorem dt_X8_findShares_1 : dtab cX8_findShares [(69, .iload 5, 2), (71, .iaload, 1), (72, .ldc 97, 2), (74, .if_icmp .ge 40, 3), (77, .aload_n 0, 1), (78, .getfield 36, 3), (81, .iload_n 3, 1), (82, .iload 5, 2), (84, .ixor, 1), (85, .iaload, 1), (86, .ifCond .le 28, 3), (89, .iconst 1, 1), (90, .istore 4, 2), (92, .aload_n 0, 1), (93, .dup, 1), (94, .getfield 45, 3), (97, .iload 5, 2), (99, .ior, 1), (100, .putfield 45, 3), (103, .aload_n 0, 1), (104, .dup, 1), (105, .getfield 48, 3), (108, .iload 5, 2), (110, .iand, 1), (111, .putfield 48, 3), (114, .iinc 5 1, 3), (117, .goto (-58), 3), (120, .iload 4, 2), (122, .ireturn, 1)] = true := by decide +kernel
theorem cal_X8_findShares : Cal yX8_findShares cX8_findShares 6 (some .boolean) 2 := ⟨ww_350, ww_129, ⟨by decide, by decide, by decide⟩, by decide⟩
set_option maxHeartbeats 4000000 in
set_option maxRecDepth 100000 in
theorem c_X8_findShares (l : Launch) (G : Gx) (x1 : Int32) (x2 : Int32) (σ : St) (r0 : Int32) (σ0 : St) (h : f_X8_findShares x1 x2 σ = some (r0, σ0)) : MI l G yX8_findShares cX8_findShares 6 (some .boolean) 6 [.ref (ga G 4), .int x1, .int x2] σ (some (.int r0)) σ0 := by
  refine MI_of RX8 rfl (by decide) [(0, .ref (ga G 4)), (1, .int x1), (2, .int x2)] rfl (Nat.le_of_ble_eq_true rfl) ?_
  intro X hXl C hR
  unfold f_X8_findShares at h
  have J_59 : ∀ (x3 : Int32) (x4 : Int32) (x5 : Int32) (σ : St), f_X8_findShares_59 x3 x4 x5 σ = some (r0, σ0) → V X G 6 0 0 σ 59 [(0, .ref (ga G 4)), (3, .int x3), (4, .int x4), (5, .int x5)] [] := by
    intro x3 x4 x5 σ h
    refine it_v (P := fun z : Int32 × Int32 × St => V X G 6 0 0 z.2.2 59 [(0, .ref (ga G 4)), (3, .int x3), (4, .int z.1), (5, .int z.2.1)] []) ?_ (x4, x5, σ) h
    clear h
    intro z w_59 h ih_59 ex_59
    obtain ⟨x4, x5, σ⟩ := z
    have h : b_X8_findShares_59 x3 x4 x5 σ = some w_59 := h
    show V X G 6 0 0 σ 59 [(0, .ref (ga G 4)), (3, .int x3), (4, .int x4), (5, .int x5)] []
    unfold b_X8_findShares_59 at h
    have J_114 : ∀ (x4 : Int32) (x5 : Int32) (σ : St), f_X8_findShares_114 x3 x4 x5 σ = some w_59 → V X G 6 0 0 σ 114 [(0, .ref (ga G 4)), (3, .int x3), (4, .int x4), (5, .int x5)] [] := by
      intro x4 x5 σ h
      unfold f_X8_findShares_114 at h
      refine V_iinc C (x5 + 1) 3 [1, 2, 3, 0] (lv' := [(0, .ref (ga G 4)), (3, .int x3), (4, .int x4), (5, .int (x5 + 1))]) (dt_at dt_X8_findShares_1 25 rfl) rfl (by rfl) (by decide) rfl ?_
      refine V_goto C 59 (dt_at dt_X8_findShares_1 26 rfl) (by decide) ?_
      exact ih_59 (x4, (x5 + 1), σ) (Option.some.inj h).symm
    refine V_iload C (dt_at dt_X8_findShares_0 35 rfl) 3 rfl ?_
    refine V_iload_n C (dt_at dt_X8_findShares_0 36 rfl) 1 rfl rfl ?_
    refine V_icmp_gt C 120 (dt_at dt_X8_findShares_0 37 rfl) (by decide) (fun q17 => ?_) (fun q17 => ?_)
    · have h := ite_t q17 h
      refine V_iload C (dt_at dt_X8_findShares_1 27 rfl) 2 rfl ?_
      obtain ⟨h18, h⟩ := chk_s h
      have e_59 := ex_59 _ (Option.some.inj h).symm
      obtain ⟨e1_, e2_⟩ := Prod.mk.inj e_59
      subst e1_; subst e2_
      exact V_zret C (isB_n h18) hR (dt_at dt_X8_findShares_1 28 rfl)
    · have h := ite_f q17 h
      refine V_aload_n C (dt_at dt_X8_findShares_0 38 rfl) 0 rfl rfl ?_
      refine g_X8_30_4 C (dt_at dt_X8_findShares_0 39 rfl) ?_
      refine V_iload C (dt_at dt_X8_findShares_1 0 rfl) 3 rfl ?_
      obtain ⟨h19, h⟩ := chk_s h
      refine al_37 C h19 (dt_at dt_X8_findShares_1 1 rfl) ?_
      refine V_ldc C 100000000 (dt_at dt_X8_findShares_1 2 rfl) ww_135 ?_
      refine V_icmp_ge C 114 (dt_at dt_X8_findShares_1 3 rfl) (by decide) (fun q20 => ?_) (fun q20 => ?_)
      · have h := ite_f q20 h
        exact J_114 x4 x5 σ h
      · have h := ite_t q20 h
        refine V_aload_n C (dt_at dt_X8_findShares_1 4 rfl) 0 rfl rfl ?_
        refine g_X8_36_4 C (dt_at dt_X8_findShares_1 5 rfl) ?_
        obtain ⟨h21, h⟩ := chk_s h
        refine V_iload_n C (dt_at dt_X8_findShares_1 6 rfl) 1 rfl rfl ?_
        refine V_iload C (dt_at dt_X8_findShares_1 7 rfl) 3 rfl ?_
        refine V_ixor C (dt_at dt_X8_findShares_1 8 rfl) ?_
        obtain ⟨h22, h⟩ := chk_s h
        refine V_iald C (K := (rc σ 4 9)) (isLeast_lt h21) (lay_least G h21 (_) _) h22 (dt_at dt_X8_findShares_1 9 rfl) ?_
        refine V_if_le C 114 (dt_at dt_X8_findShares_1 10 rfl) (by decide) (fun q23 => ?_) (fun q23 => ?_)
        · have h := ite_f q23 h
          exact J_114 x4 x5 σ h
        · have h := ite_t q23 h
          refine V_iconst C 1 (dt_at dt_X8_findShares_1 11 rfl) (by decide) ?_
          refine V_istore C [1, 2, 0, 3] (lv' := [(0, .ref (ga G 4)), (3, .int x3), (4, .int 1), (5, .int x5)]) (dt_at dt_X8_findShares_1 12 rfl) (by decide) rfl ?_
          refine V_aload_n C (dt_at dt_X8_findShares_1 13 rfl) 0 rfl rfl ?_
          refine V_dup C (dt_at dt_X8_findShares_1 14 rfl) rfl ?_
          refine g_X8_45_4 C (dt_at dt_X8_findShares_1 15 rfl) ?_
          refine V_iload C (dt_at dt_X8_findShares_1 16 rfl) 3 rfl ?_
          refine V_ior C (dt_at dt_X8_findShares_1 17 rfl) ?_
          obtain ⟨σ24, eσ24, h⟩ := nm_s h
          refine V_st eσ24 ?_ (fun k => p_X8_45_4 C (dt_at dt_X8_findShares_1 18 rfl) k)
          refine V_aload_n C (dt_at dt_X8_findShares_1 19 rfl) 0 rfl rfl ?_
          refine V_dup C (dt_at dt_X8_findShares_1 20 rfl) rfl ?_
          refine g_X8_48_4 C (dt_at dt_X8_findShares_1 21 rfl) ?_
          refine V_iload C (dt_at dt_X8_findShares_1 22 rfl) 3 rfl ?_
          refine V_iand C (dt_at dt_X8_findShares_1 23 rfl) ?_
          obtain ⟨σ25, eσ25, h⟩ := nm_s h
          refine V_st eσ25 ?_ (fun k => p_X8_48_4 C (dt_at dt_X8_findShares_1 24 rfl) k)
          exact J_114 1 x5 σ25 h
  refine V_aload_n C (dt_at dt_X8_findShares_0 0 rfl) 0 rfl rfl ?_
  refine g_X8_51_4 C (dt_at dt_X8_findShares_0 1 rfl) ?_
  obtain ⟨r1, e2, h⟩ := bd_s h
  refine cv_X4_allParts C ww_322  e2 (Nat.le_of_ble_eq_true rfl) (Nat.le_of_ble_eq_true rfl) z0 (dt_at dt_X8_findShares_0 2 rfl) ?_
  refine V_istore_n C [1, 2, 3, 0] (lv' := [(0, .ref (ga G 4)), (1, .int x1), (2, .int x2), (3, .int r1)]) (dt_at dt_X8_findShares_0 3 rfl) rfl (by decide) rfl ?_
  refine V_aload_n C (dt_at dt_X8_findShares_0 4 rfl) 0 rfl rfl ?_
  refine V_iconst C 0 (dt_at dt_X8_findShares_0 5 rfl) (by decide) ?_
  obtain ⟨σ4, eσ4, h⟩ := nm_s h
  refine V_st eσ4 ?_ (fun k => p_X8_45_4 C (dt_at dt_X8_findShares_0 6 rfl) k)
  refine V_iload_n C (dt_at dt_X8_findShares_0 7 rfl) 2 rfl rfl ?_
  refine V_if_ne C 37 (dt_at dt_X8_findShares_0 8 rfl) (by decide) (fun q5 => ?_) (fun q5 => ?_)
  · have h := ite_f q5 h
    refine V_aload_n C (dt_at dt_X8_findShares_0 21 rfl) 0 rfl rfl ?_
    refine V_iload_n C (dt_at dt_X8_findShares_0 22 rfl) 3 rfl rfl ?_
    obtain ⟨σ6, eσ6, h⟩ := nm_s h
    refine V_st eσ6 ?_ (fun k => p_X8_48_4 C (dt_at dt_X8_findShares_0 23 rfl) k)
    refine V_aload_n C (dt_at dt_X8_findShares_0 24 rfl) 0 rfl rfl ?_
    refine V_iload_n C (dt_at dt_X8_findShares_0 25 rfl) 1 rfl rfl ?_
    refine V_iconst C 3 (dt_at dt_X8_findShares_0 26 rfl) (by decide) ?_
    obtain ⟨σ9, e8, h⟩ := bd_s h
    refine cv_X8_ask C ww_143 x1 3 e8 (Nat.le_of_ble_eq_true rfl) (Nat.le_of_ble_eq_true rfl) z0 (dt_at dt_X8_findShares_0 27 rfl) ?_
    refine V_aload_n C (dt_at dt_X8_findShares_0 28 rfl) 0 rfl rfl ?_
    refine V_iload_n C (dt_at dt_X8_findShares_0 29 rfl) 1 rfl rfl ?_
    obtain ⟨σ12, e11, h⟩ := bd_s h
    refine cv_X8_price C ww_169 x1 e11 (Nat.le_of_ble_eq_true rfl) (Nat.le_of_ble_eq_true rfl) z0 (dt_at dt_X8_findShares_0 30 rfl) ?_
    refine V_iconst C 0 (dt_at dt_X8_findShares_0 31 rfl) (by decide) ?_
    refine V_istore C [1, 2, 3, 4, 0] (lv' := [(0, .ref (ga G 4)), (1, .int x1), (2, .int x2), (3, .int r1), (4, .int 0)]) (dt_at dt_X8_findShares_0 32 rfl) (by decide) rfl ?_
    refine V_iconst C 0 (dt_at dt_X8_findShares_0 33 rfl) (by decide) ?_
    refine V_istore C [1, 2, 3, 4, 5, 0] (lv' := [(0, .ref (ga G 4)), (1, .int x1), (2, .int x2), (3, .int r1), (4, .int 0), (5, .int 0)]) (dt_at dt_X8_findShares_0 34 rfl) (by decide) rfl ?_
    refine V_sub [0, 3, 4, 5] (lv' := [(0, .ref (ga G 4)), (3, .int r1), (4, .int 0), (5, .int 0)]) rfl ?_
    exact J_59 r1 0 0 σ12 h
  · have h := ite_t q5 h
    refine V_aload_n C (dt_at dt_X8_findShares_0 9 rfl) 0 rfl rfl ?_
    refine V_iconst C 0 (dt_at dt_X8_findShares_0 10 rfl) (by decide) ?_
    obtain ⟨σ13, eσ13, h⟩ := nm_s h
    refine V_st eσ13 ?_ (fun k => p_X8_48_4 C (dt_at dt_X8_findShares_0 11 rfl) k)
    refine V_aload_n C (dt_at dt_X8_findShares_0 12 rfl) 0 rfl rfl ?_
    refine g_X8_36_4 C (dt_at dt_X8_findShares_0 13 rfl) ?_
    obtain ⟨h14, h⟩ := chk_s h
    refine V_iload_n C (dt_at dt_X8_findShares_0 14 rfl) 3 rfl rfl ?_
    obtain ⟨h15, h⟩ := chk_s h
    refine V_iald C (K := (rc σ13 4 9)) (isLeast_lt h14) (lay_least G h14 (_) _) h15 (dt_at dt_X8_findShares_0 15 rfl) ?_
    refine V_if_le C 35 (dt_at dt_X8_findShares_0 16 rfl) (by decide) (fun q16 => ?_) (fun q16 => ?_)
    · have h := ite_f q16 h
      refine V_iconst C 0 (dt_at dt_X8_findShares_0 19 rfl) (by decide) ?_
      obtain ⟨e1_, e2_⟩ := pin2 h
      subst e1_; subst e2_
      exact V_zret C rfl hR (dt_at dt_X8_findShares_0 20 rfl)
    · have h := ite_t q16 h
      refine V_iconst C 1 (dt_at dt_X8_findShares_0 17 rfl) (by decide) ?_
      refine V_goto C 36 (dt_at dt_X8_findShares_0 18 rfl) (by decide) ?_
      obtain ⟨e1_, e2_⟩ := pin2 h
      subst e1_; subst e2_
      exact V_zret C rfl hR (dt_at dt_X8_findShares_0 20 rfl)
theorem cv_X8_findShares (C : Ck X G cc own nL d) {idx : Nat} (hlk : Cond.methodLink own idx yX8_findShares ∈ gtb) (x1 : Int32) (x2 : Int32) {r0 : Int32} {σ0 : St} (e : f_X8_findShares x1 x2 σ = some (r0, σ0)) (hdd : 7 ≤ d) (hroom : (rest.map fun v => v.category).sum ≤ 8) (hcs : cells ≤ (xR X).cells ∧ slots ≤ (xR X).slots) (hd : decode cc pc = .ok (.invokevirtual idx, 3)) (k : V X G nL cells slots σ0 (pc + 3) lv (.int r0 :: rest)) : V X G nL cells slots σ pc lv (.int x2 :: .int x1 :: .ref (ga G 4) :: rest) := V_callV C (As := [.int x1, .int x2]) (c_X8_findShares X.2.1 G x1 x2 σ r0 σ0 e) cal_X8_findShares ww_351 ww_352 hlk rfl hdd (lt110 rfl) rfl rfl rfl hroom hcs hd k
theorem dt_X11_on_0 : dtab cX11_on [(0, .aload_n 0, 1), (1, .getfield 12, 3), (4, .iload_n 1, 1), (5, .invokevirtual 125, 3), (8, .ifCond .ne 9, 3), (11, .aload_n 0, 1), (12, .iconst 1, 1), (13, .invokevirtual 68, 3), (16, .ireturn, 1), (17, .iconst 0, 1), (18, .istore_n 2, 1), (19, .iconst 0, 1), (20, .istore_n 3, 1), (21, .iload_n 3, 1), (22, .aload_n 0, 1), (23, .getfield 12, 3), (26, .getfield 132, 3), (29, .if_icmp .ge 24, 3), (32, .aload_n 0, 1), (33, .getfield 12, 3), (36, .iload_n 3, 1), (37, .iload_n 1, 1), (38, .invokevirtual 162, 3), (41, .ifCond .eq 6, 3), (44, .iinc 2 1, 3), (47, .iinc 3 1, 3), (50, .goto (-29), 3), (53, .iload_n 2, 1), (54, .ireturn, 1)] = true := by decide +kernel
theorem cal_X11_on : Cal yX11_on cX11_on 4 (some .int) 1 := ⟨ww_354, ww_100, ⟨by decide, by decide, by decide⟩, by decide⟩
set_option maxHeartbeats 4000000 in
set_option maxRecDepth 100000 in
theorem c_X11_on (l : Launch) (G : Gx) (x1 : Int32) (σ : St) (r0 : Int32) (σ0 : St) (h : f_X11_on x1 σ = some (r0, σ0)) : MI l G yX11_on cX11_on 4 (some .int) 3 [.ref (ga G 0), .int x1] σ (some (.int r0)) σ0 := by
  refine MI_of RX11 rfl (by decide) [(0, .ref (ga G 0)), (1, .int x1)] rfl (Nat.le_of_ble_eq_true rfl) ?_
  intro X hXl C hR
  unfold f_X11_on at h
  have J_21 : ∀ (x2 : Int32) (x3 : Int32) (σ : St), f_X11_on_21 x1 x2 x3 σ = some (r0, σ0) → V X G 4 0 0 σ 21 [(0, .ref (ga G 0)), (1, .int x1), (2, .int x2), (3, .int x3)] [] := by
    intro x2 x3 σ h
    refine it_v (P := fun z : Int32 × Int32 => V X G 4 0 0 σ 21 [(0, .ref (ga G 0)), (1, .int x1), (2, .int z.1), (3, .int z.2)] []) ?_ (x2, x3) h
    clear h
    intro z w_21 h ih_21 ex_21
    obtain ⟨x2, x3⟩ := z
    have h : b_X11_on_21 x1 x2 x3 σ = some w_21 := h
    show V X G 4 0 0 σ 21 [(0, .ref (ga G 0)), (1, .int x1), (2, .int x2), (3, .int x3)] []
    unfold b_X11_on_21 at h
    have J_47 : ∀ (x2 : Int32) (x3 : Int32), f_X11_on_47 x1 x2 x3 σ = some w_21 → V X G 4 0 0 σ 47 [(0, .ref (ga G 0)), (1, .int x1), (2, .int x2), (3, .int x3)] [] := by
      intro x2 x3 h
      unfold f_X11_on_47 at h
      refine V_iinc C (x3 + 1) 3 [1, 2, 3, 0] (lv' := [(0, .ref (ga G 0)), (1, .int x1), (2, .int x2), (3, .int (x3 + 1))]) (dt_at dt_X11_on_0 25 rfl) rfl (by rfl) (by decide) rfl ?_
      refine V_goto C 21 (dt_at dt_X11_on_0 26 rfl) (by decide) ?_
      exact ih_21 (x2, (x3 + 1)) (Option.some.inj h).symm
    refine V_iload_n C (dt_at dt_X11_on_0 13 rfl) 3 rfl rfl ?_
    refine V_aload_n C (dt_at dt_X11_on_0 14 rfl) 0 rfl rfl ?_
    refine g_X11_12_0 C (dt_at dt_X11_on_0 15 rfl) ?_
    refine g_X11_132_1 C (dt_at dt_X11_on_0 16 rfl) ?_
    refine V_icmp_ge C 53 (dt_at dt_X11_on_0 17 rfl) (by decide) (fun q8 => ?_) (fun q8 => ?_)
    · have h := ite_f q8 h
      refine V_iload_n C (dt_at dt_X11_on_0 27 rfl) 2 rfl rfl ?_
      have e_21 := ex_21 _ (Option.some.inj h).symm
      obtain ⟨e1_, e2_⟩ := Prod.mk.inj e_21
      subst e1_; subst e2_
      exact V_iret C hR (dt_at dt_X11_on_0 28 rfl)
    · have h := ite_t q8 h
      refine V_aload_n C (dt_at dt_X11_on_0 18 rfl) 0 rfl rfl ?_
      refine g_X11_12_0 C (dt_at dt_X11_on_0 19 rfl) ?_
      refine V_iload_n C (dt_at dt_X11_on_0 20 rfl) 3 rfl rfl ?_
      refine V_iload_n C (dt_at dt_X11_on_0 21 rfl) 1 rfl rfl ?_
      obtain ⟨r9, e10, h⟩ := bd_s h
      refine cv_X4_covers C ww_353 x3 x1 e10 (Nat.le_of_ble_eq_true rfl) (Nat.le_of_ble_eq_true rfl) z0 (dt_at dt_X11_on_0 22 rfl) ?_
      refine V_if_eq C 47 (dt_at dt_X11_on_0 23 rfl) (by decide) (fun q12 => ?_) (fun q12 => ?_)
      · have h := ite_t q12 h
        exact J_47 x2 x3 h
      · have h := ite_f q12 h
        refine V_iinc C (x2 + 1) 2 [1, 2, 0, 3] (lv' := [(0, .ref (ga G 0)), (1, .int x1), (2, .int (x2 + 1)), (3, .int x3)]) (dt_at dt_X11_on_0 24 rfl) rfl (by rfl) (by decide) rfl ?_
        exact J_47 (x2 + 1) x3 h
  refine V_aload_n C (dt_at dt_X11_on_0 0 rfl) 0 rfl rfl ?_
  refine g_X11_12_0 C (dt_at dt_X11_on_0 1 rfl) ?_
  refine V_iload_n C (dt_at dt_X11_on_0 2 rfl) 1 rfl rfl ?_
  obtain ⟨r1, e2, h⟩ := bd_s h
  refine cv_X4_hasLine C ww_278 x1 e2 (Nat.le_of_ble_eq_true rfl) (Nat.le_of_ble_eq_true rfl) z0 (dt_at dt_X11_on_0 3 rfl) ?_
  refine V_if_ne C 17 (dt_at dt_X11_on_0 4 rfl) (by decide) (fun q4 => ?_) (fun q4 => ?_)
  · have h := ite_f q4 h
    refine V_iconst C 0 (dt_at dt_X11_on_0 9 rfl) (by decide) ?_
    refine V_istore_n C [1, 2, 0] (lv' := [(0, .ref (ga G 0)), (1, .int x1), (2, .int 0)]) (dt_at dt_X11_on_0 10 rfl) rfl (by decide) rfl ?_
    refine V_iconst C 0 (dt_at dt_X11_on_0 11 rfl) (by decide) ?_
    refine V_istore_n C [1, 2, 3, 0] (lv' := [(0, .ref (ga G 0)), (1, .int x1), (2, .int 0), (3, .int 0)]) (dt_at dt_X11_on_0 12 rfl) rfl (by decide) rfl ?_
    exact J_21 0 0 σ h
  · have h := ite_t q4 h
    refine V_aload_n C (dt_at dt_X11_on_0 5 rfl) 0 rfl rfl ?_
    refine V_iconst C 1 (dt_at dt_X11_on_0 6 rfl) (by decide) ?_
    obtain ⟨r5, σ7, e6, h⟩ := bd2_s h
    refine cv_X11_error C ww_193 1 e6 (Nat.le_of_ble_eq_true rfl) (Nat.le_of_ble_eq_true rfl) z0 (dt_at dt_X11_on_0 7 rfl) ?_
    obtain ⟨e1_, e2_⟩ := pin2 h
    subst e1_; subst e2_
    exact V_iret C hR (dt_at dt_X11_on_0 8 rfl)
theorem cv_X11_on (C : Ck X G cc own nL d) {idx : Nat} (hlk : Cond.methodLink own idx yX11_on ∈ gtb) (x1 : Int32) {r0 : Int32} {σ0 : St} (e : f_X11_on x1 σ = some (r0, σ0)) (hdd : 4 ≤ d) (hroom : (rest.map fun v => v.category).sum ≤ 8) (hcs : cells ≤ (xR X).cells ∧ slots ≤ (xR X).slots) (hd : decode cc pc = .ok (.invokevirtual idx, 3)) (k : V X G nL cells slots σ0 (pc + 3) lv (.int r0 :: rest)) : V X G nL cells slots σ pc lv (.int x1 :: .ref (ga G 0) :: rest) := V_callV C (As := [.int x1]) (c_X11_on X.2.1 G x1 σ r0 σ0 e) cal_X11_on ww_355 ww_356 hlk rfl hdd (lt110 rfl) rfl rfl rfl hroom hcs hd k
theorem dt_X4_entriesOf_0 : dtab cX4_entriesOf [(0, .iconst 0, 1), (1, .istore_n 2, 1), (2, .iconst 0, 1), (3, .istore_n 3, 1), (4, .iload_n 3, 1), (5, .aload_n 0, 1), (6, .getfield 18, 3), (9, .if_icmp .ge 22, 3), (12, .aload_n 0, 1), (13, .getfield 34, 3), (16, .iload_n 3, 1), (17, .iaload, 1), (18, .iload_n 1, 1), (19, .if_icmp .ne 6, 3), (22, .iinc 2 1, 3), (25, .iinc 3 1, 3), (28, .goto (-24), 3), (31, .iload_n 2, 1), (32, .ireturn, 1)] = true := by decide +kernel
theorem cal_X4_entriesOf : Cal yX4_entriesOf cX4_entriesOf 4 (some .int) 1 := ⟨ww_357, ww_92, ⟨by decide, by decide, by decide⟩, by decide⟩
set_option maxHeartbeats 4000000 in
set_option maxRecDepth 100000 in
theorem c_X4_entriesOf (l : Launch) (G : Gx) (x1 : Int32) (σ : St) (r0 : Int32) (h : f_X4_entriesOf x1 σ = some r0) : MI l G yX4_entriesOf cX4_entriesOf 4 (some .int) 1 [.ref (ga G 1), .int x1] σ (some (.int r0)) σ := by
  refine MI_of RX4 rfl (by decide) [(0, .ref (ga G 1)), (1, .int x1)] rfl (Nat.le_of_ble_eq_true rfl) ?_
  intro X hXl C hR
  unfold f_X4_entriesOf at h
  have J_4 : ∀ (x2 : Int32) (x3 : Int32), f_X4_entriesOf_4 x1 x2 x3 σ = some r0 → V X G 4 0 0 σ 4 [(0, .ref (ga G 1)), (1, .int x1), (2, .int x2), (3, .int x3)] [] := by
    intro x2 x3 h
    refine it_v (P := fun z : Int32 × Int32 => V X G 4 0 0 σ 4 [(0, .ref (ga G 1)), (1, .int x1), (2, .int z.1), (3, .int z.2)] []) ?_ (x2, x3) h
    clear h
    intro z w_4 h ih_4 ex_4
    obtain ⟨x2, x3⟩ := z
    have h : b_X4_entriesOf_4 x1 x2 x3 σ = some w_4 := h
    show V X G 4 0 0 σ 4 [(0, .ref (ga G 1)), (1, .int x1), (2, .int x2), (3, .int x3)] []
    unfold b_X4_entriesOf_4 at h
    have J_25 : ∀ (x2 : Int32) (x3 : Int32), f_X4_entriesOf_25 x1 x2 x3 σ = some w_4 → V X G 4 0 0 σ 25 [(0, .ref (ga G 1)), (1, .int x1), (2, .int x2), (3, .int x3)] [] := by
      intro x2 x3 h
      unfold f_X4_entriesOf_25 at h
      refine V_iinc C (x3 + 1) 3 [1, 2, 3, 0] (lv' := [(0, .ref (ga G 1)), (1, .int x1), (2, .int x2), (3, .int (x3 + 1))]) (dt_at dt_X4_entriesOf_0 15 rfl) rfl (by rfl) (by decide) rfl ?_
      refine V_goto C 4 (dt_at dt_X4_entriesOf_0 16 rfl) (by decide) ?_
      exact ih_4 (x2, (x3 + 1)) (Option.some.inj h).symm
    refine V_iload_n C (dt_at dt_X4_entriesOf_0 4 rfl) 3 rfl rfl ?_
    refine V_aload_n C (dt_at dt_X4_entriesOf_0 5 rfl) 0 rfl rfl ?_
    refine g_X4_18_1 C (dt_at dt_X4_entriesOf_0 6 rfl) ?_
    refine V_icmp_ge C 31 (dt_at dt_X4_entriesOf_0 7 rfl) (by decide) (fun q1 => ?_) (fun q1 => ?_)
    · have h := ite_f q1 h
      refine V_iload_n C (dt_at dt_X4_entriesOf_0 17 rfl) 2 rfl rfl ?_
      have e_4 := ex_4 _ (Option.some.inj h).symm
      subst e_4
      exact V_iret C hR (dt_at dt_X4_entriesOf_0 18 rfl)
    · have h := ite_t q1 h
      refine V_aload_n C (dt_at dt_X4_entriesOf_0 8 rfl) 0 rfl rfl ?_
      refine g_X4_34_1 C (dt_at dt_X4_entriesOf_0 9 rfl) ?_
      refine V_iload_n C (dt_at dt_X4_entriesOf_0 10 rfl) 3 rfl rfl ?_
      obtain ⟨h2, h⟩ := chk_s h
      refine al_12 C h2 (dt_at dt_X4_entriesOf_0 11 rfl) ?_
      refine V_iload_n C (dt_at dt_X4_entriesOf_0 12 rfl) 1 rfl rfl ?_
      refine V_icmp_ne C 25 (dt_at dt_X4_entriesOf_0 13 rfl) (by decide) (fun q3 => ?_) (fun q3 => ?_)
      · have h := ite_f q3 h
        exact J_25 x2 x3 h
      · have h := ite_t q3 h
        refine V_iinc C (x2 + 1) 2 [1, 2, 0, 3] (lv' := [(0, .ref (ga G 1)), (1, .int x1), (2, .int (x2 + 1)), (3, .int x3)]) (dt_at dt_X4_entriesOf_0 14 rfl) rfl (by rfl) (by decide) rfl ?_
        exact J_25 (x2 + 1) x3 h
  refine V_iconst C 0 (dt_at dt_X4_entriesOf_0 0 rfl) (by decide) ?_
  refine V_istore_n C [1, 2, 0] (lv' := [(0, .ref (ga G 1)), (1, .int x1), (2, .int 0)]) (dt_at dt_X4_entriesOf_0 1 rfl) rfl (by decide) rfl ?_
  refine V_iconst C 0 (dt_at dt_X4_entriesOf_0 2 rfl) (by decide) ?_
  refine V_istore_n C [1, 2, 3, 0] (lv' := [(0, .ref (ga G 1)), (1, .int x1), (2, .int 0), (3, .int 0)]) (dt_at dt_X4_entriesOf_0 3 rfl) rfl (by decide) rfl ?_
  exact J_4 0 0 h
theorem cv_X4_entriesOf (C : Ck X G cc own nL d) {idx : Nat} (hlk : Cond.methodLink own idx yX4_entriesOf ∈ gtb) (x1 : Int32) {r0 : Int32} (e : f_X4_entriesOf x1 σ = some r0) (hdd : 2 ≤ d) (hroom : (rest.map fun v => v.category).sum ≤ 8) (hcs : cells ≤ (xR X).cells ∧ slots ≤ (xR X).slots) (hd : decode cc pc = .ok (.invokevirtual idx, 3)) (k : V X G nL cells slots σ (pc + 3) lv (.int r0 :: rest)) : V X G nL cells slots σ pc lv (.int x1 :: .ref (ga G 1) :: rest) := V_callV C (As := [.int x1]) (c_X4_entriesOf X.2.1 G x1 σ r0 e) cal_X4_entriesOf ww_358 ww_359 hlk rfl hdd (lt110 rfl) rfl rfl rfl hroom hcs hd k
theorem dt_X11_partIs_0 : dtab cX11_partIs [(0, .aload_n 0, 1), (1, .getfield 12, 3), (4, .iload_n 1, 1), (5, .invokevirtual 94, 3), (8, .ifCond .eq 12, 3), (11, .iload_n 2, 1), (12, .bipush 6, 2), (14, .invokestatic 79, 3), (17, .ifCond .ne 9, 3), (20, .aload_n 0, 1), (21, .iconst 1, 1), (22, .invokevirtual 68, 3), (25, .ireturn, 1), (26, .aload_n 0, 1), (27, .getfield 12, 3), (30, .getfield 98, 3), (33, .iload_n 1, 1), (34, .aaload, 1), (35, .astore_n 3, 1), (36, .iload_n 2, 1), (37, .tableswitch 64 0 4 #[35, 40, 45, 50, 55], 35), (72, .aload_n 3, 1), (73, .getfield 110, 3), (76, .ireturn, 1), (77, .aload_n 3, 1), (78, .getfield 113, 3), (81, .ireturn, 1), (82, .aload_n 3, 1), (83, .getfield 116, 3), (86, .ireturn, 1), (87, .aload_n 3, 1), (88, .getfield 119, 3), (91, .ireturn, 1), (92, .aload_n 0, 1), (93, .getfield 12, 3), (96, .iload_n 1, 1), (97, .invokevirtual 107, 3), (100, .ireturn, 1), (101, .aload_n 0, 1), (102, .getfield 12, 3)] = true := by decide +kernel
theorem dt_X11_partIs_1 : dtab cX11_partIs [(105, .iload_n 1, 1), (106, .invokevirtual 122, 3), (109, .ireturn, 1)] = true := by decide +kernel
theorem cal_X11_partIs : Cal yX11_partIs cX11_partIs 4 (some .int) 2 := ⟨ww_367, ww_100, ⟨by decide, by decide, by decide⟩, by decide⟩
set_option maxHeartbeats 4000000 in
set_option maxRecDepth 100000 in
theorem c_X11_partIs (l : Launch) (G : Gx) (x1 : Int32) (x2 : Int32) (σ : St) (r0 : Int32) (σ0 : St) (h : f_X11_partIs x1 x2 σ = some (r0, σ0)) : MI l G yX11_partIs cX11_partIs 4 (some .int) 3 [.ref (ga G 0), .int x1, .int x2] σ (some (.int r0)) σ0 := by
  refine MI_of RX11 rfl (by decide) [(0, .ref (ga G 0)), (1, .int x1), (2, .int x2)] rfl (Nat.le_of_ble_eq_true rfl) ?_
  intro X hXl C hR
  unfold f_X11_partIs at h
  have J_20 : ∀ (σ : St), f_X11_partIs_20 σ = some (r0, σ0) → V X G 4 0 0 σ 20 [(0, .ref (ga G 0))] [] := by
    intro σ h
    unfold f_X11_partIs_20 at h
    refine V_aload_n C (dt_at dt_X11_partIs_0 9 rfl) 0 rfl rfl ?_
    refine V_iconst C 1 (dt_at dt_X11_partIs_0 10 rfl) (by decide) ?_
    obtain ⟨r22, σ24, e23, h⟩ := bd2_s h
    refine cv_X11_error C ww_193 1 e23 (Nat.le_of_ble_eq_true rfl) (Nat.le_of_ble_eq_true rfl) z0 (dt_at dt_X11_partIs_0 11 rfl) ?_
    obtain ⟨e1_, e2_⟩ := pin2 h
    subst e1_; subst e2_
    exact V_iret C hR (dt_at dt_X11_partIs_0 12 rfl)
  refine V_aload_n C (dt_at dt_X11_partIs_0 0 rfl) 0 rfl rfl ?_
  refine g_X11_12_0 C (dt_at dt_X11_partIs_0 1 rfl) ?_
  refine V_iload_n C (dt_at dt_X11_partIs_0 2 rfl) 1 rfl rfl ?_
  obtain ⟨r1, e2, h⟩ := bd_s h
  refine cv_X4_hasPart C ww_215 x1 e2 (Nat.le_of_ble_eq_true rfl) (Nat.le_of_ble_eq_true rfl) z0 (dt_at dt_X11_partIs_0 3 rfl) ?_
  refine V_if_eq C 20 (dt_at dt_X11_partIs_0 4 rfl) (by decide) (fun q4 => ?_) (fun q4 => ?_)
  · have h := ite_t q4 h
    refine V_sub [0] (lv' := [(0, .ref (ga G 0))]) rfl ?_
    exact J_20 σ h
  · have h := ite_f q4 h
    refine V_iload_n C (dt_at dt_X11_partIs_0 5 rfl) 2 rfl rfl ?_
    refine V_bipush C 6 (dt_at dt_X11_partIs_0 6 rfl) (by decide) ?_
    obtain ⟨r5, e6, h⟩ := bd_s h
    refine cv_X11_isWithin C ww_186 x2 6 e6 (Nat.le_of_ble_eq_true rfl) (Nat.le_of_ble_eq_true rfl) z0 (dt_at dt_X11_partIs_0 7 rfl) ?_
    refine V_if_ne C 26 (dt_at dt_X11_partIs_0 8 rfl) (by decide) (fun q8 => ?_) (fun q8 => ?_)
    · have h := ite_f q8 h
      refine V_aload_n C (dt_at dt_X11_partIs_0 13 rfl) 0 rfl rfl ?_
      refine g_X11_12_0 C (dt_at dt_X11_partIs_0 14 rfl) ?_
      refine g_X11_98_1 C (dt_at dt_X11_partIs_0 15 rfl) ?_
      refine V_iload_n C (dt_at dt_X11_partIs_0 16 rfl) 1 rfl rfl ?_
      obtain ⟨h9, h⟩ := chk_s h
      obtain ⟨h10, h⟩ := chk_s h
      refine V_aaR10 C h9 h10 (dt_at dt_X11_partIs_0 17 rfl) ?_
      refine V_astore_n C [1, 2, 3, 0] (lv' := [(0, .ref (ga G 0)), (1, .int x1), (2, .int x2), (3, .ref (ga G ((rd σ 10 x1).toNatClampNeg)))]) (dt_at dt_X11_partIs_0 18 rfl) rfl (by decide) rfl ?_
      refine V_iload_n C (dt_at dt_X11_partIs_0 19 rfl) 2 rfl rfl ?_
      by_cases q11 : x2 = 0
      · have h := ite_t q11 h
        refine V_tin C 0 72 (dt_at dt_X11_partIs_0 20 rfl) ⟨by rw [q11] <;> rfl, by decide⟩ rfl (by decide) ?_
        refine V_aload_n C (dt_at dt_X11_partIs_0 21 rfl) 3 rfl rfl ?_
        refine gr_X11_110 C (K := (rd σ 10 x1).toNatClampNeg) h10 (dt_at dt_X11_partIs_0 22 rfl) ?_
        obtain ⟨e1_, e2_⟩ := pin2 h
        subst e1_; subst e2_
        exact V_iret C hR (dt_at dt_X11_partIs_0 23 rfl)
      replace h := ite_f q11 h
      by_cases q12 : x2 = 1
      · have h := ite_t q12 h
        refine V_tin C 1 77 (dt_at dt_X11_partIs_0 20 rfl) ⟨by rw [q12] <;> rfl, by decide⟩ rfl (by decide) ?_
        refine V_aload_n C (dt_at dt_X11_partIs_0 24 rfl) 3 rfl rfl ?_
        refine gr_X11_113 C (K := (rd σ 10 x1).toNatClampNeg) h10 (dt_at dt_X11_partIs_0 25 rfl) ?_
        obtain ⟨e1_, e2_⟩ := pin2 h
        subst e1_; subst e2_
        exact V_iret C hR (dt_at dt_X11_partIs_0 26 rfl)
      replace h := ite_f q12 h
      by_cases q13 : x2 = 2
      · have h := ite_t q13 h
        refine V_tin C 2 82 (dt_at dt_X11_partIs_0 20 rfl) ⟨by rw [q13] <;> rfl, by decide⟩ rfl (by decide) ?_
        refine V_aload_n C (dt_at dt_X11_partIs_0 27 rfl) 3 rfl rfl ?_
        refine gr_X11_116 C (K := (rd σ 10 x1).toNatClampNeg) h10 (dt_at dt_X11_partIs_0 28 rfl) ?_
        obtain ⟨e1_, e2_⟩ := pin2 h
        subst e1_; subst e2_
        exact V_iret C hR (dt_at dt_X11_partIs_0 29 rfl)
      replace h := ite_f q13 h
      by_cases q14 : x2 = 3
      · have h := ite_t q14 h
        refine V_tin C 3 87 (dt_at dt_X11_partIs_0 20 rfl) ⟨by rw [q14] <;> rfl, by decide⟩ rfl (by decide) ?_
        refine V_aload_n C (dt_at dt_X11_partIs_0 30 rfl) 3 rfl rfl ?_
        refine gr_X11_119 C (K := (rd σ 10 x1).toNatClampNeg) h10 (dt_at dt_X11_partIs_0 31 rfl) ?_
        obtain ⟨e1_, e2_⟩ := pin2 h
        subst e1_; subst e2_
        exact V_iret C hR (dt_at dt_X11_partIs_0 32 rfl)
      replace h := ite_f q14 h
      by_cases q15 : x2 = 4
      · have h := ite_t q15 h
        refine V_tin C 4 92 (dt_at dt_X11_partIs_0 20 rfl) ⟨by rw [q15] <;> rfl, by decide⟩ rfl (by decide) ?_
        refine V_aload_n C (dt_at dt_X11_partIs_0 33 rfl) 0 rfl rfl ?_
        refine g_X11_12_0 C (dt_at dt_X11_partIs_0 34 rfl) ?_
        refine V_iload_n C (dt_at dt_X11_partIs_0 35 rfl) 1 rfl rfl ?_
        obtain ⟨r16, e17, h⟩ := bd_s h
        refine cv_X4_weight C ww_365 x1 e17 (Nat.le_of_ble_eq_true rfl) (Nat.le_of_ble_eq_true rfl) z0 (dt_at dt_X11_partIs_0 36 rfl) ?_
        obtain ⟨e1_, e2_⟩ := pin2 h
        subst e1_; subst e2_
        exact V_iret C hR (dt_at dt_X11_partIs_0 37 rfl)
      replace h := ite_f q15 h
      refine V_tout C 101 (dt_at dt_X11_partIs_0 20 rfl) (by have q11t := lv_neT q11 (a := 0) rfl; have q12t := lv_neT q12 (a := 1) rfl; have q13t := lv_neT q13 (a := 2) rfl; have q14t := lv_neT q14 (a := 3) rfl; have q15t := lv_neT q15 (a := 4) rfl; omega) (by decide) ?_
      refine V_aload_n C (dt_at dt_X11_partIs_0 38 rfl) 0 rfl rfl ?_
      refine g_X11_12_0 C (dt_at dt_X11_partIs_0 39 rfl) ?_
      refine V_iload_n C (dt_at dt_X11_partIs_1 0 rfl) 1 rfl rfl ?_
      obtain ⟨r19, e20, h⟩ := bd_s h
      refine cv_X4_entriesOf C ww_366 x1 e20 (Nat.le_of_ble_eq_true rfl) (Nat.le_of_ble_eq_true rfl) z0 (dt_at dt_X11_partIs_1 1 rfl) ?_
      obtain ⟨e1_, e2_⟩ := pin2 h
      subst e1_; subst e2_
      exact V_iret C hR (dt_at dt_X11_partIs_1 2 rfl)
    · have h := ite_t q8 h
      refine V_sub [0] (lv' := [(0, .ref (ga G 0))]) rfl ?_
      exact J_20 σ h
theorem cv_X11_partIs (C : Ck X G cc own nL d) {idx : Nat} (hlk : Cond.methodLink own idx yX11_partIs ∈ gtb) (x1 : Int32) (x2 : Int32) {r0 : Int32} {σ0 : St} (e : f_X11_partIs x1 x2 σ = some (r0, σ0)) (hdd : 4 ≤ d) (hroom : (rest.map fun v => v.category).sum ≤ 8) (hcs : cells ≤ (xR X).cells ∧ slots ≤ (xR X).slots) (hd : decode cc pc = .ok (.invokevirtual idx, 3)) (k : V X G nL cells slots σ0 (pc + 3) lv (.int r0 :: rest)) : V X G nL cells slots σ pc lv (.int x2 :: .int x1 :: .ref (ga G 0) :: rest) := V_callV C (As := [.int x1, .int x2]) (c_X11_partIs X.2.1 G x1 x2 σ r0 σ0 e) cal_X11_partIs ww_368 ww_369 hlk rfl hdd (lt110 rfl) rfl rfl rfl hroom hcs hd k
theorem dt_X4_addPlayer_0 : dtab cX4_addPlayer [(0, .aload_n 0, 1), (1, .getfield 46, 3), (4, .aload_n 0, 1), (5, .getfield 21, 3), (8, .iload_n 1, 1), (9, .iastore, 1), (10, .aload_n 0, 1), (11, .getfield 49, 3), (14, .aload_n 0, 1), (15, .getfield 21, 3), (18, .iload_n 2, 1), (19, .iastore, 1), (20, .aload_n 0, 1), (21, .getfield 52, 3), (24, .aload_n 0, 1), (25, .getfield 21, 3), (28, .iconst 0, 1), (29, .iastore, 1), (30, .aload_n 0, 1), (31, .dup, 1), (32, .getfield 21, 3), (35, .iconst 1, 1), (36, .iadd, 1), (37, .putfield 21, 3), (40, .aload_n 0, 1), (41, .getfield 21, 3), (44, .iconst 1, 1), (45, .isub, 1), (46, .ireturn, 1)] = true := by decide +kernel
theorem cal_X4_addPlayer : Cal yX4_addPlayer cX4_addPlayer 3 (some .int) 2 := ⟨ww_372, ww_92, ⟨by decide, by decide, by decide⟩, by decide⟩
set_option maxHeartbeats 4000000 in
set_option maxRecDepth 100000 in
theorem c_X4_addPlayer (l : Launch) (G : Gx) (x1 : Int32) (x2 : Int32) (σ : St) (r0 : Int32) (σ0 : St) (h : f_X4_addPlayer x1 x2 σ = some (r0, σ0)) : MI l G yX4_addPlayer cX4_addPlayer 3 (some .int) 1 [.ref (ga G 1), .int x1, .int x2] σ (some (.int r0)) σ0 := by
  refine MI_of RX4 rfl (by decide) [(0, .ref (ga G 1)), (1, .int x1), (2, .int x2)] rfl (Nat.le_of_ble_eq_true rfl) ?_
  intro X hXl C hR
  unfold f_X4_addPlayer at h
  refine V_aload_n C (dt_at dt_X4_addPlayer_0 0 rfl) 0 rfl rfl ?_
  refine g_X4_46_1 C (dt_at dt_X4_addPlayer_0 1 rfl) ?_
  refine V_aload_n C (dt_at dt_X4_addPlayer_0 2 rfl) 0 rfl rfl ?_
  refine g_X4_21_1 C (dt_at dt_X4_addPlayer_0 3 rfl) ?_
  refine V_iload_n C (dt_at dt_X4_addPlayer_0 4 rfl) 1 rfl rfl ?_
  obtain ⟨h2, h⟩ := chk_s h
  obtain ⟨σ1, eσ1, h⟩ := nm_s h
  refine V_st eσ1 ?_ (fun k => as_16 C h2 (dt_at dt_X4_addPlayer_0 5 rfl) k)
  refine V_aload_n C (dt_at dt_X4_addPlayer_0 6 rfl) 0 rfl rfl ?_
  refine g_X4_49_1 C (dt_at dt_X4_addPlayer_0 7 rfl) ?_
  refine V_aload_n C (dt_at dt_X4_addPlayer_0 8 rfl) 0 rfl rfl ?_
  refine g_X4_21_1 C (dt_at dt_X4_addPlayer_0 9 rfl) ?_
  refine V_iload_n C (dt_at dt_X4_addPlayer_0 10 rfl) 2 rfl rfl ?_
  obtain ⟨h4, h⟩ := chk_s h
  obtain ⟨σ3, eσ3, h⟩ := nm_s h
  refine V_st eσ3 ?_ (fun k => as_17 C h4 (dt_at dt_X4_addPlayer_0 11 rfl) k)
  refine V_aload_n C (dt_at dt_X4_addPlayer_0 12 rfl) 0 rfl rfl ?_
  refine g_X4_52_1 C (dt_at dt_X4_addPlayer_0 13 rfl) ?_
  refine V_aload_n C (dt_at dt_X4_addPlayer_0 14 rfl) 0 rfl rfl ?_
  refine g_X4_21_1 C (dt_at dt_X4_addPlayer_0 15 rfl) ?_
  refine V_iconst C 0 (dt_at dt_X4_addPlayer_0 16 rfl) (by decide) ?_
  obtain ⟨h6, h⟩ := chk_s h
  obtain ⟨σ5, eσ5, h⟩ := nm_s h
  refine V_st eσ5 ?_ (fun k => as_18 C h6 (dt_at dt_X4_addPlayer_0 17 rfl) k)
  refine V_aload_n C (dt_at dt_X4_addPlayer_0 18 rfl) 0 rfl rfl ?_
  refine V_dup C (dt_at dt_X4_addPlayer_0 19 rfl) rfl ?_
  refine g_X4_21_1 C (dt_at dt_X4_addPlayer_0 20 rfl) ?_
  refine V_iconst C 1 (dt_at dt_X4_addPlayer_0 21 rfl) (by decide) ?_
  refine V_iadd C (dt_at dt_X4_addPlayer_0 22 rfl) ?_
  obtain ⟨σ7, eσ7, h⟩ := nm_s h
  refine V_st eσ7 ?_ (fun k => p_X4_21_1 C (dt_at dt_X4_addPlayer_0 23 rfl) k)
  refine V_aload_n C (dt_at dt_X4_addPlayer_0 24 rfl) 0 rfl rfl ?_
  refine g_X4_21_1 C (dt_at dt_X4_addPlayer_0 25 rfl) ?_
  refine V_iconst C 1 (dt_at dt_X4_addPlayer_0 26 rfl) (by decide) ?_
  refine V_isub C (dt_at dt_X4_addPlayer_0 27 rfl) ?_
  obtain ⟨e1_, e2_⟩ := pin2 h
  subst e1_; subst e2_
  exact V_iret C hR (dt_at dt_X4_addPlayer_0 28 rfl)
theorem cv_X4_addPlayer (C : Ck X G cc own nL d) {idx : Nat} (hlk : Cond.methodLink own idx yX4_addPlayer ∈ gtb) (x1 : Int32) (x2 : Int32) {r0 : Int32} {σ0 : St} (e : f_X4_addPlayer x1 x2 σ = some (r0, σ0)) (hdd : 2 ≤ d) (hroom : (rest.map fun v => v.category).sum ≤ 8) (hcs : cells ≤ (xR X).cells ∧ slots ≤ (xR X).slots) (hd : decode cc pc = .ok (.invokevirtual idx, 3)) (k : V X G nL cells slots σ0 (pc + 3) lv (.int r0 :: rest)) : V X G nL cells slots σ pc lv (.int x2 :: .int x1 :: .ref (ga G 1) :: rest) := V_callV C (As := [.int x1, .int x2]) (c_X4_addPlayer X.2.1 G x1 x2 σ r0 σ0 e) cal_X4_addPlayer ww_373 ww_374 hlk rfl hdd (lt110 rfl) rfl rfl rfl hroom hcs hd k
theorem dt_X11_player_0 : dtab cX11_player [(0, .iload_n 1, 1), (1, .bipush 10, 2), (3, .invokestatic 79, 3), (6, .ifCond .eq 12, 3), (9, .iload_n 2, 1), (10, .bipush 100, 2), (12, .invokestatic 79, 3), (15, .ifCond .ne 9, 3), (18, .aload_n 0, 1), (19, .iconst 1, 1), (20, .invokevirtual 68, 3), (23, .ireturn, 1), (24, .aload_n 0, 1), (25, .getfield 12, 3), (28, .getfield 165, 3), (31, .bipush 6, 2), (33, .if_icmp .lt 9, 3), (36, .aload_n 0, 1), (37, .iconst 4, 1), (38, .invokevirtual 68, 3), (41, .ireturn, 1), (42, .aload_n 0, 1), (43, .getfield 12, 3), (46, .iload_n 1, 1), (47, .iload_n 2, 1), (48, .invokevirtual 168, 3), (51, .ireturn, 1)] = true := by decide +kernel
theorem cal_X11_player : Cal yX11_player cX11_player 3 (some .int) 2 := ⟨ww_376, ww_100, ⟨by decide, by decide, by decide⟩, by decide⟩
set_option maxHeartbeats 4000000 in
set_option maxRecDepth 100000 in
theorem c_X11_player (l : Launch) (G : Gx) (x1 : Int32) (x2 : Int32) (σ : St) (r0 : Int32) (σ0 : St) (h : f_X11_player x1 x2 σ = some (r0, σ0)) : MI l G yX11_player cX11_player 3 (some .int) 2 [.ref (ga G 0), .int x1, .int x2] σ (some (.int r0)) σ0 := by
  refine MI_of RX11 rfl (by decide) [(0, .ref (ga G 0)), (1, .int x1), (2, .int x2)] rfl (Nat.le_of_ble_eq_true rfl) ?_
  intro X hXl C hR
  unfold f_X11_player at h
  have J_18 : ∀ (σ : St), f_X11_player_18 σ = some (r0, σ0) → V X G 3 0 0 σ 18 [(0, .ref (ga G 0))] [] := by
    intro σ h
    unfold f_X11_player_18 at h
    refine V_aload_n C (dt_at dt_X11_player_0 8 rfl) 0 rfl rfl ?_
    refine V_iconst C 1 (dt_at dt_X11_player_0 9 rfl) (by decide) ?_
    obtain ⟨r16, σ18, e17, h⟩ := bd2_s h
    refine cv_X11_error C ww_193 1 e17 (Nat.le_of_ble_eq_true rfl) (Nat.le_of_ble_eq_true rfl) z0 (dt_at dt_X11_player_0 10 rfl) ?_
    obtain ⟨e1_, e2_⟩ := pin2 h
    subst e1_; subst e2_
    exact V_iret C hR (dt_at dt_X11_player_0 11 rfl)
  refine V_iload_n C (dt_at dt_X11_player_0 0 rfl) 1 rfl rfl ?_
  refine V_bipush C 10 (dt_at dt_X11_player_0 1 rfl) (by decide) ?_
  obtain ⟨r1, e2, h⟩ := bd_s h
  refine cv_X11_isWithin C ww_186 x1 10 e2 (Nat.le_of_ble_eq_true rfl) (Nat.le_of_ble_eq_true rfl) z0 (dt_at dt_X11_player_0 2 rfl) ?_
  refine V_if_eq C 18 (dt_at dt_X11_player_0 3 rfl) (by decide) (fun q4 => ?_) (fun q4 => ?_)
  · have h := ite_t q4 h
    refine V_sub [0] (lv' := [(0, .ref (ga G 0))]) rfl ?_
    exact J_18 σ h
  · have h := ite_f q4 h
    refine V_iload_n C (dt_at dt_X11_player_0 4 rfl) 2 rfl rfl ?_
    refine V_bipush C 100 (dt_at dt_X11_player_0 5 rfl) (by decide) ?_
    obtain ⟨r5, e6, h⟩ := bd_s h
    refine cv_X11_isWithin C ww_186 x2 100 e6 (Nat.le_of_ble_eq_true rfl) (Nat.le_of_ble_eq_true rfl) z0 (dt_at dt_X11_player_0 6 rfl) ?_
    refine V_if_ne C 24 (dt_at dt_X11_player_0 7 rfl) (by decide) (fun q8 => ?_) (fun q8 => ?_)
    · have h := ite_f q8 h
      refine V_aload_n C (dt_at dt_X11_player_0 12 rfl) 0 rfl rfl ?_
      refine g_X11_12_0 C (dt_at dt_X11_player_0 13 rfl) ?_
      refine g_X11_165_1 C (dt_at dt_X11_player_0 14 rfl) ?_
      refine V_bipush C 6 (dt_at dt_X11_player_0 15 rfl) (by decide) ?_
      refine V_icmp_lt C 42 (dt_at dt_X11_player_0 16 rfl) (by decide) (fun q9 => ?_) (fun q9 => ?_)
      · have h := ite_t q9 h
        refine V_aload_n C (dt_at dt_X11_player_0 21 rfl) 0 rfl rfl ?_
        refine g_X11_12_0 C (dt_at dt_X11_player_0 22 rfl) ?_
        refine V_iload_n C (dt_at dt_X11_player_0 23 rfl) 1 rfl rfl ?_
        refine V_iload_n C (dt_at dt_X11_player_0 24 rfl) 2 rfl rfl ?_
        obtain ⟨r10, σ12, e11, h⟩ := bd2_s h
        refine cv_X4_addPlayer C ww_375 x1 x2 e11 (Nat.le_of_ble_eq_true rfl) (Nat.le_of_ble_eq_true rfl) z0 (dt_at dt_X11_player_0 25 rfl) ?_
        obtain ⟨e1_, e2_⟩ := pin2 h
        subst e1_; subst e2_
        exact V_iret C hR (dt_at dt_X11_player_0 26 rfl)
      · have h := ite_f q9 h
        refine V_aload_n C (dt_at dt_X11_player_0 17 rfl) 0 rfl rfl ?_
        refine V_iconst C 4 (dt_at dt_X11_player_0 18 rfl) (by decide) ?_
        obtain ⟨r13, σ15, e14, h⟩ := bd2_s h
        refine cv_X11_error C ww_193 4 e14 (Nat.le_of_ble_eq_true rfl) (Nat.le_of_ble_eq_true rfl) z0 (dt_at dt_X11_player_0 19 rfl) ?_
        obtain ⟨e1_, e2_⟩ := pin2 h
        subst e1_; subst e2_
        exact V_iret C hR (dt_at dt_X11_player_0 20 rfl)
    · have h := ite_t q8 h
      refine V_sub [0] (lv' := [(0, .ref (ga G 0))]) rfl ?_
      exact J_18 σ h
theorem cv_X11_player (C : Ck X G cc own nL d) {idx : Nat} (hlk : Cond.methodLink own idx yX11_player ∈ gtb) (x1 : Int32) (x2 : Int32) {r0 : Int32} {σ0 : St} (e : f_X11_player x1 x2 σ = some (r0, σ0)) (hdd : 3 ≤ d) (hroom : (rest.map fun v => v.category).sum ≤ 8) (hcs : cells ≤ (xR X).cells ∧ slots ≤ (xR X).slots) (hd : decode cc pc = .ok (.invokevirtual idx, 3)) (k : V X G nL cells slots σ0 (pc + 3) lv (.int r0 :: rest)) : V X G nL cells slots σ pc lv (.int x2 :: .int x1 :: .ref (ga G 0) :: rest) := V_callV C (As := [.int x1, .int x2]) (c_X11_player X.2.1 G x1 x2 σ r0 σ0 e) cal_X11_player ww_377 ww_378 hlk rfl hdd (lt110 rfl) rfl rfl rfl hroom hcs hd k
theorem dt_X11_put_0 : dtab cX11_put [(0, .iload_n 1, 1), (1, .iconst 4, 1), (2, .invokestatic 79, 3), (5, .ifCond .ne 9, 3), (8, .aload_n 0, 1), (9, .iconst 1, 1), (10, .invokevirtual 68, 3), (13, .ireturn, 1), (14, .aload_n 0, 1), (15, .iload_n 1, 1), (16, .invokevirtual 231, 3), (19, .ifCond .eq 9, 3), (22, .aload_n 0, 1), (23, .iconst 2, 1), (24, .invokevirtual 68, 3), (27, .ireturn, 1), (28, .iload_n 2, 1), (29, .aload_n 0, 1), (30, .getfield 53, 3), (33, .iload_n 1, 1), (34, .aaload, 1), (35, .getfield 189, 3), (38, .invokestatic 79, 3), (41, .ifCond .ne 9, 3), (44, .aload_n 0, 1), (45, .iconst 1, 1), (46, .invokevirtual 68, 3), (49, .ireturn, 1), (50, .aload_n 0, 1), (51, .getfield 53, 3), (54, .iload_n 1, 1), (55, .aaload, 1), (56, .getfield 239, 3), (59, .iload_n 2, 1), (60, .iload_n 3, 1), (61, .aload_n 0, 1), (62, .getfield 57, 3), (65, .iload_n 1, 1), (66, .iaload, 1), (67, .invokestatic 328, 3)] = true := by decide +kernel
theorem dt_X11_put_1 : dtab cX11_put [(70, .iastore, 1), (71, .iconst 1, 1), (72, .ireturn, 1)] = true := by decide +kernel
theorem cal_X11_put : Cal yX11_put cX11_put 4 (some .int) 3 := ⟨ww_380, ww_100, ⟨by decide, by decide, by decide⟩, by decide⟩
set_option maxHeartbeats 4000000 in
set_option maxRecDepth 100000 in
theorem c_X11_put (l : Launch) (G : Gx) (x1 : Int32) (x2 : Int32) (x3 : Int32) (σ : St) (r0 : Int32) (σ0 : St) (h : f_X11_put x1 x2 x3 σ = some (r0, σ0)) : MI l G yX11_put cX11_put 4 (some .int) 2 [.ref (ga G 0), .int x1, .int x2, .int x3] σ (some (.int r0)) σ0 := by
  refine MI_of RX11 rfl (by decide) [(0, .ref (ga G 0)), (1, .int x1), (2, .int x2), (3, .int x3)] rfl (Nat.le_of_ble_eq_true rfl) ?_
  intro X hXl C hR
  unfold f_X11_put at h
  refine V_iload_n C (dt_at dt_X11_put_0 0 rfl) 1 rfl rfl ?_
  refine V_iconst C 4 (dt_at dt_X11_put_0 1 rfl) (by decide) ?_
  obtain ⟨r1, e2, h⟩ := bd_s h
  refine cv_X11_isWithin C ww_186 x1 4 e2 (Nat.le_of_ble_eq_true rfl) (Nat.le_of_ble_eq_true rfl) z0 (dt_at dt_X11_put_0 2 rfl) ?_
  refine V_if_ne C 14 (dt_at dt_X11_put_0 3 rfl) (by decide) (fun q4 => ?_) (fun q4 => ?_)
  · have h := ite_f q4 h
    refine V_aload_n C (dt_at dt_X11_put_0 8 rfl) 0 rfl rfl ?_
    refine V_iload_n C (dt_at dt_X11_put_0 9 rfl) 1 rfl rfl ?_
    obtain ⟨r5, e6, h⟩ := bd_s h
    refine cv_X11_isMissing C ww_187 x1 e6 (Nat.le_of_ble_eq_true rfl) (Nat.le_of_ble_eq_true rfl) z0 (dt_at dt_X11_put_0 10 rfl) ?_
    refine V_if_eq C 28 (dt_at dt_X11_put_0 11 rfl) (by decide) (fun q8 => ?_) (fun q8 => ?_)
    · have h := ite_t q8 h
      refine V_iload_n C (dt_at dt_X11_put_0 16 rfl) 2 rfl rfl ?_
      refine V_aload_n C (dt_at dt_X11_put_0 17 rfl) 0 rfl rfl ?_
      refine g_X11_53_0 C (dt_at dt_X11_put_0 18 rfl) ?_
      refine V_iload_n C (dt_at dt_X11_put_0 19 rfl) 1 rfl rfl ?_
      obtain ⟨h9, h⟩ := chk_s h
      refine V_aa7 C h9 (dt_at dt_X11_put_0 20 rfl) ?_
      have h10 : isRow (76 + 2 * x1.toNatClampNeg) = true := ok_7 h9
      refine gw_X11_189 C (K := (76 + 2 * x1.toNatClampNeg)) h10 (dt_at dt_X11_put_0 21 rfl) ?_
      obtain ⟨r11, e12, h⟩ := bd_s h
      refine cv_X11_isWithin C ww_186 x2 (fd σ (76 + 2 * x1.toNatClampNeg) 1) e12 (Nat.le_of_ble_eq_true rfl) (Nat.le_of_ble_eq_true rfl) z0 (dt_at dt_X11_put_0 22 rfl) ?_
      refine V_if_ne C 50 (dt_at dt_X11_put_0 23 rfl) (by decide) (fun q14 => ?_) (fun q14 => ?_)
      · have h := ite_f q14 h
        refine V_aload_n C (dt_at dt_X11_put_0 28 rfl) 0 rfl rfl ?_
        refine g_X11_53_0 C (dt_at dt_X11_put_0 29 rfl) ?_
        refine V_iload_n C (dt_at dt_X11_put_0 30 rfl) 1 rfl rfl ?_
        refine V_aa7 C h9 (dt_at dt_X11_put_0 31 rfl) ?_
        have h15 : isRow (76 + 2 * x1.toNatClampNeg) = true := ok_7 h9
        refine gw_X11_239 C (K := (76 + 2 * x1.toNatClampNeg)) h15 (dt_at dt_X11_put_0 32 rfl) ?_
        refine V_iload_n C (dt_at dt_X11_put_0 33 rfl) 2 rfl rfl ?_
        refine V_iload_n C (dt_at dt_X11_put_0 34 rfl) 3 rfl rfl ?_
        refine V_aload_n C (dt_at dt_X11_put_0 35 rfl) 0 rfl rfl ?_
        refine g_X11_57_0 C (dt_at dt_X11_put_0 36 rfl) ?_
        refine V_iload_n C (dt_at dt_X11_put_0 37 rfl) 1 rfl rfl ?_
        refine al_8 C h9 (dt_at dt_X11_put_0 38 rfl) ?_
        obtain ⟨r16, e17, h⟩ := bd_s h
        refine cv_X11_lowestBits C ww_379 x3 (rd σ 8 x1) e17 (Nat.le_of_ble_eq_true rfl) (Nat.le_of_ble_eq_true rfl) z0 (dt_at dt_X11_put_0 39 rfl) ?_
        obtain ⟨h20, h⟩ := chk_s h
        obtain ⟨σ19, eσ19, h⟩ := nm_s h
        refine V_st eσ19 ?_ (fun k => V_iast C (K := (76 + 2 * x1.toNatClampNeg) + 1) (isRowA_lt h15) (fun f => (lay_rowA G h15 f _)) h20 (dt_at dt_X11_put_1 0 rfl) k)
        refine V_iconst C 1 (dt_at dt_X11_put_1 1 rfl) (by decide) ?_
        obtain ⟨e1_, e2_⟩ := pin2 h
        subst e1_; subst e2_
        exact V_iret C hR (dt_at dt_X11_put_1 2 rfl)
      · have h := ite_t q14 h
        refine V_aload_n C (dt_at dt_X11_put_0 24 rfl) 0 rfl rfl ?_
        refine V_iconst C 1 (dt_at dt_X11_put_0 25 rfl) (by decide) ?_
        obtain ⟨r21, σ23, e22, h⟩ := bd2_s h
        refine cv_X11_error C ww_193 1 e22 (Nat.le_of_ble_eq_true rfl) (Nat.le_of_ble_eq_true rfl) z0 (dt_at dt_X11_put_0 26 rfl) ?_
        obtain ⟨e1_, e2_⟩ := pin2 h
        subst e1_; subst e2_
        exact V_iret C hR (dt_at dt_X11_put_0 27 rfl)
    · have h := ite_f q8 h
      refine V_aload_n C (dt_at dt_X11_put_0 12 rfl) 0 rfl rfl ?_
      refine V_iconst C 2 (dt_at dt_X11_put_0 13 rfl) (by decide) ?_
      obtain ⟨r24, σ26, e25, h⟩ := bd2_s h
      refine cv_X11_error C ww_193 2 e25 (Nat.le_of_ble_eq_true rfl) (Nat.le_of_ble_eq_true rfl) z0 (dt_at dt_X11_put_0 14 rfl) ?_
      obtain ⟨e1_, e2_⟩ := pin2 h
      subst e1_; subst e2_
      exact V_iret C hR (dt_at dt_X11_put_0 15 rfl)
  · have h := ite_t q4 h
    refine V_aload_n C (dt_at dt_X11_put_0 4 rfl) 0 rfl rfl ?_
    refine V_iconst C 1 (dt_at dt_X11_put_0 5 rfl) (by decide) ?_
    obtain ⟨r27, σ29, e28, h⟩ := bd2_s h
    refine cv_X11_error C ww_193 1 e28 (Nat.le_of_ble_eq_true rfl) (Nat.le_of_ble_eq_true rfl) z0 (dt_at dt_X11_put_0 6 rfl) ?_
    obtain ⟨e1_, e2_⟩ := pin2 h
    subst e1_; subst e2_
    exact V_iret C hR (dt_at dt_X11_put_0 7 rfl)
theorem cv_X11_put (C : Ck X G cc own nL d) {idx : Nat} (hlk : Cond.methodLink own idx yX11_put ∈ gtb) (x1 : Int32) (x2 : Int32) (x3 : Int32) {r0 : Int32} {σ0 : St} (e : f_X11_put x1 x2 x3 σ = some (r0, σ0)) (hdd : 3 ≤ d) (hroom : (rest.map fun v => v.category).sum ≤ 8) (hcs : cells ≤ (xR X).cells ∧ slots ≤ (xR X).slots) (hd : decode cc pc = .ok (.invokevirtual idx, 3)) (k : V X G nL cells slots σ0 (pc + 3) lv (.int r0 :: rest)) : V X G nL cells slots σ pc lv (.int x3 :: .int x2 :: .int x1 :: .ref (ga G 0) :: rest) := V_callV C (As := [.int x1, .int x2, .int x3]) (c_X11_put X.2.1 G x1 x2 x3 σ r0 σ0 e) cal_X11_put ww_381 ww_382 hlk rfl hdd (lt110 rfl) rfl rfl rfl hroom hcs hd k
theorem dt_X11_sheet_0 : dtab cX11_sheet [(0, .iload_n 1, 1), (1, .iconst 4, 1), (2, .invokestatic 79, 3), (5, .ifCond .eq 25, 3), (8, .iload_n 2, 1), (9, .ifCond .eq 27, 3), (12, .iload_n 2, 1), (13, .bipush 8, 2), (15, .if_icmp .eq 21, 3), (18, .iload_n 2, 1), (19, .bipush 16, 2), (21, .if_icmp .eq 15, 3), (24, .iload_n 2, 1), (25, .bipush 32, 2), (27, .if_icmp .eq 9, 3), (30, .aload_n 0, 1), (31, .iconst 1, 1), (32, .invokevirtual 68, 3), (35, .ireturn, 1), (36, .iload_n 2, 1), (37, .ifCond .eq 13, 3), (40, .iload_n 3, 1), (41, .ifCond .ge 9, 3), (44, .aload_n 0, 1), (45, .iconst 3, 1), (46, .invokevirtual 68, 3), (49, .ireturn, 1), (50, .iload_n 2, 1), (51, .ifCond .eq 15, 3), (54, .iload_n 3, 1), (55, .bipush 24, 2), (57, .if_icmp .le 9, 3), (60, .aload_n 0, 1), (61, .iconst 1, 1), (62, .invokevirtual 68, 3), (65, .ireturn, 1), (66, .aload_n 0, 1), (67, .getfield 57, 3), (70, .iload_n 1, 1), (71, .iload_n 2, 1)] = true := by decide +kernel
theorem dt_X11_sheet_1 : dtab cX11_sheet [(72, .iastore, 1), (73, .aload_n 0, 1), (74, .getfield 53, 3), (77, .iload_n 1, 1), (78, .aaload, 1), (79, .iload_n 2, 1), (80, .ifCond .ne 7, 3), (83, .iconst 0, 1), (84, .goto 4, 3), (87, .iload_n 3, 1), (88, .putfield 189, 3), (91, .aload_n 0, 1), (92, .getfield 53, 3), (95, .iload_n 1, 1), (96, .aaload, 1), (97, .getfield 239, 3), (100, .iconst 0, 1), (101, .invokestatic 322, 3), (104, .iconst 1, 1), (105, .ireturn, 1)] = true := by decide +kernel
theorem cal_X11_sheet : Cal yX11_sheet cX11_sheet 4 (some .int) 3 := ⟨ww_384, ww_100, ⟨by decide, by decide, by decide⟩, by decide⟩
set_option maxHeartbeats 4000000 in
set_option maxRecDepth 100000 in
theorem c_X11_sheet (l : Launch) (G : Gx) (x1 : Int32) (x2 : Int32) (x3 : Int32) (σ : St) (r0 : Int32) (σ0 : St) (h : f_X11_sheet x1 x2 x3 σ = some (r0, σ0)) : MI l G yX11_sheet cX11_sheet 4 (some .int) 2 [.ref (ga G 0), .int x1, .int x2, .int x3] σ (some (.int r0)) σ0 := by
  refine MI_of RX11 rfl (by decide) [(0, .ref (ga G 0)), (1, .int x1), (2, .int x2), (3, .int x3)] rfl (Nat.le_of_ble_eq_true rfl) ?_
  intro X hXl C hR
  unfold f_X11_sheet at h
  have J_88 : ∀ (s0 : Int32) (cs1 : Nat) (σ : St) (hf_cs1 : isRow cs1 = true), f_X11_sheet_88 x1 s0 cs1 σ = some (r0, σ0) → V X G 4 0 0 σ 88 [(0, .ref (ga G 0)), (1, .int x1)] [.int s0, .ref (ga G cs1)] := by
    intro s0 cs1 σ hf_cs1 h
    unfold f_X11_sheet_88 at h
    obtain ⟨σ26, eσ26, h⟩ := nm_s h
    refine V_st eσ26 ?_ (fun k => p_X11_189_row C (K := cs1) hf_cs1 (dt_at dt_X11_sheet_1 10 rfl) k)
    refine V_aload_n C (dt_at dt_X11_sheet_1 11 rfl) 0 rfl rfl ?_
    refine g_X11_53_0 C (dt_at dt_X11_sheet_1 12 rfl) ?_
    refine V_iload_n C (dt_at dt_X11_sheet_1 13 rfl) 1 rfl rfl ?_
    obtain ⟨h27, h⟩ := chk_s h
    refine V_aa7 C h27 (dt_at dt_X11_sheet_1 14 rfl) ?_
    have h28 : isRow (76 + 2 * x1.toNatClampNeg) = true := ok_7 h27
    refine gw_X11_239 C (K := (76 + 2 * x1.toNatClampNeg)) h28 (dt_at dt_X11_sheet_1 15 rfl) ?_
    refine V_iconst C 0 (dt_at dt_X11_sheet_1 16 rfl) (by decide) ?_
    obtain ⟨σ31, e30, h⟩ := bd_s h
    refine cv_J7_fill_53178 C ww_383 ((76 + 2 * x1.toNatClampNeg) + 1) 0 e30 (Nat.le_of_ble_eq_true rfl) (Nat.le_of_ble_eq_true rfl) z0 (dt_at dt_X11_sheet_1 17 rfl) ?_
    refine V_iconst C 1 (dt_at dt_X11_sheet_1 18 rfl) (by decide) ?_
    obtain ⟨e1_, e2_⟩ := pin2 h
    subst e1_; subst e2_
    exact V_iret C hR (dt_at dt_X11_sheet_1 19 rfl)
  have J_66 : ∀ (σ : St), f_X11_sheet_66 x1 x2 x3 σ = some (r0, σ0) → V X G 4 0 0 σ 66 [(0, .ref (ga G 0)), (1, .int x1), (2, .int x2), (3, .int x3)] [] := by
    intro σ h
    unfold f_X11_sheet_66 at h
    refine V_aload_n C (dt_at dt_X11_sheet_0 36 rfl) 0 rfl rfl ?_
    refine g_X11_57_0 C (dt_at dt_X11_sheet_0 37 rfl) ?_
    refine V_iload_n C (dt_at dt_X11_sheet_0 38 rfl) 1 rfl rfl ?_
    refine V_iload_n C (dt_at dt_X11_sheet_0 39 rfl) 2 rfl rfl ?_
    obtain ⟨h23, h⟩ := chk_s h
    obtain ⟨σ22, eσ22, h⟩ := nm_s h
    refine V_st eσ22 ?_ (fun k => as_8 C h23 (dt_at dt_X11_sheet_1 0 rfl) k)
    refine V_aload_n C (dt_at dt_X11_sheet_1 1 rfl) 0 rfl rfl ?_
    refine g_X11_53_0 C (dt_at dt_X11_sheet_1 2 rfl) ?_
    refine V_iload_n C (dt_at dt_X11_sheet_1 3 rfl) 1 rfl rfl ?_
    refine V_aa7 C h23 (dt_at dt_X11_sheet_1 4 rfl) ?_
    have h24 : isRow (76 + 2 * x1.toNatClampNeg) = true := ok_7 h23
    refine V_iload_n C (dt_at dt_X11_sheet_1 5 rfl) 2 rfl rfl ?_
    refine V_if_ne C 87 (dt_at dt_X11_sheet_1 6 rfl) (by decide) (fun q25 => ?_) (fun q25 => ?_)
    · have h := ite_f q25 h
      refine V_iload_n C (dt_at dt_X11_sheet_1 9 rfl) 3 rfl rfl ?_
      refine V_sub [0, 1] (lv' := [(0, .ref (ga G 0)), (1, .int x1)]) rfl ?_
      exact J_88 x3 (76 + 2 * x1.toNatClampNeg) σ22 h24 h
    · have h := ite_t q25 h
      refine V_iconst C 0 (dt_at dt_X11_sheet_1 7 rfl) (by decide) ?_
      refine V_goto C 88 (dt_at dt_X11_sheet_1 8 rfl) (by decide) ?_
      refine V_sub [0, 1] (lv' := [(0, .ref (ga G 0)), (1, .int x1)]) rfl ?_
      exact J_88 0 (76 + 2 * x1.toNatClampNeg) σ22 h24 h
  have J_50 : ∀ (σ : St), f_X11_sheet_50 x1 x2 x3 σ = some (r0, σ0) → V X G 4 0 0 σ 50 [(0, .ref (ga G 0)), (1, .int x1), (2, .int x2), (3, .int x3)] [] := by
    intro σ h
    unfold f_X11_sheet_50 at h
    refine V_iload_n C (dt_at dt_X11_sheet_0 27 rfl) 2 rfl rfl ?_
    refine V_if_eq C 66 (dt_at dt_X11_sheet_0 28 rfl) (by decide) (fun q17 => ?_) (fun q17 => ?_)
    · have h := ite_t q17 h
      exact J_66 σ h
    · have h := ite_f q17 h
      refine V_iload_n C (dt_at dt_X11_sheet_0 29 rfl) 3 rfl rfl ?_
      refine V_bipush C 24 (dt_at dt_X11_sheet_0 30 rfl) (by decide) ?_
      refine V_icmp_le C 66 (dt_at dt_X11_sheet_0 31 rfl) (by decide) (fun q18 => ?_) (fun q18 => ?_)
      · have h := ite_f q18 h
        exact J_66 σ h
      · have h := ite_t q18 h
        refine V_aload_n C (dt_at dt_X11_sheet_0 32 rfl) 0 rfl rfl ?_
        refine V_iconst C 1 (dt_at dt_X11_sheet_0 33 rfl) (by decide) ?_
        obtain ⟨r19, σ21, e20, h⟩ := bd2_s h
        refine cv_X11_error C ww_193 1 e20 (Nat.le_of_ble_eq_true rfl) (Nat.le_of_ble_eq_true rfl) z0 (dt_at dt_X11_sheet_0 34 rfl) ?_
        obtain ⟨e1_, e2_⟩ := pin2 h
        subst e1_; subst e2_
        exact V_iret C hR (dt_at dt_X11_sheet_0 35 rfl)
  have J_36 : ∀ (σ : St), f_X11_sheet_36 x1 x2 x3 σ = some (r0, σ0) → V X G 4 0 0 σ 36 [(0, .ref (ga G 0)), (1, .int x1), (2, .int x2), (3, .int x3)] [] := by
    intro σ h
    unfold f_X11_sheet_36 at h
    refine V_iload_n C (dt_at dt_X11_sheet_0 19 rfl) 2 rfl rfl ?_
    refine V_if_eq C 50 (dt_at dt_X11_sheet_0 20 rfl) (by decide) (fun q12 => ?_) (fun q12 => ?_)
    · have h := ite_t q12 h
      exact J_50 σ h
    · have h := ite_f q12 h
      refine V_iload_n C (dt_at dt_X11_sheet_0 21 rfl) 3 rfl rfl ?_
      refine V_if_ge C 50 (dt_at dt_X11_sheet_0 22 rfl) (by decide) (fun q13 => ?_) (fun q13 => ?_)
      · have h := ite_f q13 h
        exact J_50 σ h
      · have h := ite_t q13 h
        refine V_aload_n C (dt_at dt_X11_sheet_0 23 rfl) 0 rfl rfl ?_
        refine V_iconst C 3 (dt_at dt_X11_sheet_0 24 rfl) (by decide) ?_
        obtain ⟨r14, σ16, e15, h⟩ := bd2_s h
        refine cv_X11_error C ww_193 3 e15 (Nat.le_of_ble_eq_true rfl) (Nat.le_of_ble_eq_true rfl) z0 (dt_at dt_X11_sheet_0 25 rfl) ?_
        obtain ⟨e1_, e2_⟩ := pin2 h
        subst e1_; subst e2_
        exact V_iret C hR (dt_at dt_X11_sheet_0 26 rfl)
  have J_30 : ∀ (σ : St), f_X11_sheet_30 σ = some (r0, σ0) → V X G 4 0 0 σ 30 [(0, .ref (ga G 0))] [] := by
    intro σ h
    unfold f_X11_sheet_30 at h
    refine V_aload_n C (dt_at dt_X11_sheet_0 15 rfl) 0 rfl rfl ?_
    refine V_iconst C 1 (dt_at dt_X11_sheet_0 16 rfl) (by decide) ?_
    obtain ⟨r9, σ11, e10, h⟩ := bd2_s h
    refine cv_X11_error C ww_193 1 e10 (Nat.le_of_ble_eq_true rfl) (Nat.le_of_ble_eq_true rfl) z0 (dt_at dt_X11_sheet_0 17 rfl) ?_
    obtain ⟨e1_, e2_⟩ := pin2 h
    subst e1_; subst e2_
    exact V_iret C hR (dt_at dt_X11_sheet_0 18 rfl)
  refine V_iload_n C (dt_at dt_X11_sheet_0 0 rfl) 1 rfl rfl ?_
  refine V_iconst C 4 (dt_at dt_X11_sheet_0 1 rfl) (by decide) ?_
  obtain ⟨r1, e2, h⟩ := bd_s h
  refine cv_X11_isWithin C ww_186 x1 4 e2 (Nat.le_of_ble_eq_true rfl) (Nat.le_of_ble_eq_true rfl) z0 (dt_at dt_X11_sheet_0 2 rfl) ?_
  refine V_if_eq C 30 (dt_at dt_X11_sheet_0 3 rfl) (by decide) (fun q4 => ?_) (fun q4 => ?_)
  · have h := ite_t q4 h
    refine V_sub [0] (lv' := [(0, .ref (ga G 0))]) rfl ?_
    exact J_30 σ h
  · have h := ite_f q4 h
    refine V_iload_n C (dt_at dt_X11_sheet_0 4 rfl) 2 rfl rfl ?_
    refine V_if_eq C 36 (dt_at dt_X11_sheet_0 5 rfl) (by decide) (fun q5 => ?_) (fun q5 => ?_)
    · have h := ite_t q5 h
      exact J_36 σ h
    · have h := ite_f q5 h
      refine V_iload_n C (dt_at dt_X11_sheet_0 6 rfl) 2 rfl rfl ?_
      refine V_bipush C 8 (dt_at dt_X11_sheet_0 7 rfl) (by decide) ?_
      refine V_icmp_eq C 36 (dt_at dt_X11_sheet_0 8 rfl) (by decide) (fun q6 => ?_) (fun q6 => ?_)
      · have h := ite_t q6 h
        exact J_36 σ h
      · have h := ite_f q6 h
        refine V_iload_n C (dt_at dt_X11_sheet_0 9 rfl) 2 rfl rfl ?_
        refine V_bipush C 16 (dt_at dt_X11_sheet_0 10 rfl) (by decide) ?_
        refine V_icmp_eq C 36 (dt_at dt_X11_sheet_0 11 rfl) (by decide) (fun q7 => ?_) (fun q7 => ?_)
        · have h := ite_t q7 h
          exact J_36 σ h
        · have h := ite_f q7 h
          refine V_iload_n C (dt_at dt_X11_sheet_0 12 rfl) 2 rfl rfl ?_
          refine V_bipush C 32 (dt_at dt_X11_sheet_0 13 rfl) (by decide) ?_
          refine V_icmp_eq C 36 (dt_at dt_X11_sheet_0 14 rfl) (by decide) (fun q8 => ?_) (fun q8 => ?_)
          · have h := ite_t q8 h
            exact J_36 σ h
          · have h := ite_f q8 h
            refine V_sub [0] (lv' := [(0, .ref (ga G 0))]) rfl ?_
            exact J_30 σ h
theorem cv_X11_sheet (C : Ck X G cc own nL d) {idx : Nat} (hlk : Cond.methodLink own idx yX11_sheet ∈ gtb) (x1 : Int32) (x2 : Int32) (x3 : Int32) {r0 : Int32} {σ0 : St} (e : f_X11_sheet x1 x2 x3 σ = some (r0, σ0)) (hdd : 3 ≤ d) (hroom : (rest.map fun v => v.category).sum ≤ 8) (hcs : cells ≤ (xR X).cells ∧ slots ≤ (xR X).slots) (hd : decode cc pc = .ok (.invokevirtual idx, 3)) (k : V X G nL cells slots σ0 (pc + 3) lv (.int r0 :: rest)) : V X G nL cells slots σ pc lv (.int x3 :: .int x2 :: .int x1 :: .ref (ga G 0) :: rest) := V_callV C (As := [.int x1, .int x2, .int x3]) (c_X11_sheet X.2.1 G x1 x2 x3 σ r0 σ0 e) cal_X11_sheet ww_385 ww_386 hlk rfl hdd (lt110 rfl) rfl rfl rfl hroom hcs hd k
theorem dt_X11_shift_0 : dtab cX11_shift [(0, .aload_n 0, 1), (1, .iload_n 1, 1), (2, .iload_n 2, 1), (3, .invokevirtual 154, 3), (6, .istore_n 3, 1), (7, .iload_n 3, 1), (8, .ifCond .eq 9, 3), (11, .aload_n 0, 1), (12, .iload_n 3, 1), (13, .invokevirtual 68, 3), (16, .ireturn, 1), (17, .aload_n 0, 1), (18, .getfield 12, 3), (21, .iload_n 1, 1), (22, .iload_n 2, 1), (23, .invokevirtual 158, 3), (26, .aload_n 0, 1), (27, .getfield 12, 3), (30, .getfield 145, 3), (33, .iload_n 1, 1), (34, .iaload, 1), (35, .ireturn, 1)] = true := by decide +kernel
theorem cal_X11_shift : Cal yX11_shift cX11_shift 4 (some .int) 2 := ⟨ww_389, ww_100, ⟨by decide, by decide, by decide⟩, by decide⟩
set_option maxHeartbeats 4000000 in
set_option maxRecDepth 100000 in
theorem c_X11_shift (l : Launch) (G : Gx) (x1 : Int32) (x2 : Int32) (σ : St) (r0 : Int32) (σ0 : St) (h : f_X11_shift x1 x2 σ = some (r0, σ0)) : MI l G yX11_shift cX11_shift 4 (some .int) 4 [.ref (ga G 0), .int x1, .int x2] σ (some (.int r0)) σ0 := by
  refine MI_of RX11 rfl (by decide) [(0, .ref (ga G 0)), (1, .int x1), (2, .int x2)] rfl (Nat.le_of_ble_eq_true rfl) ?_
  intro X hXl C hR
  unfold f_X11_shift at h
  refine V_aload_n C (dt_at dt_X11_shift_0 0 rfl) 0 rfl rfl ?_
  refine V_iload_n C (dt_at dt_X11_shift_0 1 rfl) 1 rfl rfl ?_
  refine V_iload_n C (dt_at dt_X11_shift_0 2 rfl) 2 rfl rfl ?_
  obtain ⟨r1, e2, h⟩ := bd_s h
  refine cv_X11_shiftError C ww_387 x1 x2 e2 (Nat.le_of_ble_eq_true rfl) (Nat.le_of_ble_eq_true rfl) z0 (dt_at dt_X11_shift_0 3 rfl) ?_
  refine V_istore_n C [1, 2, 3, 0] (lv' := [(0, .ref (ga G 0)), (1, .int x1), (2, .int x2), (3, .int r1)]) (dt_at dt_X11_shift_0 4 rfl) rfl (by decide) rfl ?_
  refine V_iload_n C (dt_at dt_X11_shift_0 5 rfl) 3 rfl rfl ?_
  refine V_if_eq C 17 (dt_at dt_X11_shift_0 6 rfl) (by decide) (fun q4 => ?_) (fun q4 => ?_)
  · have h := ite_t q4 h
    refine V_aload_n C (dt_at dt_X11_shift_0 11 rfl) 0 rfl rfl ?_
    refine g_X11_12_0 C (dt_at dt_X11_shift_0 12 rfl) ?_
    refine V_iload_n C (dt_at dt_X11_shift_0 13 rfl) 1 rfl rfl ?_
    refine V_iload_n C (dt_at dt_X11_shift_0 14 rfl) 2 rfl rfl ?_
    obtain ⟨σ7, e6, h⟩ := bd_s h
    refine cv_X4_delay C ww_388 x1 x2 e6 (Nat.le_of_ble_eq_true rfl) (Nat.le_of_ble_eq_true rfl) z0 (dt_at dt_X11_shift_0 15 rfl) ?_
    refine V_aload_n C (dt_at dt_X11_shift_0 16 rfl) 0 rfl rfl ?_
    refine g_X11_12_0 C (dt_at dt_X11_shift_0 17 rfl) ?_
    refine g_X11_145_1 C (dt_at dt_X11_shift_0 18 rfl) ?_
    refine V_iload_n C (dt_at dt_X11_shift_0 19 rfl) 1 rfl rfl ?_
    obtain ⟨h8, h⟩ := chk_s h
    refine al_13 C h8 (dt_at dt_X11_shift_0 20 rfl) ?_
    obtain ⟨e1_, e2_⟩ := pin2 h
    subst e1_; subst e2_
    exact V_iret C hR (dt_at dt_X11_shift_0 21 rfl)
  · have h := ite_f q4 h
    refine V_aload_n C (dt_at dt_X11_shift_0 7 rfl) 0 rfl rfl ?_
    refine V_iload_n C (dt_at dt_X11_shift_0 8 rfl) 3 rfl rfl ?_
    obtain ⟨r9, σ11, e10, h⟩ := bd2_s h
    refine cv_X11_error C ww_193 r1 e10 (Nat.le_of_ble_eq_true rfl) (Nat.le_of_ble_eq_true rfl) z0 (dt_at dt_X11_shift_0 9 rfl) ?_
    obtain ⟨e1_, e2_⟩ := pin2 h
    subst e1_; subst e2_
    exact V_iret C hR (dt_at dt_X11_shift_0 10 rfl)
theorem cv_X11_shift (C : Ck X G cc own nL d) {idx : Nat} (hlk : Cond.methodLink own idx yX11_shift ∈ gtb) (x1 : Int32) (x2 : Int32) {r0 : Int32} {σ0 : St} (e : f_X11_shift x1 x2 σ = some (r0, σ0)) (hdd : 5 ≤ d) (hroom : (rest.map fun v => v.category).sum ≤ 8) (hcs : cells ≤ (xR X).cells ∧ slots ≤ (xR X).slots) (hd : decode cc pc = .ok (.invokevirtual idx, 3)) (k : V X G nL cells slots σ0 (pc + 3) lv (.int r0 :: rest)) : V X G nL cells slots σ pc lv (.int x2 :: .int x1 :: .ref (ga G 0) :: rest) := V_callV C (As := [.int x1, .int x2]) (c_X11_shift X.2.1 G x1 x2 σ r0 σ0 e) cal_X11_shift ww_390 ww_391 hlk rfl hdd (lt110 rfl) rfl rfl rfl hroom hcs hd k
theorem dt_X11_tell_0 : dtab cX11_tell [(0, .aload_n 0, 1), (1, .getfield 12, 3), (4, .getfield 336, 3), (7, .getfield 189, 3), (10, .bipush 20, 2), (12, .if_icmp .lt 9, 3), (15, .aload_n 0, 1), (16, .iconst 4, 1), (17, .invokevirtual 68, 3), (20, .ireturn, 1), (21, .aload_n 0, 1), (22, .getfield 12, 3), (25, .getfield 336, 3), (28, .iload_n 1, 1), (29, .invokevirtual 192, 3), (32, .aload_n 0, 1), (33, .getfield 12, 3), (36, .getfield 336, 3), (39, .getfield 189, 3), (42, .ireturn, 1)] = true := by decide +kernel
theorem cal_X11_tell : Cal yX11_tell cX11_tell 2 (some .int) 1 := ⟨ww_392, ww_100, ⟨by decide, by decide, by decide⟩, by decide⟩
set_option maxHeartbeats 4000000 in
set_option maxRecDepth 100000 in
theorem c_X11_tell (l : Launch) (G : Gx) (x1 : Int32) (σ : St) (r0 : Int32) (σ0 : St) (h : f_X11_tell x1 σ = some (r0, σ0)) : MI l G yX11_tell cX11_tell 2 (some .int) 2 [.ref (ga G 0), .int x1] σ (some (.int r0)) σ0 := by
  refine MI_of RX11 rfl (by decide) [(0, .ref (ga G 0)), (1, .int x1)] rfl (Nat.le_of_ble_eq_true rfl) ?_
  intro X hXl C hR
  unfold f_X11_tell at h
  refine V_aload_n C (dt_at dt_X11_tell_0 0 rfl) 0 rfl rfl ?_
  refine g_X11_12_0 C (dt_at dt_X11_tell_0 1 rfl) ?_
  refine g_X11_336_1 C (dt_at dt_X11_tell_0 2 rfl) ?_
  refine g_X11_189_54 C (dt_at dt_X11_tell_0 3 rfl) ?_
  refine V_bipush C 20 (dt_at dt_X11_tell_0 4 rfl) (by decide) ?_
  refine V_icmp_lt C 21 (dt_at dt_X11_tell_0 5 rfl) (by decide) (fun q1 => ?_) (fun q1 => ?_)
  · have h := ite_t q1 h
    refine V_aload_n C (dt_at dt_X11_tell_0 10 rfl) 0 rfl rfl ?_
    refine g_X11_12_0 C (dt_at dt_X11_tell_0 11 rfl) ?_
    refine g_X11_336_1 C (dt_at dt_X11_tell_0 12 rfl) ?_
    refine V_iload_n C (dt_at dt_X11_tell_0 13 rfl) 1 rfl rfl ?_
    obtain ⟨σ4, e3, h⟩ := bd_s h
    refine cv_X7_add C ww_295 54 x1 e3 (Nat.le_of_ble_eq_true rfl) (Nat.le_of_ble_eq_true rfl) z0 (dt_at dt_X11_tell_0 14 rfl) ?_
    refine V_aload_n C (dt_at dt_X11_tell_0 15 rfl) 0 rfl rfl ?_
    refine g_X11_12_0 C (dt_at dt_X11_tell_0 16 rfl) ?_
    refine g_X11_336_1 C (dt_at dt_X11_tell_0 17 rfl) ?_
    refine g_X11_189_54 C (dt_at dt_X11_tell_0 18 rfl) ?_
    obtain ⟨e1_, e2_⟩ := pin2 h
    subst e1_; subst e2_
    exact V_iret C hR (dt_at dt_X11_tell_0 19 rfl)
  · have h := ite_f q1 h
    refine V_aload_n C (dt_at dt_X11_tell_0 6 rfl) 0 rfl rfl ?_
    refine V_iconst C 4 (dt_at dt_X11_tell_0 7 rfl) (by decide) ?_
    obtain ⟨r5, σ7, e6, h⟩ := bd2_s h
    refine cv_X11_error C ww_193 4 e6 (Nat.le_of_ble_eq_true rfl) (Nat.le_of_ble_eq_true rfl) z0 (dt_at dt_X11_tell_0 8 rfl) ?_
    obtain ⟨e1_, e2_⟩ := pin2 h
    subst e1_; subst e2_
    exact V_iret C hR (dt_at dt_X11_tell_0 9 rfl)
theorem cv_X11_tell (C : Ck X G cc own nL d) {idx : Nat} (hlk : Cond.methodLink own idx yX11_tell ∈ gtb) (x1 : Int32) {r0 : Int32} {σ0 : St} (e : f_X11_tell x1 σ = some (r0, σ0)) (hdd : 3 ≤ d) (hroom : (rest.map fun v => v.category).sum ≤ 8) (hcs : cells ≤ (xR X).cells ∧ slots ≤ (xR X).slots) (hd : decode cc pc = .ok (.invokevirtual idx, 3)) (k : V X G nL cells slots σ0 (pc + 3) lv (.int r0 :: rest)) : V X G nL cells slots σ pc lv (.int x1 :: .ref (ga G 0) :: rest) := V_callV C (As := [.int x1]) (c_X11_tell X.2.1 G x1 σ r0 σ0 e) cal_X11_tell ww_393 ww_394 hlk rfl hdd (lt110 rfl) rfl rfl rfl hroom hcs hd k
theorem dt_X5_next_0 : dtab cX5_next [(0, .aload_n 0, 1), (1, .getfield 29, 3), (4, .aload_n 0, 1), (5, .getfield 20, 3), (8, .getfield 41, 3), (11, .if_icmp .ge 18, 3), (14, .aload_n 0, 1), (15, .getfield 20, 3), (18, .getfield 54, 3), (21, .aload_n 0, 1), (22, .getfield 29, 3), (25, .iaload, 1), (26, .goto 4, 3), (29, .iconst (-1), 1), (30, .ireturn, 1)] = true := by decide +kernel
theorem cal_X5_next : Cal yX5_next cX5_next 1 (some .int) 0 := ⟨ww_399, ww_400, ⟨by decide, by decide, by decide⟩, by decide⟩
set_option maxHeartbeats 4000000 in
set_option maxRecDepth 100000 in
theorem c_X5_next (l : Launch) (G : Gx) (σ : St) (r0 : Int32) (h : f_X5_next σ = some r0) : MI l G yX5_next cX5_next 1 (some .int) 1 [.ref (ga G 5)] σ (some (.int r0)) σ := by
  refine MI_of RX5 rfl (by decide) [(0, .ref (ga G 5))] rfl (Nat.le_of_ble_eq_true rfl) ?_
  intro X hXl C hR
  unfold f_X5_next at h
  refine V_aload_n C (dt_at dt_X5_next_0 0 rfl) 0 rfl rfl ?_
  refine g_X5_29_5 C (dt_at dt_X5_next_0 1 rfl) ?_
  refine V_aload_n C (dt_at dt_X5_next_0 2 rfl) 0 rfl rfl ?_
  refine g_X5_20_5 C (dt_at dt_X5_next_0 3 rfl) ?_
  obtain ⟨h1, h⟩ := chk_s h
  refine gw_X5_41 C (K := (rc σ 5 1)) h1 (dt_at dt_X5_next_0 4 rfl) ?_
  refine V_icmp_ge C 29 (dt_at dt_X5_next_0 5 rfl) (by decide) (fun q2 => ?_) (fun q2 => ?_)
  · have h := ite_f q2 h
    refine V_iconst C (-1) (dt_at dt_X5_next_0 13 rfl) (by decide) ?_
    have e1_ := Option.some.inj h
    subst e1_
    exact V_iret C hR (dt_at dt_X5_next_0 14 rfl)
  · have h := ite_t q2 h
    refine V_aload_n C (dt_at dt_X5_next_0 6 rfl) 0 rfl rfl ?_
    refine g_X5_20_5 C (dt_at dt_X5_next_0 7 rfl) ?_
    refine gw_X5_54 C (K := (rc σ 5 1)) h1 (dt_at dt_X5_next_0 8 rfl) ?_
    refine V_aload_n C (dt_at dt_X5_next_0 9 rfl) 0 rfl rfl ?_
    refine g_X5_29_5 C (dt_at dt_X5_next_0 10 rfl) ?_
    obtain ⟨h3, h⟩ := chk_s h
    refine V_iald C (K := (rc σ 5 1) + 1) (isRowA_lt h1) (lay_rowA G h1 (_) _) h3 (dt_at dt_X5_next_0 11 rfl) ?_
    refine V_goto C 30 (dt_at dt_X5_next_0 12 rfl) (by decide) ?_
    have e1_ := Option.some.inj h
    subst e1_
    exact V_iret C hR (dt_at dt_X5_next_0 14 rfl)
theorem cv_X5_next (C : Ck X G cc own nL d) {idx : Nat} (hlk : Cond.methodLink own idx yX5_next ∈ gtb) {r0 : Int32} (e : f_X5_next σ = some r0) (hdd : 2 ≤ d) (hroom : (rest.map fun v => v.category).sum ≤ 8) (hcs : cells ≤ (xR X).cells ∧ slots ≤ (xR X).slots) (hd : decode cc pc = .ok (.invokevirtual idx, 3)) (k : V X G nL cells slots σ (pc + 3) lv (.int r0 :: rest)) : V X G nL cells slots σ pc lv (.ref (ga G 5) :: rest) := V_callV C (As := []) (c_X5_next X.2.1 G  σ r0 e) cal_X5_next ww_401 ww_402 hlk rfl hdd (lt110 rfl) rfl rfl rfl hroom hcs hd k
theorem dt_X5_isDigit_0 : dtab cX5_isDigit [(0, .iload_n 0, 1), (1, .bipush 48, 2), (3, .if_icmp .lt 13, 3), (6, .iload_n 0, 1), (7, .bipush 57, 2), (9, .if_icmp .gt 7, 3), (12, .iconst 1, 1), (13, .goto 4, 3), (16, .iconst 0, 1), (17, .ireturn, 1)] = true := by decide +kernel
theorem cal_X5_isDigit : Cal yX5_isDigit cX5_isDigit 1 (some .boolean) 1 := ⟨ww_403, ww_400, ⟨by decide, by decide, by decide⟩, by decide⟩
set_option maxHeartbeats 4000000 in
set_option maxRecDepth 100000 in
theorem c_X5_isDigit (l : Launch) (G : Gx) (x0 : Int32) (σ : St) (r0 : Int32) (h : f_X5_isDigit x0 = some r0) : MI l G yX5_isDigit cX5_isDigit 1 (some .boolean) 1 [.int x0] σ (some (.int r0)) σ := by
  refine MI_of RX5 rfl (by decide) [(0, .int x0)] rfl (Nat.le_of_ble_eq_true rfl) ?_
  intro X hXl C hR
  unfold f_X5_isDigit at h
  refine V_iload_n C (dt_at dt_X5_isDigit_0 0 rfl) 0 rfl rfl ?_
  refine V_bipush C 48 (dt_at dt_X5_isDigit_0 1 rfl) (by decide) ?_
  refine V_icmp_lt C 16 (dt_at dt_X5_isDigit_0 2 rfl) (by decide) (fun q1 => ?_) (fun q1 => ?_)
  · have h := ite_t q1 h
    refine V_iconst C 0 (dt_at dt_X5_isDigit_0 8 rfl) (by decide) ?_
    have e1_ := Option.some.inj h
    subst e1_
    exact V_zret C rfl hR (dt_at dt_X5_isDigit_0 9 rfl)
  · have h := ite_f q1 h
    refine V_iload_n C (dt_at dt_X5_isDigit_0 3 rfl) 0 rfl rfl ?_
    refine V_bipush C 57 (dt_at dt_X5_isDigit_0 4 rfl) (by decide) ?_
    refine V_icmp_gt C 16 (dt_at dt_X5_isDigit_0 5 rfl) (by decide) (fun q2 => ?_) (fun q2 => ?_)
    · have h := ite_t q2 h
      refine V_iconst C 0 (dt_at dt_X5_isDigit_0 8 rfl) (by decide) ?_
      have e1_ := Option.some.inj h
      subst e1_
      exact V_zret C rfl hR (dt_at dt_X5_isDigit_0 9 rfl)
    · have h := ite_f q2 h
      refine V_iconst C 1 (dt_at dt_X5_isDigit_0 6 rfl) (by decide) ?_
      refine V_goto C 17 (dt_at dt_X5_isDigit_0 7 rfl) (by decide) ?_
      have e1_ := Option.some.inj h
      subst e1_
      exact V_zret C rfl hR (dt_at dt_X5_isDigit_0 9 rfl)
theorem cv_X5_isDigit (C : Ck X G cc own nL d) {idx : Nat} (hlk : Cond.methodLink own idx yX5_isDigit ∈ gtb) (x0 : Int32) {r0 : Int32} (e : f_X5_isDigit x0 = some r0) (hdd : 2 ≤ d) (hroom : (rest.map fun v => v.category).sum ≤ 8) (hcs : cells ≤ (xR X).cells ∧ slots ≤ (xR X).slots) (hd : decode cc pc = .ok (.invokestatic idx, 3)) (k : V X G nL cells slots σ (pc + 3) lv (.int r0 :: rest)) : V X G nL cells slots σ pc lv (.int x0 :: rest) := V_callS C (As := [.int x0]) (c_X5_isDigit X.2.1 G x0 σ r0 e) cal_X5_isDigit ww_404 hlk rfl hdd rfl hroom hcs hd k
theorem dt_X5_readNumber_0 : dtab cX5_readNumber [(0, .iconst 0, 1), (1, .istore_n 1, 1), (2, .iconst 0, 1), (3, .istore_n 2, 1), (4, .iload_n 2, 1), (5, .iconst 4, 1), (6, .if_icmp .ge 42, 3), (9, .aload_n 0, 1), (10, .invokevirtual 61, 3), (13, .invokestatic 72, 3), (16, .ifCond .eq 32, 3), (19, .iload_n 1, 1), (20, .bipush 10, 2), (22, .imul, 1), (23, .aload_n 0, 1), (24, .invokevirtual 61, 3), (27, .iadd, 1), (28, .bipush 48, 2), (30, .isub, 1), (31, .istore_n 1, 1), (32, .aload_n 0, 1), (33, .dup, 1), (34, .getfield 29, 3), (37, .iconst 1, 1), (38, .iadd, 1), (39, .putfield 29, 3), (42, .iinc 2 1, 3), (45, .goto (-41), 3), (48, .aload_n 0, 1), (49, .getfield 14, 3), (52, .sipush 256, 3), (55, .iload_n 1, 1), (56, .iadd, 1), (57, .invokevirtual 69, 3), (60, .return_, 1)] = true := by decide +kernel
theorem cal_X5_readNumber : Cal yX5_readNumber cX5_readNumber 3 none 0 := ⟨ww_409, ww_400, ⟨by decide, by decide, by decide⟩, by decide⟩
set_option maxHeartbeats 4000000 in
set_option maxRecDepth 100000 in
theorem c_X5_readNumber (l : Launch) (G : Gx) (σ : St) (σ0 : St) (h : f_X5_readNumber σ = some σ0) : MI l G yX5_readNumber cX5_readNumber 3 none 2 [.ref (ga G 5)] σ none σ0 := by
  refine MI_of RX5 rfl (by decide) [(0, .ref (ga G 5))] rfl (Nat.le_of_ble_eq_true rfl) ?_
  intro X hXl C hR
  unfold f_X5_readNumber at h
  have J_48 : ∀ (x1 : Int32) (σ : St), f_X5_readNumber_48 x1 σ = some σ0 → V X G 3 0 0 σ 48 [(0, .ref (ga G 5)), (1, .int x1)] [] := by
    intro x1 σ h
    unfold f_X5_readNumber_48 at h
    refine V_aload_n C (dt_at dt_X5_readNumber_0 28 rfl) 0 rfl rfl ?_
    refine g_X5_14_5 C (dt_at dt_X5_readNumber_0 29 rfl) ?_
    refine V_sipush C 256 (dt_at dt_X5_readNumber_0 30 rfl) (by decide) ?_
    refine V_iload_n C (dt_at dt_X5_readNumber_0 31 rfl) 1 rfl rfl ?_
    refine V_iadd C (dt_at dt_X5_readNumber_0 32 rfl) ?_
    obtain ⟨σ17, e16, h⟩ := bd_s h
    refine cv_X7_add C ww_408 72 (256 + x1) e16 (Nat.le_of_ble_eq_true rfl) (Nat.le_of_ble_eq_true rfl) z0 (dt_at dt_X5_readNumber_0 33 rfl) ?_
    have e1_ := Option.some.inj h
    subst e1_
    exact V_vret C hR (dt_at dt_X5_readNumber_0 34 rfl)
  have J_4 : ∀ (x1 : Int32) (x2 : Int32) (σ : St), f_X5_readNumber_4 x1 x2 σ = some σ0 → V X G 3 0 0 σ 4 [(0, .ref (ga G 5)), (1, .int x1), (2, .int x2)] [] := by
    intro x1 x2 σ h
    refine it_v (P := fun z : Int32 × Int32 × St => V X G 3 0 0 z.2.2 4 [(0, .ref (ga G 5)), (1, .int z.1), (2, .int z.2.1)] []) ?_ (x1, x2, σ) h
    clear h
    intro z w_4 h ih_4 ex_4
    obtain ⟨x1, x2, σ⟩ := z
    have h : b_X5_readNumber_4 x1 x2 σ = some w_4 := h
    show V X G 3 0 0 σ 4 [(0, .ref (ga G 5)), (1, .int x1), (2, .int x2)] []
    unfold b_X5_readNumber_4 at h
    refine V_iload_n C (dt_at dt_X5_readNumber_0 4 rfl) 2 rfl rfl ?_
    refine V_iconst C 4 (dt_at dt_X5_readNumber_0 5 rfl) (by decide) ?_
    refine V_icmp_ge C 48 (dt_at dt_X5_readNumber_0 6 rfl) (by decide) (fun q1 => ?_) (fun q1 => ?_)
    · have h := ite_f q1 h
      refine V_sub [0, 1] (lv' := [(0, .ref (ga G 5)), (1, .int x1)]) rfl ?_
      obtain ⟨t2, h, e_4⟩ := map_s h
      have e_4 := ex_4 _ e_4
      rw [e_4] at h
      exact J_48 x1 σ h
    · have h := ite_t q1 h
      refine V_aload_n C (dt_at dt_X5_readNumber_0 7 rfl) 0 rfl rfl ?_
      obtain ⟨r3, e4, h⟩ := bd_s h
      refine cv_X5_next C ww_405  e4 (Nat.le_of_ble_eq_true rfl) (Nat.le_of_ble_eq_true rfl) z0 (dt_at dt_X5_readNumber_0 8 rfl) ?_
      obtain ⟨r6, e7, h⟩ := bd_s h
      refine cv_X5_isDigit C ww_406 r3 e7 (Nat.le_of_ble_eq_true rfl) (Nat.le_of_ble_eq_true rfl) z0 (dt_at dt_X5_readNumber_0 9 rfl) ?_
      refine V_if_eq C 48 (dt_at dt_X5_readNumber_0 10 rfl) (by decide) (fun q9 => ?_) (fun q9 => ?_)
      · have h := ite_t q9 h
        refine V_sub [0, 1] (lv' := [(0, .ref (ga G 5)), (1, .int x1)]) rfl ?_
        obtain ⟨t10, h, e_4⟩ := map_s h
        have e_4 := ex_4 _ e_4
        rw [e_4] at h
        exact J_48 x1 σ h
      · have h := ite_f q9 h
        refine V_iload_n C (dt_at dt_X5_readNumber_0 11 rfl) 1 rfl rfl ?_
        refine V_bipush C 10 (dt_at dt_X5_readNumber_0 12 rfl) (by decide) ?_
        refine V_imul C (dt_at dt_X5_readNumber_0 13 rfl) ?_
        refine V_aload_n C (dt_at dt_X5_readNumber_0 14 rfl) 0 rfl rfl ?_
        obtain ⟨r11, e12, h⟩ := bd_s h
        refine cv_X5_next C ww_405  e12 (Nat.le_of_ble_eq_true rfl) (Nat.le_of_ble_eq_true rfl) z0 (dt_at dt_X5_readNumber_0 15 rfl) ?_
        refine V_iadd C (dt_at dt_X5_readNumber_0 16 rfl) ?_
        refine V_bipush C 48 (dt_at dt_X5_readNumber_0 17 rfl) (by decide) ?_
        refine V_isub C (dt_at dt_X5_readNumber_0 18 rfl) ?_
        refine V_istore_n C [1, 0, 2] (lv' := [(0, .ref (ga G 5)), (1, .int (((x1 * 10) + r11) - 48)), (2, .int x2)]) (dt_at dt_X5_readNumber_0 19 rfl) rfl (by decide) rfl ?_
        refine V_aload_n C (dt_at dt_X5_readNumber_0 20 rfl) 0 rfl rfl ?_
        refine V_dup C (dt_at dt_X5_readNumber_0 21 rfl) rfl ?_
        refine g_X5_29_5 C (dt_at dt_X5_readNumber_0 22 rfl) ?_
        refine V_iconst C 1 (dt_at dt_X5_readNumber_0 23 rfl) (by decide) ?_
        refine V_iadd C (dt_at dt_X5_readNumber_0 24 rfl) ?_
        obtain ⟨σ14, eσ14, h⟩ := nm_s h
        refine V_st eσ14 ?_ (fun k => p_X5_29_5 C (dt_at dt_X5_readNumber_0 25 rfl) k)
        refine V_iinc C (x2 + 1) 2 [1, 2, 0] (lv' := [(0, .ref (ga G 5)), (1, .int (((x1 * 10) + r11) - 48)), (2, .int (x2 + 1))]) (dt_at dt_X5_readNumber_0 26 rfl) rfl (by rfl) (by decide) rfl ?_
        refine V_goto C 4 (dt_at dt_X5_readNumber_0 27 rfl) (by decide) ?_
        exact ih_4 ((((x1 * 10) + r11) - 48), (x2 + 1), σ14) (Option.some.inj h).symm
  refine V_iconst C 0 (dt_at dt_X5_readNumber_0 0 rfl) (by decide) ?_
  refine V_istore_n C [1, 0] (lv' := [(0, .ref (ga G 5)), (1, .int 0)]) (dt_at dt_X5_readNumber_0 1 rfl) rfl (by decide) rfl ?_
  refine V_iconst C 0 (dt_at dt_X5_readNumber_0 2 rfl) (by decide) ?_
  refine V_istore_n C [1, 2, 0] (lv' := [(0, .ref (ga G 5)), (1, .int 0), (2, .int 0)]) (dt_at dt_X5_readNumber_0 3 rfl) rfl (by decide) rfl ?_
  exact J_4 0 0 σ h
theorem cv_X5_readNumber (C : Ck X G cc own nL d) {idx : Nat} (hlk : Cond.methodLink own idx yX5_readNumber ∈ gtb) {σ0 : St} (e : f_X5_readNumber σ = some σ0) (hdd : 3 ≤ d) (hroom : (rest.map fun v => v.category).sum ≤ 8) (hcs : cells ≤ (xR X).cells ∧ slots ≤ (xR X).slots) (hd : decode cc pc = .ok (.invokevirtual idx, 3)) (k : V X G nL cells slots σ0 (pc + 3) lv (rest)) : V X G nL cells slots σ pc lv (.ref (ga G 5) :: rest) := V_callV C (As := []) (c_X5_readNumber X.2.1 G  σ σ0 e) cal_X5_readNumber ww_410 ww_411 hlk rfl hdd (lt110 rfl) rfl rfl rfl hroom hcs hd k
theorem dt_X5_readClosing_0 : dtab cX5_readClosing [(0, .aload_n 0, 1), (1, .getfield 33, 3), (4, .ifCond .ne 12, 3), (7, .aload_n 0, 1), (8, .invokevirtual 61, 3), (11, .bipush 41, 2), (13, .if_icmp .eq 11, 3), (16, .aload_n 0, 1), (17, .iconst 1, 1), (18, .putfield 33, 3), (21, .goto 13, 3), (24, .aload_n 0, 1), (25, .dup, 1), (26, .getfield 29, 3), (29, .iconst 1, 1), (30, .iadd, 1), (31, .putfield 29, 3), (34, .return_, 1)] = true := by decide +kernel
theorem cal_X5_readClosing : Cal yX5_readClosing cX5_readClosing 1 none 0 := ⟨ww_413, ww_400, ⟨by decide, by decide, by decide⟩, by decide⟩
set_option maxHeartbeats 4000000 in
set_option maxRecDepth 100000 in
theorem c_X5_readClosing (l : Launch) (G : Gx) (σ : St) (σ0 : St) (h : f_X5_readClosing σ = some σ0) : MI l G yX5_readClosing cX5_readClosing 1 none 2 [.ref (ga G 5)] σ none σ0 := by
  refine MI_of RX5 rfl (by decide) [(0, .ref (ga G 5))] rfl (Nat.le_of_ble_eq_true rfl) ?_
  intro X hXl C hR
  unfold f_X5_readClosing at h
  have J_16 : ∀ (σ : St), f_X5_readClosing_16 σ = some σ0 → V X G 1 0 0 σ 16 [(0, .ref (ga G 5))] [] := by
    intro σ h
    unfold f_X5_readClosing_16 at h
    refine V_aload_n C (dt_at dt_X5_readClosing_0 7 rfl) 0 rfl rfl ?_
    refine V_iconst C 1 (dt_at dt_X5_readClosing_0 8 rfl) (by decide) ?_
    obtain ⟨σ7, eσ7, h⟩ := nm_s h
    refine V_st eσ7 ?_ (fun k => p_X5_33_5 C rfl rfl (dt_at dt_X5_readClosing_0 9 rfl) k)
    refine V_goto C 34 (dt_at dt_X5_readClosing_0 10 rfl) (by decide) ?_
    have e1_ := Option.some.inj h
    subst e1_
    exact V_vret C hR (dt_at dt_X5_readClosing_0 17 rfl)
  refine V_aload_n C (dt_at dt_X5_readClosing_0 0 rfl) 0 rfl rfl ?_
  refine g_X5_33_5 C (dt_at dt_X5_readClosing_0 1 rfl) ?_
  refine V_if_ne C 16 (dt_at dt_X5_readClosing_0 2 rfl) (by decide) (fun q1 => ?_) (fun q1 => ?_)
  · have h := ite_f q1 h
    exact J_16 σ h
  · have h := ite_t q1 h
    refine V_aload_n C (dt_at dt_X5_readClosing_0 3 rfl) 0 rfl rfl ?_
    obtain ⟨r2, e3, h⟩ := bd_s h
    refine cv_X5_next C ww_405  e3 (Nat.le_of_ble_eq_true rfl) (Nat.le_of_ble_eq_true rfl) z0 (dt_at dt_X5_readClosing_0 4 rfl) ?_
    refine V_bipush C 41 (dt_at dt_X5_readClosing_0 5 rfl) (by decide) ?_
    refine V_icmp_eq C 24 (dt_at dt_X5_readClosing_0 6 rfl) (by decide) (fun q5 => ?_) (fun q5 => ?_)
    · have h := ite_t q5 h
      refine V_aload_n C (dt_at dt_X5_readClosing_0 11 rfl) 0 rfl rfl ?_
      refine V_dup C (dt_at dt_X5_readClosing_0 12 rfl) rfl ?_
      refine g_X5_29_5 C (dt_at dt_X5_readClosing_0 13 rfl) ?_
      refine V_iconst C 1 (dt_at dt_X5_readClosing_0 14 rfl) (by decide) ?_
      refine V_iadd C (dt_at dt_X5_readClosing_0 15 rfl) ?_
      obtain ⟨σ6, eσ6, h⟩ := nm_s h
      refine V_st eσ6 ?_ (fun k => p_X5_29_5 C (dt_at dt_X5_readClosing_0 16 rfl) k)
      have e1_ := Option.some.inj h
      subst e1_
      exact V_vret C hR (dt_at dt_X5_readClosing_0 17 rfl)
    · have h := ite_f q5 h
      exact J_16 σ h
theorem cv_X5_readClosing (C : Ck X G cc own nL d) {idx : Nat} (hlk : Cond.methodLink own idx yX5_readClosing ∈ gtb) {σ0 : St} (e : f_X5_readClosing σ = some σ0) (hdd : 3 ≤ d) (hroom : (rest.map fun v => v.category).sum ≤ 8) (hcs : cells ≤ (xR X).cells ∧ slots ≤ (xR X).slots) (hd : decode cc pc = .ok (.invokevirtual idx, 3)) (k : V X G nL cells slots σ0 (pc + 3) lv (rest)) : V X G nL cells slots σ pc lv (.ref (ga G 5) :: rest) := V_callV C (As := []) (c_X5_readClosing X.2.1 G  σ σ0 e) cal_X5_readClosing ww_414 ww_415 hlk rfl hdd (lt110 rfl) rfl rfl rfl hroom hcs hd k
theorem dt_X5_levelOf_0 : dtab cX5_levelOf [(0, .iload_n 0, 1), (1, .lookupswitch 101 #[(37, 99), (38, 93), (42, 99), (43, 97), (45, 97), (47, 99), (60, 95), (61, 95), (62, 95), (124, 91)], 91), (92, .iconst 0, 1), (93, .ireturn, 1), (94, .iconst 1, 1), (95, .ireturn, 1), (96, .iconst 2, 1), (97, .ireturn, 1), (98, .iconst 3, 1), (99, .ireturn, 1), (100, .iconst 4, 1), (101, .ireturn, 1), (102, .iconst (-1), 1), (103, .ireturn, 1)] = true := by decide +kernel
theorem cal_X5_levelOf : Cal yX5_levelOf cX5_levelOf 1 (some .int) 1 := ⟨ww_416, ww_400, ⟨by decide, by decide, by decide⟩, by decide⟩
set_option maxHeartbeats 4000000 in
set_option maxRecDepth 100000 in
theorem c_X5_levelOf (l : Launch) (G : Gx) (x0 : Int32) (σ : St) (r0 : Int32) (h : f_X5_levelOf x0 = some r0) : MI l G yX5_levelOf cX5_levelOf 1 (some .int) 1 [.int x0] σ (some (.int r0)) σ := by
  refine MI_of RX5 rfl (by decide) [(0, .int x0)] rfl (Nat.le_of_ble_eq_true rfl) ?_
  intro X hXl C hR
  unfold f_X5_levelOf at h
  refine V_iload_n C (dt_at dt_X5_levelOf_0 0 rfl) 0 rfl rfl ?_
  by_cases q1 : x0 = 37
  · have h := ite_t q1 h
    refine V_lkp C 100 (dt_at dt_X5_levelOf_0 1 rfl) rfl (by rw [q1] <;> rfl) (by decide) ?_
    refine V_iconst C 4 (dt_at dt_X5_levelOf_0 10 rfl) (by decide) ?_
    have e1_ := Option.some.inj h
    subst e1_
    exact V_iret C hR (dt_at dt_X5_levelOf_0 11 rfl)
  replace h := ite_f q1 h
  by_cases q2 : x0 = 38
  · have h := ite_t q2 h
    refine V_lkp C 94 (dt_at dt_X5_levelOf_0 1 rfl) rfl (by rw [q2] <;> rfl) (by decide) ?_
    refine V_iconst C 1 (dt_at dt_X5_levelOf_0 4 rfl) (by decide) ?_
    have e1_ := Option.some.inj h
    subst e1_
    exact V_iret C hR (dt_at dt_X5_levelOf_0 5 rfl)
  replace h := ite_f q2 h
  by_cases q3 : x0 = 42
  · have h := ite_t q3 h
    refine V_lkp C 100 (dt_at dt_X5_levelOf_0 1 rfl) rfl (by rw [q3] <;> rfl) (by decide) ?_
    refine V_iconst C 4 (dt_at dt_X5_levelOf_0 10 rfl) (by decide) ?_
    have e1_ := Option.some.inj h
    subst e1_
    exact V_iret C hR (dt_at dt_X5_levelOf_0 11 rfl)
  replace h := ite_f q3 h
  by_cases q4 : x0 = 43
  · have h := ite_t q4 h
    refine V_lkp C 98 (dt_at dt_X5_levelOf_0 1 rfl) rfl (by rw [q4] <;> rfl) (by decide) ?_
    refine V_iconst C 3 (dt_at dt_X5_levelOf_0 8 rfl) (by decide) ?_
    have e1_ := Option.some.inj h
    subst e1_
    exact V_iret C hR (dt_at dt_X5_levelOf_0 9 rfl)
  replace h := ite_f q4 h
  by_cases q5 : x0 = 45
  · have h := ite_t q5 h
    refine V_lkp C 98 (dt_at dt_X5_levelOf_0 1 rfl) rfl (by rw [q5] <;> rfl) (by decide) ?_
    refine V_iconst C 3 (dt_at dt_X5_levelOf_0 8 rfl) (by decide) ?_
    have e1_ := Option.some.inj h
    subst e1_
    exact V_iret C hR (dt_at dt_X5_levelOf_0 9 rfl)
  replace h := ite_f q5 h
  by_cases q6 : x0 = 47
  · have h := ite_t q6 h
    refine V_lkp C 100 (dt_at dt_X5_levelOf_0 1 rfl) rfl (by rw [q6] <;> rfl) (by decide) ?_
    refine V_iconst C 4 (dt_at dt_X5_levelOf_0 10 rfl) (by decide) ?_
    have e1_ := Option.some.inj h
    subst e1_
    exact V_iret C hR (dt_at dt_X5_levelOf_0 11 rfl)
  replace h := ite_f q6 h
  by_cases q7 : x0 = 60
  · have h := ite_t q7 h
    refine V_lkp C 96 (dt_at dt_X5_levelOf_0 1 rfl) rfl (by rw [q7] <;> rfl) (by decide) ?_
    refine V_iconst C 2 (dt_at dt_X5_levelOf_0 6 rfl) (by decide) ?_
    have e1_ := Option.some.inj h
    subst e1_
    exact V_iret C hR (dt_at dt_X5_levelOf_0 7 rfl)
  replace h := ite_f q7 h
  by_cases q8 : x0 = 61
  · have h := ite_t q8 h
    refine V_lkp C 96 (dt_at dt_X5_levelOf_0 1 rfl) rfl (by rw [q8] <;> rfl) (by decide) ?_
    refine V_iconst C 2 (dt_at dt_X5_levelOf_0 6 rfl) (by decide) ?_
    have e1_ := Option.some.inj h
    subst e1_
    exact V_iret C hR (dt_at dt_X5_levelOf_0 7 rfl)
  replace h := ite_f q8 h
  by_cases q9 : x0 = 62
  · have h := ite_t q9 h
    refine V_lkp C 96 (dt_at dt_X5_levelOf_0 1 rfl) rfl (by rw [q9] <;> rfl) (by decide) ?_
    refine V_iconst C 2 (dt_at dt_X5_levelOf_0 6 rfl) (by decide) ?_
    have e1_ := Option.some.inj h
    subst e1_
    exact V_iret C hR (dt_at dt_X5_levelOf_0 7 rfl)
  replace h := ite_f q9 h
  by_cases q10 : x0 = 124
  · have h := ite_t q10 h
    refine V_lkp C 92 (dt_at dt_X5_levelOf_0 1 rfl) rfl (by rw [q10] <;> rfl) (by decide) ?_
    refine V_iconst C 0 (dt_at dt_X5_levelOf_0 2 rfl) (by decide) ?_
    have e1_ := Option.some.inj h
    subst e1_
    exact V_iret C hR (dt_at dt_X5_levelOf_0 3 rfl)
  replace h := ite_f q10 h
  refine V_lkp C (off := 101) 102 (dt_at dt_X5_levelOf_0 1 rfl) rfl ((lv_osw q1 (a := 37) rfl).trans ((lv_osw q2 (a := 38) rfl).trans ((lv_osw q3 (a := 42) rfl).trans ((lv_osw q4 (a := 43) rfl).trans ((lv_osw q5 (a := 45) rfl).trans ((lv_osw q6 (a := 47) rfl).trans ((lv_osw q7 (a := 60) rfl).trans ((lv_osw q8 (a := 61) rfl).trans ((lv_osw q9 (a := 62) rfl).trans ((lv_osw q10 (a := 124) rfl).trans (rfl))))))))))) (by decide) ?_
  refine V_iconst C (-1) (dt_at dt_X5_levelOf_0 12 rfl) (by decide) ?_
  have e1_ := Option.some.inj h
  subst e1_
  exact V_iret C hR (dt_at dt_X5_levelOf_0 13 rfl)
theorem cv_X5_levelOf (C : Ck X G cc own nL d) {idx : Nat} (hlk : Cond.methodLink own idx yX5_levelOf ∈ gtb) (x0 : Int32) {r0 : Int32} (e : f_X5_levelOf x0 = some r0) (hdd : 2 ≤ d) (hroom : (rest.map fun v => v.category).sum ≤ 8) (hcs : cells ≤ (xR X).cells ∧ slots ≤ (xR X).slots) (hd : decode cc pc = .ok (.invokestatic idx, 3)) (k : V X G nL cells slots σ (pc + 3) lv (.int r0 :: rest)) : V X G nL cells slots σ pc lv (.int x0 :: rest) := V_callS C (As := [.int x0]) (c_X5_levelOf X.2.1 G x0 σ r0 e) cal_X5_levelOf ww_417 hlk rfl hdd rfl hroom hcs hd k
theorem dt_X11_told_0 : dtab cX11_told [(0, .iload_n 1, 1), (1, .iconst 1, 1), (2, .if_icmp .lt 8, 3), (5, .iload_n 1, 1), (6, .iconst 5, 1), (7, .if_icmp .le 9, 3), (10, .aload_n 0, 1), (11, .iconst 1, 1), (12, .invokevirtual 68, 3), (15, .ireturn, 1), (16, .aload_n 0, 1), (17, .getfield 61, 3), (20, .iload_n 1, 1), (21, .iaload, 1), (22, .ireturn, 1)] = true := by decide +kernel
theorem cal_X11_told : Cal yX11_told cX11_told 2 (some .int) 1 := ⟨ww_418, ww_100, ⟨by decide, by decide, by decide⟩, by decide⟩
set_option maxHeartbeats 4000000 in
set_option maxRecDepth 100000 in
theorem c_X11_told (l : Launch) (G : Gx) (x1 : Int32) (σ : St) (r0 : Int32) (σ0 : St) (h : f_X11_told x1 σ = some (r0, σ0)) : MI l G yX11_told cX11_told 2 (some .int) 2 [.ref (ga G 0), .int x1] σ (some (.int r0)) σ0 := by
  refine MI_of RX11 rfl (by decide) [(0, .ref (ga G 0)), (1, .int x1)] rfl (Nat.le_of_ble_eq_true rfl) ?_
  intro X hXl C hR
  unfold f_X11_told at h
  have J_10 : ∀ (σ : St), f_X11_told_10 σ = some (r0, σ0) → V X G 2 0 0 σ 10 [(0, .ref (ga G 0))] [] := by
    intro σ h
    unfold f_X11_told_10 at h
    refine V_aload_n C (dt_at dt_X11_told_0 6 rfl) 0 rfl rfl ?_
    refine V_iconst C 1 (dt_at dt_X11_told_0 7 rfl) (by decide) ?_
    obtain ⟨r4, σ6, e5, h⟩ := bd2_s h
    refine cv_X11_error C ww_193 1 e5 (Nat.le_of_ble_eq_true rfl) (Nat.le_of_ble_eq_true rfl) z0 (dt_at dt_X11_told_0 8 rfl) ?_
    obtain ⟨e1_, e2_⟩ := pin2 h
    subst e1_; subst e2_
    exact V_iret C hR (dt_at dt_X11_told_0 9 rfl)
  refine V_iload_n C (dt_at dt_X11_told_0 0 rfl) 1 rfl rfl ?_
  refine V_iconst C 1 (dt_at dt_X11_told_0 1 rfl) (by decide) ?_
  refine V_icmp_lt C 10 (dt_at dt_X11_told_0 2 rfl) (by decide) (fun q1 => ?_) (fun q1 => ?_)
  · have h := ite_t q1 h
    refine V_sub [0] (lv' := [(0, .ref (ga G 0))]) rfl ?_
    exact J_10 σ h
  · have h := ite_f q1 h
    refine V_iload_n C (dt_at dt_X11_told_0 3 rfl) 1 rfl rfl ?_
    refine V_iconst C 5 (dt_at dt_X11_told_0 4 rfl) (by decide) ?_
    refine V_icmp_le C 16 (dt_at dt_X11_told_0 5 rfl) (by decide) (fun q2 => ?_) (fun q2 => ?_)
    · have h := ite_f q2 h
      refine V_aload_n C (dt_at dt_X11_told_0 10 rfl) 0 rfl rfl ?_
      refine g_X11_61_0 C (dt_at dt_X11_told_0 11 rfl) ?_
      refine V_iload_n C (dt_at dt_X11_told_0 12 rfl) 1 rfl rfl ?_
      obtain ⟨h3, h⟩ := chk_s h
      refine al_9 C h3 (dt_at dt_X11_told_0 13 rfl) ?_
      obtain ⟨e1_, e2_⟩ := pin2 h
      subst e1_; subst e2_
      exact V_iret C hR (dt_at dt_X11_told_0 14 rfl)
    · have h := ite_t q2 h
      refine V_sub [0] (lv' := [(0, .ref (ga G 0))]) rfl ?_
      exact J_10 σ h
theorem cv_X11_told (C : Ck X G cc own nL d) {idx : Nat} (hlk : Cond.methodLink own idx yX11_told ∈ gtb) (x1 : Int32) {r0 : Int32} {σ0 : St} (e : f_X11_told x1 σ = some (r0, σ0)) (hdd : 3 ≤ d) (hroom : (rest.map fun v => v.category).sum ≤ 8) (hcs : cells ≤ (xR X).cells ∧ slots ≤ (xR X).slots) (hd : decode cc pc = .ok (.invokevirtual idx, 3)) (k : V X G nL cells slots σ0 (pc + 3) lv (.int r0 :: rest)) : V X G nL cells slots σ pc lv (.int x1 :: .ref (ga G 0) :: rest) := V_callV C (As := [.int x1]) (c_X11_told X.2.1 G x1 σ r0 σ0 e) cal_X11_told ww_419 ww_420 hlk rfl hdd (lt110 rfl) rfl rfl rfl hroom hcs hd k
theorem dt_X11_trace_0 : dtab cX11_trace [(0, .iload_n 1, 1), (1, .aload_n 0, 1), (2, .getfield 49, 3), (5, .getfield 189, 3), (8, .invokestatic 79, 3), (11, .ifCond .ne 9, 3), (14, .aload_n 0, 1), (15, .iconst 2, 1), (16, .invokevirtual 68, 3), (19, .ireturn, 1), (20, .aload_n 0, 1), (21, .getfield 49, 3), (24, .getfield 239, 3), (27, .iload_n 1, 1), (28, .iaload, 1), (29, .ireturn, 1)] = true := by decide +kernel
theorem cal_X11_trace : Cal yX11_trace cX11_trace 2 (some .int) 1 := ⟨ww_421, ww_100, ⟨by decide, by decide, by decide⟩, by decide⟩
set_option maxHeartbeats 4000000 in
set_option maxRecDepth 100000 in
theorem c_X11_trace (l : Launch) (G : Gx) (x1 : Int32) (σ : St) (r0 : Int32) (σ0 : St) (h : f_X11_trace x1 σ = some (r0, σ0)) : MI l G yX11_trace cX11_trace 2 (some .int) 2 [.ref (ga G 0), .int x1] σ (some (.int r0)) σ0 := by
  refine MI_of RX11 rfl (by decide) [(0, .ref (ga G 0)), (1, .int x1)] rfl (Nat.le_of_ble_eq_true rfl) ?_
  intro X hXl C hR
  unfold f_X11_trace at h
  refine V_iload_n C (dt_at dt_X11_trace_0 0 rfl) 1 rfl rfl ?_
  refine V_aload_n C (dt_at dt_X11_trace_0 1 rfl) 0 rfl rfl ?_
  refine g_X11_49_0 C (dt_at dt_X11_trace_0 2 rfl) ?_
  refine g_X11_189_74 C (dt_at dt_X11_trace_0 3 rfl) ?_
  obtain ⟨r1, e2, h⟩ := bd_s h
  refine cv_X11_isWithin C ww_186 x1 (fd σ 74 1) e2 (Nat.le_of_ble_eq_true rfl) (Nat.le_of_ble_eq_true rfl) z0 (dt_at dt_X11_trace_0 4 rfl) ?_
  refine V_if_ne C 20 (dt_at dt_X11_trace_0 5 rfl) (by decide) (fun q4 => ?_) (fun q4 => ?_)
  · have h := ite_f q4 h
    refine V_aload_n C (dt_at dt_X11_trace_0 10 rfl) 0 rfl rfl ?_
    refine g_X11_49_0 C (dt_at dt_X11_trace_0 11 rfl) ?_
    refine g_X11_239_74 C (dt_at dt_X11_trace_0 12 rfl) ?_
    refine V_iload_n C (dt_at dt_X11_trace_0 13 rfl) 1 rfl rfl ?_
    obtain ⟨h5, h⟩ := chk_s h
    refine al_75 C h5 (dt_at dt_X11_trace_0 14 rfl) ?_
    obtain ⟨e1_, e2_⟩ := pin2 h
    subst e1_; subst e2_
    exact V_iret C hR (dt_at dt_X11_trace_0 15 rfl)
  · have h := ite_t q4 h
    refine V_aload_n C (dt_at dt_X11_trace_0 6 rfl) 0 rfl rfl ?_
    refine V_iconst C 2 (dt_at dt_X11_trace_0 7 rfl) (by decide) ?_
    obtain ⟨r6, σ8, e7, h⟩ := bd2_s h
    refine cv_X11_error C ww_193 2 e7 (Nat.le_of_ble_eq_true rfl) (Nat.le_of_ble_eq_true rfl) z0 (dt_at dt_X11_trace_0 8 rfl) ?_
    obtain ⟨e1_, e2_⟩ := pin2 h
    subst e1_; subst e2_
    exact V_iret C hR (dt_at dt_X11_trace_0 9 rfl)
theorem cv_X11_trace (C : Ck X G cc own nL d) {idx : Nat} (hlk : Cond.methodLink own idx yX11_trace ∈ gtb) (x1 : Int32) {r0 : Int32} {σ0 : St} (e : f_X11_trace x1 σ = some (r0, σ0)) (hdd : 3 ≤ d) (hroom : (rest.map fun v => v.category).sum ≤ 8) (hcs : cells ≤ (xR X).cells ∧ slots ≤ (xR X).slots) (hd : decode cc pc = .ok (.invokevirtual idx, 3)) (k : V X G nL cells slots σ0 (pc + 3) lv (.int r0 :: rest)) : V X G nL cells slots σ pc lv (.int x1 :: .ref (ga G 0) :: rest) := V_callV C (As := [.int x1]) (c_X11_trace X.2.1 G x1 σ r0 σ0 e) cal_X11_trace ww_422 ww_423 hlk rfl hdd (lt110 rfl) rfl rfl rfl hroom hcs hd k
theorem dt_X11_wish_0 : dtab cX11_wish [(0, .aload_n 0, 1), (1, .getfield 12, 3), (4, .iload_n 1, 1), (5, .invokevirtual 171, 3), (8, .ifCond .eq 14, 3), (11, .aload_n 0, 1), (12, .getfield 12, 3), (15, .iload_n 2, 1), (16, .invokevirtual 94, 3), (19, .ifCond .ne 9, 3), (22, .aload_n 0, 1), (23, .iconst 1, 1), (24, .invokevirtual 68, 3), (27, .ireturn, 1), (28, .aload_n 0, 1), (29, .getfield 21, 3), (32, .iload_n 1, 1), (33, .iload_n 2, 1), (34, .invokevirtual 183, 3), (37, .ireturn, 1)] = true := by decide +kernel
theorem cal_X11_wish : Cal yX11_wish cX11_wish 3 (some .int) 2 := ⟨ww_425, ww_100, ⟨by decide, by decide, by decide⟩, by decide⟩
set_option maxHeartbeats 4000000 in
set_option maxRecDepth 100000 in
theorem c_X11_wish (l : Launch) (G : Gx) (x1 : Int32) (x2 : Int32) (σ : St) (r0 : Int32) (σ0 : St) (h : f_X11_wish x1 x2 σ = some (r0, σ0)) : MI l G yX11_wish cX11_wish 3 (some .int) 4 [.ref (ga G 0), .int x1, .int x2] σ (some (.int r0)) σ0 := by
  refine MI_of RX11 rfl (by decide) [(0, .ref (ga G 0)), (1, .int x1), (2, .int x2)] rfl (Nat.le_of_ble_eq_true rfl) ?_
  intro X hXl C hR
  unfold f_X11_wish at h
  have J_22 : ∀ (σ : St), f_X11_wish_22 σ = some (r0, σ0) → V X G 3 0 0 σ 22 [(0, .ref (ga G 0))] [] := by
    intro σ h
    unfold f_X11_wish_22 at h
    refine V_aload_n C (dt_at dt_X11_wish_0 10 rfl) 0 rfl rfl ?_
    refine V_iconst C 1 (dt_at dt_X11_wish_0 11 rfl) (by decide) ?_
    obtain ⟨r12, σ14, e13, h⟩ := bd2_s h
    refine cv_X11_error C ww_193 1 e13 (Nat.le_of_ble_eq_true rfl) (Nat.le_of_ble_eq_true rfl) z0 (dt_at dt_X11_wish_0 12 rfl) ?_
    obtain ⟨e1_, e2_⟩ := pin2 h
    subst e1_; subst e2_
    exact V_iret C hR (dt_at dt_X11_wish_0 13 rfl)
  refine V_aload_n C (dt_at dt_X11_wish_0 0 rfl) 0 rfl rfl ?_
  refine g_X11_12_0 C (dt_at dt_X11_wish_0 1 rfl) ?_
  refine V_iload_n C (dt_at dt_X11_wish_0 2 rfl) 1 rfl rfl ?_
  obtain ⟨r1, e2, h⟩ := bd_s h
  refine cv_X4_hasPlayer C ww_209 x1 e2 (Nat.le_of_ble_eq_true rfl) (Nat.le_of_ble_eq_true rfl) z0 (dt_at dt_X11_wish_0 3 rfl) ?_
  refine V_if_eq C 22 (dt_at dt_X11_wish_0 4 rfl) (by decide) (fun q4 => ?_) (fun q4 => ?_)
  · have h := ite_t q4 h
    refine V_sub [0] (lv' := [(0, .ref (ga G 0))]) rfl ?_
    exact J_22 σ h
  · have h := ite_f q4 h
    refine V_aload_n C (dt_at dt_X11_wish_0 5 rfl) 0 rfl rfl ?_
    refine g_X11_12_0 C (dt_at dt_X11_wish_0 6 rfl) ?_
    refine V_iload_n C (dt_at dt_X11_wish_0 7 rfl) 2 rfl rfl ?_
    obtain ⟨r5, e6, h⟩ := bd_s h
    refine cv_X4_hasPart C ww_215 x2 e6 (Nat.le_of_ble_eq_true rfl) (Nat.le_of_ble_eq_true rfl) z0 (dt_at dt_X11_wish_0 8 rfl) ?_
    refine V_if_ne C 28 (dt_at dt_X11_wish_0 9 rfl) (by decide) (fun q8 => ?_) (fun q8 => ?_)
    · have h := ite_f q8 h
      refine V_aload_n C (dt_at dt_X11_wish_0 14 rfl) 0 rfl rfl ?_
      refine g_X11_21_0 C (dt_at dt_X11_wish_0 15 rfl) ?_
      refine V_iload_n C (dt_at dt_X11_wish_0 16 rfl) 1 rfl rfl ?_
      refine V_iload_n C (dt_at dt_X11_wish_0 17 rfl) 2 rfl rfl ?_
      obtain ⟨r9, σ11, e10, h⟩ := bd2_s h
      refine cv_X10_wishOf C ww_424 x1 x2 e10 (Nat.le_of_ble_eq_true rfl) (Nat.le_of_ble_eq_true rfl) z0 (dt_at dt_X11_wish_0 18 rfl) ?_
      obtain ⟨e1_, e2_⟩ := pin2 h
      subst e1_; subst e2_
      exact V_iret C hR (dt_at dt_X11_wish_0 19 rfl)
    · have h := ite_t q8 h
      refine V_sub [0] (lv' := [(0, .ref (ga G 0))]) rfl ?_
      exact J_22 σ h
theorem cv_X11_wish (C : Ck X G cc own nL d) {idx : Nat} (hlk : Cond.methodLink own idx yX11_wish ∈ gtb) (x1 : Int32) (x2 : Int32) {r0 : Int32} {σ0 : St} (e : f_X11_wish x1 x2 σ = some (r0, σ0)) (hdd : 5 ≤ d) (hroom : (rest.map fun v => v.category).sum ≤ 8) (hcs : cells ≤ (xR X).cells ∧ slots ≤ (xR X).slots) (hd : decode cc pc = .ok (.invokevirtual idx, 3)) (k : V X G nL cells slots σ0 (pc + 3) lv (.int r0 :: rest)) : V X G nL cells slots σ pc lv (.int x2 :: .int x1 :: .ref (ga G 0) :: rest) := V_callV C (As := [.int x1, .int x2]) (c_X11_wish X.2.1 G x1 x2 σ r0 σ0 e) cal_X11_wish ww_426 ww_427 hlk rfl hdd (lt110 rfl) rfl rfl rfl hroom hcs hd k
theorem dt_X12_above_0 : dtab cX12_above [(0, .iload_n 0, 1), (1, .tableswitch 45 0 5 #[39, 45, 45, 41, 43, 41], 39), (40, .iconst (-1), 1), (41, .ireturn, 1), (42, .iconst 1, 1), (43, .ireturn, 1), (44, .iconst 2, 1), (45, .ireturn, 1), (46, .iconst 0, 1), (47, .ireturn, 1)] = true := by decide +kernel
theorem cal_X12_above : Cal yX12_above cX12_above 1 (some .int) 1 := ⟨ww_428, ww_429, ⟨by decide, by decide, by decide⟩, by decide⟩
set_option maxHeartbeats 4000000 in
set_option maxRecDepth 100000 in
theorem c_X12_above (l : Launch) (G : Gx) (x0 : Int32) (σ : St) (r0 : Int32) (h : f_X12_above x0 = some r0) : MI l G yX12_above cX12_above 1 (some .int) 1 [.int x0] σ (some (.int r0)) σ := by
  refine MI_of RX12 rfl (by decide) [(0, .int x0)] rfl (Nat.le_of_ble_eq_true rfl) ?_
  intro X hXl C hR
  unfold f_X12_above at h
  refine V_iload_n C (dt_at dt_X12_above_0 0 rfl) 0 rfl rfl ?_
  by_cases q1 : x0 = 0
  · have h := ite_t q1 h
    refine V_tin C 0 40 (dt_at dt_X12_above_0 1 rfl) ⟨by rw [q1] <;> rfl, by decide⟩ rfl (by decide) ?_
    refine V_iconst C (-1) (dt_at dt_X12_above_0 2 rfl) (by decide) ?_
    have e1_ := Option.some.inj h
    subst e1_
    exact V_iret C hR (dt_at dt_X12_above_0 3 rfl)
  replace h := ite_f q1 h
  by_cases q2 : x0 = 1
  · have h := ite_t q2 h
    refine V_tin C 1 46 (dt_at dt_X12_above_0 1 rfl) ⟨by rw [q2] <;> rfl, by decide⟩ rfl (by decide) ?_
    refine V_iconst C 0 (dt_at dt_X12_above_0 8 rfl) (by decide) ?_
    have e1_ := Option.some.inj h
    subst e1_
    exact V_iret C hR (dt_at dt_X12_above_0 9 rfl)
  replace h := ite_f q2 h
  by_cases q3 : x0 = 2
  · have h := ite_t q3 h
    refine V_tin C 2 46 (dt_at dt_X12_above_0 1 rfl) ⟨by rw [q3] <;> rfl, by decide⟩ rfl (by decide) ?_
    refine V_iconst C 0 (dt_at dt_X12_above_0 8 rfl) (by decide) ?_
    have e1_ := Option.some.inj h
    subst e1_
    exact V_iret C hR (dt_at dt_X12_above_0 9 rfl)
  replace h := ite_f q3 h
  by_cases q4 : x0 = 3
  · have h := ite_t q4 h
    refine V_tin C 3 42 (dt_at dt_X12_above_0 1 rfl) ⟨by rw [q4] <;> rfl, by decide⟩ rfl (by decide) ?_
    refine V_iconst C 1 (dt_at dt_X12_above_0 4 rfl) (by decide) ?_
    have e1_ := Option.some.inj h
    subst e1_
    exact V_iret C hR (dt_at dt_X12_above_0 5 rfl)
  replace h := ite_f q4 h
  by_cases q5 : x0 = 4
  · have h := ite_t q5 h
    refine V_tin C 4 44 (dt_at dt_X12_above_0 1 rfl) ⟨by rw [q5] <;> rfl, by decide⟩ rfl (by decide) ?_
    refine V_iconst C 2 (dt_at dt_X12_above_0 6 rfl) (by decide) ?_
    have e1_ := Option.some.inj h
    subst e1_
    exact V_iret C hR (dt_at dt_X12_above_0 7 rfl)
  replace h := ite_f q5 h
  by_cases q6 : x0 = 5
  · have h := ite_t q6 h
    refine V_tin C 5 42 (dt_at dt_X12_above_0 1 rfl) ⟨by rw [q6] <;> rfl, by decide⟩ rfl (by decide) ?_
    refine V_iconst C 1 (dt_at dt_X12_above_0 4 rfl) (by decide) ?_
    have e1_ := Option.some.inj h
    subst e1_
    exact V_iret C hR (dt_at dt_X12_above_0 5 rfl)
  replace h := ite_f q6 h
  refine V_tout C 46 (dt_at dt_X12_above_0 1 rfl) (by have q1t := lv_neT q1 (a := 0) rfl; have q2t := lv_neT q2 (a := 1) rfl; have q3t := lv_neT q3 (a := 2) rfl; have q4t := lv_neT q4 (a := 3) rfl; have q5t := lv_neT q5 (a := 4) rfl; have q6t := lv_neT q6 (a := 5) rfl; omega) (by decide) ?_
  refine V_iconst C 0 (dt_at dt_X12_above_0 8 rfl) (by decide) ?_
  have e1_ := Option.some.inj h
  subst e1_
  exact V_iret C hR (dt_at dt_X12_above_0 9 rfl)
theorem cv_X12_above (C : Ck X G cc own nL d) {idx : Nat} (hlk : Cond.methodLink own idx yX12_above ∈ gtb) (x0 : Int32) {r0 : Int32} (e : f_X12_above x0 = some r0) (hdd : 2 ≤ d) (hroom : (rest.map fun v => v.category).sum ≤ 8) (hcs : cells ≤ (xR X).cells ∧ slots ≤ (xR X).slots) (hd : decode cc pc = .ok (.invokestatic idx, 3)) (k : V X G nL cells slots σ (pc + 3) lv (.int r0 :: rest)) : V X G nL cells slots σ pc lv (.int x0 :: rest) := V_callS C (As := [.int x0]) (c_X12_above X.2.1 G x0 σ r0 e) cal_X12_above ww_430 hlk rfl hdd rfl hroom hcs hd k
theorem dt_X12_allParts_0 : dtab cX12_allParts [(0, .iconst 1, 1), (1, .aload_n 0, 1), (2, .getfield 7, 3), (5, .iconst 1, 1), (6, .iaload, 1), (7, .ishl, 1), (8, .iconst 1, 1), (9, .isub, 1), (10, .ireturn, 1)] = true := by decide +kernel
theorem cal_X12_allParts : Cal yX12_allParts cX12_allParts 1 (some .int) 0 := ⟨ww_432, ww_429, ⟨by decide, by decide, by decide⟩, by decide⟩
set_option maxHeartbeats 4000000 in
set_option maxRecDepth 100000 in
theorem c_X12_allParts (l : Launch) (G : Gx) (σ : St) (r0 : Int32) (h : f_X12_allParts σ = some r0) : MI l G yX12_allParts cX12_allParts 1 (some .int) 1 [.ref (ga G 6)] σ (some (.int r0)) σ := by
  refine MI_of RX12 rfl (by decide) [(0, .ref (ga G 6))] rfl (Nat.le_of_ble_eq_true rfl) ?_
  intro X hXl C hR
  unfold f_X12_allParts at h
  refine V_iconst C 1 (dt_at dt_X12_allParts_0 0 rfl) (by decide) ?_
  refine V_aload_n C (dt_at dt_X12_allParts_0 1 rfl) 0 rfl rfl ?_
  refine g_X12_7_6 C (dt_at dt_X12_allParts_0 2 rfl) ?_
  refine V_iconst C 1 (dt_at dt_X12_allParts_0 3 rfl) (by decide) ?_
  obtain ⟨h1, h⟩ := chk_s h
  refine al_84 C h1 (dt_at dt_X12_allParts_0 4 rfl) ?_
  refine V_ishl C (dt_at dt_X12_allParts_0 5 rfl) ?_
  refine V_iconst C 1 (dt_at dt_X12_allParts_0 6 rfl) (by decide) ?_
  refine V_isub C (dt_at dt_X12_allParts_0 7 rfl) ?_
  have e1_ := Option.some.inj h
  subst e1_
  exact V_iret C hR (dt_at dt_X12_allParts_0 8 rfl)
theorem cv_X12_allParts (C : Ck X G cc own nL d) {idx : Nat} (hlk : Cond.methodLink own idx yX12_allParts ∈ gtb) {r0 : Int32} (e : f_X12_allParts σ = some r0) (hdd : 2 ≤ d) (hroom : (rest.map fun v => v.category).sum ≤ 8) (hcs : cells ≤ (xR X).cells ∧ slots ≤ (xR X).slots) (hd : decode cc pc = .ok (.invokevirtual idx, 3)) (k : V X G nL cells slots σ (pc + 3) lv (.int r0 :: rest)) : V X G nL cells slots σ pc lv (.ref (ga G 6) :: rest) := V_callV C (As := []) (c_X12_allParts X.2.1 G  σ r0 e) cal_X12_allParts ww_433 ww_434 hlk rfl hdd (lt110 rfl) rfl rfl rfl hroom hcs hd k
theorem dt_X12_in_0 : dtab cX12_in [(0, .iload_n 0, 1), (1, .iload_n 1, 1), (2, .if_icmp .lt 12, 3), (5, .iload_n 0, 1), (6, .iload_n 2, 1), (7, .if_icmp .gt 7, 3), (10, .iconst 1, 1), (11, .goto 4, 3), (14, .iconst 0, 1), (15, .ireturn, 1)] = true := by decide +kernel
theorem cal_X12_in : Cal yX12_in cX12_in 3 (some .boolean) 3 := ⟨ww_435, ww_429, ⟨by decide, by decide, by decide⟩, by decide⟩
set_option maxHeartbeats 4000000 in
set_option maxRecDepth 100000 in
theorem c_X12_in (l : Launch) (G : Gx) (x0 : Int32) (x1 : Int32) (x2 : Int32) (σ : St) (r0 : Int32) (h : f_X12_in x0 x1 x2 = some r0) : MI l G yX12_in cX12_in 3 (some .boolean) 1 [.int x0, .int x1, .int x2] σ (some (.int r0)) σ := by
  refine MI_of RX12 rfl (by decide) [(0, .int x0), (1, .int x1), (2, .int x2)] rfl (Nat.le_of_ble_eq_true rfl) ?_
  intro X hXl C hR
  unfold f_X12_in at h
  refine V_iload_n C (dt_at dt_X12_in_0 0 rfl) 0 rfl rfl ?_
  refine V_iload_n C (dt_at dt_X12_in_0 1 rfl) 1 rfl rfl ?_
  refine V_icmp_lt C 14 (dt_at dt_X12_in_0 2 rfl) (by decide) (fun q1 => ?_) (fun q1 => ?_)
  · have h := ite_t q1 h
    refine V_iconst C 0 (dt_at dt_X12_in_0 8 rfl) (by decide) ?_
    have e1_ := Option.some.inj h
    subst e1_
    exact V_zret C rfl hR (dt_at dt_X12_in_0 9 rfl)
  · have h := ite_f q1 h
    refine V_iload_n C (dt_at dt_X12_in_0 3 rfl) 0 rfl rfl ?_
    refine V_iload_n C (dt_at dt_X12_in_0 4 rfl) 2 rfl rfl ?_
    refine V_icmp_gt C 14 (dt_at dt_X12_in_0 5 rfl) (by decide) (fun q2 => ?_) (fun q2 => ?_)
    · have h := ite_t q2 h
      refine V_iconst C 0 (dt_at dt_X12_in_0 8 rfl) (by decide) ?_
      have e1_ := Option.some.inj h
      subst e1_
      exact V_zret C rfl hR (dt_at dt_X12_in_0 9 rfl)
    · have h := ite_f q2 h
      refine V_iconst C 1 (dt_at dt_X12_in_0 6 rfl) (by decide) ?_
      refine V_goto C 15 (dt_at dt_X12_in_0 7 rfl) (by decide) ?_
      have e1_ := Option.some.inj h
      subst e1_
      exact V_zret C rfl hR (dt_at dt_X12_in_0 9 rfl)
theorem cv_X12_in (C : Ck X G cc own nL d) {idx : Nat} (hlk : Cond.methodLink own idx yX12_in ∈ gtb) (x0 : Int32) (x1 : Int32) (x2 : Int32) {r0 : Int32} (e : f_X12_in x0 x1 x2 = some r0) (hdd : 2 ≤ d) (hroom : (rest.map fun v => v.category).sum ≤ 8) (hcs : cells ≤ (xR X).cells ∧ slots ≤ (xR X).slots) (hd : decode cc pc = .ok (.invokestatic idx, 3)) (k : V X G nL cells slots σ (pc + 3) lv (.int r0 :: rest)) : V X G nL cells slots σ pc lv (.int x2 :: .int x1 :: .int x0 :: rest) := V_callS C (As := [.int x0, .int x1, .int x2]) (c_X12_in X.2.1 G x0 x1 x2 σ r0 e) cal_X12_in ww_436 hlk rfl hdd rfl hroom hcs hd k
theorem dt_X12_isPart_0 : dtab cX12_isPart [(0, .iload_n 1, 1), (1, .iconst 0, 1), (2, .aload_n 0, 1), (3, .getfield 7, 3), (6, .iconst 1, 1), (7, .iaload, 1), (8, .iconst 1, 1), (9, .isub, 1), (10, .invokestatic 91, 3), (13, .ireturn, 1)] = true := by decide +kernel
theorem cal_X12_isPart : Cal yX12_isPart cX12_isPart 2 (some .boolean) 1 := ⟨ww_438, ww_429, ⟨by decide, by decide, by decide⟩, by decide⟩
set_option maxHeartbeats 4000000 in
set_option maxRecDepth 100000 in
theorem c_X12_isPart (l : Launch) (G : Gx) (x1 : Int32) (σ : St) (r0 : Int32) (h : f_X12_isPart x1 σ = some r0) : MI l G yX12_isPart cX12_isPart 2 (some .boolean) 2 [.ref (ga G 6), .int x1] σ (some (.int r0)) σ := by
  refine MI_of RX12 rfl (by decide) [(0, .ref (ga G 6)), (1, .int x1)] rfl (Nat.le_of_ble_eq_true rfl) ?_
  intro X hXl C hR
  unfold f_X12_isPart at h
  refine V_iload_n C (dt_at dt_X12_isPart_0 0 rfl) 1 rfl rfl ?_
  refine V_iconst C 0 (dt_at dt_X12_isPart_0 1 rfl) (by decide) ?_
  refine V_aload_n C (dt_at dt_X12_isPart_0 2 rfl) 0 rfl rfl ?_
  refine g_X12_7_6 C (dt_at dt_X12_isPart_0 3 rfl) ?_
  refine V_iconst C 1 (dt_at dt_X12_isPart_0 4 rfl) (by decide) ?_
  obtain ⟨h1, h⟩ := chk_s h
  refine al_84 C h1 (dt_at dt_X12_isPart_0 5 rfl) ?_
  refine V_iconst C 1 (dt_at dt_X12_isPart_0 6 rfl) (by decide) ?_
  refine V_isub C (dt_at dt_X12_isPart_0 7 rfl) ?_
  obtain ⟨r2, e3, h⟩ := bd_s h
  refine cv_X12_in C ww_437 x1 0 ((rd σ 84 1) - 1) e3 (Nat.le_of_ble_eq_true rfl) (Nat.le_of_ble_eq_true rfl) z0 (dt_at dt_X12_isPart_0 8 rfl) ?_
  obtain ⟨h5, h⟩ := chk_s h
  have e1_ := Option.some.inj h
  subst e1_
  exact V_zret C (isB_n h5) hR (dt_at dt_X12_isPart_0 9 rfl)
theorem cv_X12_isPart (C : Ck X G cc own nL d) {idx : Nat} (hlk : Cond.methodLink own idx yX12_isPart ∈ gtb) (x1 : Int32) {r0 : Int32} (e : f_X12_isPart x1 σ = some r0) (hdd : 3 ≤ d) (hroom : (rest.map fun v => v.category).sum ≤ 8) (hcs : cells ≤ (xR X).cells ∧ slots ≤ (xR X).slots) (hd : decode cc pc = .ok (.invokevirtual idx, 3)) (k : V X G nL cells slots σ (pc + 3) lv (.int r0 :: rest)) : V X G nL cells slots σ pc lv (.int x1 :: .ref (ga G 6) :: rest) := V_callV C (As := [.int x1]) (c_X12_isPart X.2.1 G x1 σ r0 e) cal_X12_isPart ww_439 ww_440 hlk rfl hdd (lt110 rfl) rfl rfl rfl hroom hcs hd k
theorem dt_X12_finds_0 : dtab cX12_finds [(0, .aload_n 0, 1), (1, .getfield 16, 3), (4, .iload_n 1, 1), (5, .dup2, 1), (6, .iaload, 1), (7, .iconst 1, 1), (8, .iadd, 1), (9, .iastore, 1), (10, .ldc 90, 2), (12, .iload_n 1, 1), (13, .isub, 1), (14, .ireturn, 1)] = true := by decide +kernel
theorem cal_X12_finds : Cal yX12_finds cX12_finds 2 (some .int) 1 := ⟨ww_443, ww_429, ⟨by decide, by decide, by decide⟩, by decide⟩
set_option maxHeartbeats 4000000 in
set_option maxRecDepth 100000 in
theorem c_X12_finds (l : Launch) (G : Gx) (x1 : Int32) (σ : St) (r0 : Int32) (σ0 : St) (h : f_X12_finds x1 σ = some (r0, σ0)) : MI l G yX12_finds cX12_finds 2 (some .int) 1 [.ref (ga G 6), .int x1] σ (some (.int r0)) σ0 := by
  refine MI_of RX12 rfl (by decide) [(0, .ref (ga G 6)), (1, .int x1)] rfl (Nat.le_of_ble_eq_true rfl) ?_
  intro X hXl C hR
  unfold f_X12_finds at h
  refine V_aload_n C (dt_at dt_X12_finds_0 0 rfl) 0 rfl rfl ?_
  refine g_X12_16_6 C (dt_at dt_X12_finds_0 1 rfl) ?_
  refine V_iload_n C (dt_at dt_X12_finds_0 2 rfl) 1 rfl rfl ?_
  refine V_dup2 C (dt_at dt_X12_finds_0 3 rfl) rfl rfl ?_
  obtain ⟨h1, h⟩ := chk_s h
  refine al_86 C h1 (dt_at dt_X12_finds_0 4 rfl) ?_
  refine V_iconst C 1 (dt_at dt_X12_finds_0 5 rfl) (by decide) ?_
  refine V_iadd C (dt_at dt_X12_finds_0 6 rfl) ?_
  obtain ⟨σ2, eσ2, h⟩ := nm_s h
  refine V_st eσ2 ?_ (fun k => as_86 C h1 (dt_at dt_X12_finds_0 7 rfl) k)
  refine V_ldc C (-1000000) (dt_at dt_X12_finds_0 8 rfl) ww_442 ?_
  refine V_iload_n C (dt_at dt_X12_finds_0 9 rfl) 1 rfl rfl ?_
  refine V_isub C (dt_at dt_X12_finds_0 10 rfl) ?_
  obtain ⟨e1_, e2_⟩ := pin2 h
  subst e1_; subst e2_
  exact V_iret C hR (dt_at dt_X12_finds_0 11 rfl)
theorem cv_X12_finds (C : Ck X G cc own nL d) {idx : Nat} (hlk : Cond.methodLink own idx yX12_finds ∈ gtb) (x1 : Int32) {r0 : Int32} {σ0 : St} (e : f_X12_finds x1 σ = some (r0, σ0)) (hdd : 2 ≤ d) (hroom : (rest.map fun v => v.category).sum ≤ 8) (hcs : cells ≤ (xR X).cells ∧ slots ≤ (xR X).slots) (hd : decode cc pc = .ok (.invokevirtual idx, 3)) (k : V X G nL cells slots σ0 (pc + 3) lv (.int r0 :: rest)) : V X G nL cells slots σ pc lv (.int x1 :: .ref (ga G 6) :: rest) := V_callV C (As := [.int x1]) (c_X12_finds X.2.1 G x1 σ r0 σ0 e) cal_X12_finds ww_444 ww_445 hlk rfl hdd (lt110 rfl) rfl rfl rfl hroom hcs hd k
end WK
