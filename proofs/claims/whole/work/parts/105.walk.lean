section WK
variable {X : Xx} {G : Gx} {cc : ByteArray} {own : String} {nL d cells slots pc : Nat} {σ : St} {lv : List (Nat × Value)} {rest : List Value}
theorem dt_X12_bows_0 : dtab cX12_bows [(0, .aload_n 0, 1), (1, .getfield 293, 3), (4, .iconst 4, 1), (5, .if_icmp .ne 23, 3), (8, .aload_n 0, 1), (9, .bipush 50, 2), (11, .invokevirtual 296, 3), (14, .aload_n 0, 1), (15, .iload_n 1, 1), (16, .invokevirtual 311, 3), (19, .istore_n 2, 1), (20, .iload_n 2, 1), (21, .aload_n 0, 1), (22, .iload_n 1, 1), (23, .invokevirtual 323, 3), (26, .isub, 1), (27, .ireturn, 1), (28, .aload_n 0, 1), (29, .getfield 293, 3), (32, .iconst 2, 1), (33, .if_icmp .ne 11, 3), (36, .aload_n 0, 1), (37, .iload_n 1, 1), (38, .invokevirtual 323, 3), (41, .goto 8, 3), (44, .aload_n 0, 1), (45, .iload_n 1, 1), (46, .invokevirtual 320, 3), (49, .ireturn, 1)] = true := by decide +kernel
theorem cal_X12_bows : Cal yX12_bows cX12_bows 3 (some .int) 1 := ⟨ww_617, ww_429, ⟨by decide, by decide, by decide⟩, by decide⟩
set_option maxHeartbeats 4000000 in
set_option maxRecDepth 100000 in
theorem c_X12_bows (l : Launch) (G : Gx) (x1 : Int32) (σ : St) (r0 : Int32) (σ0 : St) (h : f_X12_bows x1 σ = some (r0, σ0)) : MI l G yX12_bows cX12_bows 3 (some .int) 8 [.ref (ga G 6), .int x1] σ (some (.int r0)) σ0 := by
  refine MI_of RX12 rfl (by decide) [(0, .ref (ga G 6)), (1, .int x1)] rfl (Nat.le_of_ble_eq_true rfl) ?_
  intro X hXl C hR
  unfold f_X12_bows at h
  refine V_aload_n C (dt_at dt_X12_bows_0 0 rfl) 0 rfl rfl ?_
  refine g_X12_293_6 C (dt_at dt_X12_bows_0 1 rfl) ?_
  refine V_iconst C 4 (dt_at dt_X12_bows_0 2 rfl) (by decide) ?_
  refine V_icmp_ne C 28 (dt_at dt_X12_bows_0 3 rfl) (by decide) (fun q1 => ?_) (fun q1 => ?_)
  · have h := ite_f q1 h
    refine V_aload_n C (dt_at dt_X12_bows_0 17 rfl) 0 rfl rfl ?_
    refine g_X12_293_6 C (dt_at dt_X12_bows_0 18 rfl) ?_
    refine V_iconst C 2 (dt_at dt_X12_bows_0 19 rfl) (by decide) ?_
    refine V_icmp_ne C 44 (dt_at dt_X12_bows_0 20 rfl) (by decide) (fun q2 => ?_) (fun q2 => ?_)
    · have h := ite_f q2 h
      refine V_aload_n C (dt_at dt_X12_bows_0 25 rfl) 0 rfl rfl ?_
      refine V_iload_n C (dt_at dt_X12_bows_0 26 rfl) 1 rfl rfl ?_
      obtain ⟨r3, σ5, e4, h⟩ := bd2_s h
      refine cv_X12_bowsPart C ww_612 x1 e4 (Nat.le_of_ble_eq_true rfl) (Nat.le_of_ble_eq_true rfl) z0 (dt_at dt_X12_bows_0 27 rfl) ?_
      obtain ⟨e1_, e2_⟩ := pin2 h
      subst e1_; subst e2_
      exact V_iret C hR (dt_at dt_X12_bows_0 28 rfl)
    · have h := ite_t q2 h
      refine V_aload_n C (dt_at dt_X12_bows_0 21 rfl) 0 rfl rfl ?_
      refine V_iload_n C (dt_at dt_X12_bows_0 22 rfl) 1 rfl rfl ?_
      obtain ⟨r6, σ8, e7, h⟩ := bd2_s h
      refine cv_X12_bowsMute C ww_616 x1 e7 (Nat.le_of_ble_eq_true rfl) (Nat.le_of_ble_eq_true rfl) z0 (dt_at dt_X12_bows_0 23 rfl) ?_
      refine V_goto C 49 (dt_at dt_X12_bows_0 24 rfl) (by decide) ?_
      obtain ⟨e1_, e2_⟩ := pin2 h
      subst e1_; subst e2_
      exact V_iret C hR (dt_at dt_X12_bows_0 28 rfl)
  · have h := ite_t q1 h
    refine V_aload_n C (dt_at dt_X12_bows_0 4 rfl) 0 rfl rfl ?_
    refine V_bipush C 50 (dt_at dt_X12_bows_0 5 rfl) (by decide) ?_
    obtain ⟨σ11, e10, h⟩ := bd_s h
    refine cv_X12_runs C ww_586 50 e10 (Nat.le_of_ble_eq_true rfl) (Nat.le_of_ble_eq_true rfl) z0 (dt_at dt_X12_bows_0 6 rfl) ?_
    refine V_aload_n C (dt_at dt_X12_bows_0 7 rfl) 0 rfl rfl ?_
    refine V_iload_n C (dt_at dt_X12_bows_0 8 rfl) 1 rfl rfl ?_
    obtain ⟨r12, σ14, e13, h⟩ := bd2_s h
    refine cv_X12_dies C ww_600 x1 e13 (Nat.le_of_ble_eq_true rfl) (Nat.le_of_ble_eq_true rfl) z0 (dt_at dt_X12_bows_0 9 rfl) ?_
    refine V_istore_n C [1, 2, 0] (lv' := [(0, .ref (ga G 6)), (1, .int x1), (2, .int r12)]) (dt_at dt_X12_bows_0 10 rfl) rfl (by decide) rfl ?_
    refine V_iload_n C (dt_at dt_X12_bows_0 11 rfl) 2 rfl rfl ?_
    refine V_aload_n C (dt_at dt_X12_bows_0 12 rfl) 0 rfl rfl ?_
    refine V_iload_n C (dt_at dt_X12_bows_0 13 rfl) 1 rfl rfl ?_
    obtain ⟨r15, σ17, e16, h⟩ := bd2_s h
    refine cv_X12_bowsMute C ww_616 x1 e16 (Nat.le_of_ble_eq_true rfl) (Nat.le_of_ble_eq_true rfl) z0 (dt_at dt_X12_bows_0 14 rfl) ?_
    refine V_isub C (dt_at dt_X12_bows_0 15 rfl) ?_
    obtain ⟨e1_, e2_⟩ := pin2 h
    subst e1_; subst e2_
    exact V_iret C hR (dt_at dt_X12_bows_0 16 rfl)
theorem cv_X12_bows (C : Ck X G cc own nL d) {idx : Nat} (hlk : Cond.methodLink own idx yX12_bows ∈ gtb) (x1 : Int32) {r0 : Int32} {σ0 : St} (e : f_X12_bows x1 σ = some (r0, σ0)) (hdd : 9 ≤ d) (hroom : (rest.map fun v => v.category).sum ≤ 8) (hcs : cells ≤ (xR X).cells ∧ slots ≤ (xR X).slots) (hd : decode cc pc = .ok (.invokevirtual idx, 3)) (k : V X G nL cells slots σ0 (pc + 3) lv (.int r0 :: rest)) : V X G nL cells slots σ pc lv (.int x1 :: .ref (ga G 6) :: rest) := V_callV C (As := [.int x1]) (c_X12_bows X.2.1 G x1 σ r0 σ0 e) cal_X12_bows ww_618 ww_619 hlk rfl hdd (lt110 rfl) rfl rfl rfl hroom hcs hd k
theorem dt_X12_isPlayer_0 : dtab cX12_isPlayer [(0, .iload_n 1, 1), (1, .iconst 0, 1), (2, .aload_n 0, 1), (3, .getfield 7, 3), (6, .iconst 3, 1), (7, .iaload, 1), (8, .iconst 1, 1), (9, .isub, 1), (10, .invokestatic 91, 3), (13, .ireturn, 1)] = true := by decide +kernel
theorem cal_X12_isPlayer : Cal yX12_isPlayer cX12_isPlayer 2 (some .boolean) 1 := ⟨ww_620, ww_429, ⟨by decide, by decide, by decide⟩, by decide⟩
set_option maxHeartbeats 4000000 in
set_option maxRecDepth 100000 in
theorem c_X12_isPlayer (l : Launch) (G : Gx) (x1 : Int32) (σ : St) (r0 : Int32) (h : f_X12_isPlayer x1 σ = some r0) : MI l G yX12_isPlayer cX12_isPlayer 2 (some .boolean) 2 [.ref (ga G 6), .int x1] σ (some (.int r0)) σ := by
  refine MI_of RX12 rfl (by decide) [(0, .ref (ga G 6)), (1, .int x1)] rfl (Nat.le_of_ble_eq_true rfl) ?_
  intro X hXl C hR
  unfold f_X12_isPlayer at h
  refine V_iload_n C (dt_at dt_X12_isPlayer_0 0 rfl) 1 rfl rfl ?_
  refine V_iconst C 0 (dt_at dt_X12_isPlayer_0 1 rfl) (by decide) ?_
  refine V_aload_n C (dt_at dt_X12_isPlayer_0 2 rfl) 0 rfl rfl ?_
  refine g_X12_7_6 C (dt_at dt_X12_isPlayer_0 3 rfl) ?_
  refine V_iconst C 3 (dt_at dt_X12_isPlayer_0 4 rfl) (by decide) ?_
  obtain ⟨h1, h⟩ := chk_s h
  refine al_84 C h1 (dt_at dt_X12_isPlayer_0 5 rfl) ?_
  refine V_iconst C 1 (dt_at dt_X12_isPlayer_0 6 rfl) (by decide) ?_
  refine V_isub C (dt_at dt_X12_isPlayer_0 7 rfl) ?_
  obtain ⟨r2, e3, h⟩ := bd_s h
  refine cv_X12_in C ww_437 x1 0 ((rd σ 84 3) - 1) e3 (Nat.le_of_ble_eq_true rfl) (Nat.le_of_ble_eq_true rfl) z0 (dt_at dt_X12_isPlayer_0 8 rfl) ?_
  obtain ⟨h5, h⟩ := chk_s h
  have e1_ := Option.some.inj h
  subst e1_
  exact V_zret C (isB_n h5) hR (dt_at dt_X12_isPlayer_0 9 rfl)
theorem cv_X12_isPlayer (C : Ck X G cc own nL d) {idx : Nat} (hlk : Cond.methodLink own idx yX12_isPlayer ∈ gtb) (x1 : Int32) {r0 : Int32} (e : f_X12_isPlayer x1 σ = some r0) (hdd : 3 ≤ d) (hroom : (rest.map fun v => v.category).sum ≤ 8) (hcs : cells ≤ (xR X).cells ∧ slots ≤ (xR X).slots) (hd : decode cc pc = .ok (.invokevirtual idx, 3)) (k : V X G nL cells slots σ (pc + 3) lv (.int r0 :: rest)) : V X G nL cells slots σ pc lv (.int x1 :: .ref (ga G 6) :: rest) := V_callV C (As := [.int x1]) (c_X12_isPlayer X.2.1 G x1 σ r0 e) cal_X12_isPlayer ww_621 ww_622 hlk rfl hdd (lt110 rfl) rfl rfl rfl hroom hcs hd k
theorem dt_X12_isOn_0 : dtab cX12_isOn [(0, .iconst 0, 1), (1, .istore 5, 2), (3, .iload 5, 2), (5, .aload_n 0, 1), (6, .getfield 7, 3), (9, .iconst 2, 1), (10, .iaload, 1), (11, .if_icmp .ge 51, 3), (14, .iload 5, 2), (16, .iload 4, 2), (18, .if_icmp .eq 38, 3), (21, .aload_n 0, 1), (22, .iload 5, 2), (24, .iconst 0, 1), (25, .invokevirtual 99, 3), (28, .iload_n 1, 1), (29, .if_icmp .ne 27, 3), (32, .aload_n 0, 1), (33, .iload 5, 2), (35, .iconst 1, 1), (36, .invokevirtual 99, 3), (39, .iload_n 3, 1), (40, .if_icmp .gt 16, 3), (43, .aload_n 0, 1), (44, .iload 5, 2), (46, .iconst 2, 1), (47, .invokevirtual 99, 3), (50, .iload_n 2, 1), (51, .if_icmp .lt 5, 3), (54, .iconst 1, 1), (55, .ireturn, 1), (56, .iinc 5 1, 3), (59, .goto (-56), 3), (62, .iconst 0, 1), (63, .ireturn, 1)] = true := by decide +kernel
theorem cal_X12_isOn : Cal yX12_isOn cX12_isOn 6 (some .boolean) 4 := ⟨ww_623, ww_429, ⟨by decide, by decide, by decide⟩, by decide⟩
set_option maxHeartbeats 4000000 in
set_option maxRecDepth 100000 in
theorem c_X12_isOn (l : Launch) (G : Gx) (x1 : Int32) (x2 : Int32) (x3 : Int32) (x4 : Int32) (σ : St) (r0 : Int32) (h : f_X12_isOn x1 x2 x3 x4 σ = some r0) : MI l G yX12_isOn cX12_isOn 6 (some .boolean) 2 [.ref (ga G 6), .int x1, .int x2, .int x3, .int x4] σ (some (.int r0)) σ := by
  refine MI_of RX12 rfl (by decide) [(0, .ref (ga G 6)), (1, .int x1), (2, .int x2), (3, .int x3), (4, .int x4)] rfl (Nat.le_of_ble_eq_true rfl) ?_
  intro X hXl C hR
  unfold f_X12_isOn at h
  have J_3 : ∀ (x5 : Int32), f_X12_isOn_3 x1 x2 x3 x4 x5 σ = some r0 → V X G 6 0 0 σ 3 [(0, .ref (ga G 6)), (1, .int x1), (2, .int x2), (3, .int x3), (4, .int x4), (5, .int x5)] [] := by
    intro x5 h
    refine it_v (P := fun z : Int32 => V X G 6 0 0 σ 3 [(0, .ref (ga G 6)), (1, .int x1), (2, .int x2), (3, .int x3), (4, .int x4), (5, .int z)] []) ?_ x5 h
    clear h
    intro z w_3 h ih_3 ex_3
    revert h; revert z; intro x5 h
    have h : b_X12_isOn_3 x1 x2 x3 x4 x5 σ = some w_3 := h
    show V X G 6 0 0 σ 3 [(0, .ref (ga G 6)), (1, .int x1), (2, .int x2), (3, .int x3), (4, .int x4), (5, .int x5)] []
    unfold b_X12_isOn_3 at h
    have J_56 : ∀ (x5 : Int32), f_X12_isOn_56 x1 x2 x3 x4 x5 σ = some w_3 → V X G 6 0 0 σ 56 [(0, .ref (ga G 6)), (1, .int x1), (2, .int x2), (3, .int x3), (4, .int x4), (5, .int x5)] [] := by
      intro x5 h
      unfold f_X12_isOn_56 at h
      refine V_iinc C (x5 + 1) 5 [1, 2, 3, 4, 5, 0] (lv' := [(0, .ref (ga G 6)), (1, .int x1), (2, .int x2), (3, .int x3), (4, .int x4), (5, .int (x5 + 1))]) (dt_at dt_X12_isOn_0 31 rfl) rfl (by rfl) (by decide) rfl ?_
      refine V_goto C 3 (dt_at dt_X12_isOn_0 32 rfl) (by decide) ?_
      exact ih_3 (x5 + 1) (Option.some.inj h).symm
    refine V_iload C (dt_at dt_X12_isOn_0 2 rfl) 5 rfl ?_
    refine V_aload_n C (dt_at dt_X12_isOn_0 3 rfl) 0 rfl rfl ?_
    refine g_X12_7_6 C (dt_at dt_X12_isOn_0 4 rfl) ?_
    refine V_iconst C 2 (dt_at dt_X12_isOn_0 5 rfl) (by decide) ?_
    obtain ⟨h1, h⟩ := chk_s h
    refine al_84 C h1 (dt_at dt_X12_isOn_0 6 rfl) ?_
    refine V_icmp_ge C 62 (dt_at dt_X12_isOn_0 7 rfl) (by decide) (fun q2 => ?_) (fun q2 => ?_)
    · have h := ite_f q2 h
      refine V_iconst C 0 (dt_at dt_X12_isOn_0 33 rfl) (by decide) ?_
      have e_3 := ex_3 _ (Option.some.inj h).symm
      subst e_3
      exact V_zret C rfl hR (dt_at dt_X12_isOn_0 34 rfl)
    · have h := ite_t q2 h
      refine V_iload C (dt_at dt_X12_isOn_0 8 rfl) 5 rfl ?_
      refine V_iload C (dt_at dt_X12_isOn_0 9 rfl) 4 rfl ?_
      refine V_icmp_eq C 56 (dt_at dt_X12_isOn_0 10 rfl) (by decide) (fun q3 => ?_) (fun q3 => ?_)
      · have h := ite_t q3 h
        exact J_56 x5 h
      · have h := ite_f q3 h
        refine V_aload_n C (dt_at dt_X12_isOn_0 11 rfl) 0 rfl rfl ?_
        refine V_iload C (dt_at dt_X12_isOn_0 12 rfl) 5 rfl ?_
        refine V_iconst C 0 (dt_at dt_X12_isOn_0 13 rfl) (by decide) ?_
        obtain ⟨r4, e5, h⟩ := bd_s h
        refine cv_X12_entryOf C ww_455 x5 0 e5 (Nat.le_of_ble_eq_true rfl) (Nat.le_of_ble_eq_true rfl) z0 (dt_at dt_X12_isOn_0 14 rfl) ?_
        refine V_iload_n C (dt_at dt_X12_isOn_0 15 rfl) 1 rfl rfl ?_
        refine V_icmp_ne C 56 (dt_at dt_X12_isOn_0 16 rfl) (by decide) (fun q7 => ?_) (fun q7 => ?_)
        · have h := ite_f q7 h
          exact J_56 x5 h
        · have h := ite_t q7 h
          refine V_aload_n C (dt_at dt_X12_isOn_0 17 rfl) 0 rfl rfl ?_
          refine V_iload C (dt_at dt_X12_isOn_0 18 rfl) 5 rfl ?_
          refine V_iconst C 1 (dt_at dt_X12_isOn_0 19 rfl) (by decide) ?_
          obtain ⟨r8, e9, h⟩ := bd_s h
          refine cv_X12_entryOf C ww_455 x5 1 e9 (Nat.le_of_ble_eq_true rfl) (Nat.le_of_ble_eq_true rfl) z0 (dt_at dt_X12_isOn_0 20 rfl) ?_
          refine V_iload_n C (dt_at dt_X12_isOn_0 21 rfl) 3 rfl rfl ?_
          refine V_icmp_gt C 56 (dt_at dt_X12_isOn_0 22 rfl) (by decide) (fun q11 => ?_) (fun q11 => ?_)
          · have h := ite_t q11 h
            exact J_56 x5 h
          · have h := ite_f q11 h
            refine V_aload_n C (dt_at dt_X12_isOn_0 23 rfl) 0 rfl rfl ?_
            refine V_iload C (dt_at dt_X12_isOn_0 24 rfl) 5 rfl ?_
            refine V_iconst C 2 (dt_at dt_X12_isOn_0 25 rfl) (by decide) ?_
            obtain ⟨r12, e13, h⟩ := bd_s h
            refine cv_X12_entryOf C ww_455 x5 2 e13 (Nat.le_of_ble_eq_true rfl) (Nat.le_of_ble_eq_true rfl) z0 (dt_at dt_X12_isOn_0 26 rfl) ?_
            refine V_iload_n C (dt_at dt_X12_isOn_0 27 rfl) 2 rfl rfl ?_
            refine V_icmp_lt C 56 (dt_at dt_X12_isOn_0 28 rfl) (by decide) (fun q15 => ?_) (fun q15 => ?_)
            · have h := ite_t q15 h
              exact J_56 x5 h
            · have h := ite_f q15 h
              refine V_iconst C 1 (dt_at dt_X12_isOn_0 29 rfl) (by decide) ?_
              have e_3 := ex_3 _ (Option.some.inj h).symm
              subst e_3
              exact V_zret C rfl hR (dt_at dt_X12_isOn_0 30 rfl)
  refine V_iconst C 0 (dt_at dt_X12_isOn_0 0 rfl) (by decide) ?_
  refine V_istore C [1, 2, 3, 4, 5, 0] (lv' := [(0, .ref (ga G 6)), (1, .int x1), (2, .int x2), (3, .int x3), (4, .int x4), (5, .int 0)]) (dt_at dt_X12_isOn_0 1 rfl) (by decide) rfl ?_
  exact J_3 0 h
theorem cv_X12_isOn (C : Ck X G cc own nL d) {idx : Nat} (hlk : Cond.methodLink own idx yX12_isOn ∈ gtb) (x1 : Int32) (x2 : Int32) (x3 : Int32) (x4 : Int32) {r0 : Int32} (e : f_X12_isOn x1 x2 x3 x4 σ = some r0) (hdd : 3 ≤ d) (hroom : (rest.map fun v => v.category).sum ≤ 8) (hcs : cells ≤ (xR X).cells ∧ slots ≤ (xR X).slots) (hd : decode cc pc = .ok (.invokevirtual idx, 3)) (k : V X G nL cells slots σ (pc + 3) lv (.int r0 :: rest)) : V X G nL cells slots σ pc lv (.int x4 :: .int x3 :: .int x2 :: .int x1 :: .ref (ga G 6) :: rest) := V_callV C (As := [.int x1, .int x2, .int x3, .int x4]) (c_X12_isOn X.2.1 G x1 x2 x3 x4 σ r0 e) cal_X12_isOn ww_624 ww_625 hlk rfl hdd (lt110 rfl) rfl rfl rfl hroom hcs hd k
theorem dt_X12_busy_0 : dtab cX12_busy [(0, .aload_n 0, 1), (1, .iload_n 1, 1), (2, .invokevirtual 145, 3), (5, .ifCond .ne 9, 3), (8, .aload_n 0, 1), (9, .iconst 1, 1), (10, .invokevirtual 95, 3), (13, .ireturn, 1), (14, .iconst 0, 1), (15, .istore_n 2, 1), (16, .iconst 0, 1), (17, .istore_n 3, 1), (18, .iload_n 3, 1), (19, .aload_n 0, 1), (20, .getfield 7, 3), (23, .iconst 0, 1), (24, .iaload, 1), (25, .if_icmp .ge 80, 3), (28, .iconst 0, 1), (29, .istore 4, 2), (31, .iconst 0, 1), (32, .istore 5, 2), (34, .iload 5, 2), (36, .aload_n 0, 1), (37, .getfield 7, 3), (40, .iconst 1, 1), (41, .iaload, 1), (42, .if_icmp .ge 44, 3), (45, .iload 4, 2), (47, .ifCond .ne 26, 3), (50, .aload_n 0, 1), (51, .iload 5, 2), (53, .iconst 4, 1), (54, .invokevirtual 114, 3), (57, .iload_n 1, 1), (58, .if_icmp .ne 19, 3), (61, .aload_n 0, 1), (62, .iload 5, 2), (64, .iload_n 3, 1), (65, .iload_n 3, 1)] = true := by decide +kernel
theorem dt_X12_busy_1 : dtab cX12_busy [(66, .iconst (-1), 1), (67, .invokevirtual 127, 3), (70, .ifCond .eq 7, 3), (73, .iconst 1, 1), (74, .goto 4, 3), (77, .iconst 0, 1), (78, .istore 4, 2), (80, .iinc 5 1, 3), (83, .goto (-49), 3), (86, .iload_n 2, 1), (87, .iload 4, 2), (89, .ifCond .eq 7, 3), (92, .iconst 1, 1), (93, .goto 4, 3), (96, .iconst 0, 1), (97, .iadd, 1), (98, .istore_n 2, 1), (99, .iinc 3 1, 3), (102, .goto (-84), 3), (105, .iload_n 2, 1), (106, .ireturn, 1)] = true := by decide +kernel
theorem cal_X12_busy : Cal yX12_busy cX12_busy 6 (some .int) 1 := ⟨ww_628, ww_429, ⟨by decide, by decide, by decide⟩, by decide⟩
set_option maxHeartbeats 4000000 in
set_option maxRecDepth 100000 in
theorem c_X12_busy (l : Launch) (G : Gx) (x1 : Int32) (σ : St) (r0 : Int32) (σ0 : St) (h : f_X12_busy x1 σ = some (r0, σ0)) : MI l G yX12_busy cX12_busy 6 (some .int) 3 [.ref (ga G 6), .int x1] σ (some (.int r0)) σ0 := by
  refine MI_of RX12 rfl (by decide) [(0, .ref (ga G 6)), (1, .int x1)] rfl (Nat.le_of_ble_eq_true rfl) ?_
  intro X hXl C hR
  unfold f_X12_busy at h
  have J_18 : ∀ (x2 : Int32) (x3 : Int32) (σ : St), f_X12_busy_18 x1 x2 x3 σ = some (r0, σ0) → V X G 6 0 0 σ 18 [(0, .ref (ga G 6)), (1, .int x1), (2, .int x2), (3, .int x3)] [] := by
    intro x2 x3 σ h
    refine it_v (P := fun z : Int32 × Int32 => V X G 6 0 0 σ 18 [(0, .ref (ga G 6)), (1, .int x1), (2, .int z.1), (3, .int z.2)] []) ?_ (x2, x3) h
    clear h
    intro z w_18 h ih_18 ex_18
    obtain ⟨x2, x3⟩ := z
    have h : b_X12_busy_18 x1 x2 x3 σ = some w_18 := h
    show V X G 6 0 0 σ 18 [(0, .ref (ga G 6)), (1, .int x1), (2, .int x2), (3, .int x3)] []
    unfold b_X12_busy_18 at h
    have J_97 : ∀ (x3 : Int32) (s0 : Int32) (s1 : Int32), f_X12_busy_97 x1 x3 s0 s1 σ = some w_18 → V X G 6 0 0 σ 97 [(0, .ref (ga G 6)), (1, .int x1), (3, .int x3)] [.int s0, .int s1] := by
      intro x3 s0 s1 h
      unfold f_X12_busy_97 at h
      refine V_iadd C (dt_at dt_X12_busy_1 15 rfl) ?_
      refine V_istore_n C [1, 2, 0, 3] (lv' := [(0, .ref (ga G 6)), (1, .int x1), (2, .int (s1 + s0)), (3, .int x3)]) (dt_at dt_X12_busy_1 16 rfl) rfl (by decide) rfl ?_
      refine V_iinc C (x3 + 1) 3 [1, 2, 3, 0] (lv' := [(0, .ref (ga G 6)), (1, .int x1), (2, .int (s1 + s0)), (3, .int (x3 + 1))]) (dt_at dt_X12_busy_1 17 rfl) rfl (by rfl) (by decide) rfl ?_
      refine V_goto C 18 (dt_at dt_X12_busy_1 18 rfl) (by decide) ?_
      exact ih_18 ((s1 + s0), (x3 + 1)) (Option.some.inj h).symm
    have J_86 : ∀ (x2 : Int32) (x3 : Int32) (x4 : Int32), f_X12_busy_86 x1 x2 x3 x4 σ = some w_18 → V X G 6 0 0 σ 86 [(0, .ref (ga G 6)), (1, .int x1), (2, .int x2), (3, .int x3), (4, .int x4)] [] := by
      intro x2 x3 x4 h
      unfold f_X12_busy_86 at h
      refine V_iload_n C (dt_at dt_X12_busy_1 9 rfl) 2 rfl rfl ?_
      refine V_iload C (dt_at dt_X12_busy_1 10 rfl) 4 rfl ?_
      refine V_if_eq C 96 (dt_at dt_X12_busy_1 11 rfl) (by decide) (fun q22 => ?_) (fun q22 => ?_)
      · have h := ite_t q22 h
        refine V_iconst C 0 (dt_at dt_X12_busy_1 14 rfl) (by decide) ?_
        refine V_sub [0, 1, 3] (lv' := [(0, .ref (ga G 6)), (1, .int x1), (3, .int x3)]) rfl ?_
        exact J_97 x3 0 x2 h
      · have h := ite_f q22 h
        refine V_iconst C 1 (dt_at dt_X12_busy_1 12 rfl) (by decide) ?_
        refine V_goto C 97 (dt_at dt_X12_busy_1 13 rfl) (by decide) ?_
        refine V_sub [0, 1, 3] (lv' := [(0, .ref (ga G 6)), (1, .int x1), (3, .int x3)]) rfl ?_
        exact J_97 x3 1 x2 h
    have J_34 : ∀ (x2 : Int32) (x3 : Int32) (x4 : Int32) (x5 : Int32), f_X12_busy_34 x1 x2 x3 x4 x5 σ = some w_18 → V X G 6 0 0 σ 34 [(0, .ref (ga G 6)), (1, .int x1), (2, .int x2), (3, .int x3), (4, .int x4), (5, .int x5)] [] := by
      intro x2 x3 x4 x5 h
      refine it_v (P := fun z : Int32 × Int32 => V X G 6 0 0 σ 34 [(0, .ref (ga G 6)), (1, .int x1), (2, .int x2), (3, .int x3), (4, .int z.1), (5, .int z.2)] []) ?_ (x4, x5) h
      clear h
      intro z w_34 h ih_34 ex_34
      obtain ⟨x4, x5⟩ := z
      have h : b_X12_busy_34 x1 x2 x3 x4 x5 σ = some w_34 := h
      show V X G 6 0 0 σ 34 [(0, .ref (ga G 6)), (1, .int x1), (2, .int x2), (3, .int x3), (4, .int x4), (5, .int x5)] []
      unfold b_X12_busy_34 at h
      have J_78 : ∀ (x5 : Int32) (s0 : Int32), f_X12_busy_78 x1 x2 x3 x5 s0 σ = some w_34 → V X G 6 0 0 σ 78 [(0, .ref (ga G 6)), (1, .int x1), (2, .int x2), (3, .int x3), (5, .int x5)] [.int s0] := by
        intro x5 s0 h
        unfold f_X12_busy_78 at h
        refine V_istore C [1, 2, 3, 4, 0, 5] (lv' := [(0, .ref (ga G 6)), (1, .int x1), (2, .int x2), (3, .int x3), (4, .int s0), (5, .int x5)]) (dt_at dt_X12_busy_1 6 rfl) (by decide) rfl ?_
        refine V_iinc C (x5 + 1) 5 [1, 2, 3, 4, 5, 0] (lv' := [(0, .ref (ga G 6)), (1, .int x1), (2, .int x2), (3, .int x3), (4, .int s0), (5, .int (x5 + 1))]) (dt_at dt_X12_busy_1 7 rfl) rfl (by rfl) (by decide) rfl ?_
        refine V_goto C 34 (dt_at dt_X12_busy_1 8 rfl) (by decide) ?_
        exact ih_34 (s0, (x5 + 1)) (Option.some.inj h).symm
      have J_77 : ∀ (x5 : Int32), f_X12_busy_77 x1 x2 x3 x5 σ = some w_34 → V X G 6 0 0 σ 77 [(0, .ref (ga G 6)), (1, .int x1), (2, .int x2), (3, .int x3), (5, .int x5)] [] := by
        intro x5 h
        unfold f_X12_busy_77 at h
        refine V_iconst C 0 (dt_at dt_X12_busy_1 5 rfl) (by decide) ?_
        exact J_78 x5 0 h
      have J_73 : ∀ (x5 : Int32), f_X12_busy_73 x1 x2 x3 x5 σ = some w_34 → V X G 6 0 0 σ 73 [(0, .ref (ga G 6)), (1, .int x1), (2, .int x2), (3, .int x3), (5, .int x5)] [] := by
        intro x5 h
        unfold f_X12_busy_73 at h
        refine V_iconst C 1 (dt_at dt_X12_busy_1 3 rfl) (by decide) ?_
        refine V_goto C 78 (dt_at dt_X12_busy_1 4 rfl) (by decide) ?_
        exact J_78 x5 1 h
      refine V_iload C (dt_at dt_X12_busy_0 22 rfl) 5 rfl ?_
      refine V_aload_n C (dt_at dt_X12_busy_0 23 rfl) 0 rfl rfl ?_
      refine g_X12_7_6 C (dt_at dt_X12_busy_0 24 rfl) ?_
      refine V_iconst C 1 (dt_at dt_X12_busy_0 25 rfl) (by decide) ?_
      obtain ⟨h10, h⟩ := chk_s h
      refine al_84 C h10 (dt_at dt_X12_busy_0 26 rfl) ?_
      refine V_icmp_ge C 86 (dt_at dt_X12_busy_0 27 rfl) (by decide) (fun q11 => ?_) (fun q11 => ?_)
      · have h := ite_f q11 h
        refine V_sub [0, 1, 2, 3, 4] (lv' := [(0, .ref (ga G 6)), (1, .int x1), (2, .int x2), (3, .int x3), (4, .int x4)]) rfl ?_
        obtain ⟨t12, h, e_34⟩ := map_s h
        have e_34 := ex_34 _ e_34
        rw [e_34] at h
        exact J_86 x2 x3 x4 h
      · have h := ite_t q11 h
        refine V_iload C (dt_at dt_X12_busy_0 28 rfl) 4 rfl ?_
        refine V_if_ne C 73 (dt_at dt_X12_busy_0 29 rfl) (by decide) (fun q13 => ?_) (fun q13 => ?_)
        · have h := ite_f q13 h
          refine V_sub [0, 1, 2, 3, 5] (lv' := [(0, .ref (ga G 6)), (1, .int x1), (2, .int x2), (3, .int x3), (5, .int x5)]) rfl ?_
          exact J_73 x5 h
        · have h := ite_t q13 h
          refine V_aload_n C (dt_at dt_X12_busy_0 30 rfl) 0 rfl rfl ?_
          refine V_iload C (dt_at dt_X12_busy_0 31 rfl) 5 rfl ?_
          refine V_iconst C 4 (dt_at dt_X12_busy_0 32 rfl) (by decide) ?_
          obtain ⟨r14, e15, h⟩ := bd_s h
          refine cv_X12_its C ww_460 x5 4 e15 (Nat.le_of_ble_eq_true rfl) (Nat.le_of_ble_eq_true rfl) z0 (dt_at dt_X12_busy_0 33 rfl) ?_
          refine V_iload_n C (dt_at dt_X12_busy_0 34 rfl) 1 rfl rfl ?_
          refine V_icmp_ne C 77 (dt_at dt_X12_busy_0 35 rfl) (by decide) (fun q17 => ?_) (fun q17 => ?_)
          · have h := ite_f q17 h
            refine V_sub [0, 1, 2, 3, 5] (lv' := [(0, .ref (ga G 6)), (1, .int x1), (2, .int x2), (3, .int x3), (5, .int x5)]) rfl ?_
            exact J_77 x5 h
          · have h := ite_t q17 h
            refine V_aload_n C (dt_at dt_X12_busy_0 36 rfl) 0 rfl rfl ?_
            refine V_iload C (dt_at dt_X12_busy_0 37 rfl) 5 rfl ?_
            refine V_iload_n C (dt_at dt_X12_busy_0 38 rfl) 3 rfl rfl ?_
            refine V_iload_n C (dt_at dt_X12_busy_0 39 rfl) 3 rfl rfl ?_
            refine V_iconst C (-1) (dt_at dt_X12_busy_1 0 rfl) (by decide) ?_
            obtain ⟨r18, e19, h⟩ := bd_s h
            refine cv_X12_isOn C ww_627 x5 x3 x3 (-1) e19 (Nat.le_of_ble_eq_true rfl) (Nat.le_of_ble_eq_true rfl) z0 (dt_at dt_X12_busy_1 1 rfl) ?_
            refine V_if_eq C 77 (dt_at dt_X12_busy_1 2 rfl) (by decide) (fun q21 => ?_) (fun q21 => ?_)
            · have h := ite_t q21 h
              refine V_sub [0, 1, 2, 3, 5] (lv' := [(0, .ref (ga G 6)), (1, .int x1), (2, .int x2), (3, .int x3), (5, .int x5)]) rfl ?_
              exact J_77 x5 h
            · have h := ite_f q21 h
              refine V_sub [0, 1, 2, 3, 5] (lv' := [(0, .ref (ga G 6)), (1, .int x1), (2, .int x2), (3, .int x3), (5, .int x5)]) rfl ?_
              exact J_73 x5 h
    refine V_iload_n C (dt_at dt_X12_busy_0 12 rfl) 3 rfl rfl ?_
    refine V_aload_n C (dt_at dt_X12_busy_0 13 rfl) 0 rfl rfl ?_
    refine g_X12_7_6 C (dt_at dt_X12_busy_0 14 rfl) ?_
    refine V_iconst C 0 (dt_at dt_X12_busy_0 15 rfl) (by decide) ?_
    obtain ⟨h8, h⟩ := chk_s h
    refine al_84 C h8 (dt_at dt_X12_busy_0 16 rfl) ?_
    refine V_icmp_ge C 105 (dt_at dt_X12_busy_0 17 rfl) (by decide) (fun q9 => ?_) (fun q9 => ?_)
    · have h := ite_f q9 h
      refine V_iload_n C (dt_at dt_X12_busy_1 19 rfl) 2 rfl rfl ?_
      have e_18 := ex_18 _ (Option.some.inj h).symm
      obtain ⟨e1_, e2_⟩ := Prod.mk.inj e_18
      subst e1_; subst e2_
      exact V_iret C hR (dt_at dt_X12_busy_1 20 rfl)
    · have h := ite_t q9 h
      refine V_iconst C 0 (dt_at dt_X12_busy_0 18 rfl) (by decide) ?_
      refine V_istore C [1, 2, 3, 4, 0] (lv' := [(0, .ref (ga G 6)), (1, .int x1), (2, .int x2), (3, .int x3), (4, .int 0)]) (dt_at dt_X12_busy_0 19 rfl) (by decide) rfl ?_
      refine V_iconst C 0 (dt_at dt_X12_busy_0 20 rfl) (by decide) ?_
      refine V_istore C [1, 2, 3, 4, 5, 0] (lv' := [(0, .ref (ga G 6)), (1, .int x1), (2, .int x2), (3, .int x3), (4, .int 0), (5, .int 0)]) (dt_at dt_X12_busy_0 21 rfl) (by decide) rfl ?_
      exact J_34 x2 x3 0 0 h
  refine V_aload_n C (dt_at dt_X12_busy_0 0 rfl) 0 rfl rfl ?_
  refine V_iload_n C (dt_at dt_X12_busy_0 1 rfl) 1 rfl rfl ?_
  obtain ⟨r1, e2, h⟩ := bd_s h
  refine cv_X12_isPlayer C ww_626 x1 e2 (Nat.le_of_ble_eq_true rfl) (Nat.le_of_ble_eq_true rfl) z0 (dt_at dt_X12_busy_0 2 rfl) ?_
  refine V_if_ne C 14 (dt_at dt_X12_busy_0 3 rfl) (by decide) (fun q4 => ?_) (fun q4 => ?_)
  · have h := ite_f q4 h
    refine V_iconst C 0 (dt_at dt_X12_busy_0 8 rfl) (by decide) ?_
    refine V_istore_n C [1, 2, 0] (lv' := [(0, .ref (ga G 6)), (1, .int x1), (2, .int 0)]) (dt_at dt_X12_busy_0 9 rfl) rfl (by decide) rfl ?_
    refine V_iconst C 0 (dt_at dt_X12_busy_0 10 rfl) (by decide) ?_
    refine V_istore_n C [1, 2, 3, 0] (lv' := [(0, .ref (ga G 6)), (1, .int x1), (2, .int 0), (3, .int 0)]) (dt_at dt_X12_busy_0 11 rfl) rfl (by decide) rfl ?_
    exact J_18 0 0 σ h
  · have h := ite_t q4 h
    refine V_aload_n C (dt_at dt_X12_busy_0 4 rfl) 0 rfl rfl ?_
    refine V_iconst C 1 (dt_at dt_X12_busy_0 5 rfl) (by decide) ?_
    obtain ⟨r5, σ7, e6, h⟩ := bd2_s h
    refine cv_X12_finds C ww_462 1 e6 (Nat.le_of_ble_eq_true rfl) (Nat.le_of_ble_eq_true rfl) z0 (dt_at dt_X12_busy_0 6 rfl) ?_
    obtain ⟨e1_, e2_⟩ := pin2 h
    subst e1_; subst e2_
    exact V_iret C hR (dt_at dt_X12_busy_0 7 rfl)
theorem cv_X12_busy (C : Ck X G cc own nL d) {idx : Nat} (hlk : Cond.methodLink own idx yX12_busy ∈ gtb) (x1 : Int32) {r0 : Int32} {σ0 : St} (e : f_X12_busy x1 σ = some (r0, σ0)) (hdd : 4 ≤ d) (hroom : (rest.map fun v => v.category).sum ≤ 8) (hcs : cells ≤ (xR X).cells ∧ slots ≤ (xR X).slots) (hd : decode cc pc = .ok (.invokevirtual idx, 3)) (k : V X G nL cells slots σ0 (pc + 3) lv (.int r0 :: rest)) : V X G nL cells slots σ pc lv (.int x1 :: .ref (ga G 6) :: rest) := V_callV C (As := [.int x1]) (c_X12_busy X.2.1 G x1 σ r0 σ0 e) cal_X12_busy ww_629 ww_630 hlk rfl hdd (lt110 rfl) rfl rfl rfl hroom hcs hd k
theorem dt_X12_byteAt_0 : dtab cX12_byteAt [(0, .iload_n 1, 1), (1, .aload_n 0, 1), (2, .getfield 7, 3), (5, .iconst 4, 1), (6, .iaload, 1), (7, .if_icmp .ge 16, 3), (10, .aload_n 0, 1), (11, .getfield 7, 3), (14, .sipush 240, 3), (17, .iload_n 1, 1), (18, .iadd, 1), (19, .iaload, 1), (20, .goto 4, 3), (23, .iconst (-1), 1), (24, .ireturn, 1)] = true := by decide +kernel
theorem cal_X12_byteAt : Cal yX12_byteAt cX12_byteAt 2 (some .int) 1 := ⟨ww_631, ww_429, ⟨by decide, by decide, by decide⟩, by decide⟩
set_option maxHeartbeats 4000000 in
set_option maxRecDepth 100000 in
theorem c_X12_byteAt (l : Launch) (G : Gx) (x1 : Int32) (σ : St) (r0 : Int32) (h : f_X12_byteAt x1 σ = some r0) : MI l G yX12_byteAt cX12_byteAt 2 (some .int) 1 [.ref (ga G 6), .int x1] σ (some (.int r0)) σ := by
  refine MI_of RX12 rfl (by decide) [(0, .ref (ga G 6)), (1, .int x1)] rfl (Nat.le_of_ble_eq_true rfl) ?_
  intro X hXl C hR
  unfold f_X12_byteAt at h
  refine V_iload_n C (dt_at dt_X12_byteAt_0 0 rfl) 1 rfl rfl ?_
  refine V_aload_n C (dt_at dt_X12_byteAt_0 1 rfl) 0 rfl rfl ?_
  refine g_X12_7_6 C (dt_at dt_X12_byteAt_0 2 rfl) ?_
  refine V_iconst C 4 (dt_at dt_X12_byteAt_0 3 rfl) (by decide) ?_
  obtain ⟨h1, h⟩ := chk_s h
  refine al_84 C h1 (dt_at dt_X12_byteAt_0 4 rfl) ?_
  refine V_icmp_ge C 23 (dt_at dt_X12_byteAt_0 5 rfl) (by decide) (fun q2 => ?_) (fun q2 => ?_)
  · have h := ite_f q2 h
    refine V_iconst C (-1) (dt_at dt_X12_byteAt_0 13 rfl) (by decide) ?_
    have e1_ := Option.some.inj h
    subst e1_
    exact V_iret C hR (dt_at dt_X12_byteAt_0 14 rfl)
  · have h := ite_t q2 h
    refine V_aload_n C (dt_at dt_X12_byteAt_0 6 rfl) 0 rfl rfl ?_
    refine g_X12_7_6 C (dt_at dt_X12_byteAt_0 7 rfl) ?_
    refine V_sipush C 240 (dt_at dt_X12_byteAt_0 8 rfl) (by decide) ?_
    refine V_iload_n C (dt_at dt_X12_byteAt_0 9 rfl) 1 rfl rfl ?_
    refine V_iadd C (dt_at dt_X12_byteAt_0 10 rfl) ?_
    obtain ⟨h3, h⟩ := chk_s h
    refine al_84 C h3 (dt_at dt_X12_byteAt_0 11 rfl) ?_
    refine V_goto C 24 (dt_at dt_X12_byteAt_0 12 rfl) (by decide) ?_
    have e1_ := Option.some.inj h
    subst e1_
    exact V_iret C hR (dt_at dt_X12_byteAt_0 14 rfl)
theorem cv_X12_byteAt (C : Ck X G cc own nL d) {idx : Nat} (hlk : Cond.methodLink own idx yX12_byteAt ∈ gtb) (x1 : Int32) {r0 : Int32} (e : f_X12_byteAt x1 σ = some r0) (hdd : 2 ≤ d) (hroom : (rest.map fun v => v.category).sum ≤ 8) (hcs : cells ≤ (xR X).cells ∧ slots ≤ (xR X).slots) (hd : decode cc pc = .ok (.invokevirtual idx, 3)) (k : V X G nL cells slots σ (pc + 3) lv (.int r0 :: rest)) : V X G nL cells slots σ pc lv (.int x1 :: .ref (ga G 6) :: rest) := V_callV C (As := [.int x1]) (c_X12_byteAt X.2.1 G x1 σ r0 e) cal_X12_byteAt ww_632 ww_633 hlk rfl hdd (lt110 rfl) rfl rfl rfl hroom hcs hd k
theorem dt_X12_can_0 : dtab cX12_can [(0, .aload_n 0, 1), (1, .iload_n 1, 1), (2, .invokevirtual 145, 3), (5, .ifCond .eq 11, 3), (8, .aload_n 0, 1), (9, .iload_n 2, 1), (10, .invokevirtual 110, 3), (13, .ifCond .ne 11, 3), (16, .aload_n 0, 1), (17, .iconst 1, 1), (18, .invokevirtual 95, 3), (21, .goto 17, 3), (24, .aload_n 0, 1), (25, .iload_n 1, 1), (26, .iload_n 2, 1), (27, .invokevirtual 160, 3), (30, .ifCond .eq 7, 3), (33, .iconst 1, 1), (34, .goto 4, 3), (37, .iconst 0, 1), (38, .ireturn, 1)] = true := by decide +kernel
theorem cal_X12_can : Cal yX12_can cX12_can 3 (some .int) 2 := ⟨ww_634, ww_429, ⟨by decide, by decide, by decide⟩, by decide⟩
set_option maxHeartbeats 4000000 in
set_option maxRecDepth 100000 in
theorem c_X12_can (l : Launch) (G : Gx) (x1 : Int32) (x2 : Int32) (σ : St) (r0 : Int32) (σ0 : St) (h : f_X12_can x1 x2 σ = some (r0, σ0)) : MI l G yX12_can cX12_can 3 (some .int) 4 [.ref (ga G 6), .int x1, .int x2] σ (some (.int r0)) σ0 := by
  refine MI_of RX12 rfl (by decide) [(0, .ref (ga G 6)), (1, .int x1), (2, .int x2)] rfl (Nat.le_of_ble_eq_true rfl) ?_
  intro X hXl C hR
  unfold f_X12_can at h
  have J_16 : ∀ (σ : St), f_X12_can_16 σ = some (r0, σ0) → V X G 3 0 0 σ 16 [(0, .ref (ga G 6))] [] := by
    intro σ h
    unfold f_X12_can_16 at h
    refine V_aload_n C (dt_at dt_X12_can_0 8 rfl) 0 rfl rfl ?_
    refine V_iconst C 1 (dt_at dt_X12_can_0 9 rfl) (by decide) ?_
    obtain ⟨r13, σ15, e14, h⟩ := bd2_s h
    refine cv_X12_finds C ww_462 1 e14 (Nat.le_of_ble_eq_true rfl) (Nat.le_of_ble_eq_true rfl) z0 (dt_at dt_X12_can_0 10 rfl) ?_
    refine V_goto C 38 (dt_at dt_X12_can_0 11 rfl) (by decide) ?_
    obtain ⟨e1_, e2_⟩ := pin2 h
    subst e1_; subst e2_
    exact V_iret C hR (dt_at dt_X12_can_0 20 rfl)
  refine V_aload_n C (dt_at dt_X12_can_0 0 rfl) 0 rfl rfl ?_
  refine V_iload_n C (dt_at dt_X12_can_0 1 rfl) 1 rfl rfl ?_
  obtain ⟨r1, e2, h⟩ := bd_s h
  refine cv_X12_isPlayer C ww_626 x1 e2 (Nat.le_of_ble_eq_true rfl) (Nat.le_of_ble_eq_true rfl) z0 (dt_at dt_X12_can_0 2 rfl) ?_
  refine V_if_eq C 16 (dt_at dt_X12_can_0 3 rfl) (by decide) (fun q4 => ?_) (fun q4 => ?_)
  · have h := ite_t q4 h
    refine V_sub [0] (lv' := [(0, .ref (ga G 6))]) rfl ?_
    exact J_16 σ h
  · have h := ite_f q4 h
    refine V_aload_n C (dt_at dt_X12_can_0 4 rfl) 0 rfl rfl ?_
    refine V_iload_n C (dt_at dt_X12_can_0 5 rfl) 2 rfl rfl ?_
    obtain ⟨r5, e6, h⟩ := bd_s h
    refine cv_X12_isPart C ww_459 x2 e6 (Nat.le_of_ble_eq_true rfl) (Nat.le_of_ble_eq_true rfl) z0 (dt_at dt_X12_can_0 6 rfl) ?_
    refine V_if_ne C 24 (dt_at dt_X12_can_0 7 rfl) (by decide) (fun q8 => ?_) (fun q8 => ?_)
    · have h := ite_f q8 h
      refine V_aload_n C (dt_at dt_X12_can_0 12 rfl) 0 rfl rfl ?_
      refine V_iload_n C (dt_at dt_X12_can_0 13 rfl) 1 rfl rfl ?_
      refine V_iload_n C (dt_at dt_X12_can_0 14 rfl) 2 rfl rfl ?_
      obtain ⟨r9, σ11, e10, h⟩ := bd2_s h
      refine cv_X12_isAble C ww_515 x1 x2 e10 (Nat.le_of_ble_eq_true rfl) (Nat.le_of_ble_eq_true rfl) z0 (dt_at dt_X12_can_0 15 rfl) ?_
      refine V_if_eq C 37 (dt_at dt_X12_can_0 16 rfl) (by decide) (fun q12 => ?_) (fun q12 => ?_)
      · have h := ite_t q12 h
        refine V_iconst C 0 (dt_at dt_X12_can_0 19 rfl) (by decide) ?_
        obtain ⟨e1_, e2_⟩ := pin2 h
        subst e1_; subst e2_
        exact V_iret C hR (dt_at dt_X12_can_0 20 rfl)
      · have h := ite_f q12 h
        refine V_iconst C 1 (dt_at dt_X12_can_0 17 rfl) (by decide) ?_
        refine V_goto C 38 (dt_at dt_X12_can_0 18 rfl) (by decide) ?_
        obtain ⟨e1_, e2_⟩ := pin2 h
        subst e1_; subst e2_
        exact V_iret C hR (dt_at dt_X12_can_0 20 rfl)
    · have h := ite_t q8 h
      refine V_sub [0] (lv' := [(0, .ref (ga G 6))]) rfl ?_
      exact J_16 σ h
theorem cv_X12_can (C : Ck X G cc own nL d) {idx : Nat} (hlk : Cond.methodLink own idx yX12_can ∈ gtb) (x1 : Int32) (x2 : Int32) {r0 : Int32} {σ0 : St} (e : f_X12_can x1 x2 σ = some (r0, σ0)) (hdd : 5 ≤ d) (hroom : (rest.map fun v => v.category).sum ≤ 8) (hcs : cells ≤ (xR X).cells ∧ slots ≤ (xR X).slots) (hd : decode cc pc = .ok (.invokevirtual idx, 3)) (k : V X G nL cells slots σ0 (pc + 3) lv (.int r0 :: rest)) : V X G nL cells slots σ pc lv (.int x2 :: .int x1 :: .ref (ga G 6) :: rest) := V_callV C (As := [.int x1, .int x2]) (c_X12_can X.2.1 G x1 x2 σ r0 σ0 e) cal_X12_can ww_635 ww_636 hlk rfl hdd (lt110 rfl) rfl rfl rfl hroom hcs hd k
theorem dt_X12_cast_0 : dtab cX12_cast [(0, .aload_n 0, 1), (1, .iload_n 1, 1), (2, .invokevirtual 110, 3), (5, .ifCond .eq 16, 3), (8, .iload_n 2, 1), (9, .iconst (-1), 1), (10, .if_icmp .eq 17, 3), (13, .aload_n 0, 1), (14, .iload_n 2, 1), (15, .invokevirtual 145, 3), (18, .ifCond .ne 9, 3), (21, .aload_n 0, 1), (22, .iconst 1, 1), (23, .invokevirtual 95, 3), (26, .ireturn, 1), (27, .aload_n 0, 1), (28, .iload_n 1, 1), (29, .iconst 4, 1), (30, .invokevirtual 114, 3), (33, .istore_n 3, 1), (34, .aload_n 0, 1), (35, .getfield 7, 3), (38, .bipush 10, 2), (40, .iconst 5, 1), (41, .iload_n 1, 1), (42, .imul, 1), (43, .iadd, 1), (44, .iconst 4, 1), (45, .iadd, 1), (46, .iload_n 2, 1), (47, .iastore, 1), (48, .iload_n 3, 1), (49, .ireturn, 1)] = true := by decide +kernel
theorem cal_X12_cast : Cal yX12_cast cX12_cast 4 (some .int) 2 := ⟨ww_637, ww_429, ⟨by decide, by decide, by decide⟩, by decide⟩
set_option maxHeartbeats 4000000 in
set_option maxRecDepth 100000 in
theorem c_X12_cast (l : Launch) (G : Gx) (x1 : Int32) (x2 : Int32) (σ : St) (r0 : Int32) (σ0 : St) (h : f_X12_cast x1 x2 σ = some (r0, σ0)) : MI l G yX12_cast cX12_cast 4 (some .int) 3 [.ref (ga G 6), .int x1, .int x2] σ (some (.int r0)) σ0 := by
  refine MI_of RX12 rfl (by decide) [(0, .ref (ga G 6)), (1, .int x1), (2, .int x2)] rfl (Nat.le_of_ble_eq_true rfl) ?_
  intro X hXl C hR
  unfold f_X12_cast at h
  have J_27 : ∀ (σ : St), f_X12_cast_27 x1 x2 σ = some (r0, σ0) → V X G 4 0 0 σ 27 [(0, .ref (ga G 6)), (1, .int x1), (2, .int x2)] [] := by
    intro σ h
    unfold f_X12_cast_27 at h
    refine V_aload_n C (dt_at dt_X12_cast_0 15 rfl) 0 rfl rfl ?_
    refine V_iload_n C (dt_at dt_X12_cast_0 16 rfl) 1 rfl rfl ?_
    refine V_iconst C 4 (dt_at dt_X12_cast_0 17 rfl) (by decide) ?_
    obtain ⟨r13, e14, h⟩ := bd_s h
    refine cv_X12_its C ww_460 x1 4 e14 (Nat.le_of_ble_eq_true rfl) (Nat.le_of_ble_eq_true rfl) z0 (dt_at dt_X12_cast_0 18 rfl) ?_
    refine V_istore_n C [1, 2, 3, 0] (lv' := [(0, .ref (ga G 6)), (1, .int x1), (2, .int x2), (3, .int r13)]) (dt_at dt_X12_cast_0 19 rfl) rfl (by decide) rfl ?_
    refine V_aload_n C (dt_at dt_X12_cast_0 20 rfl) 0 rfl rfl ?_
    refine g_X12_7_6 C (dt_at dt_X12_cast_0 21 rfl) ?_
    refine V_bipush C 10 (dt_at dt_X12_cast_0 22 rfl) (by decide) ?_
    refine V_iconst C 5 (dt_at dt_X12_cast_0 23 rfl) (by decide) ?_
    refine V_iload_n C (dt_at dt_X12_cast_0 24 rfl) 1 rfl rfl ?_
    refine V_imul C (dt_at dt_X12_cast_0 25 rfl) ?_
    refine V_iadd C (dt_at dt_X12_cast_0 26 rfl) ?_
    refine V_iconst C 4 (dt_at dt_X12_cast_0 27 rfl) (by decide) ?_
    refine V_iadd C (dt_at dt_X12_cast_0 28 rfl) ?_
    refine V_iload_n C (dt_at dt_X12_cast_0 29 rfl) 2 rfl rfl ?_
    obtain ⟨h17, h⟩ := chk_s h
    obtain ⟨σ16, eσ16, h⟩ := nm_s h
    refine V_st eσ16 ?_ (fun k => as_84 C h17 (dt_at dt_X12_cast_0 30 rfl) k)
    refine V_iload_n C (dt_at dt_X12_cast_0 31 rfl) 3 rfl rfl ?_
    obtain ⟨e1_, e2_⟩ := pin2 h
    subst e1_; subst e2_
    exact V_iret C hR (dt_at dt_X12_cast_0 32 rfl)
  have J_21 : ∀ (σ : St), f_X12_cast_21 σ = some (r0, σ0) → V X G 4 0 0 σ 21 [(0, .ref (ga G 6))] [] := by
    intro σ h
    unfold f_X12_cast_21 at h
    refine V_aload_n C (dt_at dt_X12_cast_0 11 rfl) 0 rfl rfl ?_
    refine V_iconst C 1 (dt_at dt_X12_cast_0 12 rfl) (by decide) ?_
    obtain ⟨r10, σ12, e11, h⟩ := bd2_s h
    refine cv_X12_finds C ww_462 1 e11 (Nat.le_of_ble_eq_true rfl) (Nat.le_of_ble_eq_true rfl) z0 (dt_at dt_X12_cast_0 13 rfl) ?_
    obtain ⟨e1_, e2_⟩ := pin2 h
    subst e1_; subst e2_
    exact V_iret C hR (dt_at dt_X12_cast_0 14 rfl)
  refine V_aload_n C (dt_at dt_X12_cast_0 0 rfl) 0 rfl rfl ?_
  refine V_iload_n C (dt_at dt_X12_cast_0 1 rfl) 1 rfl rfl ?_
  obtain ⟨r1, e2, h⟩ := bd_s h
  refine cv_X12_isPart C ww_459 x1 e2 (Nat.le_of_ble_eq_true rfl) (Nat.le_of_ble_eq_true rfl) z0 (dt_at dt_X12_cast_0 2 rfl) ?_
  refine V_if_eq C 21 (dt_at dt_X12_cast_0 3 rfl) (by decide) (fun q4 => ?_) (fun q4 => ?_)
  · have h := ite_t q4 h
    refine V_sub [0] (lv' := [(0, .ref (ga G 6))]) rfl ?_
    exact J_21 σ h
  · have h := ite_f q4 h
    refine V_iload_n C (dt_at dt_X12_cast_0 4 rfl) 2 rfl rfl ?_
    refine V_iconst C (-1) (dt_at dt_X12_cast_0 5 rfl) (by decide) ?_
    refine V_icmp_eq C 27 (dt_at dt_X12_cast_0 6 rfl) (by decide) (fun q5 => ?_) (fun q5 => ?_)
    · have h := ite_t q5 h
      exact J_27 σ h
    · have h := ite_f q5 h
      refine V_aload_n C (dt_at dt_X12_cast_0 7 rfl) 0 rfl rfl ?_
      refine V_iload_n C (dt_at dt_X12_cast_0 8 rfl) 2 rfl rfl ?_
      obtain ⟨r6, e7, h⟩ := bd_s h
      refine cv_X12_isPlayer C ww_626 x2 e7 (Nat.le_of_ble_eq_true rfl) (Nat.le_of_ble_eq_true rfl) z0 (dt_at dt_X12_cast_0 9 rfl) ?_
      refine V_if_ne C 27 (dt_at dt_X12_cast_0 10 rfl) (by decide) (fun q9 => ?_) (fun q9 => ?_)
      · have h := ite_f q9 h
        exact J_27 σ h
      · have h := ite_t q9 h
        refine V_sub [0] (lv' := [(0, .ref (ga G 6))]) rfl ?_
        exact J_21 σ h
theorem cv_X12_cast (C : Ck X G cc own nL d) {idx : Nat} (hlk : Cond.methodLink own idx yX12_cast ∈ gtb) (x1 : Int32) (x2 : Int32) {r0 : Int32} {σ0 : St} (e : f_X12_cast x1 x2 σ = some (r0, σ0)) (hdd : 4 ≤ d) (hroom : (rest.map fun v => v.category).sum ≤ 8) (hcs : cells ≤ (xR X).cells ∧ slots ≤ (xR X).slots) (hd : decode cc pc = .ok (.invokevirtual idx, 3)) (k : V X G nL cells slots σ0 (pc + 3) lv (.int r0 :: rest)) : V X G nL cells slots σ pc lv (.int x2 :: .int x1 :: .ref (ga G 6) :: rest) := V_callV C (As := [.int x1, .int x2]) (c_X12_cast X.2.1 G x1 x2 σ r0 σ0 e) cal_X12_cast ww_638 ww_639 hlk rfl hdd (lt110 rfl) rfl rfl rfl hroom hcs hd k
theorem dt_X12_findWays_0 : dtab cX12_findWays [(0, .aload_n 0, 1), (1, .invokevirtual 237, 3), (4, .iconst 0, 1), (5, .istore_n 2, 1), (6, .iload_n 2, 1), (7, .sipush 1024, 3), (10, .if_icmp .ge 24, 3), (13, .aload_n 0, 1), (14, .getfield 62, 3), (17, .iload_n 2, 1), (18, .iload_n 2, 1), (19, .ifCond .ne 7, 3), (22, .lconst 1, 1), (23, .goto 4, 3), (26, .lconst 0, 1), (27, .lastore, 1), (28, .iinc 2 1, 3), (31, .goto (-25), 3), (34, .iconst 0, 1), (35, .istore_n 2, 1), (36, .iload_n 2, 1), (37, .bipush 6, 2), (39, .if_icmp .ge 142, 3), (42, .iload_n 1, 1), (43, .iload_n 2, 1), (44, .ishr, 1), (45, .iconst 1, 1), (46, .iand, 1), (47, .ifCond .ne 6, 3), (50, .goto 125, 3), (53, .aload_n 0, 1), (54, .iload_n 2, 1), (55, .invokevirtual 256, 3), (58, .iconst 0, 1), (59, .istore_n 3, 1), (60, .iload_n 3, 1), (61, .aload_n 0, 1), (62, .invokevirtual 249, 3), (65, .if_icmp .gt 78, 3), (68, .aload_n 0, 1)] = true := by decide +kernel
theorem dt_X12_findWays_1 : dtab cX12_findWays [(69, .getfield 62, 3), (72, .iload_n 3, 1), (73, .laload, 1), (74, .lstore 4, 2), (76, .iload_n 3, 1), (77, .istore 6, 2), (79, .iload 6, 2), (81, .ifCond .le 44, 3), (84, .lload 4, 2), (86, .aload_n 0, 1), (87, .getfield 52, 3), (90, .iload 6, 2), (92, .baload, 1), (93, .ifCond .eq 17, 3), (96, .aload_n 0, 1), (97, .getfield 62, 3), (100, .iload_n 3, 1), (101, .iload 6, 2), (103, .iconst (-1), 1), (104, .ixor, 1), (105, .iand, 1), (106, .laload, 1), (107, .goto 4, 3), (110, .lconst 0, 1), (111, .ladd, 1), (112, .lstore 4, 2), (114, .iload 6, 2), (116, .iconst 1, 1), (117, .isub, 1), (118, .iload_n 3, 1), (119, .iand, 1), (120, .istore 6, 2), (122, .goto (-43), 3), (125, .aload_n 0, 1), (126, .getfield 62, 3), (129, .sipush 1024, 3), (132, .iload_n 3, 1), (133, .iadd, 1), (134, .lload 4, 2), (136, .lastore, 1)] = true := by decide +kernel
theorem dt_X12_findWays_2 : dtab cX12_findWays [(137, .iinc 3 1, 3), (140, .goto (-80), 3), (143, .iconst 0, 1), (144, .istore_n 3, 1), (145, .iload_n 3, 1), (146, .aload_n 0, 1), (147, .invokevirtual 249, 3), (150, .if_icmp .gt 25, 3), (153, .aload_n 0, 1), (154, .getfield 62, 3), (157, .iload_n 3, 1), (158, .aload_n 0, 1), (159, .getfield 62, 3), (162, .sipush 1024, 3), (165, .iload_n 3, 1), (166, .iadd, 1), (167, .laload, 1), (168, .lastore, 1), (169, .iinc 3 1, 3), (172, .goto (-27), 3), (175, .iinc 2 1, 3), (178, .goto (-142), 3), (181, .return_, 1)] = true := by decide +kernel
theorem cal_X12_findWays : Cal yX12_findWays cX12_findWays 7 none 1 := ⟨ww_641, ww_429, ⟨by decide, by decide, by decide⟩, by decide⟩
set_option maxHeartbeats 4000000 in
set_option maxRecDepth 100000 in
theorem c_X12_findWays (l : Launch) (G : Gx) (x1 : Int32) (σ : St) (σ0 : St) (h : f_X12_findWays x1 σ = some σ0) : MI l G yX12_findWays cX12_findWays 7 none 7 [.ref (ga G 6), .int x1] σ none σ0 := by
  refine MI_of RX12 rfl (by decide) [(0, .ref (ga G 6)), (1, .int x1)] rfl (Nat.le_of_ble_eq_true rfl) ?_
  intro X hXl C hR
  unfold f_X12_findWays at h
  have J_36 : ∀ (x2 : Int32) (σ : St), f_X12_findWays_36 x1 x2 σ = some σ0 → V X G 7 0 0 σ 36 [(0, .ref (ga G 6)), (1, .int x1), (2, .int x2)] [] := by
    intro x2 σ h
    refine it_v (P := fun z : Int32 × St => V X G 7 0 0 z.2 36 [(0, .ref (ga G 6)), (1, .int x1), (2, .int z.1)] []) ?_ (x2, σ) h
    clear h
    intro z w_36 h ih_36 ex_36
    obtain ⟨x2, σ⟩ := z
    have h : b_X12_findWays_36 x1 x2 σ = some w_36 := h
    show V X G 7 0 0 σ 36 [(0, .ref (ga G 6)), (1, .int x1), (2, .int x2)] []
    unfold b_X12_findWays_36 at h
    have J_175 : ∀ (x2 : Int32) (σ : St), f_X12_findWays_175 x1 x2 σ = some w_36 → V X G 7 0 0 σ 175 [(0, .ref (ga G 6)), (1, .int x1), (2, .int x2)] [] := by
      intro x2 σ h
      unfold f_X12_findWays_175 at h
      refine V_iinc C (x2 + 1) 2 [1, 2, 0] (lv' := [(0, .ref (ga G 6)), (1, .int x1), (2, .int (x2 + 1))]) (dt_at dt_X12_findWays_2 20 rfl) rfl (by rfl) (by decide) rfl ?_
      refine V_goto C 36 (dt_at dt_X12_findWays_2 21 rfl) (by decide) ?_
      exact ih_36 ((x2 + 1), σ) (Option.some.inj h).symm
    have J_145 : ∀ (x2 : Int32) (x3 : Int32) (σ : St), f_X12_findWays_145 x1 x2 x3 σ = some w_36 → V X G 7 0 0 σ 145 [(0, .ref (ga G 6)), (1, .int x1), (2, .int x2), (3, .int x3)] [] := by
      intro x2 x3 σ h
      refine it_v (P := fun z : Int32 × St => V X G 7 0 0 z.2 145 [(0, .ref (ga G 6)), (1, .int x1), (2, .int x2), (3, .int z.1)] []) ?_ (x3, σ) h
      clear h
      intro z w_145 h ih_145 ex_145
      obtain ⟨x3, σ⟩ := z
      have h : b_X12_findWays_145 x1 x2 x3 σ = some w_145 := h
      show V X G 7 0 0 σ 145 [(0, .ref (ga G 6)), (1, .int x1), (2, .int x2), (3, .int x3)] []
      unfold b_X12_findWays_145 at h
      refine V_iload_n C (dt_at dt_X12_findWays_2 4 rfl) 3 rfl rfl ?_
      refine V_aload_n C (dt_at dt_X12_findWays_2 5 rfl) 0 rfl rfl ?_
      obtain ⟨r27, e28, h⟩ := bd_s h
      refine cv_X12_allParts C ww_527  e28 (Nat.le_of_ble_eq_true rfl) (Nat.le_of_ble_eq_true rfl) z0 (dt_at dt_X12_findWays_2 6 rfl) ?_
      refine V_icmp_gt C 175 (dt_at dt_X12_findWays_2 7 rfl) (by decide) (fun q30 => ?_) (fun q30 => ?_)
      · have h := ite_t q30 h
        refine V_sub [0, 1, 2] (lv' := [(0, .ref (ga G 6)), (1, .int x1), (2, .int x2)]) rfl ?_
        obtain ⟨t31, h, e_145⟩ := map_s h
        have e_145 := ex_145 _ e_145
        rw [e_145] at h
        exact J_175 x2 σ h
      · have h := ite_f q30 h
        refine V_aload_n C (dt_at dt_X12_findWays_2 8 rfl) 0 rfl rfl ?_
        refine g_X12_62_6 C (dt_at dt_X12_findWays_2 9 rfl) ?_
        refine V_iload_n C (dt_at dt_X12_findWays_2 10 rfl) 3 rfl rfl ?_
        refine V_aload_n C (dt_at dt_X12_findWays_2 11 rfl) 0 rfl rfl ?_
        refine g_X12_62_6 C (dt_at dt_X12_findWays_2 12 rfl) ?_
        refine V_sipush C 1024 (dt_at dt_X12_findWays_2 13 rfl) (by decide) ?_
        refine V_iload_n C (dt_at dt_X12_findWays_2 14 rfl) 3 rfl rfl ?_
        refine V_iadd C (dt_at dt_X12_findWays_2 15 rfl) ?_
        obtain ⟨h32, h⟩ := chk_s h
        refine V_lald C h32 (dt_at dt_X12_findWays_2 16 rfl) ?_
        obtain ⟨h34, h⟩ := chk_s h
        obtain ⟨σ33, eσ33, h⟩ := nm_s h
        refine V_st eσ33 ?_ (fun k => V_last C h34 (dt_at dt_X12_findWays_2 17 rfl) k)
        refine V_iinc C (x3 + 1) 3 [1, 2, 3, 0] (lv' := [(0, .ref (ga G 6)), (1, .int x1), (2, .int x2), (3, .int (x3 + 1))]) (dt_at dt_X12_findWays_2 18 rfl) rfl (by rfl) (by decide) rfl ?_
        refine V_goto C 145 (dt_at dt_X12_findWays_2 19 rfl) (by decide) ?_
        exact ih_145 ((x3 + 1), σ33) (Option.some.inj h).symm
    have J_143 : ∀ (x2 : Int32) (σ : St), f_X12_findWays_143 x1 x2 σ = some w_36 → V X G 7 0 0 σ 143 [(0, .ref (ga G 6)), (1, .int x1), (2, .int x2)] [] := by
      intro x2 σ h
      unfold f_X12_findWays_143 at h
      refine V_iconst C 0 (dt_at dt_X12_findWays_2 2 rfl) (by decide) ?_
      refine V_istore_n C [1, 2, 3, 0] (lv' := [(0, .ref (ga G 6)), (1, .int x1), (2, .int x2), (3, .int 0)]) (dt_at dt_X12_findWays_2 3 rfl) rfl (by decide) rfl ?_
      exact J_145 x2 0 σ h
    have J_60 : ∀ (x2 : Int32) (x3 : Int32) (σ : St), f_X12_findWays_60 x1 x2 x3 σ = some w_36 → V X G 7 0 0 σ 60 [(0, .ref (ga G 6)), (1, .int x1), (2, .int x2), (3, .int x3)] [] := by
      intro x2 x3 σ h
      refine it_v (P := fun z : Int32 × St => V X G 7 0 0 z.2 60 [(0, .ref (ga G 6)), (1, .int x1), (2, .int x2), (3, .int z.1)] []) ?_ (x3, σ) h
      clear h
      intro z w_60 h ih_60 ex_60
      obtain ⟨x3, σ⟩ := z
      have h : b_X12_findWays_60 x1 x2 x3 σ = some w_60 := h
      show V X G 7 0 0 σ 60 [(0, .ref (ga G 6)), (1, .int x1), (2, .int x2), (3, .int x3)] []
      unfold b_X12_findWays_60 at h
      have J_125 : ∀ (x3 : Int32) (x4 : Int64) (σ : St), f_X12_findWays_125 x1 x2 x3 x4 σ = some w_60 → V X G 7 0 0 σ 125 [(0, .ref (ga G 6)), (1, .int x1), (2, .int x2), (3, .int x3), (4, .long x4)] [] := by
        intro x3 x4 σ h
        unfold f_X12_findWays_125 at h
        refine V_aload_n C (dt_at dt_X12_findWays_1 33 rfl) 0 rfl rfl ?_
        refine g_X12_62_6 C (dt_at dt_X12_findWays_1 34 rfl) ?_
        refine V_sipush C 1024 (dt_at dt_X12_findWays_1 35 rfl) (by decide) ?_
        refine V_iload_n C (dt_at dt_X12_findWays_1 36 rfl) 3 rfl rfl ?_
        refine V_iadd C (dt_at dt_X12_findWays_1 37 rfl) ?_
        refine V_lload C (dt_at dt_X12_findWays_1 38 rfl) 4 rfl ?_
        obtain ⟨h26, h⟩ := chk_s h
        obtain ⟨σ25, eσ25, h⟩ := nm_s h
        refine V_st eσ25 ?_ (fun k => V_last C h26 (dt_at dt_X12_findWays_1 39 rfl) k)
        refine V_iinc C (x3 + 1) 3 [1, 2, 3, 0, 4] (lv' := [(0, .ref (ga G 6)), (1, .int x1), (2, .int x2), (3, .int (x3 + 1)), (4, .long x4)]) (dt_at dt_X12_findWays_2 0 rfl) rfl (by rfl) (by decide) rfl ?_
        refine V_goto C 60 (dt_at dt_X12_findWays_2 1 rfl) (by decide) ?_
        refine V_sub [0, 1, 2, 3] (lv' := [(0, .ref (ga G 6)), (1, .int x1), (2, .int x2), (3, .int (x3 + 1))]) rfl ?_
        exact ih_60 ((x3 + 1), σ25) (Option.some.inj h).symm
      have J_79 : ∀ (x3 : Int32) (x4 : Int64) (x6 : Int32) (σ : St), f_X12_findWays_79 x1 x2 x3 x4 x6 σ = some w_60 → V X G 7 0 0 σ 79 [(0, .ref (ga G 6)), (1, .int x1), (2, .int x2), (3, .int x3), (4, .long x4), (6, .int x6)] [] := by
        intro x3 x4 x6 σ h
        refine it_v (P := fun z : Int64 × Int32 => V X G 7 0 0 σ 79 [(0, .ref (ga G 6)), (1, .int x1), (2, .int x2), (3, .int x3), (4, .long z.1), (6, .int z.2)] []) ?_ (x4, x6) h
        clear h
        intro z w_79 h ih_79 ex_79
        obtain ⟨x4, x6⟩ := z
        have h : b_X12_findWays_79 x1 x2 x3 x4 x6 σ = some w_79 := h
        show V X G 7 0 0 σ 79 [(0, .ref (ga G 6)), (1, .int x1), (2, .int x2), (3, .int x3), (4, .long x4), (6, .int x6)] []
        unfold b_X12_findWays_79 at h
        have J_111 : ∀ (x6 : Int32) (s0 : Int64) (s1 : Int64), f_X12_findWays_111 x1 x2 x3 x6 s0 s1 σ = some w_79 → V X G 7 0 0 σ 111 [(0, .ref (ga G 6)), (1, .int x1), (2, .int x2), (3, .int x3), (6, .int x6)] [.long s0, .long s1] := by
          intro x6 s0 s1 h
          unfold f_X12_findWays_111 at h
          refine V_ladd C (dt_at dt_X12_findWays_1 24 rfl) ?_
          refine V_lstore C [1, 2, 3, 4, 0, 5] (lv' := [(0, .ref (ga G 6)), (1, .int x1), (2, .int x2), (3, .int x3), (4, .long (s1 + s0)), (6, .int x6)]) (dt_at dt_X12_findWays_1 25 rfl) (by decide) rfl ?_
          refine V_iload C (dt_at dt_X12_findWays_1 26 rfl) 5 rfl ?_
          refine V_iconst C 1 (dt_at dt_X12_findWays_1 27 rfl) (by decide) ?_
          refine V_isub C (dt_at dt_X12_findWays_1 28 rfl) ?_
          refine V_iload_n C (dt_at dt_X12_findWays_1 29 rfl) 3 rfl rfl ?_
          refine V_iand C (dt_at dt_X12_findWays_1 30 rfl) ?_
          refine V_istore C [1, 2, 3, 4, 5, 0] (lv' := [(0, .ref (ga G 6)), (1, .int x1), (2, .int x2), (3, .int x3), (4, .long (s1 + s0)), (6, .int ((x6 - 1) &&& x3))]) (dt_at dt_X12_findWays_1 31 rfl) (by decide) rfl ?_
          refine V_goto C 79 (dt_at dt_X12_findWays_1 32 rfl) (by decide) ?_
          exact ih_79 ((s1 + s0), ((x6 - 1) &&& x3)) (Option.some.inj h).symm
        refine V_iload C (dt_at dt_X12_findWays_1 6 rfl) 5 rfl ?_
        refine V_if_le C 125 (dt_at dt_X12_findWays_1 7 rfl) (by decide) (fun q20 => ?_) (fun q20 => ?_)
        · have h := ite_f q20 h
          refine V_sub [0, 1, 2, 3, 4] (lv' := [(0, .ref (ga G 6)), (1, .int x1), (2, .int x2), (3, .int x3), (4, .long x4)]) rfl ?_
          obtain ⟨t21, h, e_79⟩ := map_s h
          have e_79 := ex_79 _ e_79
          rw [e_79] at h
          exact J_125 x3 x4 σ h
        · have h := ite_t q20 h
          refine V_lload C (dt_at dt_X12_findWays_1 8 rfl) 4 rfl ?_
          refine V_aload_n C (dt_at dt_X12_findWays_1 9 rfl) 0 rfl rfl ?_
          refine g_X12_52_6 C (dt_at dt_X12_findWays_1 10 rfl) ?_
          refine V_iload C (dt_at dt_X12_findWays_1 11 rfl) 5 rfl ?_
          obtain ⟨h22, h⟩ := chk_s h
          refine V_zald C h22 (dt_at dt_X12_findWays_1 12 rfl) ?_
          refine V_if_eq C 110 (dt_at dt_X12_findWays_1 13 rfl) (by decide) (fun q23 => ?_) (fun q23 => ?_)
          · have h := ite_t q23 h
            refine V_lconst C 0 (dt_at dt_X12_findWays_1 23 rfl) (by decide) ?_
            refine V_sub [0, 1, 2, 3, 5] (lv' := [(0, .ref (ga G 6)), (1, .int x1), (2, .int x2), (3, .int x3), (6, .int x6)]) rfl ?_
            exact J_111 x6 0 x4 h
          · have h := ite_f q23 h
            refine V_aload_n C (dt_at dt_X12_findWays_1 14 rfl) 0 rfl rfl ?_
            refine g_X12_62_6 C (dt_at dt_X12_findWays_1 15 rfl) ?_
            refine V_iload_n C (dt_at dt_X12_findWays_1 16 rfl) 3 rfl rfl ?_
            refine V_iload C (dt_at dt_X12_findWays_1 17 rfl) 5 rfl ?_
            refine V_iconst C (-1) (dt_at dt_X12_findWays_1 18 rfl) (by decide) ?_
            refine V_ixor C (dt_at dt_X12_findWays_1 19 rfl) ?_
            refine V_iand C (dt_at dt_X12_findWays_1 20 rfl) ?_
            obtain ⟨h24, h⟩ := chk_s h
            refine V_lald C h24 (dt_at dt_X12_findWays_1 21 rfl) ?_
            refine V_goto C 111 (dt_at dt_X12_findWays_1 22 rfl) (by decide) ?_
            refine V_sub [0, 1, 2, 3, 5] (lv' := [(0, .ref (ga G 6)), (1, .int x1), (2, .int x2), (3, .int x3), (6, .int x6)]) rfl ?_
            exact J_111 x6 (rdL σ (x3 &&& (x6 ^^^ (-1)))) x4 h
      refine V_iload_n C (dt_at dt_X12_findWays_0 35 rfl) 3 rfl rfl ?_
      refine V_aload_n C (dt_at dt_X12_findWays_0 36 rfl) 0 rfl rfl ?_
      obtain ⟨r14, e15, h⟩ := bd_s h
      refine cv_X12_allParts C ww_527  e15 (Nat.le_of_ble_eq_true rfl) (Nat.le_of_ble_eq_true rfl) z0 (dt_at dt_X12_findWays_0 37 rfl) ?_
      refine V_icmp_gt C 143 (dt_at dt_X12_findWays_0 38 rfl) (by decide) (fun q17 => ?_) (fun q17 => ?_)
      · have h := ite_t q17 h
        refine V_sub [0, 1, 2] (lv' := [(0, .ref (ga G 6)), (1, .int x1), (2, .int x2)]) rfl ?_
        obtain ⟨t18, h, e_60⟩ := map_s h
        have e_60 := ex_60 _ e_60
        rw [e_60] at h
        exact J_143 x2 σ h
      · have h := ite_f q17 h
        refine V_aload_n C (dt_at dt_X12_findWays_0 39 rfl) 0 rfl rfl ?_
        refine g_X12_62_6 C (dt_at dt_X12_findWays_1 0 rfl) ?_
        refine V_iload_n C (dt_at dt_X12_findWays_1 1 rfl) 3 rfl rfl ?_
        obtain ⟨h19, h⟩ := chk_s h
        refine V_lald C h19 (dt_at dt_X12_findWays_1 2 rfl) ?_
        refine V_lstore C [1, 2, 3, 4, 0] (lv' := [(0, .ref (ga G 6)), (1, .int x1), (2, .int x2), (3, .int x3), (4, .long (rdL σ x3))]) (dt_at dt_X12_findWays_1 3 rfl) (by decide) rfl ?_
        refine V_iload_n C (dt_at dt_X12_findWays_1 4 rfl) 3 rfl rfl ?_
        refine V_istore C [1, 2, 3, 4, 5, 0] (lv' := [(0, .ref (ga G 6)), (1, .int x1), (2, .int x2), (3, .int x3), (4, .long (rdL σ x3)), (6, .int x3)]) (dt_at dt_X12_findWays_1 5 rfl) (by decide) rfl ?_
        exact J_79 x3 (rdL σ x3) x3 σ h
    refine V_iload_n C (dt_at dt_X12_findWays_0 20 rfl) 2 rfl rfl ?_
    refine V_bipush C 6 (dt_at dt_X12_findWays_0 21 rfl) (by decide) ?_
    refine V_icmp_ge C 181 (dt_at dt_X12_findWays_0 22 rfl) (by decide) (fun q9 => ?_) (fun q9 => ?_)
    · have h := ite_f q9 h
      have e_36 := ex_36 _ (Option.some.inj h).symm
      subst e_36
      exact V_vret C hR (dt_at dt_X12_findWays_2 22 rfl)
    · have h := ite_t q9 h
      refine V_iload_n C (dt_at dt_X12_findWays_0 23 rfl) 1 rfl rfl ?_
      refine V_iload_n C (dt_at dt_X12_findWays_0 24 rfl) 2 rfl rfl ?_
      refine V_ishr C (dt_at dt_X12_findWays_0 25 rfl) ?_
      refine V_iconst C 1 (dt_at dt_X12_findWays_0 26 rfl) (by decide) ?_
      refine V_iand C (dt_at dt_X12_findWays_0 27 rfl) ?_
      refine V_if_ne C 53 (dt_at dt_X12_findWays_0 28 rfl) (by decide) (fun q10 => ?_) (fun q10 => ?_)
      · have h := ite_f q10 h
        refine V_aload_n C (dt_at dt_X12_findWays_0 30 rfl) 0 rfl rfl ?_
        refine V_iload_n C (dt_at dt_X12_findWays_0 31 rfl) 2 rfl rfl ?_
        obtain ⟨σ13, e12, h⟩ := bd_s h
        refine cv_X12_findSets C ww_545 x2 e12 (Nat.le_of_ble_eq_true rfl) (Nat.le_of_ble_eq_true rfl) z0 (dt_at dt_X12_findWays_0 32 rfl) ?_
        refine V_iconst C 0 (dt_at dt_X12_findWays_0 33 rfl) (by decide) ?_
        refine V_istore_n C [1, 2, 3, 0] (lv' := [(0, .ref (ga G 6)), (1, .int x1), (2, .int x2), (3, .int 0)]) (dt_at dt_X12_findWays_0 34 rfl) rfl (by decide) rfl ?_
        exact J_60 x2 0 σ13 h
      · have h := ite_t q10 h
        refine V_goto C 175 (dt_at dt_X12_findWays_0 29 rfl) (by decide) ?_
        exact J_175 x2 σ h
  have J_34 : ∀ (σ : St), f_X12_findWays_34 x1 σ = some σ0 → V X G 7 0 0 σ 34 [(0, .ref (ga G 6)), (1, .int x1)] [] := by
    intro σ h
    unfold f_X12_findWays_34 at h
    refine V_iconst C 0 (dt_at dt_X12_findWays_0 18 rfl) (by decide) ?_
    refine V_istore_n C [1, 2, 0] (lv' := [(0, .ref (ga G 6)), (1, .int x1), (2, .int 0)]) (dt_at dt_X12_findWays_0 19 rfl) rfl (by decide) rfl ?_
    exact J_36 0 σ h
  have J_6 : ∀ (x2 : Int32) (σ : St), f_X12_findWays_6 x1 x2 σ = some σ0 → V X G 7 0 0 σ 6 [(0, .ref (ga G 6)), (1, .int x1), (2, .int x2)] [] := by
    intro x2 σ h
    refine it_v (P := fun z : Int32 × St => V X G 7 0 0 z.2 6 [(0, .ref (ga G 6)), (1, .int x1), (2, .int z.1)] []) ?_ (x2, σ) h
    clear h
    intro z w_6 h ih_6 ex_6
    obtain ⟨x2, σ⟩ := z
    have h : b_X12_findWays_6 x1 x2 σ = some w_6 := h
    show V X G 7 0 0 σ 6 [(0, .ref (ga G 6)), (1, .int x1), (2, .int x2)] []
    unfold b_X12_findWays_6 at h
    have J_27 : ∀ (x2 : Int32) (s0 : Int64) (s1 : Int32) (σ : St), f_X12_findWays_27 x1 x2 s0 s1 σ = some w_6 → V X G 7 0 0 σ 27 [(0, .ref (ga G 6)), (1, .int x1), (2, .int x2)] [.long s0, .int s1, .ref (ga G 101)] := by
      intro x2 s0 s1 σ h
      unfold f_X12_findWays_27 at h
      obtain ⟨h8, h⟩ := chk_s h
      obtain ⟨σ7, eσ7, h⟩ := nm_s h
      refine V_st eσ7 ?_ (fun k => V_last C h8 (dt_at dt_X12_findWays_0 15 rfl) k)
      refine V_iinc C (x2 + 1) 2 [1, 2, 0] (lv' := [(0, .ref (ga G 6)), (1, .int x1), (2, .int (x2 + 1))]) (dt_at dt_X12_findWays_0 16 rfl) rfl (by rfl) (by decide) rfl ?_
      refine V_goto C 6 (dt_at dt_X12_findWays_0 17 rfl) (by decide) ?_
      exact ih_6 ((x2 + 1), σ7) (Option.some.inj h).symm
    refine V_iload_n C (dt_at dt_X12_findWays_0 4 rfl) 2 rfl rfl ?_
    refine V_sipush C 1024 (dt_at dt_X12_findWays_0 5 rfl) (by decide) ?_
    refine V_icmp_ge C 34 (dt_at dt_X12_findWays_0 6 rfl) (by decide) (fun q4 => ?_) (fun q4 => ?_)
    · have h := ite_f q4 h
      refine V_sub [0, 1] (lv' := [(0, .ref (ga G 6)), (1, .int x1)]) rfl ?_
      obtain ⟨t5, h, e_6⟩ := map_s h
      have e_6 := ex_6 _ e_6
      rw [e_6] at h
      exact J_34 σ h
    · have h := ite_t q4 h
      refine V_aload_n C (dt_at dt_X12_findWays_0 7 rfl) 0 rfl rfl ?_
      refine g_X12_62_6 C (dt_at dt_X12_findWays_0 8 rfl) ?_
      refine V_iload_n C (dt_at dt_X12_findWays_0 9 rfl) 2 rfl rfl ?_
      refine V_iload_n C (dt_at dt_X12_findWays_0 10 rfl) 2 rfl rfl ?_
      refine V_if_ne C 26 (dt_at dt_X12_findWays_0 11 rfl) (by decide) (fun q6 => ?_) (fun q6 => ?_)
      · have h := ite_f q6 h
        refine V_lconst C 0 (dt_at dt_X12_findWays_0 14 rfl) (by decide) ?_
        exact J_27 x2 0 x2 σ h
      · have h := ite_t q6 h
        refine V_lconst C 1 (dt_at dt_X12_findWays_0 12 rfl) (by decide) ?_
        refine V_goto C 27 (dt_at dt_X12_findWays_0 13 rfl) (by decide) ?_
        exact J_27 x2 1 x2 σ h
  refine V_aload_n C (dt_at dt_X12_findWays_0 0 rfl) 0 rfl rfl ?_
  obtain ⟨σ3, e2, h⟩ := bd_s h
  refine cv_X12_lay C ww_513  e2 (Nat.le_of_ble_eq_true rfl) (Nat.le_of_ble_eq_true rfl) z0 (dt_at dt_X12_findWays_0 1 rfl) ?_
  refine V_iconst C 0 (dt_at dt_X12_findWays_0 2 rfl) (by decide) ?_
  refine V_istore_n C [1, 2, 0] (lv' := [(0, .ref (ga G 6)), (1, .int x1), (2, .int 0)]) (dt_at dt_X12_findWays_0 3 rfl) rfl (by decide) rfl ?_
  exact J_6 0 σ3 h
theorem cv_X12_findWays (C : Ck X G cc own nL d) {idx : Nat} (hlk : Cond.methodLink own idx yX12_findWays ∈ gtb) (x1 : Int32) {σ0 : St} (e : f_X12_findWays x1 σ = some σ0) (hdd : 8 ≤ d) (hroom : (rest.map fun v => v.category).sum ≤ 8) (hcs : cells ≤ (xR X).cells ∧ slots ≤ (xR X).slots) (hd : decode cc pc = .ok (.invokevirtual idx, 3)) (k : V X G nL cells slots σ0 (pc + 3) lv (rest)) : V X G nL cells slots σ pc lv (.int x1 :: .ref (ga G 6) :: rest) := V_callV C (As := [.int x1]) (c_X12_findWays X.2.1 G x1 σ σ0 e) cal_X12_findWays ww_642 ww_643 hlk rfl hdd (lt110 rfl) rfl rfl rfl hroom hcs hd k
theorem dt_X12_castings_0 : dtab cX12_castings [(0, .aload_n 0, 1), (1, .iload_n 1, 1), (2, .invokevirtual 272, 3), (5, .ifCond .ne 10, 3), (8, .aload_n 0, 1), (9, .iconst 1, 1), (10, .invokevirtual 95, 3), (13, .i2l, 1), (14, .lreturn, 1), (15, .aload_n 0, 1), (16, .iload_n 1, 1), (17, .invokevirtual 281, 3), (20, .aload_n 0, 1), (21, .getfield 62, 3), (24, .aload_n 0, 1), (25, .invokevirtual 249, 3), (28, .laload, 1), (29, .lreturn, 1)] = true := by decide +kernel
theorem cal_X12_castings : Cal yX12_castings cX12_castings 2 (some .long) 1 := ⟨ww_645, ww_429, ⟨by decide, by decide, by decide⟩, by decide⟩
set_option maxHeartbeats 4000000 in
set_option maxRecDepth 100000 in
theorem c_X12_castings (l : Launch) (G : Gx) (x1 : Int32) (σ : St) (r0 : Int64) (σ0 : St) (h : f_X12_castings x1 σ = some (r0, σ0)) : MI l G yX12_castings cX12_castings 2 (some .long) 8 [.ref (ga G 6), .int x1] σ (some (.long r0)) σ0 := by
  refine MI_of RX12 rfl (by decide) [(0, .ref (ga G 6)), (1, .int x1)] rfl (Nat.le_of_ble_eq_true rfl) ?_
  intro X hXl C hR
  unfold f_X12_castings at h
  refine V_aload_n C (dt_at dt_X12_castings_0 0 rfl) 0 rfl rfl ?_
  refine V_iload_n C (dt_at dt_X12_castings_0 1 rfl) 1 rfl rfl ?_
  obtain ⟨r1, e2, h⟩ := bd_s h
  refine cv_X12_isTroupe C ww_563 x1 e2 (Nat.le_of_ble_eq_true rfl) (Nat.le_of_ble_eq_true rfl) z0 (dt_at dt_X12_castings_0 2 rfl) ?_
  refine V_if_ne C 15 (dt_at dt_X12_castings_0 3 rfl) (by decide) (fun q4 => ?_) (fun q4 => ?_)
  · have h := ite_f q4 h
    refine V_aload_n C (dt_at dt_X12_castings_0 9 rfl) 0 rfl rfl ?_
    refine V_iload_n C (dt_at dt_X12_castings_0 10 rfl) 1 rfl rfl ?_
    obtain ⟨σ7, e6, h⟩ := bd_s h
    refine cv_X12_findWays C ww_644 x1 e6 (Nat.le_of_ble_eq_true rfl) (Nat.le_of_ble_eq_true rfl) z0 (dt_at dt_X12_castings_0 11 rfl) ?_
    refine V_aload_n C (dt_at dt_X12_castings_0 12 rfl) 0 rfl rfl ?_
    refine g_X12_62_6 C (dt_at dt_X12_castings_0 13 rfl) ?_
    refine V_aload_n C (dt_at dt_X12_castings_0 14 rfl) 0 rfl rfl ?_
    obtain ⟨r8, e9, h⟩ := bd_s h
    refine cv_X12_allParts C ww_527  e9 (Nat.le_of_ble_eq_true rfl) (Nat.le_of_ble_eq_true rfl) z0 (dt_at dt_X12_castings_0 15 rfl) ?_
    obtain ⟨h11, h⟩ := chk_s h
    refine V_lald C h11 (dt_at dt_X12_castings_0 16 rfl) ?_
    obtain ⟨e1_, e2_⟩ := pin2 h
    subst e1_; subst e2_
    exact V_lret C hR (dt_at dt_X12_castings_0 17 rfl)
  · have h := ite_t q4 h
    refine V_aload_n C (dt_at dt_X12_castings_0 4 rfl) 0 rfl rfl ?_
    refine V_iconst C 1 (dt_at dt_X12_castings_0 5 rfl) (by decide) ?_
    obtain ⟨r12, σ14, e13, h⟩ := bd2_s h
    refine cv_X12_finds C ww_462 1 e13 (Nat.le_of_ble_eq_true rfl) (Nat.le_of_ble_eq_true rfl) z0 (dt_at dt_X12_castings_0 6 rfl) ?_
    refine V_i2l C (dt_at dt_X12_castings_0 7 rfl) ?_
    obtain ⟨e1_, e2_⟩ := pin2 h
    subst e1_; subst e2_
    exact V_lret C hR (dt_at dt_X12_castings_0 8 rfl)
theorem cv_X12_castings (C : Ck X G cc own nL d) {idx : Nat} (hlk : Cond.methodLink own idx yX12_castings ∈ gtb) (x1 : Int32) {r0 : Int64} {σ0 : St} (e : f_X12_castings x1 σ = some (r0, σ0)) (hdd : 9 ≤ d) (hroom : (rest.map fun v => v.category).sum ≤ 8) (hcs : cells ≤ (xR X).cells ∧ slots ≤ (xR X).slots) (hd : decode cc pc = .ok (.invokevirtual idx, 3)) (k : V X G nL cells slots σ0 (pc + 3) lv (.long r0 :: rest)) : V X G nL cells slots σ pc lv (.int x1 :: .ref (ga G 6) :: rest) := V_callV C (As := [.int x1]) (c_X12_castings X.2.1 G x1 σ r0 σ0 e) cal_X12_castings ww_646 ww_647 hlk rfl hdd (lt110 rfl) rfl rfl rfl hroom hcs hd k
theorem dt_X12_change_0 : dtab cX12_change [(0, .aload_n 0, 1), (1, .iload_n 1, 1), (2, .invokevirtual 110, 3), (5, .ifCond .eq 35, 3), (8, .aload_n 0, 1), (9, .iload_n 2, 1), (10, .invokevirtual 110, 3), (13, .ifCond .eq 27, 3), (16, .iload_n 1, 1), (17, .iload_n 2, 1), (18, .if_icmp .eq 22, 3), (21, .iload_n 3, 1), (22, .iconst 0, 1), (23, .iconst 1, 1), (24, .invokestatic 91, 3), (27, .ifCond .eq 13, 3), (30, .aload_n 0, 1), (31, .iload_n 1, 1), (32, .iload_n 2, 1), (33, .iload_n 3, 1), (34, .invokevirtual 225, 3), (37, .goto 8, 3), (40, .aload_n 0, 1), (41, .iconst 1, 1), (42, .invokevirtual 95, 3), (45, .ireturn, 1)] = true := by decide +kernel
theorem cal_X12_change : Cal yX12_change cX12_change 4 (some .int) 3 := ⟨ww_648, ww_429, ⟨by decide, by decide, by decide⟩, by decide⟩
set_option maxHeartbeats 4000000 in
set_option maxRecDepth 100000 in
theorem c_X12_change (l : Launch) (G : Gx) (x1 : Int32) (x2 : Int32) (x3 : Int32) (σ : St) (r0 : Int32) (σ0 : St) (h : f_X12_change x1 x2 x3 σ = some (r0, σ0)) : MI l G yX12_change cX12_change 4 (some .int) 4 [.ref (ga G 6), .int x1, .int x2, .int x3] σ (some (.int r0)) σ0 := by
  refine MI_of RX12 rfl (by decide) [(0, .ref (ga G 6)), (1, .int x1), (2, .int x2), (3, .int x3)] rfl (Nat.le_of_ble_eq_true rfl) ?_
  intro X hXl C hR
  unfold f_X12_change at h
  have J_40 : ∀ (σ : St), f_X12_change_40 σ = some (r0, σ0) → V X G 4 0 0 σ 40 [(0, .ref (ga G 6))] [] := by
    intro σ h
    unfold f_X12_change_40 at h
    refine V_aload_n C (dt_at dt_X12_change_0 22 rfl) 0 rfl rfl ?_
    refine V_iconst C 1 (dt_at dt_X12_change_0 23 rfl) (by decide) ?_
    obtain ⟨r17, σ19, e18, h⟩ := bd2_s h
    refine cv_X12_finds C ww_462 1 e18 (Nat.le_of_ble_eq_true rfl) (Nat.le_of_ble_eq_true rfl) z0 (dt_at dt_X12_change_0 24 rfl) ?_
    obtain ⟨e1_, e2_⟩ := pin2 h
    subst e1_; subst e2_
    exact V_iret C hR (dt_at dt_X12_change_0 25 rfl)
  refine V_aload_n C (dt_at dt_X12_change_0 0 rfl) 0 rfl rfl ?_
  refine V_iload_n C (dt_at dt_X12_change_0 1 rfl) 1 rfl rfl ?_
  obtain ⟨r1, e2, h⟩ := bd_s h
  refine cv_X12_isPart C ww_459 x1 e2 (Nat.le_of_ble_eq_true rfl) (Nat.le_of_ble_eq_true rfl) z0 (dt_at dt_X12_change_0 2 rfl) ?_
  refine V_if_eq C 40 (dt_at dt_X12_change_0 3 rfl) (by decide) (fun q4 => ?_) (fun q4 => ?_)
  · have h := ite_t q4 h
    refine V_sub [0] (lv' := [(0, .ref (ga G 6))]) rfl ?_
    exact J_40 σ h
  · have h := ite_f q4 h
    refine V_aload_n C (dt_at dt_X12_change_0 4 rfl) 0 rfl rfl ?_
    refine V_iload_n C (dt_at dt_X12_change_0 5 rfl) 2 rfl rfl ?_
    obtain ⟨r5, e6, h⟩ := bd_s h
    refine cv_X12_isPart C ww_459 x2 e6 (Nat.le_of_ble_eq_true rfl) (Nat.le_of_ble_eq_true rfl) z0 (dt_at dt_X12_change_0 6 rfl) ?_
    refine V_if_eq C 40 (dt_at dt_X12_change_0 7 rfl) (by decide) (fun q8 => ?_) (fun q8 => ?_)
    · have h := ite_t q8 h
      refine V_sub [0] (lv' := [(0, .ref (ga G 6))]) rfl ?_
      exact J_40 σ h
    · have h := ite_f q8 h
      refine V_iload_n C (dt_at dt_X12_change_0 8 rfl) 1 rfl rfl ?_
      refine V_iload_n C (dt_at dt_X12_change_0 9 rfl) 2 rfl rfl ?_
      refine V_icmp_eq C 40 (dt_at dt_X12_change_0 10 rfl) (by decide) (fun q9 => ?_) (fun q9 => ?_)
      · have h := ite_t q9 h
        refine V_sub [0] (lv' := [(0, .ref (ga G 6))]) rfl ?_
        exact J_40 σ h
      · have h := ite_f q9 h
        refine V_iload_n C (dt_at dt_X12_change_0 11 rfl) 3 rfl rfl ?_
        refine V_iconst C 0 (dt_at dt_X12_change_0 12 rfl) (by decide) ?_
        refine V_iconst C 1 (dt_at dt_X12_change_0 13 rfl) (by decide) ?_
        obtain ⟨r10, e11, h⟩ := bd_s h
        refine cv_X12_in C ww_437 x3 0 1 e11 (Nat.le_of_ble_eq_true rfl) (Nat.le_of_ble_eq_true rfl) z0 (dt_at dt_X12_change_0 14 rfl) ?_
        refine V_if_eq C 40 (dt_at dt_X12_change_0 15 rfl) (by decide) (fun q13 => ?_) (fun q13 => ?_)
        · have h := ite_t q13 h
          refine V_sub [0] (lv' := [(0, .ref (ga G 6))]) rfl ?_
          exact J_40 σ h
        · have h := ite_f q13 h
          refine V_aload_n C (dt_at dt_X12_change_0 16 rfl) 0 rfl rfl ?_
          refine V_iload_n C (dt_at dt_X12_change_0 17 rfl) 1 rfl rfl ?_
          refine V_iload_n C (dt_at dt_X12_change_0 18 rfl) 2 rfl rfl ?_
          refine V_iload_n C (dt_at dt_X12_change_0 19 rfl) 3 rfl rfl ?_
          obtain ⟨r14, σ16, e15, h⟩ := bd2_s h
          refine cv_X12_changeOf C ww_485 x1 x2 x3 e15 (Nat.le_of_ble_eq_true rfl) (Nat.le_of_ble_eq_true rfl) z0 (dt_at dt_X12_change_0 20 rfl) ?_
          refine V_goto C 45 (dt_at dt_X12_change_0 21 rfl) (by decide) ?_
          obtain ⟨e1_, e2_⟩ := pin2 h
          subst e1_; subst e2_
          exact V_iret C hR (dt_at dt_X12_change_0 25 rfl)
theorem cv_X12_change (C : Ck X G cc own nL d) {idx : Nat} (hlk : Cond.methodLink own idx yX12_change ∈ gtb) (x1 : Int32) (x2 : Int32) (x3 : Int32) {r0 : Int32} {σ0 : St} (e : f_X12_change x1 x2 x3 σ = some (r0, σ0)) (hdd : 5 ≤ d) (hroom : (rest.map fun v => v.category).sum ≤ 8) (hcs : cells ≤ (xR X).cells ∧ slots ≤ (xR X).slots) (hd : decode cc pc = .ok (.invokevirtual idx, 3)) (k : V X G nL cells slots σ0 (pc + 3) lv (.int r0 :: rest)) : V X G nL cells slots σ pc lv (.int x3 :: .int x2 :: .int x1 :: .ref (ga G 6) :: rest) := V_callV C (As := [.int x1, .int x2, .int x3]) (c_X12_change X.2.1 G x1 x2 x3 σ r0 σ0 e) cal_X12_change ww_649 ww_650 hlk rfl hdd (lt110 rfl) rfl rfl rfl hroom hcs hd k
theorem dt_X12_check_0 : dtab cX12_check [(0, .aload_n 0, 1), (1, .getfield 7, 3), (4, .iconst 5, 1), (5, .iaload, 1), (6, .istore_n 2, 1), (7, .aload_n 0, 1), (8, .getfield 7, 3), (11, .iconst 5, 1), (12, .iconst 0, 1), (13, .iastore, 1), (14, .iload_n 1, 1), (15, .iconst 0, 1), (16, .iconst 3, 1), (17, .invokestatic 91, 3), (20, .ifCond .ne 9, 3), (23, .aload_n 0, 1), (24, .iconst 1, 1), (25, .invokevirtual 95, 3), (28, .ireturn, 1), (29, .aload_n 0, 1), (30, .iload_n 1, 1), (31, .iconst 1, 1), (32, .aload_n 0, 1), (33, .getfield 7, 3), (36, .iconst 3, 1), (37, .iaload, 1), (38, .ishl, 1), (39, .iconst 1, 1), (40, .isub, 1), (41, .invokevirtual 275, 3), (44, .ifCond .ne 9, 3), (47, .aload_n 0, 1), (48, .iconst 2, 1), (49, .invokevirtual 95, 3), (52, .ireturn, 1), (53, .iconst 0, 1), (54, .istore_n 3, 1), (55, .iload_n 3, 1), (56, .iload_n 2, 1), (57, .if_icmp .ge 42, 3)] = true := by decide +kernel
theorem dt_X12_check_1 : dtab cX12_check [(60, .iload_n 3, 1), (61, .aload_n 0, 1), (62, .getfield 7, 3), (65, .iconst 1, 1), (66, .iaload, 1), (67, .if_icmp .ge 22, 3), (70, .aload_n 0, 1), (71, .getfield 7, 3), (74, .sipush 290, 3), (77, .iload_n 3, 1), (78, .iadd, 1), (79, .iaload, 1), (80, .aload_n 0, 1), (81, .getfield 72, 3), (84, .iload_n 3, 1), (85, .iaload, 1), (86, .if_icmp .eq 7, 3), (89, .iconst 1, 1), (90, .iload_n 3, 1), (91, .iadd, 1), (92, .ireturn, 1), (93, .iinc 3 1, 3), (96, .goto (-41), 3), (99, .iconst 0, 1), (100, .ireturn, 1)] = true := by decide +kernel
theorem cal_X12_check : Cal yX12_check cX12_check 4 (some .int) 1 := ⟨ww_651, ww_429, ⟨by decide, by decide, by decide⟩, by decide⟩
set_option maxHeartbeats 4000000 in
set_option maxRecDepth 100000 in
theorem c_X12_check (l : Launch) (G : Gx) (x1 : Int32) (σ : St) (r0 : Int32) (σ0 : St) (h : f_X12_check x1 σ = some (r0, σ0)) : MI l G yX12_check cX12_check 4 (some .int) 9 [.ref (ga G 6), .int x1] σ (some (.int r0)) σ0 := by
  refine MI_of RX12 rfl (by decide) [(0, .ref (ga G 6)), (1, .int x1)] rfl (Nat.le_of_ble_eq_true rfl) ?_
  intro X hXl C hR
  unfold f_X12_check at h
  have J_55 : ∀ (x2 : Int32) (x3 : Int32) (σ : St), f_X12_check_55 x2 x3 σ = some (r0, σ0) → V X G 4 0 0 σ 55 [(0, .ref (ga G 6)), (2, .int x2), (3, .int x3)] [] := by
    intro x2 x3 σ h
    refine it_v (P := fun z : Int32 => V X G 4 0 0 σ 55 [(0, .ref (ga G 6)), (2, .int x2), (3, .int z)] []) ?_ x3 h
    clear h
    intro z w_55 h ih_55 ex_55
    revert h; revert z; intro x3 h
    have h : b_X12_check_55 x2 x3 σ = some w_55 := h
    show V X G 4 0 0 σ 55 [(0, .ref (ga G 6)), (2, .int x2), (3, .int x3)] []
    unfold b_X12_check_55 at h
    refine V_iload_n C (dt_at dt_X12_check_0 37 rfl) 2 rfl rfl ?_
    refine V_iload_n C (dt_at dt_X12_check_0 38 rfl) 1 rfl rfl ?_
    refine V_icmp_ge C 99 (dt_at dt_X12_check_0 39 rfl) (by decide) (fun q18 => ?_) (fun q18 => ?_)
    · have h := ite_f q18 h
      refine V_iconst C 0 (dt_at dt_X12_check_1 23 rfl) (by decide) ?_
      have e_55 := ex_55 _ (Option.some.inj h).symm
      obtain ⟨e1_, e2_⟩ := Prod.mk.inj e_55
      subst e1_; subst e2_
      exact V_iret C hR (dt_at dt_X12_check_1 24 rfl)
    · have h := ite_t q18 h
      refine V_iload_n C (dt_at dt_X12_check_1 0 rfl) 2 rfl rfl ?_
      refine V_aload_n C (dt_at dt_X12_check_1 1 rfl) 0 rfl rfl ?_
      refine g_X12_7_6 C (dt_at dt_X12_check_1 2 rfl) ?_
      refine V_iconst C 1 (dt_at dt_X12_check_1 3 rfl) (by decide) ?_
      obtain ⟨h19, h⟩ := chk_s h
      refine al_84 C h19 (dt_at dt_X12_check_1 4 rfl) ?_
      refine V_icmp_ge C 89 (dt_at dt_X12_check_1 5 rfl) (by decide) (fun q20 => ?_) (fun q20 => ?_)
      · have h := ite_f q20 h
        refine V_iconst C 1 (dt_at dt_X12_check_1 17 rfl) (by decide) ?_
        refine V_iload_n C (dt_at dt_X12_check_1 18 rfl) 2 rfl rfl ?_
        refine V_iadd C (dt_at dt_X12_check_1 19 rfl) ?_
        have e_55 := ex_55 _ (Option.some.inj h).symm
        obtain ⟨e1_, e2_⟩ := Prod.mk.inj e_55
        subst e1_; subst e2_
        exact V_iret C hR (dt_at dt_X12_check_1 20 rfl)
      · have h := ite_t q20 h
        refine V_aload_n C (dt_at dt_X12_check_1 6 rfl) 0 rfl rfl ?_
        refine g_X12_7_6 C (dt_at dt_X12_check_1 7 rfl) ?_
        refine V_sipush C 290 (dt_at dt_X12_check_1 8 rfl) (by decide) ?_
        refine V_iload_n C (dt_at dt_X12_check_1 9 rfl) 2 rfl rfl ?_
        refine V_iadd C (dt_at dt_X12_check_1 10 rfl) ?_
        obtain ⟨h21, h⟩ := chk_s h
        refine al_84 C h21 (dt_at dt_X12_check_1 11 rfl) ?_
        refine V_aload_n C (dt_at dt_X12_check_1 12 rfl) 0 rfl rfl ?_
        refine g_X12_72_6 C (dt_at dt_X12_check_1 13 rfl) ?_
        refine V_iload_n C (dt_at dt_X12_check_1 14 rfl) 2 rfl rfl ?_
        obtain ⟨h22, h⟩ := chk_s h
        refine al_104 C h22 (dt_at dt_X12_check_1 15 rfl) ?_
        refine V_icmp_eq C 93 (dt_at dt_X12_check_1 16 rfl) (by decide) (fun q23 => ?_) (fun q23 => ?_)
        · have h := ite_t q23 h
          refine V_iinc C (x3 + 1) 2 [1, 2, 0] (lv' := [(0, .ref (ga G 6)), (2, .int x2), (3, .int (x3 + 1))]) (dt_at dt_X12_check_1 21 rfl) rfl (by rfl) (by decide) rfl ?_
          refine V_goto C 55 (dt_at dt_X12_check_1 22 rfl) (by decide) ?_
          exact ih_55 (x3 + 1) (Option.some.inj h).symm
        · have h := ite_f q23 h
          refine V_iconst C 1 (dt_at dt_X12_check_1 17 rfl) (by decide) ?_
          refine V_iload_n C (dt_at dt_X12_check_1 18 rfl) 2 rfl rfl ?_
          refine V_iadd C (dt_at dt_X12_check_1 19 rfl) ?_
          have e_55 := ex_55 _ (Option.some.inj h).symm
          obtain ⟨e1_, e2_⟩ := Prod.mk.inj e_55
          subst e1_; subst e2_
          exact V_iret C hR (dt_at dt_X12_check_1 20 rfl)
  refine V_aload_n C (dt_at dt_X12_check_0 0 rfl) 0 rfl rfl ?_
  refine g_X12_7_6 C (dt_at dt_X12_check_0 1 rfl) ?_
  refine V_iconst C 5 (dt_at dt_X12_check_0 2 rfl) (by decide) ?_
  obtain ⟨h1, h⟩ := chk_s h
  refine al_84 C h1 (dt_at dt_X12_check_0 3 rfl) ?_
  refine V_istore_n C [1, 2, 0] (lv' := [(0, .ref (ga G 6)), (1, .int x1), (2, .int (rd σ 84 5))]) (dt_at dt_X12_check_0 4 rfl) rfl (by decide) rfl ?_
  refine V_aload_n C (dt_at dt_X12_check_0 5 rfl) 0 rfl rfl ?_
  refine g_X12_7_6 C (dt_at dt_X12_check_0 6 rfl) ?_
  refine V_iconst C 5 (dt_at dt_X12_check_0 7 rfl) (by decide) ?_
  refine V_iconst C 0 (dt_at dt_X12_check_0 8 rfl) (by decide) ?_
  obtain ⟨σ2, eσ2, h⟩ := nm_s h
  refine V_st eσ2 ?_ (fun k => as_84 C h1 (dt_at dt_X12_check_0 9 rfl) k)
  refine V_iload_n C (dt_at dt_X12_check_0 10 rfl) 1 rfl rfl ?_
  refine V_iconst C 0 (dt_at dt_X12_check_0 11 rfl) (by decide) ?_
  refine V_iconst C 3 (dt_at dt_X12_check_0 12 rfl) (by decide) ?_
  obtain ⟨r3, e4, h⟩ := bd_s h
  refine cv_X12_in C ww_437 x1 0 3 e4 (Nat.le_of_ble_eq_true rfl) (Nat.le_of_ble_eq_true rfl) z0 (dt_at dt_X12_check_0 13 rfl) ?_
  refine V_if_ne C 29 (dt_at dt_X12_check_0 14 rfl) (by decide) (fun q6 => ?_) (fun q6 => ?_)
  · have h := ite_f q6 h
    refine V_aload_n C (dt_at dt_X12_check_0 19 rfl) 0 rfl rfl ?_
    refine V_iload_n C (dt_at dt_X12_check_0 20 rfl) 1 rfl rfl ?_
    refine V_iconst C 1 (dt_at dt_X12_check_0 21 rfl) (by decide) ?_
    refine V_aload_n C (dt_at dt_X12_check_0 22 rfl) 0 rfl rfl ?_
    refine g_X12_7_6 C (dt_at dt_X12_check_0 23 rfl) ?_
    refine V_iconst C 3 (dt_at dt_X12_check_0 24 rfl) (by decide) ?_
    obtain ⟨h7, h⟩ := chk_s h
    refine al_84 C h7 (dt_at dt_X12_check_0 25 rfl) ?_
    refine V_ishl C (dt_at dt_X12_check_0 26 rfl) ?_
    refine V_iconst C 1 (dt_at dt_X12_check_0 27 rfl) (by decide) ?_
    refine V_isub C (dt_at dt_X12_check_0 28 rfl) ?_
    obtain ⟨r8, σ10, e9, h⟩ := bd2_s h
    refine cv_X12_findBest C ww_564 x1 (((1 : Int32) <<< ((rd σ2 84 3) &&& 31)) - 1) e9 (Nat.le_of_ble_eq_true rfl) (Nat.le_of_ble_eq_true rfl) z0 (dt_at dt_X12_check_0 29 rfl) ?_
    refine V_if_ne C 53 (dt_at dt_X12_check_0 30 rfl) (by decide) (fun q11 => ?_) (fun q11 => ?_)
    · have h := ite_f q11 h
      refine V_iconst C 0 (dt_at dt_X12_check_0 35 rfl) (by decide) ?_
      refine V_istore_n C [1, 2, 3, 0] (lv' := [(0, .ref (ga G 6)), (1, .int x1), (2, .int (rd σ 84 5)), (3, .int 0)]) (dt_at dt_X12_check_0 36 rfl) rfl (by decide) rfl ?_
      refine V_sub [0, 2, 3] (lv' := [(0, .ref (ga G 6)), (2, .int (rd σ 84 5)), (3, .int 0)]) rfl ?_
      exact J_55 (rd σ 84 5) 0 σ10 h
    · have h := ite_t q11 h
      refine V_aload_n C (dt_at dt_X12_check_0 31 rfl) 0 rfl rfl ?_
      refine V_iconst C 2 (dt_at dt_X12_check_0 32 rfl) (by decide) ?_
      obtain ⟨r12, σ14, e13, h⟩ := bd2_s h
      refine cv_X12_finds C ww_462 2 e13 (Nat.le_of_ble_eq_true rfl) (Nat.le_of_ble_eq_true rfl) z0 (dt_at dt_X12_check_0 33 rfl) ?_
      obtain ⟨e1_, e2_⟩ := pin2 h
      subst e1_; subst e2_
      exact V_iret C hR (dt_at dt_X12_check_0 34 rfl)
  · have h := ite_t q6 h
    refine V_aload_n C (dt_at dt_X12_check_0 15 rfl) 0 rfl rfl ?_
    refine V_iconst C 1 (dt_at dt_X12_check_0 16 rfl) (by decide) ?_
    obtain ⟨r15, σ17, e16, h⟩ := bd2_s h
    refine cv_X12_finds C ww_462 1 e16 (Nat.le_of_ble_eq_true rfl) (Nat.le_of_ble_eq_true rfl) z0 (dt_at dt_X12_check_0 17 rfl) ?_
    obtain ⟨e1_, e2_⟩ := pin2 h
    subst e1_; subst e2_
    exact V_iret C hR (dt_at dt_X12_check_0 18 rfl)
theorem cv_X12_check (C : Ck X G cc own nL d) {idx : Nat} (hlk : Cond.methodLink own idx yX12_check ∈ gtb) (x1 : Int32) {r0 : Int32} {σ0 : St} (e : f_X12_check x1 σ = some (r0, σ0)) (hdd : 10 ≤ d) (hroom : (rest.map fun v => v.category).sum ≤ 8) (hcs : cells ≤ (xR X).cells ∧ slots ≤ (xR X).slots) (hd : decode cc pc = .ok (.invokevirtual idx, 3)) (k : V X G nL cells slots σ0 (pc + 3) lv (.int r0 :: rest)) : V X G nL cells slots σ pc lv (.int x1 :: .ref (ga G 6) :: rest) := V_callV C (As := [.int x1]) (c_X12_check X.2.1 G x1 σ r0 σ0 e) cal_X12_check ww_652 ww_653 hlk rfl hdd (lt110 rfl) rfl rfl rfl hroom hcs hd k
theorem dt_X12_count_0 : dtab cX12_count [(0, .iconst 0, 1), (1, .istore_n 2, 1), (2, .iload_n 1, 1), (3, .tableswitch 137 0 8 #[49, 49, 49, 49, 49, 49, 56, 61, 100], 49), (52, .aload_n 0, 1), (53, .getfield 7, 3), (56, .iload_n 1, 1), (57, .iaload, 1), (58, .ireturn, 1), (59, .aload_n 0, 1), (60, .getfield 290, 3), (63, .ireturn, 1), (64, .iconst 0, 1), (65, .istore_n 3, 1), (66, .iload_n 3, 1), (67, .iconst 3, 1), (68, .if_icmp .ge 33, 3), (71, .iload_n 2, 1), (72, .aload_n 0, 1), (73, .getfield 7, 3), (76, .sipush 310, 3), (79, .bipush 52, 2), (81, .iload_n 3, 1), (82, .imul, 1), (83, .iadd, 1), (84, .iaload, 1), (85, .ifCond .le 7, 3), (88, .iconst 1, 1), (89, .goto 4, 3), (92, .iconst 0, 1), (93, .iadd, 1), (94, .istore_n 2, 1), (95, .iinc 3 1, 3), (98, .goto (-32), 3), (101, .iload_n 2, 1), (102, .ireturn, 1), (103, .iconst 0, 1), (104, .istore_n 3, 1), (105, .iload_n 3, 1), (106, .aload_n 0, 1)] = true := by decide +kernel
theorem dt_X12_count_1 : dtab cX12_count [(107, .getfield 7, 3), (110, .iconst 1, 1), (111, .iaload, 1), (112, .if_icmp .ge 26, 3), (115, .iload_n 2, 1), (116, .aload_n 0, 1), (117, .iload_n 3, 1), (118, .iconst 4, 1), (119, .invokevirtual 114, 3), (122, .ifCond .lt 7, 3), (125, .iconst 1, 1), (126, .goto 4, 3), (129, .iconst 0, 1), (130, .iadd, 1), (131, .istore_n 2, 1), (132, .iinc 3 1, 3), (135, .goto (-30), 3), (138, .iload_n 2, 1), (139, .ireturn, 1), (140, .aload_n 0, 1), (141, .iconst 1, 1), (142, .invokevirtual 95, 3), (145, .ireturn, 1)] = true := by decide +kernel
theorem cal_X12_count : Cal yX12_count cX12_count 4 (some .int) 1 := ⟨ww_654, ww_429, ⟨by decide, by decide, by decide⟩, by decide⟩
set_option maxHeartbeats 4000000 in
set_option maxRecDepth 100000 in
theorem c_X12_count (l : Launch) (G : Gx) (x1 : Int32) (σ : St) (r0 : Int32) (σ0 : St) (h : f_X12_count x1 σ = some (r0, σ0)) : MI l G yX12_count cX12_count 4 (some .int) 2 [.ref (ga G 6), .int x1] σ (some (.int r0)) σ0 := by
  refine MI_of RX12 rfl (by decide) [(0, .ref (ga G 6)), (1, .int x1)] rfl (Nat.le_of_ble_eq_true rfl) ?_
  intro X hXl C hR
  unfold f_X12_count at h
  have J_105 : ∀ (x2 : Int32) (x3 : Int32) (σ : St), f_X12_count_105 x2 x3 σ = some (r0, σ0) → V X G 4 0 0 σ 105 [(0, .ref (ga G 6)), (2, .int x2), (3, .int x3)] [] := by
    intro x2 x3 σ h
    refine it_v (P := fun z : Int32 × Int32 => V X G 4 0 0 σ 105 [(0, .ref (ga G 6)), (2, .int z.1), (3, .int z.2)] []) ?_ (x2, x3) h
    clear h
    intro z w_105 h ih_105 ex_105
    obtain ⟨x2, x3⟩ := z
    have h : b_X12_count_105 x2 x3 σ = some w_105 := h
    show V X G 4 0 0 σ 105 [(0, .ref (ga G 6)), (2, .int x2), (3, .int x3)] []
    unfold b_X12_count_105 at h
    have J_130 : ∀ (x3 : Int32) (s0 : Int32) (s1 : Int32), f_X12_count_130 x3 s0 s1 σ = some w_105 → V X G 4 0 0 σ 130 [(0, .ref (ga G 6)), (3, .int x3)] [.int s0, .int s1] := by
      intro x3 s0 s1 h
      unfold f_X12_count_130 at h
      refine V_iadd C (dt_at dt_X12_count_1 13 rfl) ?_
      refine V_istore_n C [1, 0, 2] (lv' := [(0, .ref (ga G 6)), (2, .int (s1 + s0)), (3, .int x3)]) (dt_at dt_X12_count_1 14 rfl) rfl (by decide) rfl ?_
      refine V_iinc C (x3 + 1) 2 [1, 2, 0] (lv' := [(0, .ref (ga G 6)), (2, .int (s1 + s0)), (3, .int (x3 + 1))]) (dt_at dt_X12_count_1 15 rfl) rfl (by rfl) (by decide) rfl ?_
      refine V_goto C 105 (dt_at dt_X12_count_1 16 rfl) (by decide) ?_
      exact ih_105 ((s1 + s0), (x3 + 1)) (Option.some.inj h).symm
    refine V_iload_n C (dt_at dt_X12_count_0 38 rfl) 2 rfl rfl ?_
    refine V_aload_n C (dt_at dt_X12_count_0 39 rfl) 0 rfl rfl ?_
    refine g_X12_7_6 C (dt_at dt_X12_count_1 0 rfl) ?_
    refine V_iconst C 1 (dt_at dt_X12_count_1 1 rfl) (by decide) ?_
    obtain ⟨h17, h⟩ := chk_s h
    refine al_84 C h17 (dt_at dt_X12_count_1 2 rfl) ?_
    refine V_icmp_ge C 138 (dt_at dt_X12_count_1 3 rfl) (by decide) (fun q18 => ?_) (fun q18 => ?_)
    · have h := ite_f q18 h
      refine V_iload_n C (dt_at dt_X12_count_1 17 rfl) 1 rfl rfl ?_
      have e_105 := ex_105 _ (Option.some.inj h).symm
      obtain ⟨e1_, e2_⟩ := Prod.mk.inj e_105
      subst e1_; subst e2_
      exact V_iret C hR (dt_at dt_X12_count_1 18 rfl)
    · have h := ite_t q18 h
      refine V_iload_n C (dt_at dt_X12_count_1 4 rfl) 1 rfl rfl ?_
      refine V_aload_n C (dt_at dt_X12_count_1 5 rfl) 0 rfl rfl ?_
      refine V_iload_n C (dt_at dt_X12_count_1 6 rfl) 2 rfl rfl ?_
      refine V_iconst C 4 (dt_at dt_X12_count_1 7 rfl) (by decide) ?_
      obtain ⟨r19, e20, h⟩ := bd_s h
      refine cv_X12_its C ww_460 x3 4 e20 (Nat.le_of_ble_eq_true rfl) (Nat.le_of_ble_eq_true rfl) z0 (dt_at dt_X12_count_1 8 rfl) ?_
      refine V_if_lt C 129 (dt_at dt_X12_count_1 9 rfl) (by decide) (fun q22 => ?_) (fun q22 => ?_)
      · have h := ite_t q22 h
        refine V_iconst C 0 (dt_at dt_X12_count_1 12 rfl) (by decide) ?_
        refine V_sub [0, 2] (lv' := [(0, .ref (ga G 6)), (3, .int x3)]) rfl ?_
        exact J_130 x3 0 x2 h
      · have h := ite_f q22 h
        refine V_iconst C 1 (dt_at dt_X12_count_1 10 rfl) (by decide) ?_
        refine V_goto C 130 (dt_at dt_X12_count_1 11 rfl) (by decide) ?_
        refine V_sub [0, 2] (lv' := [(0, .ref (ga G 6)), (3, .int x3)]) rfl ?_
        exact J_130 x3 1 x2 h
  have J_66 : ∀ (x2 : Int32) (x3 : Int32) (σ : St), f_X12_count_66 x2 x3 σ = some (r0, σ0) → V X G 4 0 0 σ 66 [(0, .ref (ga G 6)), (2, .int x2), (3, .int x3)] [] := by
    intro x2 x3 σ h
    refine it_v (P := fun z : Int32 × Int32 => V X G 4 0 0 σ 66 [(0, .ref (ga G 6)), (2, .int z.1), (3, .int z.2)] []) ?_ (x2, x3) h
    clear h
    intro z w_66 h ih_66 ex_66
    obtain ⟨x2, x3⟩ := z
    have h : b_X12_count_66 x2 x3 σ = some w_66 := h
    show V X G 4 0 0 σ 66 [(0, .ref (ga G 6)), (2, .int x2), (3, .int x3)] []
    unfold b_X12_count_66 at h
    have J_93 : ∀ (x3 : Int32) (s0 : Int32) (s1 : Int32), f_X12_count_93 x3 s0 s1 σ = some w_66 → V X G 4 0 0 σ 93 [(0, .ref (ga G 6)), (3, .int x3)] [.int s0, .int s1] := by
      intro x3 s0 s1 h
      unfold f_X12_count_93 at h
      refine V_iadd C (dt_at dt_X12_count_0 30 rfl) ?_
      refine V_istore_n C [1, 0, 2] (lv' := [(0, .ref (ga G 6)), (2, .int (s1 + s0)), (3, .int x3)]) (dt_at dt_X12_count_0 31 rfl) rfl (by decide) rfl ?_
      refine V_iinc C (x3 + 1) 2 [1, 2, 0] (lv' := [(0, .ref (ga G 6)), (2, .int (s1 + s0)), (3, .int (x3 + 1))]) (dt_at dt_X12_count_0 32 rfl) rfl (by rfl) (by decide) rfl ?_
      refine V_goto C 66 (dt_at dt_X12_count_0 33 rfl) (by decide) ?_
      exact ih_66 ((s1 + s0), (x3 + 1)) (Option.some.inj h).symm
    refine V_iload_n C (dt_at dt_X12_count_0 14 rfl) 2 rfl rfl ?_
    refine V_iconst C 3 (dt_at dt_X12_count_0 15 rfl) (by decide) ?_
    refine V_icmp_ge C 101 (dt_at dt_X12_count_0 16 rfl) (by decide) (fun q14 => ?_) (fun q14 => ?_)
    · have h := ite_f q14 h
      refine V_iload_n C (dt_at dt_X12_count_0 34 rfl) 1 rfl rfl ?_
      have e_66 := ex_66 _ (Option.some.inj h).symm
      obtain ⟨e1_, e2_⟩ := Prod.mk.inj e_66
      subst e1_; subst e2_
      exact V_iret C hR (dt_at dt_X12_count_0 35 rfl)
    · have h := ite_t q14 h
      refine V_iload_n C (dt_at dt_X12_count_0 17 rfl) 1 rfl rfl ?_
      refine V_aload_n C (dt_at dt_X12_count_0 18 rfl) 0 rfl rfl ?_
      refine g_X12_7_6 C (dt_at dt_X12_count_0 19 rfl) ?_
      refine V_sipush C 310 (dt_at dt_X12_count_0 20 rfl) (by decide) ?_
      refine V_bipush C 52 (dt_at dt_X12_count_0 21 rfl) (by decide) ?_
      refine V_iload_n C (dt_at dt_X12_count_0 22 rfl) 2 rfl rfl ?_
      refine V_imul C (dt_at dt_X12_count_0 23 rfl) ?_
      refine V_iadd C (dt_at dt_X12_count_0 24 rfl) ?_
      obtain ⟨h15, h⟩ := chk_s h
      refine al_84 C h15 (dt_at dt_X12_count_0 25 rfl) ?_
      refine V_if_le C 92 (dt_at dt_X12_count_0 26 rfl) (by decide) (fun q16 => ?_) (fun q16 => ?_)
      · have h := ite_f q16 h
        refine V_iconst C 0 (dt_at dt_X12_count_0 29 rfl) (by decide) ?_
        refine V_sub [0, 2] (lv' := [(0, .ref (ga G 6)), (3, .int x3)]) rfl ?_
        exact J_93 x3 0 x2 h
      · have h := ite_t q16 h
        refine V_iconst C 1 (dt_at dt_X12_count_0 27 rfl) (by decide) ?_
        refine V_goto C 93 (dt_at dt_X12_count_0 28 rfl) (by decide) ?_
        refine V_sub [0, 2] (lv' := [(0, .ref (ga G 6)), (3, .int x3)]) rfl ?_
        exact J_93 x3 1 x2 h
  have J_52 : ∀ (σ : St), f_X12_count_52 x1 σ = some (r0, σ0) → V X G 4 0 0 σ 52 [(0, .ref (ga G 6)), (1, .int x1)] [] := by
    intro σ h
    unfold f_X12_count_52 at h
    refine V_aload_n C (dt_at dt_X12_count_0 4 rfl) 0 rfl rfl ?_
    refine g_X12_7_6 C (dt_at dt_X12_count_0 5 rfl) ?_
    refine V_iload_n C (dt_at dt_X12_count_0 6 rfl) 1 rfl rfl ?_
    obtain ⟨h13, h⟩ := chk_s h
    refine al_84 C h13 (dt_at dt_X12_count_0 7 rfl) ?_
    obtain ⟨e1_, e2_⟩ := pin2 h
    subst e1_; subst e2_
    exact V_iret C hR (dt_at dt_X12_count_0 8 rfl)
  refine V_iconst C 0 (dt_at dt_X12_count_0 0 rfl) (by decide) ?_
  refine V_istore_n C [1, 2, 0] (lv' := [(0, .ref (ga G 6)), (1, .int x1), (2, .int 0)]) (dt_at dt_X12_count_0 1 rfl) rfl (by decide) rfl ?_
  refine V_iload_n C (dt_at dt_X12_count_0 2 rfl) 1 rfl rfl ?_
  by_cases q1 : x1 = 0
  · have h := ite_t q1 h
    refine V_tin C 0 52 (dt_at dt_X12_count_0 3 rfl) ⟨by rw [q1] <;> rfl, by decide⟩ rfl (by decide) ?_
    refine V_sub [0, 1] (lv' := [(0, .ref (ga G 6)), (1, .int x1)]) rfl ?_
    exact J_52 σ h
  replace h := ite_f q1 h
  by_cases q2 : x1 = 1
  · have h := ite_t q2 h
    refine V_tin C 1 52 (dt_at dt_X12_count_0 3 rfl) ⟨by rw [q2] <;> rfl, by decide⟩ rfl (by decide) ?_
    refine V_sub [0, 1] (lv' := [(0, .ref (ga G 6)), (1, .int x1)]) rfl ?_
    exact J_52 σ h
  replace h := ite_f q2 h
  by_cases q3 : x1 = 2
  · have h := ite_t q3 h
    refine V_tin C 2 52 (dt_at dt_X12_count_0 3 rfl) ⟨by rw [q3] <;> rfl, by decide⟩ rfl (by decide) ?_
    refine V_sub [0, 1] (lv' := [(0, .ref (ga G 6)), (1, .int x1)]) rfl ?_
    exact J_52 σ h
  replace h := ite_f q3 h
  by_cases q4 : x1 = 3
  · have h := ite_t q4 h
    refine V_tin C 3 52 (dt_at dt_X12_count_0 3 rfl) ⟨by rw [q4] <;> rfl, by decide⟩ rfl (by decide) ?_
    refine V_sub [0, 1] (lv' := [(0, .ref (ga G 6)), (1, .int x1)]) rfl ?_
    exact J_52 σ h
  replace h := ite_f q4 h
  by_cases q5 : x1 = 4
  · have h := ite_t q5 h
    refine V_tin C 4 52 (dt_at dt_X12_count_0 3 rfl) ⟨by rw [q5] <;> rfl, by decide⟩ rfl (by decide) ?_
    refine V_sub [0, 1] (lv' := [(0, .ref (ga G 6)), (1, .int x1)]) rfl ?_
    exact J_52 σ h
  replace h := ite_f q5 h
  by_cases q6 : x1 = 5
  · have h := ite_t q6 h
    refine V_tin C 5 52 (dt_at dt_X12_count_0 3 rfl) ⟨by rw [q6] <;> rfl, by decide⟩ rfl (by decide) ?_
    refine V_sub [0, 1] (lv' := [(0, .ref (ga G 6)), (1, .int x1)]) rfl ?_
    exact J_52 σ h
  replace h := ite_f q6 h
  by_cases q7 : x1 = 6
  · have h := ite_t q7 h
    refine V_tin C 6 59 (dt_at dt_X12_count_0 3 rfl) ⟨by rw [q7] <;> rfl, by decide⟩ rfl (by decide) ?_
    refine V_aload_n C (dt_at dt_X12_count_0 9 rfl) 0 rfl rfl ?_
    refine g_X12_290_6 C (dt_at dt_X12_count_0 10 rfl) ?_
    obtain ⟨e1_, e2_⟩ := pin2 h
    subst e1_; subst e2_
    exact V_iret C hR (dt_at dt_X12_count_0 11 rfl)
  replace h := ite_f q7 h
  by_cases q8 : x1 = 7
  · have h := ite_t q8 h
    refine V_tin C 7 64 (dt_at dt_X12_count_0 3 rfl) ⟨by rw [q8] <;> rfl, by decide⟩ rfl (by decide) ?_
    refine V_iconst C 0 (dt_at dt_X12_count_0 12 rfl) (by decide) ?_
    refine V_istore_n C [1, 2, 3, 0] (lv' := [(0, .ref (ga G 6)), (1, .int x1), (2, .int 0), (3, .int 0)]) (dt_at dt_X12_count_0 13 rfl) rfl (by decide) rfl ?_
    refine V_sub [0, 2, 3] (lv' := [(0, .ref (ga G 6)), (2, .int 0), (3, .int 0)]) rfl ?_
    exact J_66 0 0 σ h
  replace h := ite_f q8 h
  by_cases q9 : x1 = 8
  · have h := ite_t q9 h
    refine V_tin C 8 103 (dt_at dt_X12_count_0 3 rfl) ⟨by rw [q9] <;> rfl, by decide⟩ rfl (by decide) ?_
    refine V_iconst C 0 (dt_at dt_X12_count_0 36 rfl) (by decide) ?_
    refine V_istore_n C [1, 2, 3, 0] (lv' := [(0, .ref (ga G 6)), (1, .int x1), (2, .int 0), (3, .int 0)]) (dt_at dt_X12_count_0 37 rfl) rfl (by decide) rfl ?_
    refine V_sub [0, 2, 3] (lv' := [(0, .ref (ga G 6)), (2, .int 0), (3, .int 0)]) rfl ?_
    exact J_105 0 0 σ h
  replace h := ite_f q9 h
  refine V_tout C 140 (dt_at dt_X12_count_0 3 rfl) (by have q1t := lv_neT q1 (a := 0) rfl; have q2t := lv_neT q2 (a := 1) rfl; have q3t := lv_neT q3 (a := 2) rfl; have q4t := lv_neT q4 (a := 3) rfl; have q5t := lv_neT q5 (a := 4) rfl; have q6t := lv_neT q6 (a := 5) rfl; have q7t := lv_neT q7 (a := 6) rfl; have q8t := lv_neT q8 (a := 7) rfl; have q9t := lv_neT q9 (a := 8) rfl; omega) (by decide) ?_
  refine V_aload_n C (dt_at dt_X12_count_1 19 rfl) 0 rfl rfl ?_
  refine V_iconst C 1 (dt_at dt_X12_count_1 20 rfl) (by decide) ?_
  obtain ⟨r10, σ12, e11, h⟩ := bd2_s h
  refine cv_X12_finds C ww_462 1 e11 (Nat.le_of_ble_eq_true rfl) (Nat.le_of_ble_eq_true rfl) z0 (dt_at dt_X12_count_1 21 rfl) ?_
  obtain ⟨e1_, e2_⟩ := pin2 h
  subst e1_; subst e2_
  exact V_iret C hR (dt_at dt_X12_count_1 22 rfl)
theorem cv_X12_count (C : Ck X G cc own nL d) {idx : Nat} (hlk : Cond.methodLink own idx yX12_count ∈ gtb) (x1 : Int32) {r0 : Int32} {σ0 : St} (e : f_X12_count x1 σ = some (r0, σ0)) (hdd : 3 ≤ d) (hroom : (rest.map fun v => v.category).sum ≤ 8) (hcs : cells ≤ (xR X).cells ∧ slots ≤ (xR X).slots) (hd : decode cc pc = .ok (.invokevirtual idx, 3)) (k : V X G nL cells slots σ0 (pc + 3) lv (.int r0 :: rest)) : V X G nL cells slots σ pc lv (.int x1 :: .ref (ga G 6) :: rest) := V_callV C (As := [.int x1]) (c_X12_count X.2.1 G x1 σ r0 σ0 e) cal_X12_count ww_655 ww_656 hlk rfl hdd (lt110 rfl) rfl rfl rfl hroom hcs hd k
theorem dt_X12_manyOn_0 : dtab cX12_manyOn [(0, .iconst 0, 1), (1, .istore_n 3, 1), (2, .iconst 0, 1), (3, .istore 4, 2), (5, .iload 4, 2), (7, .aload_n 0, 1), (8, .getfield 7, 3), (11, .iconst 1, 1), (12, .iaload, 1), (13, .if_icmp .ge 44, 3), (16, .iload_n 3, 1), (17, .iload_n 2, 1), (18, .ifCond .ne 14, 3), (21, .aload_n 0, 1), (22, .iload 4, 2), (24, .iconst 0, 1), (25, .invokevirtual 114, 3), (28, .iconst 3, 1), (29, .if_icmp .eq 19, 3), (32, .aload_n 0, 1), (33, .iload 4, 2), (35, .iload_n 1, 1), (36, .iload_n 1, 1), (37, .iconst (-1), 1), (38, .invokevirtual 127, 3), (41, .ifCond .eq 7, 3), (44, .iconst 1, 1), (45, .goto 4, 3), (48, .iconst 0, 1), (49, .iadd, 1), (50, .istore_n 3, 1), (51, .iinc 4 1, 3), (54, .goto (-49), 3), (57, .iload_n 3, 1), (58, .ireturn, 1)] = true := by decide +kernel
theorem cal_X12_manyOn : Cal yX12_manyOn cX12_manyOn 5 (some .int) 2 := ⟨ww_657, ww_429, ⟨by decide, by decide, by decide⟩, by decide⟩
set_option maxHeartbeats 4000000 in
set_option maxRecDepth 100000 in
theorem c_X12_manyOn (l : Launch) (G : Gx) (x1 : Int32) (x2 : Int32) (σ : St) (r0 : Int32) (h : f_X12_manyOn x1 x2 σ = some r0) : MI l G yX12_manyOn cX12_manyOn 5 (some .int) 3 [.ref (ga G 6), .int x1, .int x2] σ (some (.int r0)) σ := by
  refine MI_of RX12 rfl (by decide) [(0, .ref (ga G 6)), (1, .int x1), (2, .int x2)] rfl (Nat.le_of_ble_eq_true rfl) ?_
  intro X hXl C hR
  unfold f_X12_manyOn at h
  have J_5 : ∀ (x3 : Int32) (x4 : Int32), f_X12_manyOn_5 x1 x2 x3 x4 σ = some r0 → V X G 5 0 0 σ 5 [(0, .ref (ga G 6)), (1, .int x1), (2, .int x2), (3, .int x3), (4, .int x4)] [] := by
    intro x3 x4 h
    refine it_v (P := fun z : Int32 × Int32 => V X G 5 0 0 σ 5 [(0, .ref (ga G 6)), (1, .int x1), (2, .int x2), (3, .int z.1), (4, .int z.2)] []) ?_ (x3, x4) h
    clear h
    intro z w_5 h ih_5 ex_5
    obtain ⟨x3, x4⟩ := z
    have h : b_X12_manyOn_5 x1 x2 x3 x4 σ = some w_5 := h
    show V X G 5 0 0 σ 5 [(0, .ref (ga G 6)), (1, .int x1), (2, .int x2), (3, .int x3), (4, .int x4)] []
    unfold b_X12_manyOn_5 at h
    have J_49 : ∀ (x4 : Int32) (s0 : Int32) (s1 : Int32), f_X12_manyOn_49 x1 x2 x4 s0 s1 σ = some w_5 → V X G 5 0 0 σ 49 [(0, .ref (ga G 6)), (1, .int x1), (2, .int x2), (4, .int x4)] [.int s0, .int s1] := by
      intro x4 s0 s1 h
      unfold f_X12_manyOn_49 at h
      refine V_iadd C (dt_at dt_X12_manyOn_0 29 rfl) ?_
      refine V_istore_n C [1, 2, 3, 0, 4] (lv' := [(0, .ref (ga G 6)), (1, .int x1), (2, .int x2), (3, .int (s1 + s0)), (4, .int x4)]) (dt_at dt_X12_manyOn_0 30 rfl) rfl (by decide) rfl ?_
      refine V_iinc C (x4 + 1) 4 [1, 2, 3, 4, 0] (lv' := [(0, .ref (ga G 6)), (1, .int x1), (2, .int x2), (3, .int (s1 + s0)), (4, .int (x4 + 1))]) (dt_at dt_X12_manyOn_0 31 rfl) rfl (by rfl) (by decide) rfl ?_
      refine V_goto C 5 (dt_at dt_X12_manyOn_0 32 rfl) (by decide) ?_
      exact ih_5 ((s1 + s0), (x4 + 1)) (Option.some.inj h).symm
    have J_48 : ∀ (x4 : Int32) (s0 : Int32), f_X12_manyOn_48 x1 x2 x4 s0 σ = some w_5 → V X G 5 0 0 σ 48 [(0, .ref (ga G 6)), (1, .int x1), (2, .int x2), (4, .int x4)] [.int s0] := by
      intro x4 s0 h
      unfold f_X12_manyOn_48 at h
      refine V_iconst C 0 (dt_at dt_X12_manyOn_0 28 rfl) (by decide) ?_
      exact J_49 x4 0 s0 h
    have J_32 : ∀ (x4 : Int32) (s0 : Int32), f_X12_manyOn_32 x1 x2 x4 s0 σ = some w_5 → V X G 5 0 0 σ 32 [(0, .ref (ga G 6)), (1, .int x1), (2, .int x2), (4, .int x4)] [.int s0] := by
      intro x4 s0 h
      unfold f_X12_manyOn_32 at h
      refine V_aload_n C (dt_at dt_X12_manyOn_0 19 rfl) 0 rfl rfl ?_
      refine V_iload C (dt_at dt_X12_manyOn_0 20 rfl) 3 rfl ?_
      refine V_iload_n C (dt_at dt_X12_manyOn_0 21 rfl) 1 rfl rfl ?_
      refine V_iload_n C (dt_at dt_X12_manyOn_0 22 rfl) 1 rfl rfl ?_
      refine V_iconst C (-1) (dt_at dt_X12_manyOn_0 23 rfl) (by decide) ?_
      obtain ⟨r8, e9, h⟩ := bd_s h
      refine cv_X12_isOn C ww_627 x4 x1 x1 (-1) e9 (Nat.le_of_ble_eq_true rfl) (Nat.le_of_ble_eq_true rfl) z0 (dt_at dt_X12_manyOn_0 24 rfl) ?_
      refine V_if_eq C 48 (dt_at dt_X12_manyOn_0 25 rfl) (by decide) (fun q11 => ?_) (fun q11 => ?_)
      · have h := ite_t q11 h
        exact J_48 x4 s0 h
      · have h := ite_f q11 h
        refine V_iconst C 1 (dt_at dt_X12_manyOn_0 26 rfl) (by decide) ?_
        refine V_goto C 49 (dt_at dt_X12_manyOn_0 27 rfl) (by decide) ?_
        exact J_49 x4 1 s0 h
    refine V_iload C (dt_at dt_X12_manyOn_0 4 rfl) 4 rfl ?_
    refine V_aload_n C (dt_at dt_X12_manyOn_0 5 rfl) 0 rfl rfl ?_
    refine g_X12_7_6 C (dt_at dt_X12_manyOn_0 6 rfl) ?_
    refine V_iconst C 1 (dt_at dt_X12_manyOn_0 7 rfl) (by decide) ?_
    obtain ⟨h1, h⟩ := chk_s h
    refine al_84 C h1 (dt_at dt_X12_manyOn_0 8 rfl) ?_
    refine V_icmp_ge C 57 (dt_at dt_X12_manyOn_0 9 rfl) (by decide) (fun q2 => ?_) (fun q2 => ?_)
    · have h := ite_f q2 h
      refine V_iload_n C (dt_at dt_X12_manyOn_0 33 rfl) 3 rfl rfl ?_
      have e_5 := ex_5 _ (Option.some.inj h).symm
      subst e_5
      exact V_iret C hR (dt_at dt_X12_manyOn_0 34 rfl)
    · have h := ite_t q2 h
      refine V_iload_n C (dt_at dt_X12_manyOn_0 10 rfl) 3 rfl rfl ?_
      refine V_iload_n C (dt_at dt_X12_manyOn_0 11 rfl) 2 rfl rfl ?_
      refine V_if_ne C 32 (dt_at dt_X12_manyOn_0 12 rfl) (by decide) (fun q3 => ?_) (fun q3 => ?_)
      · have h := ite_f q3 h
        refine V_sub [0, 1, 2, 4] (lv' := [(0, .ref (ga G 6)), (1, .int x1), (2, .int x2), (4, .int x4)]) rfl ?_
        exact J_32 x4 x3 h
      · have h := ite_t q3 h
        refine V_aload_n C (dt_at dt_X12_manyOn_0 13 rfl) 0 rfl rfl ?_
        refine V_iload C (dt_at dt_X12_manyOn_0 14 rfl) 4 rfl ?_
        refine V_iconst C 0 (dt_at dt_X12_manyOn_0 15 rfl) (by decide) ?_
        obtain ⟨r4, e5, h⟩ := bd_s h
        refine cv_X12_its C ww_460 x4 0 e5 (Nat.le_of_ble_eq_true rfl) (Nat.le_of_ble_eq_true rfl) z0 (dt_at dt_X12_manyOn_0 16 rfl) ?_
        refine V_iconst C 3 (dt_at dt_X12_manyOn_0 17 rfl) (by decide) ?_
        refine V_icmp_eq C 48 (dt_at dt_X12_manyOn_0 18 rfl) (by decide) (fun q7 => ?_) (fun q7 => ?_)
        · have h := ite_t q7 h
          refine V_sub [0, 1, 2, 4] (lv' := [(0, .ref (ga G 6)), (1, .int x1), (2, .int x2), (4, .int x4)]) rfl ?_
          exact J_48 x4 x3 h
        · have h := ite_f q7 h
          refine V_sub [0, 1, 2, 4] (lv' := [(0, .ref (ga G 6)), (1, .int x1), (2, .int x2), (4, .int x4)]) rfl ?_
          exact J_32 x4 x3 h
  refine V_iconst C 0 (dt_at dt_X12_manyOn_0 0 rfl) (by decide) ?_
  refine V_istore_n C [1, 2, 3, 0] (lv' := [(0, .ref (ga G 6)), (1, .int x1), (2, .int x2), (3, .int 0)]) (dt_at dt_X12_manyOn_0 1 rfl) rfl (by decide) rfl ?_
  refine V_iconst C 0 (dt_at dt_X12_manyOn_0 2 rfl) (by decide) ?_
  refine V_istore C [1, 2, 3, 4, 0] (lv' := [(0, .ref (ga G 6)), (1, .int x1), (2, .int x2), (3, .int 0), (4, .int 0)]) (dt_at dt_X12_manyOn_0 3 rfl) (by decide) rfl ?_
  exact J_5 0 0 h
theorem cv_X12_manyOn (C : Ck X G cc own nL d) {idx : Nat} (hlk : Cond.methodLink own idx yX12_manyOn ∈ gtb) (x1 : Int32) (x2 : Int32) {r0 : Int32} (e : f_X12_manyOn x1 x2 σ = some r0) (hdd : 4 ≤ d) (hroom : (rest.map fun v => v.category).sum ≤ 8) (hcs : cells ≤ (xR X).cells ∧ slots ≤ (xR X).slots) (hd : decode cc pc = .ok (.invokevirtual idx, 3)) (k : V X G nL cells slots σ (pc + 3) lv (.int r0 :: rest)) : V X G nL cells slots σ pc lv (.int x2 :: .int x1 :: .ref (ga G 6) :: rest) := V_callV C (As := [.int x1, .int x2]) (c_X12_manyOn X.2.1 G x1 x2 σ r0 e) cal_X12_manyOn ww_658 ww_659 hlk rfl hdd (lt110 rfl) rfl rfl rfl hroom hcs hd k
theorem dt_X12_crowd_0 : dtab cX12_crowd [(0, .iconst 0, 1), (1, .istore_n 1, 1), (2, .iconst 0, 1), (3, .istore_n 2, 1), (4, .iload_n 2, 1), (5, .aload_n 0, 1), (6, .getfield 7, 3), (9, .iconst 0, 1), (10, .iaload, 1), (11, .if_icmp .ge 27, 3), (14, .aload_n 0, 1), (15, .iload_n 2, 1), (16, .iconst 0, 1), (17, .invokevirtual 141, 3), (20, .istore_n 3, 1), (21, .iload_n 3, 1), (22, .iload_n 1, 1), (23, .if_icmp .le 7, 3), (26, .iload_n 3, 1), (27, .goto 4, 3), (30, .iload_n 1, 1), (31, .istore_n 1, 1), (32, .iinc 2 1, 3), (35, .goto (-31), 3), (38, .iload_n 1, 1), (39, .ireturn, 1)] = true := by decide +kernel
theorem cal_X12_crowd : Cal yX12_crowd cX12_crowd 4 (some .int) 0 := ⟨ww_661, ww_429, ⟨by decide, by decide, by decide⟩, by decide⟩
set_option maxHeartbeats 4000000 in
set_option maxRecDepth 100000 in
theorem c_X12_crowd (l : Launch) (G : Gx) (σ : St) (r0 : Int32) (h : f_X12_crowd σ = some r0) : MI l G yX12_crowd cX12_crowd 4 (some .int) 4 [.ref (ga G 6)] σ (some (.int r0)) σ := by
  refine MI_of RX12 rfl (by decide) [(0, .ref (ga G 6))] rfl (Nat.le_of_ble_eq_true rfl) ?_
  intro X hXl C hR
  unfold f_X12_crowd at h
  have J_4 : ∀ (x1 : Int32) (x2 : Int32), f_X12_crowd_4 x1 x2 σ = some r0 → V X G 4 0 0 σ 4 [(0, .ref (ga G 6)), (1, .int x1), (2, .int x2)] [] := by
    intro x1 x2 h
    refine it_v (P := fun z : Int32 × Int32 => V X G 4 0 0 σ 4 [(0, .ref (ga G 6)), (1, .int z.1), (2, .int z.2)] []) ?_ (x1, x2) h
    clear h
    intro z w_4 h ih_4 ex_4
    obtain ⟨x1, x2⟩ := z
    have h : b_X12_crowd_4 x1 x2 σ = some w_4 := h
    show V X G 4 0 0 σ 4 [(0, .ref (ga G 6)), (1, .int x1), (2, .int x2)] []
    unfold b_X12_crowd_4 at h
    have J_31 : ∀ (x2 : Int32) (s0 : Int32), f_X12_crowd_31 x2 s0 σ = some w_4 → V X G 4 0 0 σ 31 [(0, .ref (ga G 6)), (2, .int x2)] [.int s0] := by
      intro x2 s0 h
      unfold f_X12_crowd_31 at h
      refine V_istore_n C [1, 0, 2] (lv' := [(0, .ref (ga G 6)), (1, .int s0), (2, .int x2)]) (dt_at dt_X12_crowd_0 21 rfl) rfl (by decide) rfl ?_
      refine V_iinc C (x2 + 1) 2 [1, 2, 0] (lv' := [(0, .ref (ga G 6)), (1, .int s0), (2, .int (x2 + 1))]) (dt_at dt_X12_crowd_0 22 rfl) rfl (by rfl) (by decide) rfl ?_
      refine V_goto C 4 (dt_at dt_X12_crowd_0 23 rfl) (by decide) ?_
      exact ih_4 (s0, (x2 + 1)) (Option.some.inj h).symm
    refine V_iload_n C (dt_at dt_X12_crowd_0 4 rfl) 2 rfl rfl ?_
    refine V_aload_n C (dt_at dt_X12_crowd_0 5 rfl) 0 rfl rfl ?_
    refine g_X12_7_6 C (dt_at dt_X12_crowd_0 6 rfl) ?_
    refine V_iconst C 0 (dt_at dt_X12_crowd_0 7 rfl) (by decide) ?_
    obtain ⟨h1, h⟩ := chk_s h
    refine al_84 C h1 (dt_at dt_X12_crowd_0 8 rfl) ?_
    refine V_icmp_ge C 38 (dt_at dt_X12_crowd_0 9 rfl) (by decide) (fun q2 => ?_) (fun q2 => ?_)
    · have h := ite_f q2 h
      refine V_iload_n C (dt_at dt_X12_crowd_0 24 rfl) 1 rfl rfl ?_
      have e_4 := ex_4 _ (Option.some.inj h).symm
      subst e_4
      exact V_iret C hR (dt_at dt_X12_crowd_0 25 rfl)
    · have h := ite_t q2 h
      refine V_aload_n C (dt_at dt_X12_crowd_0 10 rfl) 0 rfl rfl ?_
      refine V_iload_n C (dt_at dt_X12_crowd_0 11 rfl) 2 rfl rfl ?_
      refine V_iconst C 0 (dt_at dt_X12_crowd_0 12 rfl) (by decide) ?_
      obtain ⟨r3, e4, h⟩ := bd_s h
      refine cv_X12_manyOn C ww_660 x2 0 e4 (Nat.le_of_ble_eq_true rfl) (Nat.le_of_ble_eq_true rfl) z0 (dt_at dt_X12_crowd_0 13 rfl) ?_
      refine V_istore_n C [1, 2, 3, 0] (lv' := [(0, .ref (ga G 6)), (1, .int x1), (2, .int x2), (3, .int r3)]) (dt_at dt_X12_crowd_0 14 rfl) rfl (by decide) rfl ?_
      refine V_iload_n C (dt_at dt_X12_crowd_0 15 rfl) 3 rfl rfl ?_
      refine V_iload_n C (dt_at dt_X12_crowd_0 16 rfl) 1 rfl rfl ?_
      refine V_icmp_le C 30 (dt_at dt_X12_crowd_0 17 rfl) (by decide) (fun q6 => ?_) (fun q6 => ?_)
      · have h := ite_f q6 h
        refine V_iload_n C (dt_at dt_X12_crowd_0 20 rfl) 1 rfl rfl ?_
        refine V_sub [0, 2] (lv' := [(0, .ref (ga G 6)), (2, .int x2)]) rfl ?_
        exact J_31 x2 x1 h
      · have h := ite_t q6 h
        refine V_iload_n C (dt_at dt_X12_crowd_0 18 rfl) 3 rfl rfl ?_
        refine V_goto C 31 (dt_at dt_X12_crowd_0 19 rfl) (by decide) ?_
        refine V_sub [0, 2] (lv' := [(0, .ref (ga G 6)), (2, .int x2)]) rfl ?_
        exact J_31 x2 r3 h
  refine V_iconst C 0 (dt_at dt_X12_crowd_0 0 rfl) (by decide) ?_
  refine V_istore_n C [1, 0] (lv' := [(0, .ref (ga G 6)), (1, .int 0)]) (dt_at dt_X12_crowd_0 1 rfl) rfl (by decide) rfl ?_
  refine V_iconst C 0 (dt_at dt_X12_crowd_0 2 rfl) (by decide) ?_
  refine V_istore_n C [1, 2, 0] (lv' := [(0, .ref (ga G 6)), (1, .int 0), (2, .int 0)]) (dt_at dt_X12_crowd_0 3 rfl) rfl (by decide) rfl ?_
  exact J_4 0 0 h
theorem cv_X12_crowd (C : Ck X G cc own nL d) {idx : Nat} (hlk : Cond.methodLink own idx yX12_crowd ∈ gtb) {r0 : Int32} (e : f_X12_crowd σ = some r0) (hdd : 5 ≤ d) (hroom : (rest.map fun v => v.category).sum ≤ 8) (hcs : cells ≤ (xR X).cells ∧ slots ≤ (xR X).slots) (hd : decode cc pc = .ok (.invokevirtual idx, 3)) (k : V X G nL cells slots σ (pc + 3) lv (.int r0 :: rest)) : V X G nL cells slots σ pc lv (.ref (ga G 6) :: rest) := V_callV C (As := []) (c_X12_crowd X.2.1 G  σ r0 e) cal_X12_crowd ww_662 ww_663 hlk rfl hdd (lt110 rfl) rfl rfl rfl hroom hcs hd k
theorem dt_X12_lays_0 : dtab cX12_lays [(0, .aload_n 0, 1), (1, .getfield 31, 3), (4, .aload_n 0, 1), (5, .getfield 172, 3), (8, .iload_n 1, 1), (9, .iastore, 1), (10, .aload_n 0, 1), (11, .dup, 1), (12, .getfield 172, 3), (15, .iconst 1, 1), (16, .iadd, 1), (17, .putfield 172, 3), (20, .return_, 1)] = true := by decide +kernel
theorem cal_X12_lays : Cal yX12_lays cX12_lays 2 none 1 := ⟨ww_666, ww_429, ⟨by decide, by decide, by decide⟩, by decide⟩
set_option maxHeartbeats 4000000 in
set_option maxRecDepth 100000 in
theorem c_X12_lays (l : Launch) (G : Gx) (x1 : Int32) (σ : St) (σ0 : St) (h : f_X12_lays x1 σ = some σ0) : MI l G yX12_lays cX12_lays 2 none 1 [.ref (ga G 6), .int x1] σ none σ0 := by
  refine MI_of RX12 rfl (by decide) [(0, .ref (ga G 6)), (1, .int x1)] rfl (Nat.le_of_ble_eq_true rfl) ?_
  intro X hXl C hR
  unfold f_X12_lays at h
  refine V_aload_n C (dt_at dt_X12_lays_0 0 rfl) 0 rfl rfl ?_
  refine g_X12_31_6 C (dt_at dt_X12_lays_0 1 rfl) ?_
  refine V_aload_n C (dt_at dt_X12_lays_0 2 rfl) 0 rfl rfl ?_
  refine g_X12_172_6 C (dt_at dt_X12_lays_0 3 rfl) ?_
  refine V_iload_n C (dt_at dt_X12_lays_0 4 rfl) 1 rfl rfl ?_
  obtain ⟨h2, h⟩ := chk_s h
  obtain ⟨σ1, eσ1, h⟩ := nm_s h
  refine V_st eσ1 ?_ (fun k => as_91 C h2 (dt_at dt_X12_lays_0 5 rfl) k)
  refine V_aload_n C (dt_at dt_X12_lays_0 6 rfl) 0 rfl rfl ?_
  refine V_dup C (dt_at dt_X12_lays_0 7 rfl) rfl ?_
  refine g_X12_172_6 C (dt_at dt_X12_lays_0 8 rfl) ?_
  refine V_iconst C 1 (dt_at dt_X12_lays_0 9 rfl) (by decide) ?_
  refine V_iadd C (dt_at dt_X12_lays_0 10 rfl) ?_
  obtain ⟨σ3, eσ3, h⟩ := nm_s h
  refine V_st eσ3 ?_ (fun k => p_X12_172_6 C (dt_at dt_X12_lays_0 11 rfl) k)
  have e1_ := Option.some.inj h
  subst e1_
  exact V_vret C hR (dt_at dt_X12_lays_0 12 rfl)
theorem cv_X12_lays (C : Ck X G cc own nL d) {idx : Nat} (hlk : Cond.methodLink own idx yX12_lays ∈ gtb) (x1 : Int32) {σ0 : St} (e : f_X12_lays x1 σ = some σ0) (hdd : 2 ≤ d) (hroom : (rest.map fun v => v.category).sum ≤ 8) (hcs : cells ≤ (xR X).cells ∧ slots ≤ (xR X).slots) (hd : decode cc pc = .ok (.invokevirtual idx, 3)) (k : V X G nL cells slots σ0 (pc + 3) lv (rest)) : V X G nL cells slots σ pc lv (.int x1 :: .ref (ga G 6) :: rest) := V_callV C (As := [.int x1]) (c_X12_lays X.2.1 G x1 σ σ0 e) cal_X12_lays ww_667 ww_668 hlk rfl hdd (lt110 rfl) rfl rfl rfl hroom hcs hd k
theorem dt_X12_denies_0 : dtab cX12_denies [(0, .aload_n 0, 1), (1, .getfield 176, 3), (4, .ifCond .le 39, 3), (7, .aload_n 0, 1), (8, .getfield 34, 3), (11, .aload_n 0, 1), (12, .getfield 176, 3), (15, .iconst 1, 1), (16, .isub, 1), (17, .iaload, 1), (18, .bipush 33, 2), (20, .if_icmp .ne 23, 3), (23, .aload_n 0, 1), (24, .dup, 1), (25, .getfield 176, 3), (28, .iconst 1, 1), (29, .isub, 1), (30, .putfield 176, 3), (33, .aload_n 0, 1), (34, .sipush (-133), 3), (37, .invokevirtual 182, 3), (40, .goto (-40), 3), (43, .return_, 1)] = true := by decide +kernel
theorem cal_X12_denies : Cal yX12_denies cX12_denies 1 none 0 := ⟨ww_672, ww_429, ⟨by decide, by decide, by decide⟩, by decide⟩
set_option maxHeartbeats 4000000 in
set_option maxRecDepth 100000 in
theorem c_X12_denies (l : Launch) (G : Gx) (σ : St) (σ0 : St) (h : f_X12_denies σ = some σ0) : MI l G yX12_denies cX12_denies 1 none 2 [.ref (ga G 6)] σ none σ0 := by
  refine MI_of RX12 rfl (by decide) [(0, .ref (ga G 6))] rfl (Nat.le_of_ble_eq_true rfl) ?_
  intro X hXl C hR
  unfold f_X12_denies at h
  have J_0 : ∀ (σ : St), f_X12_denies_0 σ = some σ0 → V X G 1 0 0 σ 0 [(0, .ref (ga G 6))] [] := by
    intro σ h
    refine it_v (P := fun z : St => V X G 1 0 0 z 0 [(0, .ref (ga G 6))] []) ?_ σ h
    clear h
    intro z w_0 h ih_0 ex_0
    revert h; revert z; intro σ h
    have h : b_X12_denies_0 σ = some w_0 := h
    show V X G 1 0 0 σ 0 [(0, .ref (ga G 6))] []
    unfold b_X12_denies_0 at h
    refine V_aload_n C (dt_at dt_X12_denies_0 0 rfl) 0 rfl rfl ?_
    refine g_X12_176_6 C (dt_at dt_X12_denies_0 1 rfl) ?_
    refine V_if_le C 43 (dt_at dt_X12_denies_0 2 rfl) (by decide) (fun q8 => ?_) (fun q8 => ?_)
    · have h := ite_f q8 h
      have e_0 := ex_0 _ (Option.some.inj h).symm
      subst e_0
      exact V_vret C hR (dt_at dt_X12_denies_0 22 rfl)
    · have h := ite_t q8 h
      refine V_aload_n C (dt_at dt_X12_denies_0 3 rfl) 0 rfl rfl ?_
      refine g_X12_34_6 C (dt_at dt_X12_denies_0 4 rfl) ?_
      refine V_aload_n C (dt_at dt_X12_denies_0 5 rfl) 0 rfl rfl ?_
      refine g_X12_176_6 C (dt_at dt_X12_denies_0 6 rfl) ?_
      refine V_iconst C 1 (dt_at dt_X12_denies_0 7 rfl) (by decide) ?_
      refine V_isub C (dt_at dt_X12_denies_0 8 rfl) ?_
      obtain ⟨h9, h⟩ := chk_s h
      refine al_92 C h9 (dt_at dt_X12_denies_0 9 rfl) ?_
      refine V_bipush C 33 (dt_at dt_X12_denies_0 10 rfl) (by decide) ?_
      refine V_icmp_ne C 43 (dt_at dt_X12_denies_0 11 rfl) (by decide) (fun q10 => ?_) (fun q10 => ?_)
      · have h := ite_f q10 h
        have e_0 := ex_0 _ (Option.some.inj h).symm
        subst e_0
        exact V_vret C hR (dt_at dt_X12_denies_0 22 rfl)
      · have h := ite_t q10 h
        refine V_aload_n C (dt_at dt_X12_denies_0 12 rfl) 0 rfl rfl ?_
        refine V_dup C (dt_at dt_X12_denies_0 13 rfl) rfl ?_
        refine g_X12_176_6 C (dt_at dt_X12_denies_0 14 rfl) ?_
        refine V_iconst C 1 (dt_at dt_X12_denies_0 15 rfl) (by decide) ?_
        refine V_isub C (dt_at dt_X12_denies_0 16 rfl) ?_
        obtain ⟨σ11, eσ11, h⟩ := nm_s h
        refine V_st eσ11 ?_ (fun k => p_X12_176_6 C (dt_at dt_X12_denies_0 17 rfl) k)
        refine V_aload_n C (dt_at dt_X12_denies_0 18 rfl) 0 rfl rfl ?_
        refine V_sipush C (-133) (dt_at dt_X12_denies_0 19 rfl) (by decide) ?_
        obtain ⟨σ14, e13, h⟩ := bd_s h
        refine cv_X12_lays C ww_671 (-133) e13 (Nat.le_of_ble_eq_true rfl) (Nat.le_of_ble_eq_true rfl) z0 (dt_at dt_X12_denies_0 20 rfl) ?_
        refine V_goto C 0 (dt_at dt_X12_denies_0 21 rfl) (by decide) ?_
        exact ih_0 σ14 (Option.some.inj h).symm
  refine V_aload_n C (dt_at dt_X12_denies_0 0 rfl) 0 rfl rfl ?_
  refine g_X12_176_6 C (dt_at dt_X12_denies_0 1 rfl) ?_
  refine V_if_le C 43 (dt_at dt_X12_denies_0 2 rfl) (by decide) (fun q1 => ?_) (fun q1 => ?_)
  · have h := ite_f q1 h
    have e1_ := Option.some.inj h
    subst e1_
    exact V_vret C hR (dt_at dt_X12_denies_0 22 rfl)
  · have h := ite_t q1 h
    refine V_aload_n C (dt_at dt_X12_denies_0 3 rfl) 0 rfl rfl ?_
    refine g_X12_34_6 C (dt_at dt_X12_denies_0 4 rfl) ?_
    refine V_aload_n C (dt_at dt_X12_denies_0 5 rfl) 0 rfl rfl ?_
    refine g_X12_176_6 C (dt_at dt_X12_denies_0 6 rfl) ?_
    refine V_iconst C 1 (dt_at dt_X12_denies_0 7 rfl) (by decide) ?_
    refine V_isub C (dt_at dt_X12_denies_0 8 rfl) ?_
    obtain ⟨h2, h⟩ := chk_s h
    refine al_92 C h2 (dt_at dt_X12_denies_0 9 rfl) ?_
    refine V_bipush C 33 (dt_at dt_X12_denies_0 10 rfl) (by decide) ?_
    refine V_icmp_ne C 43 (dt_at dt_X12_denies_0 11 rfl) (by decide) (fun q3 => ?_) (fun q3 => ?_)
    · have h := ite_f q3 h
      have e1_ := Option.some.inj h
      subst e1_
      exact V_vret C hR (dt_at dt_X12_denies_0 22 rfl)
    · have h := ite_t q3 h
      refine V_aload_n C (dt_at dt_X12_denies_0 12 rfl) 0 rfl rfl ?_
      refine V_dup C (dt_at dt_X12_denies_0 13 rfl) rfl ?_
      refine g_X12_176_6 C (dt_at dt_X12_denies_0 14 rfl) ?_
      refine V_iconst C 1 (dt_at dt_X12_denies_0 15 rfl) (by decide) ?_
      refine V_isub C (dt_at dt_X12_denies_0 16 rfl) ?_
      obtain ⟨σ4, eσ4, h⟩ := nm_s h
      refine V_st eσ4 ?_ (fun k => p_X12_176_6 C (dt_at dt_X12_denies_0 17 rfl) k)
      refine V_aload_n C (dt_at dt_X12_denies_0 18 rfl) 0 rfl rfl ?_
      refine V_sipush C (-133) (dt_at dt_X12_denies_0 19 rfl) (by decide) ?_
      obtain ⟨σ7, e6, h⟩ := bd_s h
      refine cv_X12_lays C ww_671 (-133) e6 (Nat.le_of_ble_eq_true rfl) (Nat.le_of_ble_eq_true rfl) z0 (dt_at dt_X12_denies_0 20 rfl) ?_
      refine V_goto C 0 (dt_at dt_X12_denies_0 21 rfl) (by decide) ?_
      exact J_0 σ7 h
theorem cv_X12_denies (C : Ck X G cc own nL d) {idx : Nat} (hlk : Cond.methodLink own idx yX12_denies ∈ gtb) {σ0 : St} (e : f_X12_denies σ = some σ0) (hdd : 3 ≤ d) (hroom : (rest.map fun v => v.category).sum ≤ 8) (hcs : cells ≤ (xR X).cells ∧ slots ≤ (xR X).slots) (hd : decode cc pc = .ok (.invokevirtual idx, 3)) (k : V X G nL cells slots σ0 (pc + 3) lv (rest)) : V X G nL cells slots σ pc lv (.ref (ga G 6) :: rest) := V_callV C (As := []) (c_X12_denies X.2.1 G  σ σ0 e) cal_X12_denies ww_673 ww_674 hlk rfl hdd (lt110 rfl) rfl rfl rfl hroom hcs hd k
theorem dt_X12_entriesOf_0 : dtab cX12_entriesOf [(0, .iconst 0, 1), (1, .istore_n 2, 1), (2, .iconst 0, 1), (3, .istore_n 3, 1), (4, .iload_n 3, 1), (5, .aload_n 0, 1), (6, .getfield 7, 3), (9, .iconst 2, 1), (10, .iaload, 1), (11, .if_icmp .ge 27, 3), (14, .iload_n 2, 1), (15, .aload_n 0, 1), (16, .iload_n 3, 1), (17, .iconst 0, 1), (18, .invokevirtual 99, 3), (21, .iload_n 1, 1), (22, .if_icmp .ne 7, 3), (25, .iconst 1, 1), (26, .goto 4, 3), (29, .iconst 0, 1), (30, .iadd, 1), (31, .istore_n 2, 1), (32, .iinc 3 1, 3), (35, .goto (-31), 3), (38, .iload_n 2, 1), (39, .ireturn, 1)] = true := by decide +kernel
theorem cal_X12_entriesOf : Cal yX12_entriesOf cX12_entriesOf 4 (some .int) 1 := ⟨ww_675, ww_429, ⟨by decide, by decide, by decide⟩, by decide⟩
set_option maxHeartbeats 4000000 in
set_option maxRecDepth 100000 in
theorem c_X12_entriesOf (l : Launch) (G : Gx) (x1 : Int32) (σ : St) (r0 : Int32) (h : f_X12_entriesOf x1 σ = some r0) : MI l G yX12_entriesOf cX12_entriesOf 4 (some .int) 2 [.ref (ga G 6), .int x1] σ (some (.int r0)) σ := by
  refine MI_of RX12 rfl (by decide) [(0, .ref (ga G 6)), (1, .int x1)] rfl (Nat.le_of_ble_eq_true rfl) ?_
  intro X hXl C hR
  unfold f_X12_entriesOf at h
  have J_4 : ∀ (x2 : Int32) (x3 : Int32), f_X12_entriesOf_4 x1 x2 x3 σ = some r0 → V X G 4 0 0 σ 4 [(0, .ref (ga G 6)), (1, .int x1), (2, .int x2), (3, .int x3)] [] := by
    intro x2 x3 h
    refine it_v (P := fun z : Int32 × Int32 => V X G 4 0 0 σ 4 [(0, .ref (ga G 6)), (1, .int x1), (2, .int z.1), (3, .int z.2)] []) ?_ (x2, x3) h
    clear h
    intro z w_4 h ih_4 ex_4
    obtain ⟨x2, x3⟩ := z
    have h : b_X12_entriesOf_4 x1 x2 x3 σ = some w_4 := h
    show V X G 4 0 0 σ 4 [(0, .ref (ga G 6)), (1, .int x1), (2, .int x2), (3, .int x3)] []
    unfold b_X12_entriesOf_4 at h
    have J_30 : ∀ (x3 : Int32) (s0 : Int32) (s1 : Int32), f_X12_entriesOf_30 x1 x3 s0 s1 σ = some w_4 → V X G 4 0 0 σ 30 [(0, .ref (ga G 6)), (1, .int x1), (3, .int x3)] [.int s0, .int s1] := by
      intro x3 s0 s1 h
      unfold f_X12_entriesOf_30 at h
      refine V_iadd C (dt_at dt_X12_entriesOf_0 20 rfl) ?_
      refine V_istore_n C [1, 2, 0, 3] (lv' := [(0, .ref (ga G 6)), (1, .int x1), (2, .int (s1 + s0)), (3, .int x3)]) (dt_at dt_X12_entriesOf_0 21 rfl) rfl (by decide) rfl ?_
      refine V_iinc C (x3 + 1) 3 [1, 2, 3, 0] (lv' := [(0, .ref (ga G 6)), (1, .int x1), (2, .int (s1 + s0)), (3, .int (x3 + 1))]) (dt_at dt_X12_entriesOf_0 22 rfl) rfl (by rfl) (by decide) rfl ?_
      refine V_goto C 4 (dt_at dt_X12_entriesOf_0 23 rfl) (by decide) ?_
      exact ih_4 ((s1 + s0), (x3 + 1)) (Option.some.inj h).symm
    refine V_iload_n C (dt_at dt_X12_entriesOf_0 4 rfl) 3 rfl rfl ?_
    refine V_aload_n C (dt_at dt_X12_entriesOf_0 5 rfl) 0 rfl rfl ?_
    refine g_X12_7_6 C (dt_at dt_X12_entriesOf_0 6 rfl) ?_
    refine V_iconst C 2 (dt_at dt_X12_entriesOf_0 7 rfl) (by decide) ?_
    obtain ⟨h1, h⟩ := chk_s h
    refine al_84 C h1 (dt_at dt_X12_entriesOf_0 8 rfl) ?_
    refine V_icmp_ge C 38 (dt_at dt_X12_entriesOf_0 9 rfl) (by decide) (fun q2 => ?_) (fun q2 => ?_)
    · have h := ite_f q2 h
      refine V_iload_n C (dt_at dt_X12_entriesOf_0 24 rfl) 2 rfl rfl ?_
      have e_4 := ex_4 _ (Option.some.inj h).symm
      subst e_4
      exact V_iret C hR (dt_at dt_X12_entriesOf_0 25 rfl)
    · have h := ite_t q2 h
      refine V_iload_n C (dt_at dt_X12_entriesOf_0 10 rfl) 2 rfl rfl ?_
      refine V_aload_n C (dt_at dt_X12_entriesOf_0 11 rfl) 0 rfl rfl ?_
      refine V_iload_n C (dt_at dt_X12_entriesOf_0 12 rfl) 3 rfl rfl ?_
      refine V_iconst C 0 (dt_at dt_X12_entriesOf_0 13 rfl) (by decide) ?_
      obtain ⟨r3, e4, h⟩ := bd_s h
      refine cv_X12_entryOf C ww_455 x3 0 e4 (Nat.le_of_ble_eq_true rfl) (Nat.le_of_ble_eq_true rfl) z0 (dt_at dt_X12_entriesOf_0 14 rfl) ?_
      refine V_iload_n C (dt_at dt_X12_entriesOf_0 15 rfl) 1 rfl rfl ?_
      refine V_icmp_ne C 29 (dt_at dt_X12_entriesOf_0 16 rfl) (by decide) (fun q6 => ?_) (fun q6 => ?_)
      · have h := ite_f q6 h
        refine V_iconst C 0 (dt_at dt_X12_entriesOf_0 19 rfl) (by decide) ?_
        refine V_sub [0, 1, 3] (lv' := [(0, .ref (ga G 6)), (1, .int x1), (3, .int x3)]) rfl ?_
        exact J_30 x3 0 x2 h
      · have h := ite_t q6 h
        refine V_iconst C 1 (dt_at dt_X12_entriesOf_0 17 rfl) (by decide) ?_
        refine V_goto C 30 (dt_at dt_X12_entriesOf_0 18 rfl) (by decide) ?_
        refine V_sub [0, 1, 3] (lv' := [(0, .ref (ga G 6)), (1, .int x1), (3, .int x3)]) rfl ?_
        exact J_30 x3 1 x2 h
  refine V_iconst C 0 (dt_at dt_X12_entriesOf_0 0 rfl) (by decide) ?_
  refine V_istore_n C [1, 2, 0] (lv' := [(0, .ref (ga G 6)), (1, .int x1), (2, .int 0)]) (dt_at dt_X12_entriesOf_0 1 rfl) rfl (by decide) rfl ?_
  refine V_iconst C 0 (dt_at dt_X12_entriesOf_0 2 rfl) (by decide) ?_
  refine V_istore_n C [1, 2, 3, 0] (lv' := [(0, .ref (ga G 6)), (1, .int x1), (2, .int 0), (3, .int 0)]) (dt_at dt_X12_entriesOf_0 3 rfl) rfl (by decide) rfl ?_
  exact J_4 0 0 h
theorem cv_X12_entriesOf (C : Ck X G cc own nL d) {idx : Nat} (hlk : Cond.methodLink own idx yX12_entriesOf ∈ gtb) (x1 : Int32) {r0 : Int32} (e : f_X12_entriesOf x1 σ = some r0) (hdd : 3 ≤ d) (hroom : (rest.map fun v => v.category).sum ≤ 8) (hcs : cells ≤ (xR X).cells ∧ slots ≤ (xR X).slots) (hd : decode cc pc = .ok (.invokevirtual idx, 3)) (k : V X G nL cells slots σ (pc + 3) lv (.int r0 :: rest)) : V X G nL cells slots σ pc lv (.int x1 :: .ref (ga G 6) :: rest) := V_callV C (As := [.int x1]) (c_X12_entriesOf X.2.1 G x1 σ r0 e) cal_X12_entriesOf ww_676 ww_677 hlk rfl hdd (lt110 rfl) rfl rfl rfl hroom hcs hd k
theorem dt_X12_entry_0 : dtab cX12_entry [(0, .aload_n 0, 1), (1, .iload_n 1, 1), (2, .invokevirtual 110, 3), (5, .ifCond .eq 32, 3), (8, .iload_n 2, 1), (9, .ifCond .lt 28, 3), (12, .iload_n 3, 1), (13, .iload_n 2, 1), (14, .if_icmp .lt 23, 3), (17, .iload_n 3, 1), (18, .aload_n 0, 1), (19, .getfield 7, 3), (22, .iconst 0, 1), (23, .iaload, 1), (24, .if_icmp .ge 13, 3), (27, .iload 4, 2), (29, .iconst 0, 1), (30, .iconst 3, 1), (31, .invokestatic 91, 3), (34, .ifCond .ne 9, 3), (37, .aload_n 0, 1), (38, .iconst 1, 1), (39, .invokevirtual 95, 3), (42, .ireturn, 1), (43, .aload_n 0, 1), (44, .iload_n 1, 1), (45, .iload_n 2, 1), (46, .iload_n 3, 1), (47, .iconst (-1), 1), (48, .invokevirtual 127, 3), (51, .ifCond .eq 9, 3), (54, .aload_n 0, 1), (55, .iconst 3, 1), (56, .invokevirtual 95, 3), (59, .ireturn, 1), (60, .aload_n 0, 1), (61, .getfield 7, 3), (64, .iconst 2, 1), (65, .iaload, 1), (66, .bipush 40, 2)] = true := by decide +kernel
theorem dt_X12_entry_1 : dtab cX12_entry [(68, .if_icmp .ne 9, 3), (71, .aload_n 0, 1), (72, .iconst 4, 1), (73, .invokevirtual 95, 3), (76, .ireturn, 1), (77, .bipush 60, 2), (79, .iconst 4, 1), (80, .aload_n 0, 1), (81, .getfield 7, 3), (84, .iconst 2, 1), (85, .iaload, 1), (86, .imul, 1), (87, .iadd, 1), (88, .istore 5, 2), (90, .aload_n 0, 1), (91, .getfield 7, 3), (94, .iload 5, 2), (96, .iload_n 1, 1), (97, .iastore, 1), (98, .aload_n 0, 1), (99, .getfield 7, 3), (102, .iload 5, 2), (104, .iconst 1, 1), (105, .iadd, 1), (106, .iload_n 2, 1), (107, .iastore, 1), (108, .aload_n 0, 1), (109, .getfield 7, 3), (112, .iload 5, 2), (114, .iconst 2, 1), (115, .iadd, 1), (116, .iload_n 3, 1), (117, .iastore, 1), (118, .aload_n 0, 1), (119, .getfield 7, 3), (122, .iload 5, 2), (124, .iconst 3, 1), (125, .iadd, 1), (126, .iload 4, 2), (128, .iastore, 1)] = true := by decide +kernel
theorem dt_X12_entry_2 : dtab cX12_entry [(129, .aload_n 0, 1), (130, .getfield 7, 3), (133, .iconst 2, 1), (134, .dup2, 1), (135, .iaload, 1), (136, .iconst 1, 1), (137, .iadd, 1), (138, .iastore, 1), (139, .aload_n 0, 1), (140, .iconst 0, 1), (141, .putfield 106, 3), (144, .aload_n 0, 1), (145, .getfield 7, 3), (148, .iconst 2, 1), (149, .iaload, 1), (150, .iconst 1, 1), (151, .isub, 1), (152, .ireturn, 1)] = true := by decide +kernel
theorem cal_X12_entry : Cal yX12_entry cX12_entry 6 (some .int) 4 := ⟨ww_678, ww_429, ⟨by decide, by decide, by decide⟩, by decide⟩
set_option maxHeartbeats 4000000 in
set_option maxRecDepth 100000 in
theorem c_X12_entry (l : Launch) (G : Gx) (x1 : Int32) (x2 : Int32) (x3 : Int32) (x4 : Int32) (σ : St) (r0 : Int32) (σ0 : St) (h : f_X12_entry x1 x2 x3 x4 σ = some (r0, σ0)) : MI l G yX12_entry cX12_entry 6 (some .int) 3 [.ref (ga G 6), .int x1, .int x2, .int x3, .int x4] σ (some (.int r0)) σ0 := by
  refine MI_of RX12 rfl (by decide) [(0, .ref (ga G 6)), (1, .int x1), (2, .int x2), (3, .int x3), (4, .int x4)] rfl (Nat.le_of_ble_eq_true rfl) ?_
  intro X hXl C hR
  unfold f_X12_entry at h
  have J_37 : ∀ (σ : St), f_X12_entry_37 σ = some (r0, σ0) → V X G 6 0 0 σ 37 [(0, .ref (ga G 6))] [] := by
    intro σ h
    unfold f_X12_entry_37 at h
    refine V_aload_n C (dt_at dt_X12_entry_0 20 rfl) 0 rfl rfl ?_
    refine V_iconst C 1 (dt_at dt_X12_entry_0 21 rfl) (by decide) ?_
    obtain ⟨r35, σ37, e36, h⟩ := bd2_s h
    refine cv_X12_finds C ww_462 1 e36 (Nat.le_of_ble_eq_true rfl) (Nat.le_of_ble_eq_true rfl) z0 (dt_at dt_X12_entry_0 22 rfl) ?_
    obtain ⟨e1_, e2_⟩ := pin2 h
    subst e1_; subst e2_
    exact V_iret C hR (dt_at dt_X12_entry_0 23 rfl)
  refine V_aload_n C (dt_at dt_X12_entry_0 0 rfl) 0 rfl rfl ?_
  refine V_iload_n C (dt_at dt_X12_entry_0 1 rfl) 1 rfl rfl ?_
  obtain ⟨r1, e2, h⟩ := bd_s h
  refine cv_X12_isPart C ww_459 x1 e2 (Nat.le_of_ble_eq_true rfl) (Nat.le_of_ble_eq_true rfl) z0 (dt_at dt_X12_entry_0 2 rfl) ?_
  refine V_if_eq C 37 (dt_at dt_X12_entry_0 3 rfl) (by decide) (fun q4 => ?_) (fun q4 => ?_)
  · have h := ite_t q4 h
    refine V_sub [0] (lv' := [(0, .ref (ga G 6))]) rfl ?_
    exact J_37 σ h
  · have h := ite_f q4 h
    refine V_iload_n C (dt_at dt_X12_entry_0 4 rfl) 2 rfl rfl ?_
    refine V_if_lt C 37 (dt_at dt_X12_entry_0 5 rfl) (by decide) (fun q5 => ?_) (fun q5 => ?_)
    · have h := ite_t q5 h
      refine V_sub [0] (lv' := [(0, .ref (ga G 6))]) rfl ?_
      exact J_37 σ h
    · have h := ite_f q5 h
      refine V_iload_n C (dt_at dt_X12_entry_0 6 rfl) 3 rfl rfl ?_
      refine V_iload_n C (dt_at dt_X12_entry_0 7 rfl) 2 rfl rfl ?_
      refine V_icmp_lt C 37 (dt_at dt_X12_entry_0 8 rfl) (by decide) (fun q6 => ?_) (fun q6 => ?_)
      · have h := ite_t q6 h
        refine V_sub [0] (lv' := [(0, .ref (ga G 6))]) rfl ?_
        exact J_37 σ h
      · have h := ite_f q6 h
        refine V_iload_n C (dt_at dt_X12_entry_0 9 rfl) 3 rfl rfl ?_
        refine V_aload_n C (dt_at dt_X12_entry_0 10 rfl) 0 rfl rfl ?_
        refine g_X12_7_6 C (dt_at dt_X12_entry_0 11 rfl) ?_
        refine V_iconst C 0 (dt_at dt_X12_entry_0 12 rfl) (by decide) ?_
        obtain ⟨h7, h⟩ := chk_s h
        refine al_84 C h7 (dt_at dt_X12_entry_0 13 rfl) ?_
        refine V_icmp_ge C 37 (dt_at dt_X12_entry_0 14 rfl) (by decide) (fun q8 => ?_) (fun q8 => ?_)
        · have h := ite_f q8 h
          refine V_sub [0] (lv' := [(0, .ref (ga G 6))]) rfl ?_
          exact J_37 σ h
        · have h := ite_t q8 h
          refine V_iload C (dt_at dt_X12_entry_0 15 rfl) 4 rfl ?_
          refine V_iconst C 0 (dt_at dt_X12_entry_0 16 rfl) (by decide) ?_
          refine V_iconst C 3 (dt_at dt_X12_entry_0 17 rfl) (by decide) ?_
          obtain ⟨r9, e10, h⟩ := bd_s h
          refine cv_X12_in C ww_437 x4 0 3 e10 (Nat.le_of_ble_eq_true rfl) (Nat.le_of_ble_eq_true rfl) z0 (dt_at dt_X12_entry_0 18 rfl) ?_
          refine V_if_ne C 43 (dt_at dt_X12_entry_0 19 rfl) (by decide) (fun q12 => ?_) (fun q12 => ?_)
          · have h := ite_f q12 h
            refine V_aload_n C (dt_at dt_X12_entry_0 24 rfl) 0 rfl rfl ?_
            refine V_iload_n C (dt_at dt_X12_entry_0 25 rfl) 1 rfl rfl ?_
            refine V_iload_n C (dt_at dt_X12_entry_0 26 rfl) 2 rfl rfl ?_
            refine V_iload_n C (dt_at dt_X12_entry_0 27 rfl) 3 rfl rfl ?_
            refine V_iconst C (-1) (dt_at dt_X12_entry_0 28 rfl) (by decide) ?_
            obtain ⟨r13, e14, h⟩ := bd_s h
            refine cv_X12_isOn C ww_627 x1 x2 x3 (-1) e14 (Nat.le_of_ble_eq_true rfl) (Nat.le_of_ble_eq_true rfl) z0 (dt_at dt_X12_entry_0 29 rfl) ?_
            refine V_if_eq C 60 (dt_at dt_X12_entry_0 30 rfl) (by decide) (fun q16 => ?_) (fun q16 => ?_)
            · have h := ite_t q16 h
              refine V_aload_n C (dt_at dt_X12_entry_0 35 rfl) 0 rfl rfl ?_
              refine g_X12_7_6 C (dt_at dt_X12_entry_0 36 rfl) ?_
              refine V_iconst C 2 (dt_at dt_X12_entry_0 37 rfl) (by decide) ?_
              obtain ⟨h17, h⟩ := chk_s h
              refine al_84 C h17 (dt_at dt_X12_entry_0 38 rfl) ?_
              refine V_bipush C 40 (dt_at dt_X12_entry_0 39 rfl) (by decide) ?_
              refine V_icmp_ne C 77 (dt_at dt_X12_entry_1 0 rfl) (by decide) (fun q18 => ?_) (fun q18 => ?_)
              · have h := ite_f q18 h
                refine V_bipush C 60 (dt_at dt_X12_entry_1 5 rfl) (by decide) ?_
                refine V_iconst C 4 (dt_at dt_X12_entry_1 6 rfl) (by decide) ?_
                refine V_aload_n C (dt_at dt_X12_entry_1 7 rfl) 0 rfl rfl ?_
                refine g_X12_7_6 C (dt_at dt_X12_entry_1 8 rfl) ?_
                refine V_iconst C 2 (dt_at dt_X12_entry_1 9 rfl) (by decide) ?_
                refine al_84 C h17 (dt_at dt_X12_entry_1 10 rfl) ?_
                refine V_imul C (dt_at dt_X12_entry_1 11 rfl) ?_
                refine V_iadd C (dt_at dt_X12_entry_1 12 rfl) ?_
                refine V_istore C [1, 2, 3, 4, 5, 0] (lv' := [(0, .ref (ga G 6)), (1, .int x1), (2, .int x2), (3, .int x3), (4, .int x4), (5, .int (60 + (4 * (rd σ 84 2))))]) (dt_at dt_X12_entry_1 13 rfl) (by decide) rfl ?_
                refine V_aload_n C (dt_at dt_X12_entry_1 14 rfl) 0 rfl rfl ?_
                refine g_X12_7_6 C (dt_at dt_X12_entry_1 15 rfl) ?_
                refine V_iload C (dt_at dt_X12_entry_1 16 rfl) 5 rfl ?_
                refine V_iload_n C (dt_at dt_X12_entry_1 17 rfl) 1 rfl rfl ?_
                obtain ⟨h20, h⟩ := chk_s h
                obtain ⟨σ19, eσ19, h⟩ := nm_s h
                refine V_st eσ19 ?_ (fun k => as_84 C h20 (dt_at dt_X12_entry_1 18 rfl) k)
                refine V_aload_n C (dt_at dt_X12_entry_1 19 rfl) 0 rfl rfl ?_
                refine g_X12_7_6 C (dt_at dt_X12_entry_1 20 rfl) ?_
                refine V_iload C (dt_at dt_X12_entry_1 21 rfl) 5 rfl ?_
                refine V_iconst C 1 (dt_at dt_X12_entry_1 22 rfl) (by decide) ?_
                refine V_iadd C (dt_at dt_X12_entry_1 23 rfl) ?_
                refine V_iload_n C (dt_at dt_X12_entry_1 24 rfl) 2 rfl rfl ?_
                obtain ⟨h22, h⟩ := chk_s h
                obtain ⟨σ21, eσ21, h⟩ := nm_s h
                refine V_st eσ21 ?_ (fun k => as_84 C h22 (dt_at dt_X12_entry_1 25 rfl) k)
                refine V_aload_n C (dt_at dt_X12_entry_1 26 rfl) 0 rfl rfl ?_
                refine g_X12_7_6 C (dt_at dt_X12_entry_1 27 rfl) ?_
                refine V_iload C (dt_at dt_X12_entry_1 28 rfl) 5 rfl ?_
                refine V_iconst C 2 (dt_at dt_X12_entry_1 29 rfl) (by decide) ?_
                refine V_iadd C (dt_at dt_X12_entry_1 30 rfl) ?_
                refine V_iload_n C (dt_at dt_X12_entry_1 31 rfl) 3 rfl rfl ?_
                obtain ⟨h24, h⟩ := chk_s h
                obtain ⟨σ23, eσ23, h⟩ := nm_s h
                refine V_st eσ23 ?_ (fun k => as_84 C h24 (dt_at dt_X12_entry_1 32 rfl) k)
                refine V_aload_n C (dt_at dt_X12_entry_1 33 rfl) 0 rfl rfl ?_
                refine g_X12_7_6 C (dt_at dt_X12_entry_1 34 rfl) ?_
                refine V_iload C (dt_at dt_X12_entry_1 35 rfl) 5 rfl ?_
                refine V_iconst C 3 (dt_at dt_X12_entry_1 36 rfl) (by decide) ?_
                refine V_iadd C (dt_at dt_X12_entry_1 37 rfl) ?_
                refine V_iload C (dt_at dt_X12_entry_1 38 rfl) 4 rfl ?_
                obtain ⟨h26, h⟩ := chk_s h
                obtain ⟨σ25, eσ25, h⟩ := nm_s h
                refine V_st eσ25 ?_ (fun k => as_84 C h26 (dt_at dt_X12_entry_1 39 rfl) k)
                refine V_aload_n C (dt_at dt_X12_entry_2 0 rfl) 0 rfl rfl ?_
                refine g_X12_7_6 C (dt_at dt_X12_entry_2 1 rfl) ?_
                refine V_iconst C 2 (dt_at dt_X12_entry_2 2 rfl) (by decide) ?_
                refine V_dup2 C (dt_at dt_X12_entry_2 3 rfl) rfl rfl ?_
                refine al_84 C h17 (dt_at dt_X12_entry_2 4 rfl) ?_
                refine V_iconst C 1 (dt_at dt_X12_entry_2 5 rfl) (by decide) ?_
                refine V_iadd C (dt_at dt_X12_entry_2 6 rfl) ?_
                obtain ⟨σ27, eσ27, h⟩ := nm_s h
                refine V_st eσ27 ?_ (fun k => as_84 C h17 (dt_at dt_X12_entry_2 7 rfl) k)
                refine V_aload_n C (dt_at dt_X12_entry_2 8 rfl) 0 rfl rfl ?_
                refine V_iconst C 0 (dt_at dt_X12_entry_2 9 rfl) (by decide) ?_
                obtain ⟨σ28, eσ28, h⟩ := nm_s h
                refine V_st eσ28 ?_ (fun k => p_X12_106_6 C rfl rfl (dt_at dt_X12_entry_2 10 rfl) k)
                refine V_aload_n C (dt_at dt_X12_entry_2 11 rfl) 0 rfl rfl ?_
                refine g_X12_7_6 C (dt_at dt_X12_entry_2 12 rfl) ?_
                refine V_iconst C 2 (dt_at dt_X12_entry_2 13 rfl) (by decide) ?_
                refine al_84 C h17 (dt_at dt_X12_entry_2 14 rfl) ?_
                refine V_iconst C 1 (dt_at dt_X12_entry_2 15 rfl) (by decide) ?_
                refine V_isub C (dt_at dt_X12_entry_2 16 rfl) ?_
                obtain ⟨e1_, e2_⟩ := pin2 h
                subst e1_; subst e2_
                exact V_iret C hR (dt_at dt_X12_entry_2 17 rfl)
              · have h := ite_t q18 h
                refine V_aload_n C (dt_at dt_X12_entry_1 1 rfl) 0 rfl rfl ?_
                refine V_iconst C 4 (dt_at dt_X12_entry_1 2 rfl) (by decide) ?_
                obtain ⟨r29, σ31, e30, h⟩ := bd2_s h
                refine cv_X12_finds C ww_462 4 e30 (Nat.le_of_ble_eq_true rfl) (Nat.le_of_ble_eq_true rfl) z0 (dt_at dt_X12_entry_1 3 rfl) ?_
                obtain ⟨e1_, e2_⟩ := pin2 h
                subst e1_; subst e2_
                exact V_iret C hR (dt_at dt_X12_entry_1 4 rfl)
            · have h := ite_f q16 h
              refine V_aload_n C (dt_at dt_X12_entry_0 31 rfl) 0 rfl rfl ?_
              refine V_iconst C 3 (dt_at dt_X12_entry_0 32 rfl) (by decide) ?_
              obtain ⟨r32, σ34, e33, h⟩ := bd2_s h
              refine cv_X12_finds C ww_462 3 e33 (Nat.le_of_ble_eq_true rfl) (Nat.le_of_ble_eq_true rfl) z0 (dt_at dt_X12_entry_0 33 rfl) ?_
              obtain ⟨e1_, e2_⟩ := pin2 h
              subst e1_; subst e2_
              exact V_iret C hR (dt_at dt_X12_entry_0 34 rfl)
          · have h := ite_t q12 h
            refine V_sub [0] (lv' := [(0, .ref (ga G 6))]) rfl ?_
            exact J_37 σ h
theorem cv_X12_entry (C : Ck X G cc own nL d) {idx : Nat} (hlk : Cond.methodLink own idx yX12_entry ∈ gtb) (x1 : Int32) (x2 : Int32) (x3 : Int32) (x4 : Int32) {r0 : Int32} {σ0 : St} (e : f_X12_entry x1 x2 x3 x4 σ = some (r0, σ0)) (hdd : 4 ≤ d) (hroom : (rest.map fun v => v.category).sum ≤ 8) (hcs : cells ≤ (xR X).cells ∧ slots ≤ (xR X).slots) (hd : decode cc pc = .ok (.invokevirtual idx, 3)) (k : V X G nL cells slots σ0 (pc + 3) lv (.int r0 :: rest)) : V X G nL cells slots σ pc lv (.int x4 :: .int x3 :: .int x2 :: .int x1 :: .ref (ga G 6) :: rest) := V_callV C (As := [.int x1, .int x2, .int x3, .int x4]) (c_X12_entry X.2.1 G x1 x2 x3 x4 σ r0 σ0 e) cal_X12_entry ww_679 ww_680 hlk rfl hdd (lt110 rfl) rfl rfl rfl hroom hcs hd k
theorem dt_X12_isEntry_0 : dtab cX12_isEntry [(0, .iload_n 1, 1), (1, .iconst 0, 1), (2, .aload_n 0, 1), (3, .getfield 7, 3), (6, .iconst 2, 1), (7, .iaload, 1), (8, .iconst 1, 1), (9, .isub, 1), (10, .invokestatic 91, 3), (13, .ireturn, 1)] = true := by decide +kernel
theorem cal_X12_isEntry : Cal yX12_isEntry cX12_isEntry 2 (some .boolean) 1 := ⟨ww_681, ww_429, ⟨by decide, by decide, by decide⟩, by decide⟩
set_option maxHeartbeats 4000000 in
set_option maxRecDepth 100000 in
theorem c_X12_isEntry (l : Launch) (G : Gx) (x1 : Int32) (σ : St) (r0 : Int32) (h : f_X12_isEntry x1 σ = some r0) : MI l G yX12_isEntry cX12_isEntry 2 (some .boolean) 2 [.ref (ga G 6), .int x1] σ (some (.int r0)) σ := by
  refine MI_of RX12 rfl (by decide) [(0, .ref (ga G 6)), (1, .int x1)] rfl (Nat.le_of_ble_eq_true rfl) ?_
  intro X hXl C hR
  unfold f_X12_isEntry at h
  refine V_iload_n C (dt_at dt_X12_isEntry_0 0 rfl) 1 rfl rfl ?_
  refine V_iconst C 0 (dt_at dt_X12_isEntry_0 1 rfl) (by decide) ?_
  refine V_aload_n C (dt_at dt_X12_isEntry_0 2 rfl) 0 rfl rfl ?_
  refine g_X12_7_6 C (dt_at dt_X12_isEntry_0 3 rfl) ?_
  refine V_iconst C 2 (dt_at dt_X12_isEntry_0 4 rfl) (by decide) ?_
  obtain ⟨h1, h⟩ := chk_s h
  refine al_84 C h1 (dt_at dt_X12_isEntry_0 5 rfl) ?_
  refine V_iconst C 1 (dt_at dt_X12_isEntry_0 6 rfl) (by decide) ?_
  refine V_isub C (dt_at dt_X12_isEntry_0 7 rfl) ?_
  obtain ⟨r2, e3, h⟩ := bd_s h
  refine cv_X12_in C ww_437 x1 0 ((rd σ 84 2) - 1) e3 (Nat.le_of_ble_eq_true rfl) (Nat.le_of_ble_eq_true rfl) z0 (dt_at dt_X12_isEntry_0 8 rfl) ?_
  obtain ⟨h5, h⟩ := chk_s h
  have e1_ := Option.some.inj h
  subst e1_
  exact V_zret C (isB_n h5) hR (dt_at dt_X12_isEntry_0 9 rfl)
theorem cv_X12_isEntry (C : Ck X G cc own nL d) {idx : Nat} (hlk : Cond.methodLink own idx yX12_isEntry ∈ gtb) (x1 : Int32) {r0 : Int32} (e : f_X12_isEntry x1 σ = some r0) (hdd : 3 ≤ d) (hroom : (rest.map fun v => v.category).sum ≤ 8) (hcs : cells ≤ (xR X).cells ∧ slots ≤ (xR X).slots) (hd : decode cc pc = .ok (.invokevirtual idx, 3)) (k : V X G nL cells slots σ (pc + 3) lv (.int r0 :: rest)) : V X G nL cells slots σ pc lv (.int x1 :: .ref (ga G 6) :: rest) := V_callV C (As := [.int x1]) (c_X12_isEntry X.2.1 G x1 σ r0 e) cal_X12_isEntry ww_682 ww_683 hlk rfl hdd (lt110 rfl) rfl rfl rfl hroom hcs hd k
theorem dt_X12_entryIs_0 : dtab cX12_entryIs [(0, .aload_n 0, 1), (1, .iload_n 1, 1), (2, .invokevirtual 131, 3), (5, .ifCond .eq 21, 3), (8, .iload_n 2, 1), (9, .iconst 0, 1), (10, .iconst 3, 1), (11, .invokestatic 91, 3), (14, .ifCond .eq 12, 3), (17, .aload_n 0, 1), (18, .iload_n 1, 1), (19, .iload_n 2, 1), (20, .invokevirtual 99, 3), (23, .goto 8, 3), (26, .aload_n 0, 1), (27, .iconst 1, 1), (28, .invokevirtual 95, 3), (31, .ireturn, 1)] = true := by decide +kernel
theorem cal_X12_entryIs : Cal yX12_entryIs cX12_entryIs 3 (some .int) 2 := ⟨ww_685, ww_429, ⟨by decide, by decide, by decide⟩, by decide⟩
set_option maxHeartbeats 4000000 in
set_option maxRecDepth 100000 in
theorem c_X12_entryIs (l : Launch) (G : Gx) (x1 : Int32) (x2 : Int32) (σ : St) (r0 : Int32) (σ0 : St) (h : f_X12_entryIs x1 x2 σ = some (r0, σ0)) : MI l G yX12_entryIs cX12_entryIs 3 (some .int) 3 [.ref (ga G 6), .int x1, .int x2] σ (some (.int r0)) σ0 := by
  refine MI_of RX12 rfl (by decide) [(0, .ref (ga G 6)), (1, .int x1), (2, .int x2)] rfl (Nat.le_of_ble_eq_true rfl) ?_
  intro X hXl C hR
  unfold f_X12_entryIs at h
  have J_26 : ∀ (σ : St), f_X12_entryIs_26 σ = some (r0, σ0) → V X G 3 0 0 σ 26 [(0, .ref (ga G 6))] [] := by
    intro σ h
    unfold f_X12_entryIs_26 at h
    refine V_aload_n C (dt_at dt_X12_entryIs_0 14 rfl) 0 rfl rfl ?_
    refine V_iconst C 1 (dt_at dt_X12_entryIs_0 15 rfl) (by decide) ?_
    obtain ⟨r12, σ14, e13, h⟩ := bd2_s h
    refine cv_X12_finds C ww_462 1 e13 (Nat.le_of_ble_eq_true rfl) (Nat.le_of_ble_eq_true rfl) z0 (dt_at dt_X12_entryIs_0 16 rfl) ?_
    obtain ⟨e1_, e2_⟩ := pin2 h
    subst e1_; subst e2_
    exact V_iret C hR (dt_at dt_X12_entryIs_0 17 rfl)
  refine V_aload_n C (dt_at dt_X12_entryIs_0 0 rfl) 0 rfl rfl ?_
  refine V_iload_n C (dt_at dt_X12_entryIs_0 1 rfl) 1 rfl rfl ?_
  obtain ⟨r1, e2, h⟩ := bd_s h
  refine cv_X12_isEntry C ww_684 x1 e2 (Nat.le_of_ble_eq_true rfl) (Nat.le_of_ble_eq_true rfl) z0 (dt_at dt_X12_entryIs_0 2 rfl) ?_
  refine V_if_eq C 26 (dt_at dt_X12_entryIs_0 3 rfl) (by decide) (fun q4 => ?_) (fun q4 => ?_)
  · have h := ite_t q4 h
    refine V_sub [0] (lv' := [(0, .ref (ga G 6))]) rfl ?_
    exact J_26 σ h
  · have h := ite_f q4 h
    refine V_iload_n C (dt_at dt_X12_entryIs_0 4 rfl) 2 rfl rfl ?_
    refine V_iconst C 0 (dt_at dt_X12_entryIs_0 5 rfl) (by decide) ?_
    refine V_iconst C 3 (dt_at dt_X12_entryIs_0 6 rfl) (by decide) ?_
    obtain ⟨r5, e6, h⟩ := bd_s h
    refine cv_X12_in C ww_437 x2 0 3 e6 (Nat.le_of_ble_eq_true rfl) (Nat.le_of_ble_eq_true rfl) z0 (dt_at dt_X12_entryIs_0 7 rfl) ?_
    refine V_if_eq C 26 (dt_at dt_X12_entryIs_0 8 rfl) (by decide) (fun q8 => ?_) (fun q8 => ?_)
    · have h := ite_t q8 h
      refine V_sub [0] (lv' := [(0, .ref (ga G 6))]) rfl ?_
      exact J_26 σ h
    · have h := ite_f q8 h
      refine V_aload_n C (dt_at dt_X12_entryIs_0 9 rfl) 0 rfl rfl ?_
      refine V_iload_n C (dt_at dt_X12_entryIs_0 10 rfl) 1 rfl rfl ?_
      refine V_iload_n C (dt_at dt_X12_entryIs_0 11 rfl) 2 rfl rfl ?_
      obtain ⟨r9, e10, h⟩ := bd_s h
      refine cv_X12_entryOf C ww_455 x1 x2 e10 (Nat.le_of_ble_eq_true rfl) (Nat.le_of_ble_eq_true rfl) z0 (dt_at dt_X12_entryIs_0 12 rfl) ?_
      refine V_goto C 31 (dt_at dt_X12_entryIs_0 13 rfl) (by decide) ?_
      obtain ⟨e1_, e2_⟩ := pin2 h
      subst e1_; subst e2_
      exact V_iret C hR (dt_at dt_X12_entryIs_0 17 rfl)
theorem cv_X12_entryIs (C : Ck X G cc own nL d) {idx : Nat} (hlk : Cond.methodLink own idx yX12_entryIs ∈ gtb) (x1 : Int32) (x2 : Int32) {r0 : Int32} {σ0 : St} (e : f_X12_entryIs x1 x2 σ = some (r0, σ0)) (hdd : 4 ≤ d) (hroom : (rest.map fun v => v.category).sum ≤ 8) (hcs : cells ≤ (xR X).cells ∧ slots ≤ (xR X).slots) (hd : decode cc pc = .ok (.invokevirtual idx, 3)) (k : V X G nL cells slots σ0 (pc + 3) lv (.int r0 :: rest)) : V X G nL cells slots σ pc lv (.int x2 :: .int x1 :: .ref (ga G 6) :: rest) := V_callV C (As := [.int x1, .int x2]) (c_X12_entryIs X.2.1 G x1 x2 σ r0 σ0 e) cal_X12_entryIs ww_686 ww_687 hlk rfl hdd (lt110 rfl) rfl rfl rfl hroom hcs hd k
theorem dt_X12_feed_0 : dtab cX12_feed [(0, .iload_n 3, 1), (1, .iconst 1, 1), (2, .bipush 8, 2), (4, .invokestatic 91, 3), (7, .ifCond .ne 9, 3), (10, .aload_n 0, 1), (11, .iconst 1, 1), (12, .invokevirtual 95, 3), (15, .ireturn, 1), (16, .aload_n 0, 1), (17, .getfield 7, 3), (20, .iconst 4, 1), (21, .iaload, 1), (22, .iload_n 3, 1), (23, .iadd, 1), (24, .bipush 50, 2), (26, .if_icmp .le 9, 3), (29, .aload_n 0, 1), (30, .iconst 4, 1), (31, .invokevirtual 95, 3), (34, .ireturn, 1), (35, .iconst 0, 1), (36, .istore 4, 2), (38, .iload 4, 2), (40, .iload_n 3, 1), (41, .if_icmp .ge 46, 3), (44, .aload_n 0, 1), (45, .getfield 7, 3), (48, .sipush 240, 3), (51, .aload_n 0, 1), (52, .getfield 7, 3), (55, .iconst 4, 1), (56, .iaload, 1), (57, .iadd, 1), (58, .lload_n 1, 1), (59, .bipush 8, 2), (61, .iload 4, 2), (63, .imul, 1), (64, .lushr, 1), (65, .ldc2_w 166, 3)] = true := by decide +kernel
theorem dt_X12_feed_1 : dtab cX12_feed [(68, .land, 1), (69, .l2i, 1), (70, .iastore, 1), (71, .aload_n 0, 1), (72, .getfield 7, 3), (75, .iconst 4, 1), (76, .dup2, 1), (77, .iaload, 1), (78, .iconst 1, 1), (79, .iadd, 1), (80, .iastore, 1), (81, .iinc 4 1, 3), (84, .goto (-46), 3), (87, .aload_n 0, 1), (88, .getfield 7, 3), (91, .iconst 4, 1), (92, .iaload, 1), (93, .ireturn, 1)] = true := by decide +kernel
theorem cal_X12_feed : Cal yX12_feed cX12_feed 5 (some .int) 2 := ⟨ww_689, ww_429, ⟨by decide, by decide, by decide⟩, by decide⟩
set_option maxHeartbeats 4000000 in
set_option maxRecDepth 100000 in
theorem c_X12_feed (l : Launch) (G : Gx) (x1 : Int64) (x3 : Int32) (σ : St) (r0 : Int32) (σ0 : St) (h : f_X12_feed x1 x3 σ = some (r0, σ0)) : MI l G yX12_feed cX12_feed 5 (some .int) 2 [.ref (ga G 6), .long x1, .int x3] σ (some (.int r0)) σ0 := by
  refine MI_of RX12 rfl (by decide) [(0, .ref (ga G 6)), (1, .long x1), (3, .int x3)] rfl (Nat.le_of_ble_eq_true rfl) ?_
  intro X hXl C hR
  unfold f_X12_feed at h
  have J_87 : ∀ (σ : St), f_X12_feed_87 σ = some (r0, σ0) → V X G 5 0 0 σ 87 [(0, .ref (ga G 6))] [] := by
    intro σ h
    unfold f_X12_feed_87 at h
    refine V_aload_n C (dt_at dt_X12_feed_1 13 rfl) 0 rfl rfl ?_
    refine g_X12_7_6 C (dt_at dt_X12_feed_1 14 rfl) ?_
    refine V_iconst C 4 (dt_at dt_X12_feed_1 15 rfl) (by decide) ?_
    obtain ⟨h19, h⟩ := chk_s h
    refine al_84 C h19 (dt_at dt_X12_feed_1 16 rfl) ?_
    obtain ⟨e1_, e2_⟩ := pin2 h
    subst e1_; subst e2_
    exact V_iret C hR (dt_at dt_X12_feed_1 17 rfl)
  have J_38 : ∀ (x4 : Int32) (σ : St), f_X12_feed_38 x1 x3 x4 σ = some (r0, σ0) → V X G 5 0 0 σ 38 [(0, .ref (ga G 6)), (1, .long x1), (3, .int x3), (4, .int x4)] [] := by
    intro x4 σ h
    refine it_v (P := fun z : Int32 × St => V X G 5 0 0 z.2 38 [(0, .ref (ga G 6)), (1, .long x1), (3, .int x3), (4, .int z.1)] []) ?_ (x4, σ) h
    clear h
    intro z w_38 h ih_38 ex_38
    obtain ⟨x4, σ⟩ := z
    have h : b_X12_feed_38 x1 x3 x4 σ = some w_38 := h
    show V X G 5 0 0 σ 38 [(0, .ref (ga G 6)), (1, .long x1), (3, .int x3), (4, .int x4)] []
    unfold b_X12_feed_38 at h
    refine V_iload C (dt_at dt_X12_feed_0 23 rfl) 3 rfl ?_
    refine V_iload_n C (dt_at dt_X12_feed_0 24 rfl) 2 rfl rfl ?_
    refine V_icmp_ge C 87 (dt_at dt_X12_feed_0 25 rfl) (by decide) (fun q13 => ?_) (fun q13 => ?_)
    · have h := ite_f q13 h
      refine V_sub [0] (lv' := [(0, .ref (ga G 6))]) rfl ?_
      obtain ⟨t14, h, e_38⟩ := map_s h
      have e_38 := ex_38 _ e_38
      rw [e_38] at h
      exact J_87 σ h
    · have h := ite_t q13 h
      refine V_aload_n C (dt_at dt_X12_feed_0 26 rfl) 0 rfl rfl ?_
      refine g_X12_7_6 C (dt_at dt_X12_feed_0 27 rfl) ?_
      refine V_sipush C 240 (dt_at dt_X12_feed_0 28 rfl) (by decide) ?_
      refine V_aload_n C (dt_at dt_X12_feed_0 29 rfl) 0 rfl rfl ?_
      refine g_X12_7_6 C (dt_at dt_X12_feed_0 30 rfl) ?_
      refine V_iconst C 4 (dt_at dt_X12_feed_0 31 rfl) (by decide) ?_
      obtain ⟨h15, h⟩ := chk_s h
      refine al_84 C h15 (dt_at dt_X12_feed_0 32 rfl) ?_
      refine V_iadd C (dt_at dt_X12_feed_0 33 rfl) ?_
      refine V_lload_n C (dt_at dt_X12_feed_0 34 rfl) 1 rfl rfl ?_
      refine V_bipush C 8 (dt_at dt_X12_feed_0 35 rfl) (by decide) ?_
      refine V_iload C (dt_at dt_X12_feed_0 36 rfl) 3 rfl ?_
      refine V_imul C (dt_at dt_X12_feed_0 37 rfl) ?_
      refine V_lushr C (dt_at dt_X12_feed_0 38 rfl) ?_
      refine V_ldc2 C 255 (dt_at dt_X12_feed_0 39 rfl) ww_688 ?_
      refine V_land C (dt_at dt_X12_feed_1 0 rfl) ?_
      refine V_l2i C (dt_at dt_X12_feed_1 1 rfl) ?_
      obtain ⟨h17, h⟩ := chk_s h
      obtain ⟨σ16, eσ16, h⟩ := nm_s h
      refine V_st eσ16 ?_ (fun k => as_84 C h17 (dt_at dt_X12_feed_1 2 rfl) k)
      refine V_aload_n C (dt_at dt_X12_feed_1 3 rfl) 0 rfl rfl ?_
      refine g_X12_7_6 C (dt_at dt_X12_feed_1 4 rfl) ?_
      refine V_iconst C 4 (dt_at dt_X12_feed_1 5 rfl) (by decide) ?_
      refine V_dup2 C (dt_at dt_X12_feed_1 6 rfl) rfl rfl ?_
      refine al_84 C h15 (dt_at dt_X12_feed_1 7 rfl) ?_
      refine V_iconst C 1 (dt_at dt_X12_feed_1 8 rfl) (by decide) ?_
      refine V_iadd C (dt_at dt_X12_feed_1 9 rfl) ?_
      obtain ⟨σ18, eσ18, h⟩ := nm_s h
      refine V_st eσ18 ?_ (fun k => as_84 C h15 (dt_at dt_X12_feed_1 10 rfl) k)
      refine V_iinc C (x4 + 1) 3 [1, 2, 3, 0] (lv' := [(0, .ref (ga G 6)), (1, .long x1), (3, .int x3), (4, .int (x4 + 1))]) (dt_at dt_X12_feed_1 11 rfl) rfl (by rfl) (by decide) rfl ?_
      refine V_goto C 38 (dt_at dt_X12_feed_1 12 rfl) (by decide) ?_
      exact ih_38 ((x4 + 1), σ18) (Option.some.inj h).symm
  refine V_iload_n C (dt_at dt_X12_feed_0 0 rfl) 2 rfl rfl ?_
  refine V_iconst C 1 (dt_at dt_X12_feed_0 1 rfl) (by decide) ?_
  refine V_bipush C 8 (dt_at dt_X12_feed_0 2 rfl) (by decide) ?_
  obtain ⟨r1, e2, h⟩ := bd_s h
  refine cv_X12_in C ww_437 x3 1 8 e2 (Nat.le_of_ble_eq_true rfl) (Nat.le_of_ble_eq_true rfl) z0 (dt_at dt_X12_feed_0 3 rfl) ?_
  refine V_if_ne C 16 (dt_at dt_X12_feed_0 4 rfl) (by decide) (fun q4 => ?_) (fun q4 => ?_)
  · have h := ite_f q4 h
    refine V_aload_n C (dt_at dt_X12_feed_0 9 rfl) 0 rfl rfl ?_
    refine g_X12_7_6 C (dt_at dt_X12_feed_0 10 rfl) ?_
    refine V_iconst C 4 (dt_at dt_X12_feed_0 11 rfl) (by decide) ?_
    obtain ⟨h5, h⟩ := chk_s h
    refine al_84 C h5 (dt_at dt_X12_feed_0 12 rfl) ?_
    refine V_iload_n C (dt_at dt_X12_feed_0 13 rfl) 2 rfl rfl ?_
    refine V_iadd C (dt_at dt_X12_feed_0 14 rfl) ?_
    refine V_bipush C 50 (dt_at dt_X12_feed_0 15 rfl) (by decide) ?_
    refine V_icmp_le C 35 (dt_at dt_X12_feed_0 16 rfl) (by decide) (fun q6 => ?_) (fun q6 => ?_)
    · have h := ite_f q6 h
      refine V_iconst C 0 (dt_at dt_X12_feed_0 21 rfl) (by decide) ?_
      refine V_istore C [1, 2, 3, 0] (lv' := [(0, .ref (ga G 6)), (1, .long x1), (3, .int x3), (4, .int 0)]) (dt_at dt_X12_feed_0 22 rfl) (by decide) rfl ?_
      exact J_38 0 σ h
    · have h := ite_t q6 h
      refine V_aload_n C (dt_at dt_X12_feed_0 17 rfl) 0 rfl rfl ?_
      refine V_iconst C 4 (dt_at dt_X12_feed_0 18 rfl) (by decide) ?_
      obtain ⟨r7, σ9, e8, h⟩ := bd2_s h
      refine cv_X12_finds C ww_462 4 e8 (Nat.le_of_ble_eq_true rfl) (Nat.le_of_ble_eq_true rfl) z0 (dt_at dt_X12_feed_0 19 rfl) ?_
      obtain ⟨e1_, e2_⟩ := pin2 h
      subst e1_; subst e2_
      exact V_iret C hR (dt_at dt_X12_feed_0 20 rfl)
  · have h := ite_t q4 h
    refine V_aload_n C (dt_at dt_X12_feed_0 5 rfl) 0 rfl rfl ?_
    refine V_iconst C 1 (dt_at dt_X12_feed_0 6 rfl) (by decide) ?_
    obtain ⟨r10, σ12, e11, h⟩ := bd2_s h
    refine cv_X12_finds C ww_462 1 e11 (Nat.le_of_ble_eq_true rfl) (Nat.le_of_ble_eq_true rfl) z0 (dt_at dt_X12_feed_0 7 rfl) ?_
    obtain ⟨e1_, e2_⟩ := pin2 h
    subst e1_; subst e2_
    exact V_iret C hR (dt_at dt_X12_feed_0 8 rfl)
theorem cv_X12_feed (C : Ck X G cc own nL d) {idx : Nat} (hlk : Cond.methodLink own idx yX12_feed ∈ gtb) (x1 : Int64) (x3 : Int32) {r0 : Int32} {σ0 : St} (e : f_X12_feed x1 x3 σ = some (r0, σ0)) (hdd : 3 ≤ d) (hroom : (rest.map fun v => v.category).sum ≤ 8) (hcs : cells ≤ (xR X).cells ∧ slots ≤ (xR X).slots) (hd : decode cc pc = .ok (.invokevirtual idx, 3)) (k : V X G nL cells slots σ0 (pc + 3) lv (.int r0 :: rest)) : V X G nL cells slots σ pc lv (.int x3 :: .long x1 :: .ref (ga G 6) :: rest) := V_callV C (As := [.long x1, .int x3]) (c_X12_feed X.2.1 G x1 x3 σ r0 σ0 e) cal_X12_feed ww_690 ww_691 hlk rfl hdd (lt110 rfl) rfl rfl rfl hroom hcs hd k
theorem dt_X12_isIn_0 : dtab cX12_isIn [(0, .iconst 0, 1), (1, .istore_n 3, 1), (2, .iconst 0, 1), (3, .istore 4, 2), (5, .iload 4, 2), (7, .bipush 10, 2), (9, .if_icmp .ge 17, 3), (12, .aload_n 0, 1), (13, .getfield 49, 3), (16, .iload 4, 2), (18, .iconst 0, 1), (19, .iastore, 1), (20, .iinc 4 1, 3), (23, .goto (-18), 3), (26, .aload_n 0, 1), (27, .getfield 43, 3), (30, .iconst 0, 1), (31, .iconst (-1), 1), (32, .iastore, 1), (33, .aload_n 0, 1), (34, .getfield 46, 3), (37, .iconst 0, 1), (38, .iconst 0, 1), (39, .iastore, 1), (40, .iload_n 3, 1), (41, .ifCond .lt 264, 3), (44, .iload_n 3, 1), (45, .aload_n 0, 1), (46, .getfield 7, 3), (49, .iconst 1, 1), (50, .iaload, 1), (51, .if_icmp .ge 254, 3), (54, .aload_n 0, 1), (55, .getfield 43, 3), (58, .iload_n 3, 1), (59, .iaload, 1), (60, .ifCond .lt 22, 3), (63, .aload_n 0, 1), (64, .getfield 49, 3), (67, .aload_n 0, 1)] = true := by decide +kernel
theorem dt_X12_isIn_1 : dtab cX12_isIn [(68, .getfield 43, 3), (71, .iload_n 3, 1), (72, .iaload, 1), (73, .dup2, 1), (74, .iaload, 1), (75, .iconst 1, 1), (76, .iload_n 3, 1), (77, .ishl, 1), (78, .iconst (-1), 1), (79, .ixor, 1), (80, .iand, 1), (81, .iastore, 1), (82, .aload_n 0, 1), (83, .getfield 43, 3), (86, .iload_n 3, 1), (87, .iaload, 1), (88, .iconst 1, 1), (89, .iadd, 1), (90, .istore 4, 2), (92, .iload_n 1, 1), (93, .iload_n 3, 1), (94, .ishr, 1), (95, .iconst 1, 1), (96, .iand, 1), (97, .iconst 1, 1), (98, .if_icmp .ne 7, 3), (101, .iconst 1, 1), (102, .goto 4, 3), (105, .iconst 0, 1), (106, .istore 5, 2), (108, .aload_n 0, 1), (109, .getfield 46, 3), (112, .iload_n 3, 1), (113, .iaload, 1), (114, .iload_n 2, 1), (115, .if_icmp .ge 12, 3), (118, .aload_n 0, 1), (119, .getfield 46, 3), (122, .iload_n 3, 1), (123, .iaload, 1)] = true := by decide +kernel
theorem dt_X12_isIn_2 : dtab cX12_isIn [(124, .goto 6, 3), (127, .iload_n 2, 1), (128, .iconst 1, 1), (129, .isub, 1), (130, .istore 6, 2), (132, .iload 5, 2), (134, .ifCond .eq 33, 3), (137, .iload 4, 2), (139, .iload 6, 2), (141, .if_icmp .gt 26, 3), (144, .aload_n 0, 1), (145, .getfield 49, 3), (148, .iload 4, 2), (150, .iaload, 1), (151, .aload_n 0, 1), (152, .getfield 19, 3), (155, .iload_n 3, 1), (156, .iaload, 1), (157, .iand, 1), (158, .ifCond .eq 9, 3), (161, .iinc 4 1, 3), (164, .goto (-32), 3), (167, .iload 5, 2), (169, .ifCond .eq 18, 3), (172, .iload 4, 2), (174, .iload 6, 2), (176, .if_icmp .gt 7, 3), (179, .iconst 1, 1), (180, .goto 22, 3), (183, .iconst 0, 1), (184, .goto 18, 3), (187, .aload_n 0, 1), (188, .getfield 43, 3), (191, .iload_n 3, 1), (192, .iaload, 1), (193, .iconst (-1), 1), (194, .if_icmp .ne 7, 3), (197, .iconst 1, 1), (198, .goto 4, 3), (201, .iconst 0, 1)] = true := by decide +kernel
theorem dt_X12_isIn_3 : dtab cX12_isIn [(202, .istore 7, 2), (204, .iload 7, 2), (206, .ifCond .ne 9, 3), (209, .iinc 3 (-1), 3), (212, .goto (-172), 3), (215, .aload_n 0, 1), (216, .getfield 43, 3), (219, .iload_n 3, 1), (220, .iload 5, 2), (222, .ifCond .eq 8, 3), (225, .iload 4, 2), (227, .goto 5, 3), (230, .bipush (-2), 2), (232, .iastore, 1), (233, .iload 5, 2), (235, .ifCond .eq 16, 3), (238, .aload_n 0, 1), (239, .getfield 49, 3), (242, .iload 4, 2), (244, .dup2, 1), (245, .iaload, 1), (246, .iconst 1, 1), (247, .iload_n 3, 1), (248, .ishl, 1), (249, .ior, 1), (250, .iastore, 1), (251, .aload_n 0, 1), (252, .getfield 46, 3), (255, .iload_n 3, 1), (256, .iconst 1, 1), (257, .iadd, 1), (258, .iload 5, 2), (260, .ifCond .eq 25, 3), (263, .iload 4, 2), (265, .aload_n 0, 1), (266, .getfield 46, 3), (269, .iload_n 3, 1), (270, .iaload, 1), (271, .if_icmp .ne 14, 3), (274, .aload_n 0, 1)] = true := by decide +kernel
theorem dt_X12_isIn_4 : dtab cX12_isIn [(275, .getfield 46, 3), (278, .iload_n 3, 1), (279, .iaload, 1), (280, .iconst 1, 1), (281, .iadd, 1), (282, .goto 9, 3), (285, .aload_n 0, 1), (286, .getfield 46, 3), (289, .iload_n 3, 1), (290, .iaload, 1), (291, .iastore, 1), (292, .iinc 3 1, 3), (295, .aload_n 0, 1), (296, .getfield 43, 3), (299, .iload_n 3, 1), (300, .iconst (-1), 1), (301, .iastore, 1), (302, .goto (-262), 3), (305, .iload_n 3, 1), (306, .ifCond .lt 7, 3), (309, .iconst 1, 1), (310, .goto 4, 3), (313, .iconst 0, 1), (314, .ireturn, 1)] = true := by decide +kernel
theorem cal_X12_isIn : Cal yX12_isIn cX12_isIn 8 (some .boolean) 2 := ⟨ww_695, ww_429, ⟨by decide, by decide, by decide⟩, by decide⟩
set_option maxHeartbeats 4000000 in
set_option maxRecDepth 100000 in
theorem c_X12_isIn (l : Launch) (G : Gx) (x1 : Int32) (x2 : Int32) (σ : St) (r0 : Int32) (σ0 : St) (h : f_X12_isIn x1 x2 σ = some (r0, σ0)) : MI l G yX12_isIn cX12_isIn 8 (some .boolean) 1 [.ref (ga G 6), .int x1, .int x2] σ (some (.int r0)) σ0 := by
  refine MI_of RX12 rfl (by decide) [(0, .ref (ga G 6)), (1, .int x1), (2, .int x2)] rfl (Nat.le_of_ble_eq_true rfl) ?_
  intro X hXl C hR
  unfold f_X12_isIn at h
  have J_305 : ∀ (x3 : Int32) (σ : St), f_X12_isIn_305 x3 σ = some (r0, σ0) → V X G 8 0 0 σ 305 [(3, .int x3)] [] := by
    intro x3 σ h
    unfold f_X12_isIn_305 at h
    refine V_iload_n C (dt_at dt_X12_isIn_4 18 rfl) 0 rfl rfl ?_
    refine V_if_lt C 313 (dt_at dt_X12_isIn_4 19 rfl) (by decide) (fun q48 => ?_) (fun q48 => ?_)
    · have h := ite_t q48 h
      refine V_iconst C 0 (dt_at dt_X12_isIn_4 22 rfl) (by decide) ?_
      obtain ⟨e1_, e2_⟩ := pin2 h
      subst e1_; subst e2_
      exact V_zret C rfl hR (dt_at dt_X12_isIn_4 23 rfl)
    · have h := ite_f q48 h
      refine V_iconst C 1 (dt_at dt_X12_isIn_4 20 rfl) (by decide) ?_
      refine V_goto C 314 (dt_at dt_X12_isIn_4 21 rfl) (by decide) ?_
      obtain ⟨e1_, e2_⟩ := pin2 h
      subst e1_; subst e2_
      exact V_zret C rfl hR (dt_at dt_X12_isIn_4 23 rfl)
  have J_40 : ∀ (x3 : Int32) (σ : St), f_X12_isIn_40 x1 x2 x3 σ = some (r0, σ0) → V X G 8 0 0 σ 40 [(0, .ref (ga G 6)), (1, .int x1), (2, .int x2), (3, .int x3)] [] := by
    intro x3 σ h
    refine it_v (P := fun z : Int32 × St => V X G 8 0 0 z.2 40 [(0, .ref (ga G 6)), (1, .int x1), (2, .int x2), (3, .int z.1)] []) ?_ (x3, σ) h
    clear h
    intro z w_40 h ih_40 ex_40
    obtain ⟨x3, σ⟩ := z
    have h : b_X12_isIn_40 x1 x2 x3 σ = some w_40 := h
    show V X G 8 0 0 σ 40 [(0, .ref (ga G 6)), (1, .int x1), (2, .int x2), (3, .int x3)] []
    unfold b_X12_isIn_40 at h
    have J_291 : ∀ (x3 : Int32) (s0 : Int32) (s1 : Int32) (σ : St), f_X12_isIn_291 x1 x2 x3 s0 s1 σ = some w_40 → V X G 8 0 0 σ 291 [(0, .ref (ga G 6)), (1, .int x1), (2, .int x2), (3, .int x3)] [.int s0, .int s1, .ref (ga G 96)] := by
      intro x3 s0 s1 σ h
      unfold f_X12_isIn_291 at h
      obtain ⟨h45, h⟩ := chk_s h
      obtain ⟨σ44, eσ44, h⟩ := nm_s h
      refine V_st eσ44 ?_ (fun k => as_96 C h45 (dt_at dt_X12_isIn_4 10 rfl) k)
      refine V_iinc C (x3 + 1) 3 [1, 2, 3, 0] (lv' := [(0, .ref (ga G 6)), (1, .int x1), (2, .int x2), (3, .int (x3 + 1))]) (dt_at dt_X12_isIn_4 11 rfl) rfl (by rfl) (by decide) rfl ?_
      refine V_aload_n C (dt_at dt_X12_isIn_4 12 rfl) 0 rfl rfl ?_
      refine g_X12_43_6 C (dt_at dt_X12_isIn_4 13 rfl) ?_
      refine V_iload_n C (dt_at dt_X12_isIn_4 14 rfl) 3 rfl rfl ?_
      refine V_iconst C (-1) (dt_at dt_X12_isIn_4 15 rfl) (by decide) ?_
      obtain ⟨h47, h⟩ := chk_s h
      obtain ⟨σ46, eσ46, h⟩ := nm_s h
      refine V_st eσ46 ?_ (fun k => as_95 C h47 (dt_at dt_X12_isIn_4 16 rfl) k)
      refine V_goto C 40 (dt_at dt_X12_isIn_4 17 rfl) (by decide) ?_
      exact ih_40 ((x3 + 1), σ46) (Option.some.inj h).symm
    have J_285 : ∀ (x3 : Int32) (s0 : Int32) (σ : St), f_X12_isIn_285 x1 x2 x3 s0 σ = some w_40 → V X G 8 0 0 σ 285 [(0, .ref (ga G 6)), (1, .int x1), (2, .int x2), (3, .int x3)] [.int s0, .ref (ga G 96)] := by
      intro x3 s0 σ h
      unfold f_X12_isIn_285 at h
      refine V_aload_n C (dt_at dt_X12_isIn_4 6 rfl) 0 rfl rfl ?_
      refine g_X12_46_6 C (dt_at dt_X12_isIn_4 7 rfl) ?_
      refine V_iload_n C (dt_at dt_X12_isIn_4 8 rfl) 3 rfl rfl ?_
      obtain ⟨h43, h⟩ := chk_s h
      refine al_96 C h43 (dt_at dt_X12_isIn_4 9 rfl) ?_
      exact J_291 x3 (rd σ 96 x3) s0 σ h
    have J_251 : ∀ (x3 : Int32) (x4 : Int32) (x5 : Int32) (σ : St), f_X12_isIn_251 x1 x2 x3 x4 x5 σ = some w_40 → V X G 8 0 0 σ 251 [(0, .ref (ga G 6)), (1, .int x1), (2, .int x2), (3, .int x3), (4, .int x4), (5, .int x5)] [] := by
      intro x3 x4 x5 σ h
      unfold f_X12_isIn_251 at h
      refine V_aload_n C (dt_at dt_X12_isIn_3 26 rfl) 0 rfl rfl ?_
      refine g_X12_46_6 C (dt_at dt_X12_isIn_3 27 rfl) ?_
      refine V_iload_n C (dt_at dt_X12_isIn_3 28 rfl) 3 rfl rfl ?_
      refine V_iconst C 1 (dt_at dt_X12_isIn_3 29 rfl) (by decide) ?_
      refine V_iadd C (dt_at dt_X12_isIn_3 30 rfl) ?_
      refine V_iload C (dt_at dt_X12_isIn_3 31 rfl) 5 rfl ?_
      refine V_if_eq C 285 (dt_at dt_X12_isIn_3 32 rfl) (by decide) (fun q40 => ?_) (fun q40 => ?_)
      · have h := ite_t q40 h
        refine V_sub [0, 1, 2, 3] (lv' := [(0, .ref (ga G 6)), (1, .int x1), (2, .int x2), (3, .int x3)]) rfl ?_
        exact J_285 x3 (x3 + 1) σ h
      · have h := ite_f q40 h
        refine V_iload C (dt_at dt_X12_isIn_3 33 rfl) 4 rfl ?_
        refine V_aload_n C (dt_at dt_X12_isIn_3 34 rfl) 0 rfl rfl ?_
        refine g_X12_46_6 C (dt_at dt_X12_isIn_3 35 rfl) ?_
        refine V_iload_n C (dt_at dt_X12_isIn_3 36 rfl) 3 rfl rfl ?_
        obtain ⟨h41, h⟩ := chk_s h
        refine al_96 C h41 (dt_at dt_X12_isIn_3 37 rfl) ?_
        refine V_icmp_ne C 285 (dt_at dt_X12_isIn_3 38 rfl) (by decide) (fun q42 => ?_) (fun q42 => ?_)
        · have h := ite_f q42 h
          refine V_sub [0, 1, 2, 3] (lv' := [(0, .ref (ga G 6)), (1, .int x1), (2, .int x2), (3, .int x3)]) rfl ?_
          exact J_285 x3 (x3 + 1) σ h
        · have h := ite_t q42 h
          refine V_aload_n C (dt_at dt_X12_isIn_3 39 rfl) 0 rfl rfl ?_
          refine g_X12_46_6 C (dt_at dt_X12_isIn_4 0 rfl) ?_
          refine V_iload_n C (dt_at dt_X12_isIn_4 1 rfl) 3 rfl rfl ?_
          refine al_96 C h41 (dt_at dt_X12_isIn_4 2 rfl) ?_
          refine V_iconst C 1 (dt_at dt_X12_isIn_4 3 rfl) (by decide) ?_
          refine V_iadd C (dt_at dt_X12_isIn_4 4 rfl) ?_
          refine V_goto C 291 (dt_at dt_X12_isIn_4 5 rfl) (by decide) ?_
          refine V_sub [0, 1, 2, 3] (lv' := [(0, .ref (ga G 6)), (1, .int x1), (2, .int x2), (3, .int x3)]) rfl ?_
          exact J_291 x3 ((rd σ 96 x3) + 1) (x3 + 1) σ h
    have J_232 : ∀ (x3 : Int32) (x4 : Int32) (x5 : Int32) (s0 : Int32) (s1 : Int32) (σ : St), f_X12_isIn_232 x1 x2 x3 x4 x5 s0 s1 σ = some w_40 → V X G 8 0 0 σ 232 [(0, .ref (ga G 6)), (1, .int x1), (2, .int x2), (3, .int x3), (4, .int x4), (5, .int x5)] [.int s0, .int s1, .ref (ga G 95)] := by
      intro x3 x4 x5 s0 s1 σ h
      unfold f_X12_isIn_232 at h
      obtain ⟨h36, h⟩ := chk_s h
      obtain ⟨σ35, eσ35, h⟩ := nm_s h
      refine V_st eσ35 ?_ (fun k => as_95 C h36 (dt_at dt_X12_isIn_3 13 rfl) k)
      refine V_iload C (dt_at dt_X12_isIn_3 14 rfl) 5 rfl ?_
      refine V_if_eq C 251 (dt_at dt_X12_isIn_3 15 rfl) (by decide) (fun q37 => ?_) (fun q37 => ?_)
      · have h := ite_t q37 h
        exact J_251 x3 x4 x5 σ35 h
      · have h := ite_f q37 h
        refine V_aload_n C (dt_at dt_X12_isIn_3 16 rfl) 0 rfl rfl ?_
        refine g_X12_49_6 C (dt_at dt_X12_isIn_3 17 rfl) ?_
        refine V_iload C (dt_at dt_X12_isIn_3 18 rfl) 4 rfl ?_
        refine V_dup2 C (dt_at dt_X12_isIn_3 19 rfl) rfl rfl ?_
        obtain ⟨h38, h⟩ := chk_s h
        refine al_97 C h38 (dt_at dt_X12_isIn_3 20 rfl) ?_
        refine V_iconst C 1 (dt_at dt_X12_isIn_3 21 rfl) (by decide) ?_
        refine V_iload_n C (dt_at dt_X12_isIn_3 22 rfl) 3 rfl rfl ?_
        refine V_ishl C (dt_at dt_X12_isIn_3 23 rfl) ?_
        refine V_ior C (dt_at dt_X12_isIn_3 24 rfl) ?_
        obtain ⟨σ39, eσ39, h⟩ := nm_s h
        refine V_st eσ39 ?_ (fun k => as_97 C h38 (dt_at dt_X12_isIn_3 25 rfl) k)
        exact J_251 x3 x4 x5 σ39 h
    have J_202 : ∀ (x3 : Int32) (x4 : Int32) (x5 : Int32) (s0 : Int32) (σ : St), f_X12_isIn_202 x1 x2 x3 x4 x5 s0 σ = some w_40 → V X G 8 0 0 σ 202 [(0, .ref (ga G 6)), (1, .int x1), (2, .int x2), (3, .int x3), (4, .int x4), (5, .int x5)] [.int s0] := by
      intro x3 x4 x5 s0 σ h
      unfold f_X12_isIn_202 at h
      refine V_istore C [1, 2, 3, 4, 5, 6, 0] (lv' := [(0, .ref (ga G 6)), (1, .int x1), (2, .int x2), (3, .int x3), (4, .int x4), (5, .int x5), (7, .int s0)]) (dt_at dt_X12_isIn_3 0 rfl) (by decide) rfl ?_
      refine V_iload C (dt_at dt_X12_isIn_3 1 rfl) 6 rfl ?_
      refine V_if_ne C 215 (dt_at dt_X12_isIn_3 2 rfl) (by decide) (fun q33 => ?_) (fun q33 => ?_)
      · have h := ite_f q33 h
        refine V_aload_n C (dt_at dt_X12_isIn_3 5 rfl) 0 rfl rfl ?_
        refine g_X12_43_6 C (dt_at dt_X12_isIn_3 6 rfl) ?_
        refine V_iload_n C (dt_at dt_X12_isIn_3 7 rfl) 3 rfl rfl ?_
        refine V_iload C (dt_at dt_X12_isIn_3 8 rfl) 5 rfl ?_
        refine V_if_eq C 230 (dt_at dt_X12_isIn_3 9 rfl) (by decide) (fun q34 => ?_) (fun q34 => ?_)
        · have h := ite_t q34 h
          refine V_bipush C (-2) (dt_at dt_X12_isIn_3 12 rfl) (by decide) ?_
          refine V_sub [0, 1, 2, 3, 4, 5] (lv' := [(0, .ref (ga G 6)), (1, .int x1), (2, .int x2), (3, .int x3), (4, .int x4), (5, .int x5)]) rfl ?_
          exact J_232 x3 x4 x5 (-2) x3 σ h
        · have h := ite_f q34 h
          refine V_iload C (dt_at dt_X12_isIn_3 10 rfl) 4 rfl ?_
          refine V_goto C 232 (dt_at dt_X12_isIn_3 11 rfl) (by decide) ?_
          refine V_sub [0, 1, 2, 3, 4, 5] (lv' := [(0, .ref (ga G 6)), (1, .int x1), (2, .int x2), (3, .int x3), (4, .int x4), (5, .int x5)]) rfl ?_
          exact J_232 x3 x4 x5 x4 x3 σ h
      · have h := ite_t q33 h
        refine V_iinc C (x3 + (-1)) 3 [1, 2, 3, 0, 4, 5, 6] (lv' := [(0, .ref (ga G 6)), (1, .int x1), (2, .int x2), (3, .int (x3 + (-1))), (4, .int x4), (5, .int x5), (7, .int s0)]) (dt_at dt_X12_isIn_3 3 rfl) rfl (by rfl) (by decide) rfl ?_
        refine V_goto C 40 (dt_at dt_X12_isIn_3 4 rfl) (by decide) ?_
        refine V_sub [0, 1, 2, 3] (lv' := [(0, .ref (ga G 6)), (1, .int x1), (2, .int x2), (3, .int (x3 + (-1)))]) rfl ?_
        exact ih_40 ((x3 + (-1)), σ) (Option.some.inj h).symm
    have J_167 : ∀ (x3 : Int32) (x4 : Int32) (x5 : Int32) (x6 : Int32) (σ : St), f_X12_isIn_167 x1 x2 x3 x4 x5 x6 σ = some w_40 → V X G 8 0 0 σ 167 [(0, .ref (ga G 6)), (1, .int x1), (2, .int x2), (3, .int x3), (4, .int x4), (5, .int x5), (6, .int x6)] [] := by
      intro x3 x4 x5 x6 σ h
      unfold f_X12_isIn_167 at h
      refine V_iload C (dt_at dt_X12_isIn_2 22 rfl) 5 rfl ?_
      refine V_if_eq C 187 (dt_at dt_X12_isIn_2 23 rfl) (by decide) (fun q29 => ?_) (fun q29 => ?_)
      · have h := ite_t q29 h
        refine V_aload_n C (dt_at dt_X12_isIn_2 31 rfl) 0 rfl rfl ?_
        refine g_X12_43_6 C (dt_at dt_X12_isIn_2 32 rfl) ?_
        refine V_iload_n C (dt_at dt_X12_isIn_2 33 rfl) 3 rfl rfl ?_
        obtain ⟨h30, h⟩ := chk_s h
        refine al_95 C h30 (dt_at dt_X12_isIn_2 34 rfl) ?_
        refine V_iconst C (-1) (dt_at dt_X12_isIn_2 35 rfl) (by decide) ?_
        refine V_icmp_ne C 201 (dt_at dt_X12_isIn_2 36 rfl) (by decide) (fun q31 => ?_) (fun q31 => ?_)
        · have h := ite_f q31 h
          refine V_iconst C 0 (dt_at dt_X12_isIn_2 39 rfl) (by decide) ?_
          refine V_sub [0, 1, 2, 3, 4, 5] (lv' := [(0, .ref (ga G 6)), (1, .int x1), (2, .int x2), (3, .int x3), (4, .int x4), (5, .int x5)]) rfl ?_
          exact J_202 x3 x4 x5 0 σ h
        · have h := ite_t q31 h
          refine V_iconst C 1 (dt_at dt_X12_isIn_2 37 rfl) (by decide) ?_
          refine V_goto C 202 (dt_at dt_X12_isIn_2 38 rfl) (by decide) ?_
          refine V_sub [0, 1, 2, 3, 4, 5] (lv' := [(0, .ref (ga G 6)), (1, .int x1), (2, .int x2), (3, .int x3), (4, .int x4), (5, .int x5)]) rfl ?_
          exact J_202 x3 x4 x5 1 σ h
      · have h := ite_f q29 h
        refine V_iload C (dt_at dt_X12_isIn_2 24 rfl) 4 rfl ?_
        refine V_iload C (dt_at dt_X12_isIn_2 25 rfl) 6 rfl ?_
        refine V_icmp_gt C 183 (dt_at dt_X12_isIn_2 26 rfl) (by decide) (fun q32 => ?_) (fun q32 => ?_)
        · have h := ite_t q32 h
          refine V_iconst C 0 (dt_at dt_X12_isIn_2 29 rfl) (by decide) ?_
          refine V_goto C 202 (dt_at dt_X12_isIn_2 30 rfl) (by decide) ?_
          refine V_sub [0, 1, 2, 3, 4, 5] (lv' := [(0, .ref (ga G 6)), (1, .int x1), (2, .int x2), (3, .int x3), (4, .int x4), (5, .int x5)]) rfl ?_
          exact J_202 x3 x4 x5 0 σ h
        · have h := ite_f q32 h
          refine V_iconst C 1 (dt_at dt_X12_isIn_2 27 rfl) (by decide) ?_
          refine V_goto C 202 (dt_at dt_X12_isIn_2 28 rfl) (by decide) ?_
          refine V_sub [0, 1, 2, 3, 4, 5] (lv' := [(0, .ref (ga G 6)), (1, .int x1), (2, .int x2), (3, .int x3), (4, .int x4), (5, .int x5)]) rfl ?_
          exact J_202 x3 x4 x5 1 σ h
    have J_132 : ∀ (x3 : Int32) (x4 : Int32) (x5 : Int32) (x6 : Int32) (σ : St), f_X12_isIn_132 x1 x2 x3 x4 x5 x6 σ = some w_40 → V X G 8 0 0 σ 132 [(0, .ref (ga G 6)), (1, .int x1), (2, .int x2), (3, .int x3), (4, .int x4), (5, .int x5), (6, .int x6)] [] := by
      intro x3 x4 x5 x6 σ h
      refine it_v (P := fun z : Int32 => V X G 8 0 0 σ 132 [(0, .ref (ga G 6)), (1, .int x1), (2, .int x2), (3, .int x3), (4, .int z), (5, .int x5), (6, .int x6)] []) ?_ x4 h
      clear h
      intro z w_132 h ih_132 ex_132
      revert h; revert z; intro x4 h
      have h : b_X12_isIn_132 x1 x2 x3 x4 x5 x6 σ = some w_132 := h
      show V X G 8 0 0 σ 132 [(0, .ref (ga G 6)), (1, .int x1), (2, .int x2), (3, .int x3), (4, .int x4), (5, .int x5), (6, .int x6)] []
      unfold b_X12_isIn_132 at h
      refine V_iload C (dt_at dt_X12_isIn_2 5 rfl) 5 rfl ?_
      refine V_if_eq C 167 (dt_at dt_X12_isIn_2 6 rfl) (by decide) (fun q21 => ?_) (fun q21 => ?_)
      · have h := ite_t q21 h
        obtain ⟨t22, h, e_132⟩ := map_s h
        have e_132 := ex_132 _ e_132
        rw [e_132] at h
        exact J_167 x3 x4 x5 x6 σ h
      · have h := ite_f q21 h
        refine V_iload C (dt_at dt_X12_isIn_2 7 rfl) 4 rfl ?_
        refine V_iload C (dt_at dt_X12_isIn_2 8 rfl) 6 rfl ?_
        refine V_icmp_gt C 167 (dt_at dt_X12_isIn_2 9 rfl) (by decide) (fun q23 => ?_) (fun q23 => ?_)
        · have h := ite_t q23 h
          obtain ⟨t24, h, e_132⟩ := map_s h
          have e_132 := ex_132 _ e_132
          rw [e_132] at h
          exact J_167 x3 x4 x5 x6 σ h
        · have h := ite_f q23 h
          refine V_aload_n C (dt_at dt_X12_isIn_2 10 rfl) 0 rfl rfl ?_
          refine g_X12_49_6 C (dt_at dt_X12_isIn_2 11 rfl) ?_
          refine V_iload C (dt_at dt_X12_isIn_2 12 rfl) 4 rfl ?_
          obtain ⟨h25, h⟩ := chk_s h
          refine al_97 C h25 (dt_at dt_X12_isIn_2 13 rfl) ?_
          refine V_aload_n C (dt_at dt_X12_isIn_2 14 rfl) 0 rfl rfl ?_
          refine g_X12_19_6 C (dt_at dt_X12_isIn_2 15 rfl) ?_
          refine V_iload_n C (dt_at dt_X12_isIn_2 16 rfl) 3 rfl rfl ?_
          obtain ⟨h26, h⟩ := chk_s h
          refine al_87 C h26 (dt_at dt_X12_isIn_2 17 rfl) ?_
          refine V_iand C (dt_at dt_X12_isIn_2 18 rfl) ?_
          refine V_if_eq C 167 (dt_at dt_X12_isIn_2 19 rfl) (by decide) (fun q27 => ?_) (fun q27 => ?_)
          · have h := ite_t q27 h
            obtain ⟨t28, h, e_132⟩ := map_s h
            have e_132 := ex_132 _ e_132
            rw [e_132] at h
            exact J_167 x3 x4 x5 x6 σ h
          · have h := ite_f q27 h
            refine V_iinc C (x4 + 1) 4 [1, 2, 3, 4, 0, 5, 6] (lv' := [(0, .ref (ga G 6)), (1, .int x1), (2, .int x2), (3, .int x3), (4, .int (x4 + 1)), (5, .int x5), (6, .int x6)]) (dt_at dt_X12_isIn_2 20 rfl) rfl (by rfl) (by decide) rfl ?_
            refine V_goto C 132 (dt_at dt_X12_isIn_2 21 rfl) (by decide) ?_
            exact ih_132 (x4 + 1) (Option.some.inj h).symm
    have J_130 : ∀ (x3 : Int32) (x4 : Int32) (x5 : Int32) (s0 : Int32) (σ : St), f_X12_isIn_130 x1 x2 x3 x4 x5 s0 σ = some w_40 → V X G 8 0 0 σ 130 [(0, .ref (ga G 6)), (1, .int x1), (2, .int x2), (3, .int x3), (4, .int x4), (5, .int x5)] [.int s0] := by
      intro x3 x4 x5 s0 σ h
      unfold f_X12_isIn_130 at h
      refine V_istore C [1, 2, 3, 4, 5, 6, 0] (lv' := [(0, .ref (ga G 6)), (1, .int x1), (2, .int x2), (3, .int x3), (4, .int x4), (5, .int x5), (6, .int s0)]) (dt_at dt_X12_isIn_2 4 rfl) (by decide) rfl ?_
      exact J_132 x3 x4 x5 s0 σ h
    have J_106 : ∀ (x3 : Int32) (x4 : Int32) (s0 : Int32) (σ : St), f_X12_isIn_106 x1 x2 x3 x4 s0 σ = some w_40 → V X G 8 0 0 σ 106 [(0, .ref (ga G 6)), (1, .int x1), (2, .int x2), (3, .int x3), (4, .int x4)] [.int s0] := by
      intro x3 x4 s0 σ h
      unfold f_X12_isIn_106 at h
      refine V_istore C [1, 2, 3, 4, 5, 0] (lv' := [(0, .ref (ga G 6)), (1, .int x1), (2, .int x2), (3, .int x3), (4, .int x4), (5, .int s0)]) (dt_at dt_X12_isIn_1 29 rfl) (by decide) rfl ?_
      refine V_aload_n C (dt_at dt_X12_isIn_1 30 rfl) 0 rfl rfl ?_
      refine g_X12_46_6 C (dt_at dt_X12_isIn_1 31 rfl) ?_
      refine V_iload_n C (dt_at dt_X12_isIn_1 32 rfl) 3 rfl rfl ?_
      obtain ⟨h19, h⟩ := chk_s h
      refine al_96 C h19 (dt_at dt_X12_isIn_1 33 rfl) ?_
      refine V_iload_n C (dt_at dt_X12_isIn_1 34 rfl) 2 rfl rfl ?_
      refine V_icmp_ge C 127 (dt_at dt_X12_isIn_1 35 rfl) (by decide) (fun q20 => ?_) (fun q20 => ?_)
      · have h := ite_f q20 h
        refine V_iload_n C (dt_at dt_X12_isIn_2 1 rfl) 2 rfl rfl ?_
        refine V_iconst C 1 (dt_at dt_X12_isIn_2 2 rfl) (by decide) ?_
        refine V_isub C (dt_at dt_X12_isIn_2 3 rfl) ?_
        exact J_130 x3 x4 s0 (x2 - 1) σ h
      · have h := ite_t q20 h
        refine V_aload_n C (dt_at dt_X12_isIn_1 36 rfl) 0 rfl rfl ?_
        refine g_X12_46_6 C (dt_at dt_X12_isIn_1 37 rfl) ?_
        refine V_iload_n C (dt_at dt_X12_isIn_1 38 rfl) 3 rfl rfl ?_
        refine al_96 C h19 (dt_at dt_X12_isIn_1 39 rfl) ?_
        refine V_goto C 130 (dt_at dt_X12_isIn_2 0 rfl) (by decide) ?_
        exact J_130 x3 x4 s0 (rd σ 96 x3) σ h
    have J_82 : ∀ (x3 : Int32) (σ : St), f_X12_isIn_82 x1 x2 x3 σ = some w_40 → V X G 8 0 0 σ 82 [(0, .ref (ga G 6)), (1, .int x1), (2, .int x2), (3, .int x3)] [] := by
      intro x3 σ h
      unfold f_X12_isIn_82 at h
      refine V_aload_n C (dt_at dt_X12_isIn_1 12 rfl) 0 rfl rfl ?_
      refine g_X12_43_6 C (dt_at dt_X12_isIn_1 13 rfl) ?_
      refine V_iload_n C (dt_at dt_X12_isIn_1 14 rfl) 3 rfl rfl ?_
      obtain ⟨h17, h⟩ := chk_s h
      refine al_95 C h17 (dt_at dt_X12_isIn_1 15 rfl) ?_
      refine V_iconst C 1 (dt_at dt_X12_isIn_1 16 rfl) (by decide) ?_
      refine V_iadd C (dt_at dt_X12_isIn_1 17 rfl) ?_
      refine V_istore C [1, 2, 3, 4, 0] (lv' := [(0, .ref (ga G 6)), (1, .int x1), (2, .int x2), (3, .int x3), (4, .int ((rd σ 95 x3) + 1))]) (dt_at dt_X12_isIn_1 18 rfl) (by decide) rfl ?_
      refine V_iload_n C (dt_at dt_X12_isIn_1 19 rfl) 1 rfl rfl ?_
      refine V_iload_n C (dt_at dt_X12_isIn_1 20 rfl) 3 rfl rfl ?_
      refine V_ishr C (dt_at dt_X12_isIn_1 21 rfl) ?_
      refine V_iconst C 1 (dt_at dt_X12_isIn_1 22 rfl) (by decide) ?_
      refine V_iand C (dt_at dt_X12_isIn_1 23 rfl) ?_
      refine V_iconst C 1 (dt_at dt_X12_isIn_1 24 rfl) (by decide) ?_
      refine V_icmp_ne C 105 (dt_at dt_X12_isIn_1 25 rfl) (by decide) (fun q18 => ?_) (fun q18 => ?_)
      · have h := ite_f q18 h
        refine V_iconst C 0 (dt_at dt_X12_isIn_1 28 rfl) (by decide) ?_
        exact J_106 x3 ((rd σ 95 x3) + 1) 0 σ h
      · have h := ite_t q18 h
        refine V_iconst C 1 (dt_at dt_X12_isIn_1 26 rfl) (by decide) ?_
        refine V_goto C 106 (dt_at dt_X12_isIn_1 27 rfl) (by decide) ?_
        exact J_106 x3 ((rd σ 95 x3) + 1) 1 σ h
    refine V_iload_n C (dt_at dt_X12_isIn_0 24 rfl) 3 rfl rfl ?_
    refine V_if_lt C 305 (dt_at dt_X12_isIn_0 25 rfl) (by decide) (fun q8 => ?_) (fun q8 => ?_)
    · have h := ite_t q8 h
      refine V_sub [3] (lv' := [(3, .int x3)]) rfl ?_
      obtain ⟨t9, h, e_40⟩ := map_s h
      have e_40 := ex_40 _ e_40
      rw [e_40] at h
      exact J_305 x3 σ h
    · have h := ite_f q8 h
      refine V_iload_n C (dt_at dt_X12_isIn_0 26 rfl) 3 rfl rfl ?_
      refine V_aload_n C (dt_at dt_X12_isIn_0 27 rfl) 0 rfl rfl ?_
      refine g_X12_7_6 C (dt_at dt_X12_isIn_0 28 rfl) ?_
      refine V_iconst C 1 (dt_at dt_X12_isIn_0 29 rfl) (by decide) ?_
      obtain ⟨h10, h⟩ := chk_s h
      refine al_84 C h10 (dt_at dt_X12_isIn_0 30 rfl) ?_
      refine V_icmp_ge C 305 (dt_at dt_X12_isIn_0 31 rfl) (by decide) (fun q11 => ?_) (fun q11 => ?_)
      · have h := ite_f q11 h
        refine V_sub [3] (lv' := [(3, .int x3)]) rfl ?_
        obtain ⟨t12, h, e_40⟩ := map_s h
        have e_40 := ex_40 _ e_40
        rw [e_40] at h
        exact J_305 x3 σ h
      · have h := ite_t q11 h
        refine V_aload_n C (dt_at dt_X12_isIn_0 32 rfl) 0 rfl rfl ?_
        refine g_X12_43_6 C (dt_at dt_X12_isIn_0 33 rfl) ?_
        refine V_iload_n C (dt_at dt_X12_isIn_0 34 rfl) 3 rfl rfl ?_
        obtain ⟨h13, h⟩ := chk_s h
        refine al_95 C h13 (dt_at dt_X12_isIn_0 35 rfl) ?_
        refine V_if_lt C 82 (dt_at dt_X12_isIn_0 36 rfl) (by decide) (fun q14 => ?_) (fun q14 => ?_)
        · have h := ite_t q14 h
          exact J_82 x3 σ h
        · have h := ite_f q14 h
          refine V_aload_n C (dt_at dt_X12_isIn_0 37 rfl) 0 rfl rfl ?_
          refine g_X12_49_6 C (dt_at dt_X12_isIn_0 38 rfl) ?_
          refine V_aload_n C (dt_at dt_X12_isIn_0 39 rfl) 0 rfl rfl ?_
          refine g_X12_43_6 C (dt_at dt_X12_isIn_1 0 rfl) ?_
          refine V_iload_n C (dt_at dt_X12_isIn_1 1 rfl) 3 rfl rfl ?_
          refine al_95 C h13 (dt_at dt_X12_isIn_1 2 rfl) ?_
          refine V_dup2 C (dt_at dt_X12_isIn_1 3 rfl) rfl rfl ?_
          obtain ⟨h15, h⟩ := chk_s h
          refine al_97 C h15 (dt_at dt_X12_isIn_1 4 rfl) ?_
          refine V_iconst C 1 (dt_at dt_X12_isIn_1 5 rfl) (by decide) ?_
          refine V_iload_n C (dt_at dt_X12_isIn_1 6 rfl) 3 rfl rfl ?_
          refine V_ishl C (dt_at dt_X12_isIn_1 7 rfl) ?_
          refine V_iconst C (-1) (dt_at dt_X12_isIn_1 8 rfl) (by decide) ?_
          refine V_ixor C (dt_at dt_X12_isIn_1 9 rfl) ?_
          refine V_iand C (dt_at dt_X12_isIn_1 10 rfl) ?_
          obtain ⟨σ16, eσ16, h⟩ := nm_s h
          refine V_st eσ16 ?_ (fun k => as_97 C h15 (dt_at dt_X12_isIn_1 11 rfl) k)
          exact J_82 x3 σ16 h
  have J_26 : ∀ (x3 : Int32) (σ : St), f_X12_isIn_26 x1 x2 x3 σ = some (r0, σ0) → V X G 8 0 0 σ 26 [(0, .ref (ga G 6)), (1, .int x1), (2, .int x2), (3, .int x3)] [] := by
    intro x3 σ h
    unfold f_X12_isIn_26 at h
    refine V_aload_n C (dt_at dt_X12_isIn_0 14 rfl) 0 rfl rfl ?_
    refine g_X12_43_6 C (dt_at dt_X12_isIn_0 15 rfl) ?_
    refine V_iconst C 0 (dt_at dt_X12_isIn_0 16 rfl) (by decide) ?_
    refine V_iconst C (-1) (dt_at dt_X12_isIn_0 17 rfl) (by decide) ?_
    obtain ⟨h6, h⟩ := chk_s h
    obtain ⟨σ5, eσ5, h⟩ := nm_s h
    refine V_st eσ5 ?_ (fun k => as_95 C h6 (dt_at dt_X12_isIn_0 18 rfl) k)
    refine V_aload_n C (dt_at dt_X12_isIn_0 19 rfl) 0 rfl rfl ?_
    refine g_X12_46_6 C (dt_at dt_X12_isIn_0 20 rfl) ?_
    refine V_iconst C 0 (dt_at dt_X12_isIn_0 21 rfl) (by decide) ?_
    refine V_iconst C 0 (dt_at dt_X12_isIn_0 22 rfl) (by decide) ?_
    obtain ⟨σ7, eσ7, h⟩ := nm_s h
    refine V_st eσ7 ?_ (fun k => as_96 C h6 (dt_at dt_X12_isIn_0 23 rfl) k)
    exact J_40 x3 σ7 h
  have J_5 : ∀ (x3 : Int32) (x4 : Int32) (σ : St), f_X12_isIn_5 x1 x2 x3 x4 σ = some (r0, σ0) → V X G 8 0 0 σ 5 [(0, .ref (ga G 6)), (1, .int x1), (2, .int x2), (3, .int x3), (4, .int x4)] [] := by
    intro x3 x4 σ h
    refine it_v (P := fun z : Int32 × St => V X G 8 0 0 z.2 5 [(0, .ref (ga G 6)), (1, .int x1), (2, .int x2), (3, .int x3), (4, .int z.1)] []) ?_ (x4, σ) h
    clear h
    intro z w_5 h ih_5 ex_5
    obtain ⟨x4, σ⟩ := z
    have h : b_X12_isIn_5 x1 x2 x3 x4 σ = some w_5 := h
    show V X G 8 0 0 σ 5 [(0, .ref (ga G 6)), (1, .int x1), (2, .int x2), (3, .int x3), (4, .int x4)] []
    unfold b_X12_isIn_5 at h
    refine V_iload C (dt_at dt_X12_isIn_0 4 rfl) 4 rfl ?_
    refine V_bipush C 10 (dt_at dt_X12_isIn_0 5 rfl) (by decide) ?_
    refine V_icmp_ge C 26 (dt_at dt_X12_isIn_0 6 rfl) (by decide) (fun q1 => ?_) (fun q1 => ?_)
    · have h := ite_f q1 h
      refine V_sub [0, 1, 2, 3] (lv' := [(0, .ref (ga G 6)), (1, .int x1), (2, .int x2), (3, .int x3)]) rfl ?_
      obtain ⟨t2, h, e_5⟩ := map_s h
      have e_5 := ex_5 _ e_5
      rw [e_5] at h
      exact J_26 x3 σ h
    · have h := ite_t q1 h
      refine V_aload_n C (dt_at dt_X12_isIn_0 7 rfl) 0 rfl rfl ?_
      refine g_X12_49_6 C (dt_at dt_X12_isIn_0 8 rfl) ?_
      refine V_iload C (dt_at dt_X12_isIn_0 9 rfl) 4 rfl ?_
      refine V_iconst C 0 (dt_at dt_X12_isIn_0 10 rfl) (by decide) ?_
      obtain ⟨h4, h⟩ := chk_s h
      obtain ⟨σ3, eσ3, h⟩ := nm_s h
      refine V_st eσ3 ?_ (fun k => as_97 C h4 (dt_at dt_X12_isIn_0 11 rfl) k)
      refine V_iinc C (x4 + 1) 4 [1, 2, 3, 4, 0] (lv' := [(0, .ref (ga G 6)), (1, .int x1), (2, .int x2), (3, .int x3), (4, .int (x4 + 1))]) (dt_at dt_X12_isIn_0 12 rfl) rfl (by rfl) (by decide) rfl ?_
      refine V_goto C 5 (dt_at dt_X12_isIn_0 13 rfl) (by decide) ?_
      exact ih_5 ((x4 + 1), σ3) (Option.some.inj h).symm
  refine V_iconst C 0 (dt_at dt_X12_isIn_0 0 rfl) (by decide) ?_
  refine V_istore_n C [1, 2, 3, 0] (lv' := [(0, .ref (ga G 6)), (1, .int x1), (2, .int x2), (3, .int 0)]) (dt_at dt_X12_isIn_0 1 rfl) rfl (by decide) rfl ?_
  refine V_iconst C 0 (dt_at dt_X12_isIn_0 2 rfl) (by decide) ?_
  refine V_istore C [1, 2, 3, 4, 0] (lv' := [(0, .ref (ga G 6)), (1, .int x1), (2, .int x2), (3, .int 0), (4, .int 0)]) (dt_at dt_X12_isIn_0 3 rfl) (by decide) rfl ?_
  exact J_5 0 0 σ h
theorem cv_X12_isIn (C : Ck X G cc own nL d) {idx : Nat} (hlk : Cond.methodLink own idx yX12_isIn ∈ gtb) (x1 : Int32) (x2 : Int32) {r0 : Int32} {σ0 : St} (e : f_X12_isIn x1 x2 σ = some (r0, σ0)) (hdd : 2 ≤ d) (hroom : (rest.map fun v => v.category).sum ≤ 8) (hcs : cells ≤ (xR X).cells ∧ slots ≤ (xR X).slots) (hd : decode cc pc = .ok (.invokevirtual idx, 3)) (k : V X G nL cells slots σ0 (pc + 3) lv (.int r0 :: rest)) : V X G nL cells slots σ pc lv (.int x2 :: .int x1 :: .ref (ga G 6) :: rest) := V_callV C (As := [.int x1, .int x2]) (c_X12_isIn X.2.1 G x1 x2 σ r0 σ0 e) cal_X12_isIn ww_696 ww_697 hlk rfl hdd (lt110 rfl) rfl rfl rfl hroom hcs hd k
end WK
