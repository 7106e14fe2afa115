section WK
variable {X : Xx} {G : Gx} {cc : ByteArray} {own : String} {nL d cells slots pc : Nat} {σ : St} {lv : List (Nat × Value)} {rest : List Value}
theorem dt_X12_its_0 : dtab cX12_its [(0, .aload_n 0, 1), (1, .getfield 7, 3), (4, .bipush 10, 2), (6, .iconst 5, 1), (7, .iload_n 1, 1), (8, .imul, 1), (9, .iadd, 1), (10, .iload_n 2, 1), (11, .iadd, 1), (12, .iaload, 1), (13, .ireturn, 1)] = true := by decide +kernel
theorem cal_X12_its : Cal yX12_its cX12_its 3 (some .int) 2 := ⟨ww_446, ww_429, ⟨by decide, by decide, by decide⟩, by decide⟩
set_option maxHeartbeats 4000000 in
set_option maxRecDepth 100000 in
theorem c_X12_its (l : Launch) (G : Gx) (x1 : Int32) (x2 : Int32) (σ : St) (r0 : Int32) (h : f_X12_its x1 x2 σ = some r0) : MI l G yX12_its cX12_its 3 (some .int) 1 [.ref (ga G 6), .int x1, .int x2] σ (some (.int r0)) σ := by
  refine MI_of RX12 rfl (by decide) [(0, .ref (ga G 6)), (1, .int x1), (2, .int x2)] rfl (Nat.le_of_ble_eq_true rfl) ?_
  intro X hXl C hR
  unfold f_X12_its at h
  refine V_aload_n C (dt_at dt_X12_its_0 0 rfl) 0 rfl rfl ?_
  refine g_X12_7_6 C (dt_at dt_X12_its_0 1 rfl) ?_
  refine V_bipush C 10 (dt_at dt_X12_its_0 2 rfl) (by decide) ?_
  refine V_iconst C 5 (dt_at dt_X12_its_0 3 rfl) (by decide) ?_
  refine V_iload_n C (dt_at dt_X12_its_0 4 rfl) 1 rfl rfl ?_
  refine V_imul C (dt_at dt_X12_its_0 5 rfl) ?_
  refine V_iadd C (dt_at dt_X12_its_0 6 rfl) ?_
  refine V_iload_n C (dt_at dt_X12_its_0 7 rfl) 2 rfl rfl ?_
  refine V_iadd C (dt_at dt_X12_its_0 8 rfl) ?_
  obtain ⟨h1, h⟩ := chk_s h
  refine al_84 C h1 (dt_at dt_X12_its_0 9 rfl) ?_
  have e1_ := Option.some.inj h
  subst e1_
  exact V_iret C hR (dt_at dt_X12_its_0 10 rfl)
theorem cv_X12_its (C : Ck X G cc own nL d) {idx : Nat} (hlk : Cond.methodLink own idx yX12_its ∈ gtb) (x1 : Int32) (x2 : Int32) {r0 : Int32} (e : f_X12_its x1 x2 σ = some r0) (hdd : 2 ≤ d) (hroom : (rest.map fun v => v.category).sum ≤ 8) (hcs : cells ≤ (xR X).cells ∧ slots ≤ (xR X).slots) (hd : decode cc pc = .ok (.invokevirtual idx, 3)) (k : V X G nL cells slots σ (pc + 3) lv (.int r0 :: rest)) : V X G nL cells slots σ pc lv (.int x2 :: .int x1 :: .ref (ga G 6) :: rest) := V_callV C (As := [.int x1, .int x2]) (c_X12_its X.2.1 G x1 x2 σ r0 e) cal_X12_its ww_447 ww_448 hlk rfl hdd (lt110 rfl) rfl rfl rfl hroom hcs hd k
theorem dt_X12_isUnder_0 : dtab cX12_isUnder [(0, .iload_n 0, 1), (1, .istore_n 2, 1), (2, .iload_n 2, 1), (3, .ifCond .lt 16, 3), (6, .iload_n 2, 1), (7, .iload_n 1, 1), (8, .if_icmp .eq 11, 3), (11, .iload_n 2, 1), (12, .invokestatic 103, 3), (15, .istore_n 2, 1), (16, .goto (-14), 3), (19, .iload_n 2, 1), (20, .iload_n 1, 1), (21, .if_icmp .ne 7, 3), (24, .iconst 1, 1), (25, .goto 4, 3), (28, .iconst 0, 1), (29, .ireturn, 1)] = true := by decide +kernel
theorem cal_X12_isUnder : Cal yX12_isUnder cX12_isUnder 3 (some .boolean) 2 := ⟨ww_450, ww_429, ⟨by decide, by decide, by decide⟩, by decide⟩
set_option maxHeartbeats 4000000 in
set_option maxRecDepth 100000 in
theorem c_X12_isUnder (l : Launch) (G : Gx) (x0 : Int32) (x1 : Int32) (σ : St) (r0 : Int32) (h : f_X12_isUnder x0 x1 = some r0) : MI l G yX12_isUnder cX12_isUnder 3 (some .boolean) 2 [.int x0, .int x1] σ (some (.int r0)) σ := by
  refine MI_of RX12 rfl (by decide) [(0, .int x0), (1, .int x1)] rfl (Nat.le_of_ble_eq_true rfl) ?_
  intro X hXl C hR
  unfold f_X12_isUnder at h
  have J_19 : ∀ (x2 : Int32), f_X12_isUnder_19 x1 x2 = some r0 → V X G 3 0 0 σ 19 [(1, .int x1), (2, .int x2)] [] := by
    intro x2 h
    unfold f_X12_isUnder_19 at h
    refine V_iload_n C (dt_at dt_X12_isUnder_0 11 rfl) 1 rfl rfl ?_
    refine V_iload_n C (dt_at dt_X12_isUnder_0 12 rfl) 0 rfl rfl ?_
    refine V_icmp_ne C 28 (dt_at dt_X12_isUnder_0 13 rfl) (by decide) (fun q8 => ?_) (fun q8 => ?_)
    · have h := ite_f q8 h
      refine V_iconst C 0 (dt_at dt_X12_isUnder_0 16 rfl) (by decide) ?_
      have e1_ := Option.some.inj h
      subst e1_
      exact V_zret C rfl hR (dt_at dt_X12_isUnder_0 17 rfl)
    · have h := ite_t q8 h
      refine V_iconst C 1 (dt_at dt_X12_isUnder_0 14 rfl) (by decide) ?_
      refine V_goto C 29 (dt_at dt_X12_isUnder_0 15 rfl) (by decide) ?_
      have e1_ := Option.some.inj h
      subst e1_
      exact V_zret C rfl hR (dt_at dt_X12_isUnder_0 17 rfl)
  have J_2 : ∀ (x2 : Int32), f_X12_isUnder_2 x1 x2 = some r0 → V X G 3 0 0 σ 2 [(1, .int x1), (2, .int x2)] [] := by
    intro x2 h
    refine it_v (P := fun z : Int32 => V X G 3 0 0 σ 2 [(1, .int x1), (2, .int z)] []) ?_ x2 h
    clear h
    intro z w_2 h ih_2 ex_2
    revert h; revert z; intro x2 h
    have h : b_X12_isUnder_2 x1 x2 = some w_2 := h
    show V X G 3 0 0 σ 2 [(1, .int x1), (2, .int x2)] []
    unfold b_X12_isUnder_2 at h
    refine V_iload_n C (dt_at dt_X12_isUnder_0 2 rfl) 1 rfl rfl ?_
    refine V_if_lt C 19 (dt_at dt_X12_isUnder_0 3 rfl) (by decide) (fun q1 => ?_) (fun q1 => ?_)
    · have h := ite_t q1 h
      obtain ⟨t2, h, e_2⟩ := map_s h
      have e_2 := ex_2 _ e_2
      rw [e_2] at h
      exact J_19 x2 h
    · have h := ite_f q1 h
      refine V_iload_n C (dt_at dt_X12_isUnder_0 4 rfl) 1 rfl rfl ?_
      refine V_iload_n C (dt_at dt_X12_isUnder_0 5 rfl) 0 rfl rfl ?_
      refine V_icmp_eq C 19 (dt_at dt_X12_isUnder_0 6 rfl) (by decide) (fun q3 => ?_) (fun q3 => ?_)
      · have h := ite_t q3 h
        obtain ⟨t4, h, e_2⟩ := map_s h
        have e_2 := ex_2 _ e_2
        rw [e_2] at h
        exact J_19 x2 h
      · have h := ite_f q3 h
        refine V_iload_n C (dt_at dt_X12_isUnder_0 7 rfl) 1 rfl rfl ?_
        obtain ⟨r5, e6, h⟩ := bd_s h
        refine cv_X12_above C ww_449 x2 e6 (Nat.le_of_ble_eq_true rfl) (Nat.le_of_ble_eq_true rfl) z0 (dt_at dt_X12_isUnder_0 8 rfl) ?_
        refine V_istore_n C [1, 0] (lv' := [(1, .int x1), (2, .int r5)]) (dt_at dt_X12_isUnder_0 9 rfl) rfl (by decide) rfl ?_
        refine V_goto C 2 (dt_at dt_X12_isUnder_0 10 rfl) (by decide) ?_
        exact ih_2 r5 (Option.some.inj h).symm
  refine V_iload_n C (dt_at dt_X12_isUnder_0 0 rfl) 0 rfl rfl ?_
  refine V_istore_n C [1, 2, 0] (lv' := [(0, .int x0), (1, .int x1), (2, .int x0)]) (dt_at dt_X12_isUnder_0 1 rfl) rfl (by decide) rfl ?_
  refine V_sub [1, 2] (lv' := [(1, .int x1), (2, .int x0)]) rfl ?_
  exact J_2 x0 h
theorem cv_X12_isUnder (C : Ck X G cc own nL d) {idx : Nat} (hlk : Cond.methodLink own idx yX12_isUnder ∈ gtb) (x0 : Int32) (x1 : Int32) {r0 : Int32} (e : f_X12_isUnder x0 x1 = some r0) (hdd : 3 ≤ d) (hroom : (rest.map fun v => v.category).sum ≤ 8) (hcs : cells ≤ (xR X).cells ∧ slots ≤ (xR X).slots) (hd : decode cc pc = .ok (.invokestatic idx, 3)) (k : V X G nL cells slots σ (pc + 3) lv (.int r0 :: rest)) : V X G nL cells slots σ pc lv (.int x1 :: .int x0 :: rest) := V_callS C (As := [.int x0, .int x1]) (c_X12_isUnder X.2.1 G x0 x1 σ r0 e) cal_X12_isUnder ww_451 hlk rfl hdd rfl hroom hcs hd k
theorem dt_X12_entryOf_0 : dtab cX12_entryOf [(0, .aload_n 0, 1), (1, .getfield 7, 3), (4, .bipush 60, 2), (6, .iconst 4, 1), (7, .iload_n 1, 1), (8, .imul, 1), (9, .iadd, 1), (10, .iload_n 2, 1), (11, .iadd, 1), (12, .iaload, 1), (13, .ireturn, 1)] = true := by decide +kernel
theorem cal_X12_entryOf : Cal yX12_entryOf cX12_entryOf 3 (some .int) 2 := ⟨ww_452, ww_429, ⟨by decide, by decide, by decide⟩, by decide⟩
set_option maxHeartbeats 4000000 in
set_option maxRecDepth 100000 in
theorem c_X12_entryOf (l : Launch) (G : Gx) (x1 : Int32) (x2 : Int32) (σ : St) (r0 : Int32) (h : f_X12_entryOf x1 x2 σ = some r0) : MI l G yX12_entryOf cX12_entryOf 3 (some .int) 1 [.ref (ga G 6), .int x1, .int x2] σ (some (.int r0)) σ := by
  refine MI_of RX12 rfl (by decide) [(0, .ref (ga G 6)), (1, .int x1), (2, .int x2)] rfl (Nat.le_of_ble_eq_true rfl) ?_
  intro X hXl C hR
  unfold f_X12_entryOf at h
  refine V_aload_n C (dt_at dt_X12_entryOf_0 0 rfl) 0 rfl rfl ?_
  refine g_X12_7_6 C (dt_at dt_X12_entryOf_0 1 rfl) ?_
  refine V_bipush C 60 (dt_at dt_X12_entryOf_0 2 rfl) (by decide) ?_
  refine V_iconst C 4 (dt_at dt_X12_entryOf_0 3 rfl) (by decide) ?_
  refine V_iload_n C (dt_at dt_X12_entryOf_0 4 rfl) 1 rfl rfl ?_
  refine V_imul C (dt_at dt_X12_entryOf_0 5 rfl) ?_
  refine V_iadd C (dt_at dt_X12_entryOf_0 6 rfl) ?_
  refine V_iload_n C (dt_at dt_X12_entryOf_0 7 rfl) 2 rfl rfl ?_
  refine V_iadd C (dt_at dt_X12_entryOf_0 8 rfl) ?_
  obtain ⟨h1, h⟩ := chk_s h
  refine al_84 C h1 (dt_at dt_X12_entryOf_0 9 rfl) ?_
  have e1_ := Option.some.inj h
  subst e1_
  exact V_iret C hR (dt_at dt_X12_entryOf_0 10 rfl)
theorem cv_X12_entryOf (C : Ck X G cc own nL d) {idx : Nat} (hlk : Cond.methodLink own idx yX12_entryOf ∈ gtb) (x1 : Int32) (x2 : Int32) {r0 : Int32} (e : f_X12_entryOf x1 x2 σ = some r0) (hdd : 2 ≤ d) (hroom : (rest.map fun v => v.category).sum ≤ 8) (hcs : cells ≤ (xR X).cells ∧ slots ≤ (xR X).slots) (hd : decode cc pc = .ok (.invokevirtual idx, 3)) (k : V X G nL cells slots σ (pc + 3) lv (.int r0 :: rest)) : V X G nL cells slots σ pc lv (.int x2 :: .int x1 :: .ref (ga G 6) :: rest) := V_callV C (As := [.int x1, .int x2]) (c_X12_entryOf X.2.1 G x1 x2 σ r0 e) cal_X12_entryOf ww_453 ww_454 hlk rfl hdd (lt110 rfl) rfl rfl rfl hroom hcs hd k
theorem dt_X12_weight_0 : dtab cX12_weight [(0, .iconst 0, 1), (1, .istore_n 2, 1), (2, .iconst 0, 1), (3, .istore_n 3, 1), (4, .iload_n 3, 1), (5, .aload_n 0, 1), (6, .getfield 7, 3), (9, .iconst 2, 1), (10, .iaload, 1), (11, .if_icmp .ge 41, 3), (14, .iload_n 2, 1), (15, .aload_n 0, 1), (16, .iload_n 3, 1), (17, .iconst 0, 1), (18, .invokevirtual 99, 3), (21, .iload_n 1, 1), (22, .if_icmp .ne 21, 3), (25, .aload_n 0, 1), (26, .iload_n 3, 1), (27, .iconst 2, 1), (28, .invokevirtual 99, 3), (31, .aload_n 0, 1), (32, .iload_n 3, 1), (33, .iconst 1, 1), (34, .invokevirtual 99, 3), (37, .isub, 1), (38, .iconst 1, 1), (39, .iadd, 1), (40, .goto 4, 3), (43, .iconst 0, 1), (44, .iadd, 1), (45, .istore_n 2, 1), (46, .iinc 3 1, 3), (49, .goto (-45), 3), (52, .iload_n 2, 1), (53, .ireturn, 1)] = true := by decide +kernel
theorem cal_X12_weight : Cal yX12_weight cX12_weight 4 (some .int) 1 := ⟨ww_456, ww_429, ⟨by decide, by decide, by decide⟩, by decide⟩
set_option maxHeartbeats 4000000 in
set_option maxRecDepth 100000 in
theorem c_X12_weight (l : Launch) (G : Gx) (x1 : Int32) (σ : St) (r0 : Int32) (h : f_X12_weight x1 σ = some r0) : MI l G yX12_weight cX12_weight 4 (some .int) 2 [.ref (ga G 6), .int x1] σ (some (.int r0)) σ := by
  refine MI_of RX12 rfl (by decide) [(0, .ref (ga G 6)), (1, .int x1)] rfl (Nat.le_of_ble_eq_true rfl) ?_
  intro X hXl C hR
  unfold f_X12_weight at h
  have J_4 : ∀ (x2 : Int32) (x3 : Int32), f_X12_weight_4 x1 x2 x3 σ = some r0 → V X G 4 0 0 σ 4 [(0, .ref (ga G 6)), (1, .int x1), (2, .int x2), (3, .int x3)] [] := by
    intro x2 x3 h
    refine it_v (P := fun z : Int32 × Int32 => V X G 4 0 0 σ 4 [(0, .ref (ga G 6)), (1, .int x1), (2, .int z.1), (3, .int z.2)] []) ?_ (x2, x3) h
    clear h
    intro z w_4 h ih_4 ex_4
    obtain ⟨x2, x3⟩ := z
    have h : b_X12_weight_4 x1 x2 x3 σ = some w_4 := h
    show V X G 4 0 0 σ 4 [(0, .ref (ga G 6)), (1, .int x1), (2, .int x2), (3, .int x3)] []
    unfold b_X12_weight_4 at h
    have J_44 : ∀ (x3 : Int32) (s0 : Int32) (s1 : Int32), f_X12_weight_44 x1 x3 s0 s1 σ = some w_4 → V X G 4 0 0 σ 44 [(0, .ref (ga G 6)), (1, .int x1), (3, .int x3)] [.int s0, .int s1] := by
      intro x3 s0 s1 h
      unfold f_X12_weight_44 at h
      refine V_iadd C (dt_at dt_X12_weight_0 30 rfl) ?_
      refine V_istore_n C [1, 2, 0, 3] (lv' := [(0, .ref (ga G 6)), (1, .int x1), (2, .int (s1 + s0)), (3, .int x3)]) (dt_at dt_X12_weight_0 31 rfl) rfl (by decide) rfl ?_
      refine V_iinc C (x3 + 1) 3 [1, 2, 3, 0] (lv' := [(0, .ref (ga G 6)), (1, .int x1), (2, .int (s1 + s0)), (3, .int (x3 + 1))]) (dt_at dt_X12_weight_0 32 rfl) rfl (by rfl) (by decide) rfl ?_
      refine V_goto C 4 (dt_at dt_X12_weight_0 33 rfl) (by decide) ?_
      exact ih_4 ((s1 + s0), (x3 + 1)) (Option.some.inj h).symm
    refine V_iload_n C (dt_at dt_X12_weight_0 4 rfl) 3 rfl rfl ?_
    refine V_aload_n C (dt_at dt_X12_weight_0 5 rfl) 0 rfl rfl ?_
    refine g_X12_7_6 C (dt_at dt_X12_weight_0 6 rfl) ?_
    refine V_iconst C 2 (dt_at dt_X12_weight_0 7 rfl) (by decide) ?_
    obtain ⟨h1, h⟩ := chk_s h
    refine al_84 C h1 (dt_at dt_X12_weight_0 8 rfl) ?_
    refine V_icmp_ge C 52 (dt_at dt_X12_weight_0 9 rfl) (by decide) (fun q2 => ?_) (fun q2 => ?_)
    · have h := ite_f q2 h
      refine V_iload_n C (dt_at dt_X12_weight_0 34 rfl) 2 rfl rfl ?_
      have e_4 := ex_4 _ (Option.some.inj h).symm
      subst e_4
      exact V_iret C hR (dt_at dt_X12_weight_0 35 rfl)
    · have h := ite_t q2 h
      refine V_iload_n C (dt_at dt_X12_weight_0 10 rfl) 2 rfl rfl ?_
      refine V_aload_n C (dt_at dt_X12_weight_0 11 rfl) 0 rfl rfl ?_
      refine V_iload_n C (dt_at dt_X12_weight_0 12 rfl) 3 rfl rfl ?_
      refine V_iconst C 0 (dt_at dt_X12_weight_0 13 rfl) (by decide) ?_
      obtain ⟨r3, e4, h⟩ := bd_s h
      refine cv_X12_entryOf C ww_455 x3 0 e4 (Nat.le_of_ble_eq_true rfl) (Nat.le_of_ble_eq_true rfl) z0 (dt_at dt_X12_weight_0 14 rfl) ?_
      refine V_iload_n C (dt_at dt_X12_weight_0 15 rfl) 1 rfl rfl ?_
      refine V_icmp_ne C 43 (dt_at dt_X12_weight_0 16 rfl) (by decide) (fun q6 => ?_) (fun q6 => ?_)
      · have h := ite_f q6 h
        refine V_iconst C 0 (dt_at dt_X12_weight_0 29 rfl) (by decide) ?_
        refine V_sub [0, 1, 3] (lv' := [(0, .ref (ga G 6)), (1, .int x1), (3, .int x3)]) rfl ?_
        exact J_44 x3 0 x2 h
      · have h := ite_t q6 h
        refine V_aload_n C (dt_at dt_X12_weight_0 17 rfl) 0 rfl rfl ?_
        refine V_iload_n C (dt_at dt_X12_weight_0 18 rfl) 3 rfl rfl ?_
        refine V_iconst C 2 (dt_at dt_X12_weight_0 19 rfl) (by decide) ?_
        obtain ⟨r7, e8, h⟩ := bd_s h
        refine cv_X12_entryOf C ww_455 x3 2 e8 (Nat.le_of_ble_eq_true rfl) (Nat.le_of_ble_eq_true rfl) z0 (dt_at dt_X12_weight_0 20 rfl) ?_
        refine V_aload_n C (dt_at dt_X12_weight_0 21 rfl) 0 rfl rfl ?_
        refine V_iload_n C (dt_at dt_X12_weight_0 22 rfl) 3 rfl rfl ?_
        refine V_iconst C 1 (dt_at dt_X12_weight_0 23 rfl) (by decide) ?_
        obtain ⟨r10, e11, h⟩ := bd_s h
        refine cv_X12_entryOf C ww_455 x3 1 e11 (Nat.le_of_ble_eq_true rfl) (Nat.le_of_ble_eq_true rfl) z0 (dt_at dt_X12_weight_0 24 rfl) ?_
        refine V_isub C (dt_at dt_X12_weight_0 25 rfl) ?_
        refine V_iconst C 1 (dt_at dt_X12_weight_0 26 rfl) (by decide) ?_
        refine V_iadd C (dt_at dt_X12_weight_0 27 rfl) ?_
        refine V_goto C 44 (dt_at dt_X12_weight_0 28 rfl) (by decide) ?_
        refine V_sub [0, 1, 3] (lv' := [(0, .ref (ga G 6)), (1, .int x1), (3, .int x3)]) rfl ?_
        exact J_44 x3 ((r7 - r10) + 1) x2 h
  refine V_iconst C 0 (dt_at dt_X12_weight_0 0 rfl) (by decide) ?_
  refine V_istore_n C [1, 2, 0] (lv' := [(0, .ref (ga G 6)), (1, .int x1), (2, .int 0)]) (dt_at dt_X12_weight_0 1 rfl) rfl (by decide) rfl ?_
  refine V_iconst C 0 (dt_at dt_X12_weight_0 2 rfl) (by decide) ?_
  refine V_istore_n C [1, 2, 3, 0] (lv' := [(0, .ref (ga G 6)), (1, .int x1), (2, .int 0), (3, .int 0)]) (dt_at dt_X12_weight_0 3 rfl) rfl (by decide) rfl ?_
  exact J_4 0 0 h
theorem cv_X12_weight (C : Ck X G cc own nL d) {idx : Nat} (hlk : Cond.methodLink own idx yX12_weight ∈ gtb) (x1 : Int32) {r0 : Int32} (e : f_X12_weight x1 σ = some r0) (hdd : 3 ≤ d) (hroom : (rest.map fun v => v.category).sum ≤ 8) (hcs : cells ≤ (xR X).cells ∧ slots ≤ (xR X).slots) (hd : decode cc pc = .ok (.invokevirtual idx, 3)) (k : V X G nL cells slots σ (pc + 3) lv (.int r0 :: rest)) : V X G nL cells slots σ pc lv (.int x1 :: .ref (ga G 6) :: rest) := V_callV C (As := [.int x1]) (c_X12_weight X.2.1 G x1 σ r0 e) cal_X12_weight ww_457 ww_458 hlk rfl hdd (lt110 rfl) rfl rfl rfl hroom hcs hd k
theorem dt_X12_as_0 : dtab cX12_as [(0, .aload_n 0, 1), (1, .iload_n 1, 1), (2, .invokevirtual 110, 3), (5, .ifCond .eq 12, 3), (8, .iload_n 2, 1), (9, .iconst 0, 1), (10, .iconst 5, 1), (11, .invokestatic 91, 3), (14, .ifCond .ne 9, 3), (17, .aload_n 0, 1), (18, .iconst 1, 1), (19, .invokevirtual 95, 3), (22, .ireturn, 1), (23, .aload_n 0, 1), (24, .iload_n 1, 1), (25, .iconst 0, 1), (26, .invokevirtual 114, 3), (29, .iload_n 2, 1), (30, .invokestatic 117, 3), (33, .ifCond .eq 11, 3), (36, .aload_n 0, 1), (37, .iload_n 1, 1), (38, .invokevirtual 121, 3), (41, .goto 8, 3), (44, .aload_n 0, 1), (45, .iconst 5, 1), (46, .invokevirtual 95, 3), (49, .ireturn, 1)] = true := by decide +kernel
theorem cal_X12_as : Cal yX12_as cX12_as 3 (some .int) 2 := ⟨ww_464, ww_429, ⟨by decide, by decide, by decide⟩, by decide⟩
set_option maxHeartbeats 4000000 in
set_option maxRecDepth 100000 in
theorem c_X12_as (l : Launch) (G : Gx) (x1 : Int32) (x2 : Int32) (σ : St) (r0 : Int32) (σ0 : St) (h : f_X12_as x1 x2 σ = some (r0, σ0)) : MI l G yX12_as cX12_as 3 (some .int) 3 [.ref (ga G 6), .int x1, .int x2] σ (some (.int r0)) σ0 := by
  refine MI_of RX12 rfl (by decide) [(0, .ref (ga G 6)), (1, .int x1), (2, .int x2)] rfl (Nat.le_of_ble_eq_true rfl) ?_
  intro X hXl C hR
  unfold f_X12_as at h
  have J_17 : ∀ (σ : St), f_X12_as_17 σ = some (r0, σ0) → V X G 3 0 0 σ 17 [(0, .ref (ga G 6))] [] := by
    intro σ h
    unfold f_X12_as_17 at h
    refine V_aload_n C (dt_at dt_X12_as_0 9 rfl) 0 rfl rfl ?_
    refine V_iconst C 1 (dt_at dt_X12_as_0 10 rfl) (by decide) ?_
    obtain ⟨r22, σ24, e23, h⟩ := bd2_s h
    refine cv_X12_finds C ww_462 1 e23 (Nat.le_of_ble_eq_true rfl) (Nat.le_of_ble_eq_true rfl) z0 (dt_at dt_X12_as_0 11 rfl) ?_
    obtain ⟨e1_, e2_⟩ := pin2 h
    subst e1_; subst e2_
    exact V_iret C hR (dt_at dt_X12_as_0 12 rfl)
  refine V_aload_n C (dt_at dt_X12_as_0 0 rfl) 0 rfl rfl ?_
  refine V_iload_n C (dt_at dt_X12_as_0 1 rfl) 1 rfl rfl ?_
  obtain ⟨r1, e2, h⟩ := bd_s h
  refine cv_X12_isPart C ww_459 x1 e2 (Nat.le_of_ble_eq_true rfl) (Nat.le_of_ble_eq_true rfl) z0 (dt_at dt_X12_as_0 2 rfl) ?_
  refine V_if_eq C 17 (dt_at dt_X12_as_0 3 rfl) (by decide) (fun q4 => ?_) (fun q4 => ?_)
  · have h := ite_t q4 h
    refine V_sub [0] (lv' := [(0, .ref (ga G 6))]) rfl ?_
    exact J_17 σ h
  · have h := ite_f q4 h
    refine V_iload_n C (dt_at dt_X12_as_0 4 rfl) 2 rfl rfl ?_
    refine V_iconst C 0 (dt_at dt_X12_as_0 5 rfl) (by decide) ?_
    refine V_iconst C 5 (dt_at dt_X12_as_0 6 rfl) (by decide) ?_
    obtain ⟨r5, e6, h⟩ := bd_s h
    refine cv_X12_in C ww_437 x2 0 5 e6 (Nat.le_of_ble_eq_true rfl) (Nat.le_of_ble_eq_true rfl) z0 (dt_at dt_X12_as_0 7 rfl) ?_
    refine V_if_ne C 23 (dt_at dt_X12_as_0 8 rfl) (by decide) (fun q8 => ?_) (fun q8 => ?_)
    · have h := ite_f q8 h
      refine V_aload_n C (dt_at dt_X12_as_0 13 rfl) 0 rfl rfl ?_
      refine V_iload_n C (dt_at dt_X12_as_0 14 rfl) 1 rfl rfl ?_
      refine V_iconst C 0 (dt_at dt_X12_as_0 15 rfl) (by decide) ?_
      obtain ⟨r9, e10, h⟩ := bd_s h
      refine cv_X12_its C ww_460 x1 0 e10 (Nat.le_of_ble_eq_true rfl) (Nat.le_of_ble_eq_true rfl) z0 (dt_at dt_X12_as_0 16 rfl) ?_
      refine V_iload_n C (dt_at dt_X12_as_0 17 rfl) 2 rfl rfl ?_
      obtain ⟨r12, e13, h⟩ := bd_s h
      refine cv_X12_isUnder C ww_461 r9 x2 e13 (Nat.le_of_ble_eq_true rfl) (Nat.le_of_ble_eq_true rfl) z0 (dt_at dt_X12_as_0 18 rfl) ?_
      refine V_if_eq C 44 (dt_at dt_X12_as_0 19 rfl) (by decide) (fun q15 => ?_) (fun q15 => ?_)
      · have h := ite_t q15 h
        refine V_aload_n C (dt_at dt_X12_as_0 24 rfl) 0 rfl rfl ?_
        refine V_iconst C 5 (dt_at dt_X12_as_0 25 rfl) (by decide) ?_
        obtain ⟨r16, σ18, e17, h⟩ := bd2_s h
        refine cv_X12_finds C ww_462 5 e17 (Nat.le_of_ble_eq_true rfl) (Nat.le_of_ble_eq_true rfl) z0 (dt_at dt_X12_as_0 26 rfl) ?_
        obtain ⟨e1_, e2_⟩ := pin2 h
        subst e1_; subst e2_
        exact V_iret C hR (dt_at dt_X12_as_0 27 rfl)
      · have h := ite_f q15 h
        refine V_aload_n C (dt_at dt_X12_as_0 20 rfl) 0 rfl rfl ?_
        refine V_iload_n C (dt_at dt_X12_as_0 21 rfl) 1 rfl rfl ?_
        obtain ⟨r19, e20, h⟩ := bd_s h
        refine cv_X12_weight C ww_463 x1 e20 (Nat.le_of_ble_eq_true rfl) (Nat.le_of_ble_eq_true rfl) z0 (dt_at dt_X12_as_0 22 rfl) ?_
        refine V_goto C 49 (dt_at dt_X12_as_0 23 rfl) (by decide) ?_
        obtain ⟨e1_, e2_⟩ := pin2 h
        subst e1_; subst e2_
        exact V_iret C hR (dt_at dt_X12_as_0 27 rfl)
    · have h := ite_t q8 h
      refine V_sub [0] (lv' := [(0, .ref (ga G 6))]) rfl ?_
      exact J_17 σ h
theorem cv_X12_as (C : Ck X G cc own nL d) {idx : Nat} (hlk : Cond.methodLink own idx yX12_as ∈ gtb) (x1 : Int32) (x2 : Int32) {r0 : Int32} {σ0 : St} (e : f_X12_as x1 x2 σ = some (r0, σ0)) (hdd : 4 ≤ d) (hroom : (rest.map fun v => v.category).sum ≤ 8) (hcs : cells ≤ (xR X).cells ∧ slots ≤ (xR X).slots) (hd : decode cc pc = .ok (.invokevirtual idx, 3)) (k : V X G nL cells slots σ0 (pc + 3) lv (.int r0 :: rest)) : V X G nL cells slots σ pc lv (.int x2 :: .int x1 :: .ref (ga G 6) :: rest) := V_callV C (As := [.int x1, .int x2]) (c_X12_as X.2.1 G x1 x2 σ r0 σ0 e) cal_X12_as ww_465 ww_466 hlk rfl hdd (lt110 rfl) rfl rfl rfl hroom hcs hd k
theorem dt_X12_meetAt_0 : dtab cX12_meetAt [(0, .iconst (-1), 1), (1, .istore_n 3, 1), (2, .iconst 0, 1), (3, .istore 4, 2), (5, .iload 4, 2), (7, .aload_n 0, 1), (8, .getfield 7, 3), (11, .iconst 2, 1), (12, .iaload, 1), (13, .if_icmp .ge 143, 3), (16, .iconst 0, 1), (17, .istore 5, 2), (19, .iload 5, 2), (21, .aload_n 0, 1), (22, .getfield 7, 3), (25, .iconst 2, 1), (26, .iaload, 1), (27, .if_icmp .ge 123, 3), (30, .aload_n 0, 1), (31, .iload 4, 2), (33, .iconst 0, 1), (34, .invokevirtual 99, 3), (37, .iload_n 1, 1), (38, .if_icmp .ne 106, 3), (41, .aload_n 0, 1), (42, .iload 5, 2), (44, .iconst 0, 1), (45, .invokevirtual 99, 3), (48, .iload_n 2, 1), (49, .if_icmp .eq 6, 3), (52, .goto 92, 3), (55, .aload_n 0, 1), (56, .iload 4, 2), (58, .iconst 1, 1), (59, .invokevirtual 99, 3), (62, .aload_n 0, 1), (63, .iload 5, 2), (65, .iconst 1, 1), (66, .invokevirtual 99, 3), (69, .if_icmp .le 13, 3)] = true := by decide +kernel
theorem dt_X12_meetAt_1 : dtab cX12_meetAt [(72, .aload_n 0, 1), (73, .iload 4, 2), (75, .iconst 1, 1), (76, .invokevirtual 99, 3), (79, .goto 10, 3), (82, .aload_n 0, 1), (83, .iload 5, 2), (85, .iconst 1, 1), (86, .invokevirtual 99, 3), (89, .istore 6, 2), (91, .iload 6, 2), (93, .aload_n 0, 1), (94, .iload 4, 2), (96, .iconst 2, 1), (97, .invokevirtual 99, 3), (100, .if_icmp .gt 19, 3), (103, .iload 6, 2), (105, .aload_n 0, 1), (106, .iload 5, 2), (108, .iconst 2, 1), (109, .invokevirtual 99, 3), (112, .if_icmp .gt 7, 3), (115, .iconst 1, 1), (116, .goto 4, 3), (119, .iconst 0, 1), (120, .istore 7, 2), (122, .iload 7, 2), (124, .ifCond .eq 18, 3), (127, .iload_n 3, 1), (128, .ifCond .lt 9, 3), (131, .iload 6, 2), (133, .iload_n 3, 1), (134, .if_icmp .ge 8, 3), (137, .iload 6, 2), (139, .goto 4, 3), (142, .iload_n 3, 1), (143, .istore_n 3, 1), (144, .iinc 5 1, 3), (147, .goto (-128), 3), (150, .iinc 4 1, 3)] = true := by decide +kernel
theorem dt_X12_meetAt_2 : dtab cX12_meetAt [(153, .goto (-148), 3), (156, .iload_n 3, 1), (157, .ireturn, 1)] = true := by decide +kernel
theorem cal_X12_meetAt : Cal yX12_meetAt cX12_meetAt 8 (some .int) 2 := ⟨ww_467, ww_429, ⟨by decide, by decide, by decide⟩, by decide⟩
set_option maxHeartbeats 4000000 in
set_option maxRecDepth 100000 in
theorem c_X12_meetAt (l : Launch) (G : Gx) (x1 : Int32) (x2 : Int32) (σ : St) (r0 : Int32) (h : f_X12_meetAt x1 x2 σ = some r0) : MI l G yX12_meetAt cX12_meetAt 8 (some .int) 2 [.ref (ga G 6), .int x1, .int x2] σ (some (.int r0)) σ := by
  refine MI_of RX12 rfl (by decide) [(0, .ref (ga G 6)), (1, .int x1), (2, .int x2)] rfl (Nat.le_of_ble_eq_true rfl) ?_
  intro X hXl C hR
  unfold f_X12_meetAt at h
  have J_5 : ∀ (x3 : Int32) (x4 : Int32), f_X12_meetAt_5 x1 x2 x3 x4 σ = some r0 → V X G 8 0 0 σ 5 [(0, .ref (ga G 6)), (1, .int x1), (2, .int x2), (3, .int x3), (4, .int x4)] [] := by
    intro x3 x4 h
    refine it_v (P := fun z : Int32 × Int32 => V X G 8 0 0 σ 5 [(0, .ref (ga G 6)), (1, .int x1), (2, .int x2), (3, .int z.1), (4, .int z.2)] []) ?_ (x3, x4) h
    clear h
    intro z w_5 h ih_5 ex_5
    obtain ⟨x3, x4⟩ := z
    have h : b_X12_meetAt_5 x1 x2 x3 x4 σ = some w_5 := h
    show V X G 8 0 0 σ 5 [(0, .ref (ga G 6)), (1, .int x1), (2, .int x2), (3, .int x3), (4, .int x4)] []
    unfold b_X12_meetAt_5 at h
    have J_150 : ∀ (x3 : Int32) (x4 : Int32), f_X12_meetAt_150 x1 x2 x3 x4 σ = some w_5 → V X G 8 0 0 σ 150 [(0, .ref (ga G 6)), (1, .int x1), (2, .int x2), (3, .int x3), (4, .int x4)] [] := by
      intro x3 x4 h
      unfold f_X12_meetAt_150 at h
      refine V_iinc C (x4 + 1) 4 [1, 2, 3, 4, 0] (lv' := [(0, .ref (ga G 6)), (1, .int x1), (2, .int x2), (3, .int x3), (4, .int (x4 + 1))]) (dt_at dt_X12_meetAt_1 39 rfl) rfl (by rfl) (by decide) rfl ?_
      refine V_goto C 5 (dt_at dt_X12_meetAt_2 0 rfl) (by decide) ?_
      exact ih_5 (x3, (x4 + 1)) (Option.some.inj h).symm
    have J_19 : ∀ (x3 : Int32) (x4 : Int32) (x5 : Int32), f_X12_meetAt_19 x1 x2 x3 x4 x5 σ = some w_5 → V X G 8 0 0 σ 19 [(0, .ref (ga G 6)), (1, .int x1), (2, .int x2), (3, .int x3), (4, .int x4), (5, .int x5)] [] := by
      intro x3 x4 x5 h
      refine it_v (P := fun z : Int32 × Int32 => V X G 8 0 0 σ 19 [(0, .ref (ga G 6)), (1, .int x1), (2, .int x2), (3, .int z.1), (4, .int x4), (5, .int z.2)] []) ?_ (x3, x5) h
      clear h
      intro z w_19 h ih_19 ex_19
      obtain ⟨x3, x5⟩ := z
      have h : b_X12_meetAt_19 x1 x2 x3 x4 x5 σ = some w_19 := h
      show V X G 8 0 0 σ 19 [(0, .ref (ga G 6)), (1, .int x1), (2, .int x2), (3, .int x3), (4, .int x4), (5, .int x5)] []
      unfold b_X12_meetAt_19 at h
      have J_144 : ∀ (x3 : Int32) (x5 : Int32), f_X12_meetAt_144 x1 x2 x3 x4 x5 σ = some w_19 → V X G 8 0 0 σ 144 [(0, .ref (ga G 6)), (1, .int x1), (2, .int x2), (3, .int x3), (4, .int x4), (5, .int x5)] [] := by
        intro x3 x5 h
        unfold f_X12_meetAt_144 at h
        refine V_iinc C (x5 + 1) 5 [1, 2, 3, 4, 5, 0] (lv' := [(0, .ref (ga G 6)), (1, .int x1), (2, .int x2), (3, .int x3), (4, .int x4), (5, .int (x5 + 1))]) (dt_at dt_X12_meetAt_1 37 rfl) rfl (by rfl) (by decide) rfl ?_
        refine V_goto C 19 (dt_at dt_X12_meetAt_1 38 rfl) (by decide) ?_
        exact ih_19 (x3, (x5 + 1)) (Option.some.inj h).symm
      have J_143 : ∀ (x5 : Int32) (s0 : Int32), f_X12_meetAt_143 x1 x2 x4 x5 s0 σ = some w_19 → V X G 8 0 0 σ 143 [(0, .ref (ga G 6)), (1, .int x1), (2, .int x2), (4, .int x4), (5, .int x5)] [.int s0] := by
        intro x5 s0 h
        unfold f_X12_meetAt_143 at h
        refine V_istore_n C [1, 2, 3, 0, 4, 5] (lv' := [(0, .ref (ga G 6)), (1, .int x1), (2, .int x2), (3, .int s0), (4, .int x4), (5, .int x5)]) (dt_at dt_X12_meetAt_1 36 rfl) rfl (by decide) rfl ?_
        exact J_144 s0 x5 h
      have J_142 : ∀ (x3 : Int32) (x5 : Int32), f_X12_meetAt_142 x1 x2 x3 x4 x5 σ = some w_19 → V X G 8 0 0 σ 142 [(0, .ref (ga G 6)), (1, .int x1), (2, .int x2), (3, .int x3), (4, .int x4), (5, .int x5)] [] := by
        intro x3 x5 h
        unfold f_X12_meetAt_142 at h
        refine V_iload_n C (dt_at dt_X12_meetAt_1 35 rfl) 3 rfl rfl ?_
        refine V_sub [0, 1, 2, 4, 5] (lv' := [(0, .ref (ga G 6)), (1, .int x1), (2, .int x2), (4, .int x4), (5, .int x5)]) rfl ?_
        exact J_143 x5 x3 h
      have J_137 : ∀ (x5 : Int32) (x6 : Int32), f_X12_meetAt_137 x1 x2 x4 x5 x6 σ = some w_19 → V X G 8 0 0 σ 137 [(0, .ref (ga G 6)), (1, .int x1), (2, .int x2), (4, .int x4), (5, .int x5), (6, .int x6)] [] := by
        intro x5 x6 h
        unfold f_X12_meetAt_137 at h
        refine V_iload C (dt_at dt_X12_meetAt_1 33 rfl) 5 rfl ?_
        refine V_goto C 143 (dt_at dt_X12_meetAt_1 34 rfl) (by decide) ?_
        refine V_sub [0, 1, 2, 3, 4] (lv' := [(0, .ref (ga G 6)), (1, .int x1), (2, .int x2), (4, .int x4), (5, .int x5)]) rfl ?_
        exact J_143 x5 x6 h
      have J_120 : ∀ (x3 : Int32) (x5 : Int32) (x6 : Int32) (s0 : Int32), f_X12_meetAt_120 x1 x2 x3 x4 x5 x6 s0 σ = some w_19 → V X G 8 0 0 σ 120 [(0, .ref (ga G 6)), (1, .int x1), (2, .int x2), (3, .int x3), (4, .int x4), (5, .int x5), (6, .int x6)] [.int s0] := by
        intro x3 x5 x6 s0 h
        unfold f_X12_meetAt_120 at h
        refine V_istore C [1, 2, 3, 4, 5, 6, 7, 0] (lv' := [(0, .ref (ga G 6)), (1, .int x1), (2, .int x2), (3, .int x3), (4, .int x4), (5, .int x5), (6, .int x6), (7, .int s0)]) (dt_at dt_X12_meetAt_1 25 rfl) (by decide) rfl ?_
        refine V_iload C (dt_at dt_X12_meetAt_1 26 rfl) 7 rfl ?_
        refine V_if_eq C 142 (dt_at dt_X12_meetAt_1 27 rfl) (by decide) (fun q35 => ?_) (fun q35 => ?_)
        · have h := ite_t q35 h
          refine V_sub [0, 1, 2, 3, 4, 5] (lv' := [(0, .ref (ga G 6)), (1, .int x1), (2, .int x2), (3, .int x3), (4, .int x4), (5, .int x5)]) rfl ?_
          exact J_142 x3 x5 h
        · have h := ite_f q35 h
          refine V_iload_n C (dt_at dt_X12_meetAt_1 28 rfl) 3 rfl rfl ?_
          refine V_if_lt C 137 (dt_at dt_X12_meetAt_1 29 rfl) (by decide) (fun q36 => ?_) (fun q36 => ?_)
          · have h := ite_t q36 h
            refine V_sub [0, 1, 2, 4, 5, 6] (lv' := [(0, .ref (ga G 6)), (1, .int x1), (2, .int x2), (4, .int x4), (5, .int x5), (6, .int x6)]) rfl ?_
            exact J_137 x5 x6 h
          · have h := ite_f q36 h
            refine V_iload C (dt_at dt_X12_meetAt_1 30 rfl) 6 rfl ?_
            refine V_iload_n C (dt_at dt_X12_meetAt_1 31 rfl) 3 rfl rfl ?_
            refine V_icmp_ge C 142 (dt_at dt_X12_meetAt_1 32 rfl) (by decide) (fun q37 => ?_) (fun q37 => ?_)
            · have h := ite_f q37 h
              refine V_sub [0, 1, 2, 3, 4, 5] (lv' := [(0, .ref (ga G 6)), (1, .int x1), (2, .int x2), (3, .int x3), (4, .int x4), (5, .int x5)]) rfl ?_
              exact J_142 x3 x5 h
            · have h := ite_t q37 h
              refine V_sub [0, 1, 2, 4, 5, 6] (lv' := [(0, .ref (ga G 6)), (1, .int x1), (2, .int x2), (4, .int x4), (5, .int x5), (6, .int x6)]) rfl ?_
              exact J_137 x5 x6 h
      have J_119 : ∀ (x3 : Int32) (x5 : Int32) (x6 : Int32), f_X12_meetAt_119 x1 x2 x3 x4 x5 x6 σ = some w_19 → V X G 8 0 0 σ 119 [(0, .ref (ga G 6)), (1, .int x1), (2, .int x2), (3, .int x3), (4, .int x4), (5, .int x5), (6, .int x6)] [] := by
        intro x3 x5 x6 h
        unfold f_X12_meetAt_119 at h
        refine V_iconst C 0 (dt_at dt_X12_meetAt_1 24 rfl) (by decide) ?_
        exact J_120 x3 x5 x6 0 h
      have J_89 : ∀ (x3 : Int32) (x5 : Int32) (s0 : Int32), f_X12_meetAt_89 x1 x2 x3 x4 x5 s0 σ = some w_19 → V X G 8 0 0 σ 89 [(0, .ref (ga G 6)), (1, .int x1), (2, .int x2), (3, .int x3), (4, .int x4), (5, .int x5)] [.int s0] := by
        intro x3 x5 s0 h
        unfold f_X12_meetAt_89 at h
        refine V_istore C [1, 2, 3, 4, 5, 6, 0] (lv' := [(0, .ref (ga G 6)), (1, .int x1), (2, .int x2), (3, .int x3), (4, .int x4), (5, .int x5), (6, .int s0)]) (dt_at dt_X12_meetAt_1 9 rfl) (by decide) rfl ?_
        refine V_iload C (dt_at dt_X12_meetAt_1 10 rfl) 6 rfl ?_
        refine V_aload_n C (dt_at dt_X12_meetAt_1 11 rfl) 0 rfl rfl ?_
        refine V_iload C (dt_at dt_X12_meetAt_1 12 rfl) 4 rfl ?_
        refine V_iconst C 2 (dt_at dt_X12_meetAt_1 13 rfl) (by decide) ?_
        obtain ⟨r27, e28, h⟩ := bd_s h
        refine cv_X12_entryOf C ww_455 x4 2 e28 (Nat.le_of_ble_eq_true rfl) (Nat.le_of_ble_eq_true rfl) z0 (dt_at dt_X12_meetAt_1 14 rfl) ?_
        refine V_icmp_gt C 119 (dt_at dt_X12_meetAt_1 15 rfl) (by decide) (fun q30 => ?_) (fun q30 => ?_)
        · have h := ite_t q30 h
          exact J_119 x3 x5 s0 h
        · have h := ite_f q30 h
          refine V_iload C (dt_at dt_X12_meetAt_1 16 rfl) 6 rfl ?_
          refine V_aload_n C (dt_at dt_X12_meetAt_1 17 rfl) 0 rfl rfl ?_
          refine V_iload C (dt_at dt_X12_meetAt_1 18 rfl) 5 rfl ?_
          refine V_iconst C 2 (dt_at dt_X12_meetAt_1 19 rfl) (by decide) ?_
          obtain ⟨r31, e32, h⟩ := bd_s h
          refine cv_X12_entryOf C ww_455 x5 2 e32 (Nat.le_of_ble_eq_true rfl) (Nat.le_of_ble_eq_true rfl) z0 (dt_at dt_X12_meetAt_1 20 rfl) ?_
          refine V_icmp_gt C 119 (dt_at dt_X12_meetAt_1 21 rfl) (by decide) (fun q34 => ?_) (fun q34 => ?_)
          · have h := ite_t q34 h
            exact J_119 x3 x5 s0 h
          · have h := ite_f q34 h
            refine V_iconst C 1 (dt_at dt_X12_meetAt_1 22 rfl) (by decide) ?_
            refine V_goto C 120 (dt_at dt_X12_meetAt_1 23 rfl) (by decide) ?_
            exact J_120 x3 x5 s0 1 h
      refine V_iload C (dt_at dt_X12_meetAt_0 12 rfl) 5 rfl ?_
      refine V_aload_n C (dt_at dt_X12_meetAt_0 13 rfl) 0 rfl rfl ?_
      refine g_X12_7_6 C (dt_at dt_X12_meetAt_0 14 rfl) ?_
      refine V_iconst C 2 (dt_at dt_X12_meetAt_0 15 rfl) (by decide) ?_
      obtain ⟨h3, h⟩ := chk_s h
      refine al_84 C h3 (dt_at dt_X12_meetAt_0 16 rfl) ?_
      refine V_icmp_ge C 150 (dt_at dt_X12_meetAt_0 17 rfl) (by decide) (fun q4 => ?_) (fun q4 => ?_)
      · have h := ite_f q4 h
        refine V_sub [0, 1, 2, 3, 4] (lv' := [(0, .ref (ga G 6)), (1, .int x1), (2, .int x2), (3, .int x3), (4, .int x4)]) rfl ?_
        obtain ⟨t5, h, e_19⟩ := map_s h
        have e_19 := ex_19 _ e_19
        rw [e_19] at h
        exact J_150 x3 x4 h
      · have h := ite_t q4 h
        refine V_aload_n C (dt_at dt_X12_meetAt_0 18 rfl) 0 rfl rfl ?_
        refine V_iload C (dt_at dt_X12_meetAt_0 19 rfl) 4 rfl ?_
        refine V_iconst C 0 (dt_at dt_X12_meetAt_0 20 rfl) (by decide) ?_
        obtain ⟨r6, e7, h⟩ := bd_s h
        refine cv_X12_entryOf C ww_455 x4 0 e7 (Nat.le_of_ble_eq_true rfl) (Nat.le_of_ble_eq_true rfl) z0 (dt_at dt_X12_meetAt_0 21 rfl) ?_
        refine V_iload_n C (dt_at dt_X12_meetAt_0 22 rfl) 1 rfl rfl ?_
        refine V_icmp_ne C 144 (dt_at dt_X12_meetAt_0 23 rfl) (by decide) (fun q9 => ?_) (fun q9 => ?_)
        · have h := ite_f q9 h
          exact J_144 x3 x5 h
        · have h := ite_t q9 h
          refine V_aload_n C (dt_at dt_X12_meetAt_0 24 rfl) 0 rfl rfl ?_
          refine V_iload C (dt_at dt_X12_meetAt_0 25 rfl) 5 rfl ?_
          refine V_iconst C 0 (dt_at dt_X12_meetAt_0 26 rfl) (by decide) ?_
          obtain ⟨r10, e11, h⟩ := bd_s h
          refine cv_X12_entryOf C ww_455 x5 0 e11 (Nat.le_of_ble_eq_true rfl) (Nat.le_of_ble_eq_true rfl) z0 (dt_at dt_X12_meetAt_0 27 rfl) ?_
          refine V_iload_n C (dt_at dt_X12_meetAt_0 28 rfl) 2 rfl rfl ?_
          refine V_icmp_eq C 55 (dt_at dt_X12_meetAt_0 29 rfl) (by decide) (fun q13 => ?_) (fun q13 => ?_)
          · have h := ite_t q13 h
            refine V_aload_n C (dt_at dt_X12_meetAt_0 31 rfl) 0 rfl rfl ?_
            refine V_iload C (dt_at dt_X12_meetAt_0 32 rfl) 4 rfl ?_
            refine V_iconst C 1 (dt_at dt_X12_meetAt_0 33 rfl) (by decide) ?_
            obtain ⟨r14, e15, h⟩ := bd_s h
            refine cv_X12_entryOf C ww_455 x4 1 e15 (Nat.le_of_ble_eq_true rfl) (Nat.le_of_ble_eq_true rfl) z0 (dt_at dt_X12_meetAt_0 34 rfl) ?_
            refine V_aload_n C (dt_at dt_X12_meetAt_0 35 rfl) 0 rfl rfl ?_
            refine V_iload C (dt_at dt_X12_meetAt_0 36 rfl) 5 rfl ?_
            refine V_iconst C 1 (dt_at dt_X12_meetAt_0 37 rfl) (by decide) ?_
            obtain ⟨r17, e18, h⟩ := bd_s h
            refine cv_X12_entryOf C ww_455 x5 1 e18 (Nat.le_of_ble_eq_true rfl) (Nat.le_of_ble_eq_true rfl) z0 (dt_at dt_X12_meetAt_0 38 rfl) ?_
            refine V_icmp_le C 82 (dt_at dt_X12_meetAt_0 39 rfl) (by decide) (fun q20 => ?_) (fun q20 => ?_)
            · have h := ite_f q20 h
              refine V_aload_n C (dt_at dt_X12_meetAt_1 5 rfl) 0 rfl rfl ?_
              refine V_iload C (dt_at dt_X12_meetAt_1 6 rfl) 5 rfl ?_
              refine V_iconst C 1 (dt_at dt_X12_meetAt_1 7 rfl) (by decide) ?_
              obtain ⟨r21, e22, h⟩ := bd_s h
              refine cv_X12_entryOf C ww_455 x5 1 e22 (Nat.le_of_ble_eq_true rfl) (Nat.le_of_ble_eq_true rfl) z0 (dt_at dt_X12_meetAt_1 8 rfl) ?_
              exact J_89 x3 x5 r21 h
            · have h := ite_t q20 h
              refine V_aload_n C (dt_at dt_X12_meetAt_1 0 rfl) 0 rfl rfl ?_
              refine V_iload C (dt_at dt_X12_meetAt_1 1 rfl) 4 rfl ?_
              refine V_iconst C 1 (dt_at dt_X12_meetAt_1 2 rfl) (by decide) ?_
              obtain ⟨r24, e25, h⟩ := bd_s h
              refine cv_X12_entryOf C ww_455 x4 1 e25 (Nat.le_of_ble_eq_true rfl) (Nat.le_of_ble_eq_true rfl) z0 (dt_at dt_X12_meetAt_1 3 rfl) ?_
              refine V_goto C 89 (dt_at dt_X12_meetAt_1 4 rfl) (by decide) ?_
              exact J_89 x3 x5 r24 h
          · have h := ite_f q13 h
            refine V_goto C 144 (dt_at dt_X12_meetAt_0 30 rfl) (by decide) ?_
            exact J_144 x3 x5 h
    refine V_iload C (dt_at dt_X12_meetAt_0 4 rfl) 4 rfl ?_
    refine V_aload_n C (dt_at dt_X12_meetAt_0 5 rfl) 0 rfl rfl ?_
    refine g_X12_7_6 C (dt_at dt_X12_meetAt_0 6 rfl) ?_
    refine V_iconst C 2 (dt_at dt_X12_meetAt_0 7 rfl) (by decide) ?_
    obtain ⟨h1, h⟩ := chk_s h
    refine al_84 C h1 (dt_at dt_X12_meetAt_0 8 rfl) ?_
    refine V_icmp_ge C 156 (dt_at dt_X12_meetAt_0 9 rfl) (by decide) (fun q2 => ?_) (fun q2 => ?_)
    · have h := ite_f q2 h
      refine V_iload_n C (dt_at dt_X12_meetAt_2 1 rfl) 3 rfl rfl ?_
      have e_5 := ex_5 _ (Option.some.inj h).symm
      subst e_5
      exact V_iret C hR (dt_at dt_X12_meetAt_2 2 rfl)
    · have h := ite_t q2 h
      refine V_iconst C 0 (dt_at dt_X12_meetAt_0 10 rfl) (by decide) ?_
      refine V_istore C [1, 2, 3, 4, 5, 0] (lv' := [(0, .ref (ga G 6)), (1, .int x1), (2, .int x2), (3, .int x3), (4, .int x4), (5, .int 0)]) (dt_at dt_X12_meetAt_0 11 rfl) (by decide) rfl ?_
      exact J_19 x3 x4 0 h
  refine V_iconst C (-1) (dt_at dt_X12_meetAt_0 0 rfl) (by decide) ?_
  refine V_istore_n C [1, 2, 3, 0] (lv' := [(0, .ref (ga G 6)), (1, .int x1), (2, .int x2), (3, .int (-1))]) (dt_at dt_X12_meetAt_0 1 rfl) rfl (by decide) rfl ?_
  refine V_iconst C 0 (dt_at dt_X12_meetAt_0 2 rfl) (by decide) ?_
  refine V_istore C [1, 2, 3, 4, 0] (lv' := [(0, .ref (ga G 6)), (1, .int x1), (2, .int x2), (3, .int (-1)), (4, .int 0)]) (dt_at dt_X12_meetAt_0 3 rfl) (by decide) rfl ?_
  exact J_5 (-1) 0 h
theorem cv_X12_meetAt (C : Ck X G cc own nL d) {idx : Nat} (hlk : Cond.methodLink own idx yX12_meetAt ∈ gtb) (x1 : Int32) (x2 : Int32) {r0 : Int32} (e : f_X12_meetAt x1 x2 σ = some r0) (hdd : 3 ≤ d) (hroom : (rest.map fun v => v.category).sum ≤ 8) (hcs : cells ≤ (xR X).cells ∧ slots ≤ (xR X).slots) (hd : decode cc pc = .ok (.invokevirtual idx, 3)) (k : V X G nL cells slots σ (pc + 3) lv (.int r0 :: rest)) : V X G nL cells slots σ pc lv (.int x2 :: .int x1 :: .ref (ga G 6) :: rest) := V_callV C (As := [.int x1, .int x2]) (c_X12_meetAt X.2.1 G x1 x2 σ r0 e) cal_X12_meetAt ww_468 ww_469 hlk rfl hdd (lt110 rfl) rfl rfl rfl hroom hcs hd k
theorem dt_X12_done_0 : dtab cX12_done [(0, .iload_n 0, 1), (1, .lookupswitch 166 #[(38, 95), (42, 150), (43, 142), (45, 146), (47, 154), (60, 109), (61, 120), (62, 131), (124, 83)], 83), (84, .iload_n 1, 1), (85, .iload_n 2, 1), (86, .ior, 1), (87, .ifCond .eq 7, 3), (90, .iconst 1, 1), (91, .goto 4, 3), (94, .iconst 0, 1), (95, .ireturn, 1), (96, .iload_n 1, 1), (97, .ifCond .eq 11, 3), (100, .iload_n 2, 1), (101, .ifCond .eq 7, 3), (104, .iconst 1, 1), (105, .goto 4, 3), (108, .iconst 0, 1), (109, .ireturn, 1), (110, .iload_n 1, 1), (111, .iload_n 2, 1), (112, .if_icmp .ge 7, 3), (115, .iconst 1, 1), (116, .goto 4, 3), (119, .iconst 0, 1), (120, .ireturn, 1), (121, .iload_n 1, 1), (122, .iload_n 2, 1), (123, .if_icmp .ne 7, 3), (126, .iconst 1, 1), (127, .goto 4, 3), (130, .iconst 0, 1), (131, .ireturn, 1), (132, .iload_n 1, 1), (133, .iload_n 2, 1), (134, .if_icmp .le 7, 3), (137, .iconst 1, 1), (138, .goto 4, 3), (141, .iconst 0, 1), (142, .ireturn, 1), (143, .iload_n 1, 1)] = true := by decide +kernel
theorem dt_X12_done_1 : dtab cX12_done [(144, .iload_n 2, 1), (145, .iadd, 1), (146, .ireturn, 1), (147, .iload_n 1, 1), (148, .iload_n 2, 1), (149, .isub, 1), (150, .ireturn, 1), (151, .iload_n 1, 1), (152, .iload_n 2, 1), (153, .imul, 1), (154, .ireturn, 1), (155, .iload_n 2, 1), (156, .ifCond .ne 7, 3), (159, .iconst 0, 1), (160, .goto 6, 3), (163, .iload_n 1, 1), (164, .iload_n 2, 1), (165, .idiv, 1), (166, .ireturn, 1), (167, .iload_n 2, 1), (168, .ifCond .ne 7, 3), (171, .iconst 0, 1), (172, .goto 6, 3), (175, .iload_n 1, 1), (176, .iload_n 2, 1), (177, .irem, 1), (178, .ireturn, 1)] = true := by decide +kernel
theorem cal_X12_done : Cal yX12_done cX12_done 3 (some .int) 3 := ⟨ww_470, ww_429, ⟨by decide, by decide, by decide⟩, by decide⟩
set_option maxHeartbeats 4000000 in
set_option maxRecDepth 100000 in
theorem c_X12_done (l : Launch) (G : Gx) (x0 : Int32) (x1 : Int32) (x2 : Int32) (σ : St) (r0 : Int32) (h : f_X12_done x0 x1 x2 = some r0) : MI l G yX12_done cX12_done 3 (some .int) 1 [.int x0, .int x1, .int x2] σ (some (.int r0)) σ := by
  refine MI_of RX12 rfl (by decide) [(0, .int x0), (1, .int x1), (2, .int x2)] rfl (Nat.le_of_ble_eq_true rfl) ?_
  intro X hXl C hR
  unfold f_X12_done at h
  refine V_iload_n C (dt_at dt_X12_done_0 0 rfl) 0 rfl rfl ?_
  by_cases q1 : x0 = 38
  · have h := ite_t q1 h
    refine V_lkp C 96 (dt_at dt_X12_done_0 1 rfl) rfl (by rw [q1] <;> rfl) (by decide) ?_
    refine V_iload_n C (dt_at dt_X12_done_0 10 rfl) 1 rfl rfl ?_
    refine V_if_eq C 108 (dt_at dt_X12_done_0 11 rfl) (by decide) (fun q2 => ?_) (fun q2 => ?_)
    · have h := ite_t q2 h
      refine V_iconst C 0 (dt_at dt_X12_done_0 16 rfl) (by decide) ?_
      have e1_ := Option.some.inj h
      subst e1_
      exact V_iret C hR (dt_at dt_X12_done_0 17 rfl)
    · have h := ite_f q2 h
      refine V_iload_n C (dt_at dt_X12_done_0 12 rfl) 2 rfl rfl ?_
      refine V_if_eq C 108 (dt_at dt_X12_done_0 13 rfl) (by decide) (fun q3 => ?_) (fun q3 => ?_)
      · have h := ite_t q3 h
        refine V_iconst C 0 (dt_at dt_X12_done_0 16 rfl) (by decide) ?_
        have e1_ := Option.some.inj h
        subst e1_
        exact V_iret C hR (dt_at dt_X12_done_0 17 rfl)
      · have h := ite_f q3 h
        refine V_iconst C 1 (dt_at dt_X12_done_0 14 rfl) (by decide) ?_
        refine V_goto C 109 (dt_at dt_X12_done_0 15 rfl) (by decide) ?_
        have e1_ := Option.some.inj h
        subst e1_
        exact V_iret C hR (dt_at dt_X12_done_0 17 rfl)
  replace h := ite_f q1 h
  by_cases q4 : x0 = 42
  · have h := ite_t q4 h
    refine V_lkp C 151 (dt_at dt_X12_done_0 1 rfl) rfl (by rw [q4] <;> rfl) (by decide) ?_
    refine V_iload_n C (dt_at dt_X12_done_1 7 rfl) 1 rfl rfl ?_
    refine V_iload_n C (dt_at dt_X12_done_1 8 rfl) 2 rfl rfl ?_
    refine V_imul C (dt_at dt_X12_done_1 9 rfl) ?_
    have e1_ := Option.some.inj h
    subst e1_
    exact V_iret C hR (dt_at dt_X12_done_1 10 rfl)
  replace h := ite_f q4 h
  by_cases q5 : x0 = 43
  · have h := ite_t q5 h
    refine V_lkp C 143 (dt_at dt_X12_done_0 1 rfl) rfl (by rw [q5] <;> rfl) (by decide) ?_
    refine V_iload_n C (dt_at dt_X12_done_0 39 rfl) 1 rfl rfl ?_
    refine V_iload_n C (dt_at dt_X12_done_1 0 rfl) 2 rfl rfl ?_
    refine V_iadd C (dt_at dt_X12_done_1 1 rfl) ?_
    have e1_ := Option.some.inj h
    subst e1_
    exact V_iret C hR (dt_at dt_X12_done_1 2 rfl)
  replace h := ite_f q5 h
  by_cases q6 : x0 = 45
  · have h := ite_t q6 h
    refine V_lkp C 147 (dt_at dt_X12_done_0 1 rfl) rfl (by rw [q6] <;> rfl) (by decide) ?_
    refine V_iload_n C (dt_at dt_X12_done_1 3 rfl) 1 rfl rfl ?_
    refine V_iload_n C (dt_at dt_X12_done_1 4 rfl) 2 rfl rfl ?_
    refine V_isub C (dt_at dt_X12_done_1 5 rfl) ?_
    have e1_ := Option.some.inj h
    subst e1_
    exact V_iret C hR (dt_at dt_X12_done_1 6 rfl)
  replace h := ite_f q6 h
  by_cases q7 : x0 = 47
  · have h := ite_t q7 h
    refine V_lkp C 155 (dt_at dt_X12_done_0 1 rfl) rfl (by rw [q7] <;> rfl) (by decide) ?_
    refine V_iload_n C (dt_at dt_X12_done_1 11 rfl) 2 rfl rfl ?_
    refine V_if_ne C 163 (dt_at dt_X12_done_1 12 rfl) (by decide) (fun q8 => ?_) (fun q8 => ?_)
    · have h := ite_f q8 h
      refine V_iload_n C (dt_at dt_X12_done_1 15 rfl) 1 rfl rfl ?_
      refine V_iload_n C (dt_at dt_X12_done_1 16 rfl) 2 rfl rfl ?_
      refine V_idiv C (dt_at dt_X12_done_1 17 rfl) q8 ?_
      have e1_ := Option.some.inj h
      subst e1_
      exact V_iret C hR (dt_at dt_X12_done_1 18 rfl)
    · have h := ite_t q8 h
      refine V_iconst C 0 (dt_at dt_X12_done_1 13 rfl) (by decide) ?_
      refine V_goto C 166 (dt_at dt_X12_done_1 14 rfl) (by decide) ?_
      have e1_ := Option.some.inj h
      subst e1_
      exact V_iret C hR (dt_at dt_X12_done_1 18 rfl)
  replace h := ite_f q7 h
  by_cases q9 : x0 = 60
  · have h := ite_t q9 h
    refine V_lkp C 110 (dt_at dt_X12_done_0 1 rfl) rfl (by rw [q9] <;> rfl) (by decide) ?_
    refine V_iload_n C (dt_at dt_X12_done_0 18 rfl) 1 rfl rfl ?_
    refine V_iload_n C (dt_at dt_X12_done_0 19 rfl) 2 rfl rfl ?_
    refine V_icmp_ge C 119 (dt_at dt_X12_done_0 20 rfl) (by decide) (fun q10 => ?_) (fun q10 => ?_)
    · have h := ite_f q10 h
      refine V_iconst C 0 (dt_at dt_X12_done_0 23 rfl) (by decide) ?_
      have e1_ := Option.some.inj h
      subst e1_
      exact V_iret C hR (dt_at dt_X12_done_0 24 rfl)
    · have h := ite_t q10 h
      refine V_iconst C 1 (dt_at dt_X12_done_0 21 rfl) (by decide) ?_
      refine V_goto C 120 (dt_at dt_X12_done_0 22 rfl) (by decide) ?_
      have e1_ := Option.some.inj h
      subst e1_
      exact V_iret C hR (dt_at dt_X12_done_0 24 rfl)
  replace h := ite_f q9 h
  by_cases q11 : x0 = 61
  · have h := ite_t q11 h
    refine V_lkp C 121 (dt_at dt_X12_done_0 1 rfl) rfl (by rw [q11] <;> rfl) (by decide) ?_
    refine V_iload_n C (dt_at dt_X12_done_0 25 rfl) 1 rfl rfl ?_
    refine V_iload_n C (dt_at dt_X12_done_0 26 rfl) 2 rfl rfl ?_
    refine V_icmp_ne C 130 (dt_at dt_X12_done_0 27 rfl) (by decide) (fun q12 => ?_) (fun q12 => ?_)
    · have h := ite_f q12 h
      refine V_iconst C 0 (dt_at dt_X12_done_0 30 rfl) (by decide) ?_
      have e1_ := Option.some.inj h
      subst e1_
      exact V_iret C hR (dt_at dt_X12_done_0 31 rfl)
    · have h := ite_t q12 h
      refine V_iconst C 1 (dt_at dt_X12_done_0 28 rfl) (by decide) ?_
      refine V_goto C 131 (dt_at dt_X12_done_0 29 rfl) (by decide) ?_
      have e1_ := Option.some.inj h
      subst e1_
      exact V_iret C hR (dt_at dt_X12_done_0 31 rfl)
  replace h := ite_f q11 h
  by_cases q13 : x0 = 62
  · have h := ite_t q13 h
    refine V_lkp C 132 (dt_at dt_X12_done_0 1 rfl) rfl (by rw [q13] <;> rfl) (by decide) ?_
    refine V_iload_n C (dt_at dt_X12_done_0 32 rfl) 1 rfl rfl ?_
    refine V_iload_n C (dt_at dt_X12_done_0 33 rfl) 2 rfl rfl ?_
    refine V_icmp_le C 141 (dt_at dt_X12_done_0 34 rfl) (by decide) (fun q14 => ?_) (fun q14 => ?_)
    · have h := ite_f q14 h
      refine V_iconst C 0 (dt_at dt_X12_done_0 37 rfl) (by decide) ?_
      have e1_ := Option.some.inj h
      subst e1_
      exact V_iret C hR (dt_at dt_X12_done_0 38 rfl)
    · have h := ite_t q14 h
      refine V_iconst C 1 (dt_at dt_X12_done_0 35 rfl) (by decide) ?_
      refine V_goto C 142 (dt_at dt_X12_done_0 36 rfl) (by decide) ?_
      have e1_ := Option.some.inj h
      subst e1_
      exact V_iret C hR (dt_at dt_X12_done_0 38 rfl)
  replace h := ite_f q13 h
  by_cases q15 : x0 = 124
  · have h := ite_t q15 h
    refine V_lkp C 84 (dt_at dt_X12_done_0 1 rfl) rfl (by rw [q15] <;> rfl) (by decide) ?_
    refine V_iload_n C (dt_at dt_X12_done_0 2 rfl) 1 rfl rfl ?_
    refine V_iload_n C (dt_at dt_X12_done_0 3 rfl) 2 rfl rfl ?_
    refine V_ior C (dt_at dt_X12_done_0 4 rfl) ?_
    refine V_if_eq C 94 (dt_at dt_X12_done_0 5 rfl) (by decide) (fun q16 => ?_) (fun q16 => ?_)
    · have h := ite_t q16 h
      refine V_iconst C 0 (dt_at dt_X12_done_0 8 rfl) (by decide) ?_
      have e1_ := Option.some.inj h
      subst e1_
      exact V_iret C hR (dt_at dt_X12_done_0 9 rfl)
    · have h := ite_f q16 h
      refine V_iconst C 1 (dt_at dt_X12_done_0 6 rfl) (by decide) ?_
      refine V_goto C 95 (dt_at dt_X12_done_0 7 rfl) (by decide) ?_
      have e1_ := Option.some.inj h
      subst e1_
      exact V_iret C hR (dt_at dt_X12_done_0 9 rfl)
  replace h := ite_f q15 h
  refine V_lkp C (off := 166) 167 (dt_at dt_X12_done_0 1 rfl) rfl ((lv_osw q1 (a := 38) rfl).trans ((lv_osw q4 (a := 42) rfl).trans ((lv_osw q5 (a := 43) rfl).trans ((lv_osw q6 (a := 45) rfl).trans ((lv_osw q7 (a := 47) rfl).trans ((lv_osw q9 (a := 60) rfl).trans ((lv_osw q11 (a := 61) rfl).trans ((lv_osw q13 (a := 62) rfl).trans ((lv_osw q15 (a := 124) rfl).trans (rfl)))))))))) (by decide) ?_
  refine V_iload_n C (dt_at dt_X12_done_1 19 rfl) 2 rfl rfl ?_
  refine V_if_ne C 175 (dt_at dt_X12_done_1 20 rfl) (by decide) (fun q17 => ?_) (fun q17 => ?_)
  · have h := ite_f q17 h
    refine V_iload_n C (dt_at dt_X12_done_1 23 rfl) 1 rfl rfl ?_
    refine V_iload_n C (dt_at dt_X12_done_1 24 rfl) 2 rfl rfl ?_
    refine V_irem C (dt_at dt_X12_done_1 25 rfl) q17 ?_
    have e1_ := Option.some.inj h
    subst e1_
    exact V_iret C hR (dt_at dt_X12_done_1 26 rfl)
  · have h := ite_t q17 h
    refine V_iconst C 0 (dt_at dt_X12_done_1 21 rfl) (by decide) ?_
    refine V_goto C 178 (dt_at dt_X12_done_1 22 rfl) (by decide) ?_
    have e1_ := Option.some.inj h
    subst e1_
    exact V_iret C hR (dt_at dt_X12_done_1 26 rfl)
theorem cv_X12_done (C : Ck X G cc own nL d) {idx : Nat} (hlk : Cond.methodLink own idx yX12_done ∈ gtb) (x0 : Int32) (x1 : Int32) (x2 : Int32) {r0 : Int32} (e : f_X12_done x0 x1 x2 = some r0) (hdd : 2 ≤ d) (hroom : (rest.map fun v => v.category).sum ≤ 8) (hcs : cells ≤ (xR X).cells ∧ slots ≤ (xR X).slots) (hd : decode cc pc = .ok (.invokestatic idx, 3)) (k : V X G nL cells slots σ (pc + 3) lv (.int r0 :: rest)) : V X G nL cells slots σ pc lv (.int x2 :: .int x1 :: .int x0 :: rest) := V_callS C (As := [.int x0, .int x1, .int x2]) (c_X12_done X.2.1 G x0 x1 x2 σ r0 e) cal_X12_done ww_471 hlk rfl hdd rfl hroom hcs hd k
theorem dt_X12_comesTo_0 : dtab cX12_comesTo [(0, .sipush 310, 3), (3, .bipush 52, 2), (5, .iload_n 1, 1), (6, .imul, 1), (7, .iadd, 1), (8, .istore_n 2, 1), (9, .iconst 0, 1), (10, .istore_n 3, 1), (11, .iconst 1, 1), (12, .istore 4, 2), (14, .iload 4, 2), (16, .aload_n 0, 1), (17, .getfield 7, 3), (20, .iload_n 2, 1), (21, .iaload, 1), (22, .if_icmp .gt 126, 3), (25, .aload_n 0, 1), (26, .getfield 7, 3), (29, .iload_n 2, 1), (30, .iload 4, 2), (32, .iadd, 1), (33, .iaload, 1), (34, .istore 5, 2), (36, .iload 5, 2), (38, .bipush (-100), 2), (40, .if_icmp .le 34, 3), (43, .aload_n 0, 1), (44, .getfield 37, 3), (47, .iload_n 3, 1), (48, .iload 5, 2), (50, .ifCond .lt 8, 3), (53, .iload 5, 2), (55, .goto 12, 3), (58, .aload_n 0, 1), (59, .getfield 28, 3), (62, .iconst (-1), 1), (63, .iload 5, 2), (65, .isub, 1), (66, .iaload, 1), (67, .iastore, 1)] = true := by decide +kernel
theorem dt_X12_comesTo_1 : dtab cX12_comesTo [(68, .iinc 3 1, 3), (71, .goto 71, 3), (74, .iload 5, 2), (76, .sipush (-133), 3), (79, .if_icmp .ne 30, 3), (82, .aload_n 0, 1), (83, .getfield 37, 3), (86, .iload_n 3, 1), (87, .iconst 1, 1), (88, .isub, 1), (89, .aload_n 0, 1), (90, .getfield 37, 3), (93, .iload_n 3, 1), (94, .iconst 1, 1), (95, .isub, 1), (96, .iaload, 1), (97, .ifCond .ne 7, 3), (100, .iconst 1, 1), (101, .goto 4, 3), (104, .iconst 0, 1), (105, .iastore, 1), (106, .goto 36, 3), (109, .iinc 3 (-1), 3), (112, .aload_n 0, 1), (113, .getfield 37, 3), (116, .iload_n 3, 1), (117, .iconst 1, 1), (118, .isub, 1), (119, .bipush (-100), 2), (121, .iload 5, 2), (123, .isub, 1), (124, .aload_n 0, 1), (125, .getfield 37, 3), (128, .iload_n 3, 1), (129, .iconst 1, 1), (130, .isub, 1), (131, .iaload, 1), (132, .aload_n 0, 1), (133, .getfield 37, 3), (136, .iload_n 3, 1)] = true := by decide +kernel
theorem dt_X12_comesTo_2 : dtab cX12_comesTo [(137, .iaload, 1), (138, .invokestatic 221, 3), (141, .iastore, 1), (142, .iinc 4 1, 3), (145, .goto (-131), 3), (148, .aload_n 0, 1), (149, .getfield 37, 3), (152, .iconst 0, 1), (153, .iaload, 1), (154, .ireturn, 1)] = true := by decide +kernel
theorem cal_X12_comesTo : Cal yX12_comesTo cX12_comesTo 6 (some .int) 1 := ⟨ww_475, ww_429, ⟨by decide, by decide, by decide⟩, by decide⟩
set_option maxHeartbeats 4000000 in
set_option maxRecDepth 100000 in
theorem c_X12_comesTo (l : Launch) (G : Gx) (x1 : Int32) (σ : St) (r0 : Int32) (σ0 : St) (h : f_X12_comesTo x1 σ = some (r0, σ0)) : MI l G yX12_comesTo cX12_comesTo 6 (some .int) 2 [.ref (ga G 6), .int x1] σ (some (.int r0)) σ0 := by
  refine MI_of RX12 rfl (by decide) [(0, .ref (ga G 6)), (1, .int x1)] rfl (Nat.le_of_ble_eq_true rfl) ?_
  intro X hXl C hR
  unfold f_X12_comesTo at h
  have J_148 : ∀ (σ : St), f_X12_comesTo_148 σ = some (r0, σ0) → V X G 6 0 0 σ 148 [(0, .ref (ga G 6))] [] := by
    intro σ h
    unfold f_X12_comesTo_148 at h
    refine V_aload_n C (dt_at dt_X12_comesTo_2 5 rfl) 0 rfl rfl ?_
    refine g_X12_37_6 C (dt_at dt_X12_comesTo_2 6 rfl) ?_
    refine V_iconst C 0 (dt_at dt_X12_comesTo_2 7 rfl) (by decide) ?_
    obtain ⟨h21, h⟩ := chk_s h
    refine al_93 C h21 (dt_at dt_X12_comesTo_2 8 rfl) ?_
    obtain ⟨e1_, e2_⟩ := pin2 h
    subst e1_; subst e2_
    exact V_iret C hR (dt_at dt_X12_comesTo_2 9 rfl)
  have J_14 : ∀ (x2 : Int32) (x3 : Int32) (x4 : Int32) (σ : St), f_X12_comesTo_14 x2 x3 x4 σ = some (r0, σ0) → V X G 6 0 0 σ 14 [(0, .ref (ga G 6)), (2, .int x2), (3, .int x3), (4, .int x4)] [] := by
    intro x2 x3 x4 σ h
    refine it_v (P := fun z : Int32 × Int32 × St => V X G 6 0 0 z.2.2 14 [(0, .ref (ga G 6)), (2, .int x2), (3, .int z.1), (4, .int z.2.1)] []) ?_ (x3, x4, σ) h
    clear h
    intro z w_14 h ih_14 ex_14
    obtain ⟨x3, x4, σ⟩ := z
    have h : b_X12_comesTo_14 x2 x3 x4 σ = some w_14 := h
    show V X G 6 0 0 σ 14 [(0, .ref (ga G 6)), (2, .int x2), (3, .int x3), (4, .int x4)] []
    unfold b_X12_comesTo_14 at h
    have J_142 : ∀ (x3 : Int32) (x4 : Int32) (σ : St), f_X12_comesTo_142 x2 x3 x4 σ = some w_14 → V X G 6 0 0 σ 142 [(0, .ref (ga G 6)), (2, .int x2), (3, .int x3), (4, .int x4)] [] := by
      intro x3 x4 σ h
      unfold f_X12_comesTo_142 at h
      refine V_iinc C (x4 + 1) 3 [1, 2, 3, 0] (lv' := [(0, .ref (ga G 6)), (2, .int x2), (3, .int x3), (4, .int (x4 + 1))]) (dt_at dt_X12_comesTo_2 3 rfl) rfl (by rfl) (by decide) rfl ?_
      refine V_goto C 14 (dt_at dt_X12_comesTo_2 4 rfl) (by decide) ?_
      exact ih_14 (x3, (x4 + 1), σ) (Option.some.inj h).symm
    have J_105 : ∀ (x3 : Int32) (x4 : Int32) (s0 : Int32) (s1 : Int32) (σ : St), f_X12_comesTo_105 x2 x3 x4 s0 s1 σ = some w_14 → V X G 6 0 0 σ 105 [(0, .ref (ga G 6)), (2, .int x2), (3, .int x3), (4, .int x4)] [.int s0, .int s1, .ref (ga G 93)] := by
      intro x3 x4 s0 s1 σ h
      unfold f_X12_comesTo_105 at h
      obtain ⟨h20, h⟩ := chk_s h
      obtain ⟨σ19, eσ19, h⟩ := nm_s h
      refine V_st eσ19 ?_ (fun k => as_93 C h20 (dt_at dt_X12_comesTo_1 20 rfl) k)
      refine V_goto C 142 (dt_at dt_X12_comesTo_1 21 rfl) (by decide) ?_
      exact J_142 x3 x4 σ19 h
    have J_67 : ∀ (x3 : Int32) (x4 : Int32) (s0 : Int32) (s1 : Int32) (σ : St), f_X12_comesTo_67 x2 x3 x4 s0 s1 σ = some w_14 → V X G 6 0 0 σ 67 [(0, .ref (ga G 6)), (2, .int x2), (3, .int x3), (4, .int x4)] [.int s0, .int s1, .ref (ga G 93)] := by
      intro x3 x4 s0 s1 σ h
      unfold f_X12_comesTo_67 at h
      obtain ⟨h18, h⟩ := chk_s h
      obtain ⟨σ17, eσ17, h⟩ := nm_s h
      refine V_st eσ17 ?_ (fun k => as_93 C h18 (dt_at dt_X12_comesTo_0 39 rfl) k)
      refine V_iinc C (x3 + 1) 2 [1, 2, 0, 3] (lv' := [(0, .ref (ga G 6)), (2, .int x2), (3, .int (x3 + 1)), (4, .int x4)]) (dt_at dt_X12_comesTo_1 0 rfl) rfl (by rfl) (by decide) rfl ?_
      refine V_goto C 142 (dt_at dt_X12_comesTo_1 1 rfl) (by decide) ?_
      exact J_142 (x3 + 1) x4 σ17 h
    refine V_iload C (dt_at dt_X12_comesTo_0 10 rfl) 3 rfl ?_
    refine V_aload_n C (dt_at dt_X12_comesTo_0 11 rfl) 0 rfl rfl ?_
    refine g_X12_7_6 C (dt_at dt_X12_comesTo_0 12 rfl) ?_
    refine V_iload_n C (dt_at dt_X12_comesTo_0 13 rfl) 1 rfl rfl ?_
    obtain ⟨h1, h⟩ := chk_s h
    refine al_84 C h1 (dt_at dt_X12_comesTo_0 14 rfl) ?_
    refine V_icmp_gt C 148 (dt_at dt_X12_comesTo_0 15 rfl) (by decide) (fun q2 => ?_) (fun q2 => ?_)
    · have h := ite_t q2 h
      refine V_sub [0] (lv' := [(0, .ref (ga G 6))]) rfl ?_
      obtain ⟨t3, h, e_14⟩ := map_s h
      have e_14 := ex_14 _ e_14
      rw [e_14] at h
      exact J_148 σ h
    · have h := ite_f q2 h
      refine V_aload_n C (dt_at dt_X12_comesTo_0 16 rfl) 0 rfl rfl ?_
      refine g_X12_7_6 C (dt_at dt_X12_comesTo_0 17 rfl) ?_
      refine V_iload_n C (dt_at dt_X12_comesTo_0 18 rfl) 1 rfl rfl ?_
      refine V_iload C (dt_at dt_X12_comesTo_0 19 rfl) 3 rfl ?_
      refine V_iadd C (dt_at dt_X12_comesTo_0 20 rfl) ?_
      obtain ⟨h4, h⟩ := chk_s h
      refine al_84 C h4 (dt_at dt_X12_comesTo_0 21 rfl) ?_
      refine V_istore C [1, 2, 3, 4, 0] (lv' := [(0, .ref (ga G 6)), (2, .int x2), (3, .int x3), (4, .int x4), (5, .int (rd σ 84 (x2 + x4)))]) (dt_at dt_X12_comesTo_0 22 rfl) (by decide) rfl ?_
      refine V_iload C (dt_at dt_X12_comesTo_0 23 rfl) 4 rfl ?_
      refine V_bipush C (-100) (dt_at dt_X12_comesTo_0 24 rfl) (by decide) ?_
      refine V_icmp_le C 74 (dt_at dt_X12_comesTo_0 25 rfl) (by decide) (fun q5 => ?_) (fun q5 => ?_)
      · have h := ite_f q5 h
        refine V_iload C (dt_at dt_X12_comesTo_1 2 rfl) 4 rfl ?_
        refine V_sipush C (-133) (dt_at dt_X12_comesTo_1 3 rfl) (by decide) ?_
        refine V_icmp_ne C 109 (dt_at dt_X12_comesTo_1 4 rfl) (by decide) (fun q6 => ?_) (fun q6 => ?_)
        · have h := ite_f q6 h
          refine V_iinc C (x3 + (-1)) 2 [1, 2, 0, 3, 4] (lv' := [(0, .ref (ga G 6)), (2, .int x2), (3, .int (x3 + (-1))), (4, .int x4), (5, .int (rd σ 84 (x2 + x4)))]) (dt_at dt_X12_comesTo_1 22 rfl) rfl (by rfl) (by decide) rfl ?_
          refine V_aload_n C (dt_at dt_X12_comesTo_1 23 rfl) 0 rfl rfl ?_
          refine g_X12_37_6 C (dt_at dt_X12_comesTo_1 24 rfl) ?_
          refine V_iload_n C (dt_at dt_X12_comesTo_1 25 rfl) 2 rfl rfl ?_
          refine V_iconst C 1 (dt_at dt_X12_comesTo_1 26 rfl) (by decide) ?_
          refine V_isub C (dt_at dt_X12_comesTo_1 27 rfl) ?_
          refine V_bipush C (-100) (dt_at dt_X12_comesTo_1 28 rfl) (by decide) ?_
          refine V_iload C (dt_at dt_X12_comesTo_1 29 rfl) 4 rfl ?_
          refine V_isub C (dt_at dt_X12_comesTo_1 30 rfl) ?_
          refine V_aload_n C (dt_at dt_X12_comesTo_1 31 rfl) 0 rfl rfl ?_
          refine g_X12_37_6 C (dt_at dt_X12_comesTo_1 32 rfl) ?_
          refine V_iload_n C (dt_at dt_X12_comesTo_1 33 rfl) 2 rfl rfl ?_
          refine V_iconst C 1 (dt_at dt_X12_comesTo_1 34 rfl) (by decide) ?_
          refine V_isub C (dt_at dt_X12_comesTo_1 35 rfl) ?_
          obtain ⟨h7, h⟩ := chk_s h
          refine al_93 C h7 (dt_at dt_X12_comesTo_1 36 rfl) ?_
          refine V_aload_n C (dt_at dt_X12_comesTo_1 37 rfl) 0 rfl rfl ?_
          refine g_X12_37_6 C (dt_at dt_X12_comesTo_1 38 rfl) ?_
          refine V_iload_n C (dt_at dt_X12_comesTo_1 39 rfl) 2 rfl rfl ?_
          obtain ⟨h8, h⟩ := chk_s h
          refine al_93 C h8 (dt_at dt_X12_comesTo_2 0 rfl) ?_
          obtain ⟨r9, e10, h⟩ := bd_s h
          refine cv_X12_done C ww_473 ((-100) - (rd σ 84 (x2 + x4))) (rd σ 93 ((x3 + (-1)) - 1)) (rd σ 93 (x3 + (-1))) e10 (Nat.le_of_ble_eq_true rfl) (Nat.le_of_ble_eq_true rfl) z0 (dt_at dt_X12_comesTo_2 1 rfl) ?_
          obtain ⟨σ12, eσ12, h⟩ := nm_s h
          refine V_st eσ12 ?_ (fun k => as_93 C h7 (dt_at dt_X12_comesTo_2 2 rfl) k)
          refine V_sub [0, 1, 2, 3] (lv' := [(0, .ref (ga G 6)), (2, .int x2), (3, .int (x3 + (-1))), (4, .int x4)]) rfl ?_
          exact J_142 (x3 + (-1)) x4 σ12 h
        · have h := ite_t q6 h
          refine V_aload_n C (dt_at dt_X12_comesTo_1 5 rfl) 0 rfl rfl ?_
          refine g_X12_37_6 C (dt_at dt_X12_comesTo_1 6 rfl) ?_
          refine V_iload_n C (dt_at dt_X12_comesTo_1 7 rfl) 2 rfl rfl ?_
          refine V_iconst C 1 (dt_at dt_X12_comesTo_1 8 rfl) (by decide) ?_
          refine V_isub C (dt_at dt_X12_comesTo_1 9 rfl) ?_
          refine V_aload_n C (dt_at dt_X12_comesTo_1 10 rfl) 0 rfl rfl ?_
          refine g_X12_37_6 C (dt_at dt_X12_comesTo_1 11 rfl) ?_
          refine V_iload_n C (dt_at dt_X12_comesTo_1 12 rfl) 2 rfl rfl ?_
          refine V_iconst C 1 (dt_at dt_X12_comesTo_1 13 rfl) (by decide) ?_
          refine V_isub C (dt_at dt_X12_comesTo_1 14 rfl) ?_
          obtain ⟨h13, h⟩ := chk_s h
          refine al_93 C h13 (dt_at dt_X12_comesTo_1 15 rfl) ?_
          refine V_if_ne C 104 (dt_at dt_X12_comesTo_1 16 rfl) (by decide) (fun q14 => ?_) (fun q14 => ?_)
          · have h := ite_f q14 h
            refine V_iconst C 0 (dt_at dt_X12_comesTo_1 19 rfl) (by decide) ?_
            refine V_sub [0, 1, 2, 3] (lv' := [(0, .ref (ga G 6)), (2, .int x2), (3, .int x3), (4, .int x4)]) rfl ?_
            exact J_105 x3 x4 0 (x3 - 1) σ h
          · have h := ite_t q14 h
            refine V_iconst C 1 (dt_at dt_X12_comesTo_1 17 rfl) (by decide) ?_
            refine V_goto C 105 (dt_at dt_X12_comesTo_1 18 rfl) (by decide) ?_
            refine V_sub [0, 1, 2, 3] (lv' := [(0, .ref (ga G 6)), (2, .int x2), (3, .int x3), (4, .int x4)]) rfl ?_
            exact J_105 x3 x4 1 (x3 - 1) σ h
      · have h := ite_t q5 h
        refine V_aload_n C (dt_at dt_X12_comesTo_0 26 rfl) 0 rfl rfl ?_
        refine g_X12_37_6 C (dt_at dt_X12_comesTo_0 27 rfl) ?_
        refine V_iload_n C (dt_at dt_X12_comesTo_0 28 rfl) 2 rfl rfl ?_
        refine V_iload C (dt_at dt_X12_comesTo_0 29 rfl) 4 rfl ?_
        refine V_if_lt C 58 (dt_at dt_X12_comesTo_0 30 rfl) (by decide) (fun q15 => ?_) (fun q15 => ?_)
        · have h := ite_t q15 h
          refine V_aload_n C (dt_at dt_X12_comesTo_0 33 rfl) 0 rfl rfl ?_
          refine g_X12_28_6 C (dt_at dt_X12_comesTo_0 34 rfl) ?_
          refine V_iconst C (-1) (dt_at dt_X12_comesTo_0 35 rfl) (by decide) ?_
          refine V_iload C (dt_at dt_X12_comesTo_0 36 rfl) 4 rfl ?_
          refine V_isub C (dt_at dt_X12_comesTo_0 37 rfl) ?_
          obtain ⟨h16, h⟩ := chk_s h
          refine al_90 C h16 (dt_at dt_X12_comesTo_0 38 rfl) ?_
          refine V_sub [0, 1, 2, 3] (lv' := [(0, .ref (ga G 6)), (2, .int x2), (3, .int x3), (4, .int x4)]) rfl ?_
          exact J_67 x3 x4 (rd σ 90 ((-1) - (rd σ 84 (x2 + x4)))) x3 σ h
        · have h := ite_f q15 h
          refine V_iload C (dt_at dt_X12_comesTo_0 31 rfl) 4 rfl ?_
          refine V_goto C 67 (dt_at dt_X12_comesTo_0 32 rfl) (by decide) ?_
          refine V_sub [0, 1, 2, 3] (lv' := [(0, .ref (ga G 6)), (2, .int x2), (3, .int x3), (4, .int x4)]) rfl ?_
          exact J_67 x3 x4 (rd σ 84 (x2 + x4)) x3 σ h
  refine V_sipush C 310 (dt_at dt_X12_comesTo_0 0 rfl) (by decide) ?_
  refine V_bipush C 52 (dt_at dt_X12_comesTo_0 1 rfl) (by decide) ?_
  refine V_iload_n C (dt_at dt_X12_comesTo_0 2 rfl) 1 rfl rfl ?_
  refine V_imul C (dt_at dt_X12_comesTo_0 3 rfl) ?_
  refine V_iadd C (dt_at dt_X12_comesTo_0 4 rfl) ?_
  refine V_istore_n C [1, 2, 0] (lv' := [(0, .ref (ga G 6)), (1, .int x1), (2, .int (310 + (52 * x1)))]) (dt_at dt_X12_comesTo_0 5 rfl) rfl (by decide) rfl ?_
  refine V_iconst C 0 (dt_at dt_X12_comesTo_0 6 rfl) (by decide) ?_
  refine V_istore_n C [1, 2, 3, 0] (lv' := [(0, .ref (ga G 6)), (1, .int x1), (2, .int (310 + (52 * x1))), (3, .int 0)]) (dt_at dt_X12_comesTo_0 7 rfl) rfl (by decide) rfl ?_
  refine V_iconst C 1 (dt_at dt_X12_comesTo_0 8 rfl) (by decide) ?_
  refine V_istore C [1, 2, 3, 4, 0] (lv' := [(0, .ref (ga G 6)), (1, .int x1), (2, .int (310 + (52 * x1))), (3, .int 0), (4, .int 1)]) (dt_at dt_X12_comesTo_0 9 rfl) (by decide) rfl ?_
  refine V_sub [0, 2, 3, 4] (lv' := [(0, .ref (ga G 6)), (2, .int (310 + (52 * x1))), (3, .int 0), (4, .int 1)]) rfl ?_
  exact J_14 (310 + (52 * x1)) 0 1 σ h
theorem cv_X12_comesTo (C : Ck X G cc own nL d) {idx : Nat} (hlk : Cond.methodLink own idx yX12_comesTo ∈ gtb) (x1 : Int32) {r0 : Int32} {σ0 : St} (e : f_X12_comesTo x1 σ = some (r0, σ0)) (hdd : 3 ≤ d) (hroom : (rest.map fun v => v.category).sum ≤ 8) (hcs : cells ≤ (xR X).cells ∧ slots ≤ (xR X).slots) (hd : decode cc pc = .ok (.invokevirtual idx, 3)) (k : V X G nL cells slots σ0 (pc + 3) lv (.int r0 :: rest)) : V X G nL cells slots σ pc lv (.int x1 :: .ref (ga G 6) :: rest) := V_callV C (As := [.int x1]) (c_X12_comesTo X.2.1 G x1 σ r0 σ0 e) cal_X12_comesTo ww_476 ww_477 hlk rfl hdd (lt110 rfl) rfl rfl rfl hroom hcs hd k
theorem dt_X12_held_0 : dtab cX12_held [(0, .iload_n 0, 1), (1, .ifCond .ge 7, 3), (4, .iconst 0, 1), (5, .goto 13, 3), (8, .iload_n 0, 1), (9, .iload_n 1, 1), (10, .if_icmp .le 7, 3), (13, .iload_n 1, 1), (14, .goto 4, 3), (17, .iload_n 0, 1), (18, .ireturn, 1)] = true := by decide +kernel
theorem cal_X12_held : Cal yX12_held cX12_held 2 (some .int) 2 := ⟨ww_478, ww_429, ⟨by decide, by decide, by decide⟩, by decide⟩
set_option maxHeartbeats 4000000 in
set_option maxRecDepth 100000 in
theorem c_X12_held (l : Launch) (G : Gx) (x0 : Int32) (x1 : Int32) (σ : St) (r0 : Int32) (h : f_X12_held x0 x1 = some r0) : MI l G yX12_held cX12_held 2 (some .int) 1 [.int x0, .int x1] σ (some (.int r0)) σ := by
  refine MI_of RX12 rfl (by decide) [(0, .int x0), (1, .int x1)] rfl (Nat.le_of_ble_eq_true rfl) ?_
  intro X hXl C hR
  unfold f_X12_held at h
  refine V_iload_n C (dt_at dt_X12_held_0 0 rfl) 0 rfl rfl ?_
  refine V_if_ge C 8 (dt_at dt_X12_held_0 1 rfl) (by decide) (fun q1 => ?_) (fun q1 => ?_)
  · have h := ite_f q1 h
    refine V_iload_n C (dt_at dt_X12_held_0 4 rfl) 0 rfl rfl ?_
    refine V_iload_n C (dt_at dt_X12_held_0 5 rfl) 1 rfl rfl ?_
    refine V_icmp_le C 17 (dt_at dt_X12_held_0 6 rfl) (by decide) (fun q2 => ?_) (fun q2 => ?_)
    · have h := ite_f q2 h
      refine V_iload_n C (dt_at dt_X12_held_0 9 rfl) 0 rfl rfl ?_
      have e1_ := Option.some.inj h
      subst e1_
      exact V_iret C hR (dt_at dt_X12_held_0 10 rfl)
    · have h := ite_t q2 h
      refine V_iload_n C (dt_at dt_X12_held_0 7 rfl) 1 rfl rfl ?_
      refine V_goto C 18 (dt_at dt_X12_held_0 8 rfl) (by decide) ?_
      have e1_ := Option.some.inj h
      subst e1_
      exact V_iret C hR (dt_at dt_X12_held_0 10 rfl)
  · have h := ite_t q1 h
    refine V_iconst C 0 (dt_at dt_X12_held_0 2 rfl) (by decide) ?_
    refine V_goto C 18 (dt_at dt_X12_held_0 3 rfl) (by decide) ?_
    have e1_ := Option.some.inj h
    subst e1_
    exact V_iret C hR (dt_at dt_X12_held_0 10 rfl)
theorem cv_X12_held (C : Ck X G cc own nL d) {idx : Nat} (hlk : Cond.methodLink own idx yX12_held ∈ gtb) (x0 : Int32) (x1 : Int32) {r0 : Int32} (e : f_X12_held x0 x1 = some r0) (hdd : 2 ≤ d) (hroom : (rest.map fun v => v.category).sum ≤ 8) (hcs : cells ≤ (xR X).cells ∧ slots ≤ (xR X).slots) (hd : decode cc pc = .ok (.invokestatic idx, 3)) (k : V X G nL cells slots σ (pc + 3) lv (.int r0 :: rest)) : V X G nL cells slots σ pc lv (.int x1 :: .int x0 :: rest) := V_callS C (As := [.int x0, .int x1]) (c_X12_held X.2.1 G x0 x1 σ r0 e) cal_X12_held ww_479 hlk rfl hdd rfl hroom hcs hd k
theorem dt_X12_changeOf_0 : dtab cX12_changeOf [(0, .aload_n 0, 1), (1, .iload_n 1, 1), (2, .iconst 3, 1), (3, .invokevirtual 114, 3), (6, .aload_n 0, 1), (7, .iload_n 2, 1), (8, .iconst 3, 1), (9, .invokevirtual 114, 3), (12, .isub, 1), (13, .istore 4, 2), (15, .aload_n 0, 1), (16, .getfield 7, 3), (19, .sipush 362, 3), (22, .iaload, 1), (23, .ifCond .ne 19, 3), (26, .iconst 2, 1), (27, .iload 4, 2), (29, .ifCond .ge 9, 3), (32, .iload 4, 2), (34, .ineg, 1), (35, .goto 5, 3), (38, .iload 4, 2), (40, .iadd, 1), (41, .ireturn, 1), (42, .aload_n 0, 1), (43, .getfield 28, 3), (46, .iconst 0, 1), (47, .aload_n 0, 1), (48, .iload_n 1, 1), (49, .iconst 3, 1), (50, .invokevirtual 114, 3), (53, .iastore, 1), (54, .aload_n 0, 1), (55, .getfield 28, 3), (58, .iconst 1, 1), (59, .aload_n 0, 1), (60, .iload_n 2, 1), (61, .iconst 3, 1), (62, .invokevirtual 114, 3), (65, .iastore, 1)] = true := by decide +kernel
theorem dt_X12_changeOf_1 : dtab cX12_changeOf [(66, .aload_n 0, 1), (67, .getfield 28, 3), (70, .iconst 2, 1), (71, .aload_n 0, 1), (72, .iload_n 1, 1), (73, .iconst 0, 1), (74, .invokevirtual 114, 3), (77, .iastore, 1), (78, .aload_n 0, 1), (79, .getfield 28, 3), (82, .iconst 3, 1), (83, .aload_n 0, 1), (84, .iload_n 2, 1), (85, .iconst 0, 1), (86, .invokevirtual 114, 3), (89, .iastore, 1), (90, .aload_n 0, 1), (91, .getfield 28, 3), (94, .iconst 4, 1), (95, .iload_n 3, 1), (96, .iastore, 1), (97, .aload_n 0, 1), (98, .iconst 1, 1), (99, .invokevirtual 154, 3), (102, .bipush 99, 2), (104, .invokestatic 157, 3), (107, .ireturn, 1)] = true := by decide +kernel
theorem cal_X12_changeOf : Cal yX12_changeOf cX12_changeOf 5 (some .int) 3 := ⟨ww_482, ww_429, ⟨by decide, by decide, by decide⟩, by decide⟩
set_option maxHeartbeats 4000000 in
set_option maxRecDepth 100000 in
theorem c_X12_changeOf (l : Launch) (G : Gx) (x1 : Int32) (x2 : Int32) (x3 : Int32) (σ : St) (r0 : Int32) (σ0 : St) (h : f_X12_changeOf x1 x2 x3 σ = some (r0, σ0)) : MI l G yX12_changeOf cX12_changeOf 5 (some .int) 3 [.ref (ga G 6), .int x1, .int x2, .int x3] σ (some (.int r0)) σ0 := by
  refine MI_of RX12 rfl (by decide) [(0, .ref (ga G 6)), (1, .int x1), (2, .int x2), (3, .int x3)] rfl (Nat.le_of_ble_eq_true rfl) ?_
  intro X hXl C hR
  unfold f_X12_changeOf at h
  refine V_aload_n C (dt_at dt_X12_changeOf_0 0 rfl) 0 rfl rfl ?_
  refine V_iload_n C (dt_at dt_X12_changeOf_0 1 rfl) 1 rfl rfl ?_
  refine V_iconst C 3 (dt_at dt_X12_changeOf_0 2 rfl) (by decide) ?_
  obtain ⟨r1, e2, h⟩ := bd_s h
  refine cv_X12_its C ww_460 x1 3 e2 (Nat.le_of_ble_eq_true rfl) (Nat.le_of_ble_eq_true rfl) z0 (dt_at dt_X12_changeOf_0 3 rfl) ?_
  refine V_aload_n C (dt_at dt_X12_changeOf_0 4 rfl) 0 rfl rfl ?_
  refine V_iload_n C (dt_at dt_X12_changeOf_0 5 rfl) 2 rfl rfl ?_
  refine V_iconst C 3 (dt_at dt_X12_changeOf_0 6 rfl) (by decide) ?_
  obtain ⟨r4, e5, h⟩ := bd_s h
  refine cv_X12_its C ww_460 x2 3 e5 (Nat.le_of_ble_eq_true rfl) (Nat.le_of_ble_eq_true rfl) z0 (dt_at dt_X12_changeOf_0 7 rfl) ?_
  refine V_isub C (dt_at dt_X12_changeOf_0 8 rfl) ?_
  refine V_istore C [1, 2, 3, 4, 0] (lv' := [(0, .ref (ga G 6)), (1, .int x1), (2, .int x2), (3, .int x3), (4, .int (r1 - r4))]) (dt_at dt_X12_changeOf_0 9 rfl) (by decide) rfl ?_
  refine V_aload_n C (dt_at dt_X12_changeOf_0 10 rfl) 0 rfl rfl ?_
  refine g_X12_7_6 C (dt_at dt_X12_changeOf_0 11 rfl) ?_
  refine V_sipush C 362 (dt_at dt_X12_changeOf_0 12 rfl) (by decide) ?_
  obtain ⟨h7, h⟩ := chk_s h
  refine al_84 C h7 (dt_at dt_X12_changeOf_0 13 rfl) ?_
  refine V_if_ne C 42 (dt_at dt_X12_changeOf_0 14 rfl) (by decide) (fun q8 => ?_) (fun q8 => ?_)
  · have h := ite_f q8 h
    refine V_aload_n C (dt_at dt_X12_changeOf_0 24 rfl) 0 rfl rfl ?_
    refine g_X12_28_6 C (dt_at dt_X12_changeOf_0 25 rfl) ?_
    refine V_iconst C 0 (dt_at dt_X12_changeOf_0 26 rfl) (by decide) ?_
    refine V_aload_n C (dt_at dt_X12_changeOf_0 27 rfl) 0 rfl rfl ?_
    refine V_iload_n C (dt_at dt_X12_changeOf_0 28 rfl) 1 rfl rfl ?_
    refine V_iconst C 3 (dt_at dt_X12_changeOf_0 29 rfl) (by decide) ?_
    obtain ⟨r9, e10, h⟩ := bd_s h
    refine cv_X12_its C ww_460 x1 3 e10 (Nat.le_of_ble_eq_true rfl) (Nat.le_of_ble_eq_true rfl) z0 (dt_at dt_X12_changeOf_0 30 rfl) ?_
    obtain ⟨h13, h⟩ := chk_s h
    obtain ⟨σ12, eσ12, h⟩ := nm_s h
    refine V_st eσ12 ?_ (fun k => as_90 C h13 (dt_at dt_X12_changeOf_0 31 rfl) k)
    refine V_aload_n C (dt_at dt_X12_changeOf_0 32 rfl) 0 rfl rfl ?_
    refine g_X12_28_6 C (dt_at dt_X12_changeOf_0 33 rfl) ?_
    refine V_iconst C 1 (dt_at dt_X12_changeOf_0 34 rfl) (by decide) ?_
    refine V_aload_n C (dt_at dt_X12_changeOf_0 35 rfl) 0 rfl rfl ?_
    refine V_iload_n C (dt_at dt_X12_changeOf_0 36 rfl) 2 rfl rfl ?_
    refine V_iconst C 3 (dt_at dt_X12_changeOf_0 37 rfl) (by decide) ?_
    obtain ⟨r14, e15, h⟩ := bd_s h
    refine cv_X12_its C ww_460 x2 3 e15 (Nat.le_of_ble_eq_true rfl) (Nat.le_of_ble_eq_true rfl) z0 (dt_at dt_X12_changeOf_0 38 rfl) ?_
    obtain ⟨h18, h⟩ := chk_s h
    obtain ⟨σ17, eσ17, h⟩ := nm_s h
    refine V_st eσ17 ?_ (fun k => as_90 C h18 (dt_at dt_X12_changeOf_0 39 rfl) k)
    refine V_aload_n C (dt_at dt_X12_changeOf_1 0 rfl) 0 rfl rfl ?_
    refine g_X12_28_6 C (dt_at dt_X12_changeOf_1 1 rfl) ?_
    refine V_iconst C 2 (dt_at dt_X12_changeOf_1 2 rfl) (by decide) ?_
    refine V_aload_n C (dt_at dt_X12_changeOf_1 3 rfl) 0 rfl rfl ?_
    refine V_iload_n C (dt_at dt_X12_changeOf_1 4 rfl) 1 rfl rfl ?_
    refine V_iconst C 0 (dt_at dt_X12_changeOf_1 5 rfl) (by decide) ?_
    obtain ⟨r19, e20, h⟩ := bd_s h
    refine cv_X12_its C ww_460 x1 0 e20 (Nat.le_of_ble_eq_true rfl) (Nat.le_of_ble_eq_true rfl) z0 (dt_at dt_X12_changeOf_1 6 rfl) ?_
    obtain ⟨h23, h⟩ := chk_s h
    obtain ⟨σ22, eσ22, h⟩ := nm_s h
    refine V_st eσ22 ?_ (fun k => as_90 C h23 (dt_at dt_X12_changeOf_1 7 rfl) k)
    refine V_aload_n C (dt_at dt_X12_changeOf_1 8 rfl) 0 rfl rfl ?_
    refine g_X12_28_6 C (dt_at dt_X12_changeOf_1 9 rfl) ?_
    refine V_iconst C 3 (dt_at dt_X12_changeOf_1 10 rfl) (by decide) ?_
    refine V_aload_n C (dt_at dt_X12_changeOf_1 11 rfl) 0 rfl rfl ?_
    refine V_iload_n C (dt_at dt_X12_changeOf_1 12 rfl) 2 rfl rfl ?_
    refine V_iconst C 0 (dt_at dt_X12_changeOf_1 13 rfl) (by decide) ?_
    obtain ⟨r24, e25, h⟩ := bd_s h
    refine cv_X12_its C ww_460 x2 0 e25 (Nat.le_of_ble_eq_true rfl) (Nat.le_of_ble_eq_true rfl) z0 (dt_at dt_X12_changeOf_1 14 rfl) ?_
    obtain ⟨h28, h⟩ := chk_s h
    obtain ⟨σ27, eσ27, h⟩ := nm_s h
    refine V_st eσ27 ?_ (fun k => as_90 C h28 (dt_at dt_X12_changeOf_1 15 rfl) k)
    refine V_aload_n C (dt_at dt_X12_changeOf_1 16 rfl) 0 rfl rfl ?_
    refine g_X12_28_6 C (dt_at dt_X12_changeOf_1 17 rfl) ?_
    refine V_iconst C 4 (dt_at dt_X12_changeOf_1 18 rfl) (by decide) ?_
    refine V_iload_n C (dt_at dt_X12_changeOf_1 19 rfl) 3 rfl rfl ?_
    obtain ⟨h30, h⟩ := chk_s h
    obtain ⟨σ29, eσ29, h⟩ := nm_s h
    refine V_st eσ29 ?_ (fun k => as_90 C h30 (dt_at dt_X12_changeOf_1 20 rfl) k)
    refine V_aload_n C (dt_at dt_X12_changeOf_1 21 rfl) 0 rfl rfl ?_
    refine V_iconst C 1 (dt_at dt_X12_changeOf_1 22 rfl) (by decide) ?_
    obtain ⟨r31, σ33, e32, h⟩ := bd2_s h
    refine cv_X12_comesTo C ww_480 1 e32 (Nat.le_of_ble_eq_true rfl) (Nat.le_of_ble_eq_true rfl) z0 (dt_at dt_X12_changeOf_1 23 rfl) ?_
    refine V_bipush C 99 (dt_at dt_X12_changeOf_1 24 rfl) (by decide) ?_
    obtain ⟨r34, e35, h⟩ := bd_s h
    refine cv_X12_held C ww_481 r31 99 e35 (Nat.le_of_ble_eq_true rfl) (Nat.le_of_ble_eq_true rfl) z0 (dt_at dt_X12_changeOf_1 25 rfl) ?_
    obtain ⟨e1_, e2_⟩ := pin2 h
    subst e1_; subst e2_
    exact V_iret C hR (dt_at dt_X12_changeOf_1 26 rfl)
  · have h := ite_t q8 h
    refine V_iconst C 2 (dt_at dt_X12_changeOf_0 15 rfl) (by decide) ?_
    refine V_iload C (dt_at dt_X12_changeOf_0 16 rfl) 4 rfl ?_
    refine V_if_ge C 38 (dt_at dt_X12_changeOf_0 17 rfl) (by decide) (fun q37 => ?_) (fun q37 => ?_)
    · have h := ite_f q37 h
      refine V_iload C (dt_at dt_X12_changeOf_0 21 rfl) 4 rfl ?_
      refine V_iadd C (dt_at dt_X12_changeOf_0 22 rfl) ?_
      obtain ⟨e1_, e2_⟩ := pin2 h
      subst e1_; subst e2_
      exact V_iret C hR (dt_at dt_X12_changeOf_0 23 rfl)
    · have h := ite_t q37 h
      refine V_iload C (dt_at dt_X12_changeOf_0 18 rfl) 4 rfl ?_
      refine V_ineg C (dt_at dt_X12_changeOf_0 19 rfl) ?_
      refine V_goto C 40 (dt_at dt_X12_changeOf_0 20 rfl) (by decide) ?_
      refine V_iadd C (dt_at dt_X12_changeOf_0 22 rfl) ?_
      obtain ⟨e1_, e2_⟩ := pin2 h
      subst e1_; subst e2_
      exact V_iret C hR (dt_at dt_X12_changeOf_0 23 rfl)
theorem cv_X12_changeOf (C : Ck X G cc own nL d) {idx : Nat} (hlk : Cond.methodLink own idx yX12_changeOf ∈ gtb) (x1 : Int32) (x2 : Int32) (x3 : Int32) {r0 : Int32} {σ0 : St} (e : f_X12_changeOf x1 x2 x3 σ = some (r0, σ0)) (hdd : 4 ≤ d) (hroom : (rest.map fun v => v.category).sum ≤ 8) (hcs : cells ≤ (xR X).cells ∧ slots ≤ (xR X).slots) (hd : decode cc pc = .ok (.invokevirtual idx, 3)) (k : V X G nL cells slots σ0 (pc + 3) lv (.int r0 :: rest)) : V X G nL cells slots σ pc lv (.int x3 :: .int x2 :: .int x1 :: .ref (ga G 6) :: rest) := V_callV C (As := [.int x1, .int x2, .int x3]) (c_X12_changeOf X.2.1 G x1 x2 x3 σ r0 σ0 e) cal_X12_changeOf ww_483 ww_484 hlk rfl hdd (lt110 rfl) rfl rfl rfl hroom hcs hd k
theorem dt_X12_nearAt_0 : dtab cX12_nearAt [(0, .iconst (-1), 1), (1, .istore_n 3, 1), (2, .iconst 0, 1), (3, .istore 4, 2), (5, .iload 4, 2), (7, .aload_n 0, 1), (8, .getfield 7, 3), (11, .iconst 2, 1), (12, .iaload, 1), (13, .if_icmp .ge 225, 3), (16, .iconst 0, 1), (17, .istore 5, 2), (19, .iload 5, 2), (21, .aload_n 0, 1), (22, .getfield 7, 3), (25, .iconst 2, 1), (26, .iaload, 1), (27, .if_icmp .ge 205, 3), (30, .aload_n 0, 1), (31, .iload 4, 2), (33, .iconst 0, 1), (34, .invokevirtual 99, 3), (37, .iload_n 1, 1), (38, .if_icmp .ne 188, 3), (41, .aload_n 0, 1), (42, .iload 5, 2), (44, .iconst 0, 1), (45, .invokevirtual 99, 3), (48, .iload_n 2, 1), (49, .if_icmp .ne 177, 3), (52, .aload_n 0, 1), (53, .iload 5, 2), (55, .iconst 1, 1), (56, .invokevirtual 99, 3), (59, .aload_n 0, 1), (60, .iload 4, 2), (62, .iconst 2, 1), (63, .invokevirtual 99, 3), (66, .if_icmp .gt 6, 3), (69, .goto 157, 3)] = true := by decide +kernel
theorem dt_X12_nearAt_1 : dtab cX12_nearAt [(72, .aload_n 0, 1), (73, .iload 4, 2), (75, .iconst 3, 1), (76, .invokevirtual 99, 3), (79, .iconst 1, 1), (80, .iand, 1), (81, .aload_n 0, 1), (82, .iload 5, 2), (84, .iconst 3, 1), (85, .invokevirtual 99, 3), (88, .iconst 1, 1), (89, .ishr, 1), (90, .if_icmp .ne 7, 3), (93, .iconst 1, 1), (94, .goto 4, 3), (97, .iconst 0, 1), (98, .istore 6, 2), (100, .aload_n 0, 1), (101, .iload_n 1, 1), (102, .iload_n 2, 1), (103, .iload 6, 2), (105, .invokevirtual 225, 3), (108, .istore 7, 2), (110, .aload_n 0, 1), (111, .iload_n 1, 1), (112, .iconst 0, 1), (113, .invokevirtual 114, 3), (116, .iconst 3, 1), (117, .if_icmp .eq 13, 3), (120, .aload_n 0, 1), (121, .iload_n 2, 1), (122, .iconst 0, 1), (123, .invokevirtual 114, 3), (126, .iconst 3, 1), (127, .if_icmp .ne 7, 3), (130, .iconst 0, 1), (131, .goto 32, 3), (134, .aload_n 0, 1), (135, .iload_n 1, 1), (136, .iconst 0, 1)] = true := by decide +kernel
theorem dt_X12_nearAt_2 : dtab cX12_nearAt [(137, .invokevirtual 114, 3), (140, .iconst 4, 1), (141, .if_icmp .eq 13, 3), (144, .aload_n 0, 1), (145, .iload_n 2, 1), (146, .iconst 0, 1), (147, .invokevirtual 114, 3), (150, .iconst 4, 1), (151, .if_icmp .ne 10, 3), (154, .iload 7, 2), (156, .iconst 2, 1), (157, .idiv, 1), (158, .goto 5, 3), (161, .iload 7, 2), (163, .istore 7, 2), (165, .aload_n 0, 1), (166, .iload 5, 2), (168, .iconst 1, 1), (169, .invokevirtual 99, 3), (172, .aload_n 0, 1), (173, .iload 4, 2), (175, .iconst 2, 1), (176, .invokevirtual 99, 3), (179, .isub, 1), (180, .iconst 1, 1), (181, .isub, 1), (182, .iload 7, 2), (184, .if_icmp .ge 7, 3), (187, .iconst 1, 1), (188, .goto 4, 3), (191, .iconst 0, 1), (192, .istore 8, 2), (194, .iload 8, 2), (196, .ifCond .eq 28, 3), (199, .iload_n 3, 1), (200, .ifCond .lt 14, 3), (203, .aload_n 0, 1), (204, .iload 5, 2), (206, .iconst 1, 1), (207, .invokevirtual 99, 3)] = true := by decide +kernel
theorem dt_X12_nearAt_3 : dtab cX12_nearAt [(210, .iload_n 3, 1), (211, .if_icmp .ge 13, 3), (214, .aload_n 0, 1), (215, .iload 5, 2), (217, .iconst 1, 1), (218, .invokevirtual 99, 3), (221, .goto 4, 3), (224, .iload_n 3, 1), (225, .istore_n 3, 1), (226, .iinc 5 1, 3), (229, .goto (-210), 3), (232, .iinc 4 1, 3), (235, .goto (-230), 3), (238, .iload_n 3, 1), (239, .ireturn, 1)] = true := by decide +kernel
theorem cal_X12_nearAt : Cal yX12_nearAt cX12_nearAt 9 (some .int) 2 := ⟨ww_486, ww_429, ⟨by decide, by decide, by decide⟩, by decide⟩
set_option maxHeartbeats 4000000 in
set_option maxRecDepth 100000 in
theorem c_X12_nearAt (l : Launch) (G : Gx) (x1 : Int32) (x2 : Int32) (σ : St) (r0 : Int32) (σ0 : St) (h : f_X12_nearAt x1 x2 σ = some (r0, σ0)) : MI l G yX12_nearAt cX12_nearAt 9 (some .int) 4 [.ref (ga G 6), .int x1, .int x2] σ (some (.int r0)) σ0 := by
  refine MI_of RX12 rfl (by decide) [(0, .ref (ga G 6)), (1, .int x1), (2, .int x2)] rfl (Nat.le_of_ble_eq_true rfl) ?_
  intro X hXl C hR
  unfold f_X12_nearAt at h
  have J_5 : ∀ (x3 : Int32) (x4 : Int32) (σ : St), f_X12_nearAt_5 x1 x2 x3 x4 σ = some (r0, σ0) → V X G 9 0 0 σ 5 [(0, .ref (ga G 6)), (1, .int x1), (2, .int x2), (3, .int x3), (4, .int x4)] [] := by
    intro x3 x4 σ h
    refine it_v (P := fun z : Int32 × Int32 × St => V X G 9 0 0 z.2.2 5 [(0, .ref (ga G 6)), (1, .int x1), (2, .int x2), (3, .int z.1), (4, .int z.2.1)] []) ?_ (x3, x4, σ) h
    clear h
    intro z w_5 h ih_5 ex_5
    obtain ⟨x3, x4, σ⟩ := z
    have h : b_X12_nearAt_5 x1 x2 x3 x4 σ = some w_5 := h
    show V X G 9 0 0 σ 5 [(0, .ref (ga G 6)), (1, .int x1), (2, .int x2), (3, .int x3), (4, .int x4)] []
    unfold b_X12_nearAt_5 at h
    have J_232 : ∀ (x3 : Int32) (x4 : Int32) (σ : St), f_X12_nearAt_232 x1 x2 x3 x4 σ = some w_5 → V X G 9 0 0 σ 232 [(0, .ref (ga G 6)), (1, .int x1), (2, .int x2), (3, .int x3), (4, .int x4)] [] := by
      intro x3 x4 σ h
      unfold f_X12_nearAt_232 at h
      refine V_iinc C (x4 + 1) 4 [1, 2, 3, 4, 0] (lv' := [(0, .ref (ga G 6)), (1, .int x1), (2, .int x2), (3, .int x3), (4, .int (x4 + 1))]) (dt_at dt_X12_nearAt_3 11 rfl) rfl (by rfl) (by decide) rfl ?_
      refine V_goto C 5 (dt_at dt_X12_nearAt_3 12 rfl) (by decide) ?_
      exact ih_5 (x3, (x4 + 1), σ) (Option.some.inj h).symm
    have J_19 : ∀ (x3 : Int32) (x4 : Int32) (x5 : Int32) (σ : St), f_X12_nearAt_19 x1 x2 x3 x4 x5 σ = some w_5 → V X G 9 0 0 σ 19 [(0, .ref (ga G 6)), (1, .int x1), (2, .int x2), (3, .int x3), (4, .int x4), (5, .int x5)] [] := by
      intro x3 x4 x5 σ h
      refine it_v (P := fun z : Int32 × Int32 × St => V X G 9 0 0 z.2.2 19 [(0, .ref (ga G 6)), (1, .int x1), (2, .int x2), (3, .int z.1), (4, .int x4), (5, .int z.2.1)] []) ?_ (x3, x5, σ) h
      clear h
      intro z w_19 h ih_19 ex_19
      obtain ⟨x3, x5, σ⟩ := z
      have h : b_X12_nearAt_19 x1 x2 x3 x4 x5 σ = some w_19 := h
      show V X G 9 0 0 σ 19 [(0, .ref (ga G 6)), (1, .int x1), (2, .int x2), (3, .int x3), (4, .int x4), (5, .int x5)] []
      unfold b_X12_nearAt_19 at h
      have J_226 : ∀ (x3 : Int32) (x5 : Int32) (σ : St), f_X12_nearAt_226 x1 x2 x3 x4 x5 σ = some w_19 → V X G 9 0 0 σ 226 [(0, .ref (ga G 6)), (1, .int x1), (2, .int x2), (3, .int x3), (4, .int x4), (5, .int x5)] [] := by
        intro x3 x5 σ h
        unfold f_X12_nearAt_226 at h
        refine V_iinc C (x5 + 1) 5 [1, 2, 3, 4, 5, 0] (lv' := [(0, .ref (ga G 6)), (1, .int x1), (2, .int x2), (3, .int x3), (4, .int x4), (5, .int (x5 + 1))]) (dt_at dt_X12_nearAt_3 9 rfl) rfl (by rfl) (by decide) rfl ?_
        refine V_goto C 19 (dt_at dt_X12_nearAt_3 10 rfl) (by decide) ?_
        exact ih_19 (x3, (x5 + 1), σ) (Option.some.inj h).symm
      have J_225 : ∀ (x5 : Int32) (s0 : Int32) (σ : St), f_X12_nearAt_225 x1 x2 x4 x5 s0 σ = some w_19 → V X G 9 0 0 σ 225 [(0, .ref (ga G 6)), (1, .int x1), (2, .int x2), (4, .int x4), (5, .int x5)] [.int s0] := by
        intro x5 s0 σ h
        unfold f_X12_nearAt_225 at h
        refine V_istore_n C [1, 2, 3, 0, 4, 5] (lv' := [(0, .ref (ga G 6)), (1, .int x1), (2, .int x2), (3, .int s0), (4, .int x4), (5, .int x5)]) (dt_at dt_X12_nearAt_3 8 rfl) rfl (by decide) rfl ?_
        exact J_226 s0 x5 σ h
      have J_224 : ∀ (x3 : Int32) (x5 : Int32) (σ : St), f_X12_nearAt_224 x1 x2 x3 x4 x5 σ = some w_19 → V X G 9 0 0 σ 224 [(0, .ref (ga G 6)), (1, .int x1), (2, .int x2), (3, .int x3), (4, .int x4), (5, .int x5)] [] := by
        intro x3 x5 σ h
        unfold f_X12_nearAt_224 at h
        refine V_iload_n C (dt_at dt_X12_nearAt_3 7 rfl) 3 rfl rfl ?_
        refine V_sub [0, 1, 2, 4, 5] (lv' := [(0, .ref (ga G 6)), (1, .int x1), (2, .int x2), (4, .int x4), (5, .int x5)]) rfl ?_
        exact J_225 x5 x3 σ h
      have J_214 : ∀ (x5 : Int32) (σ : St), f_X12_nearAt_214 x1 x2 x4 x5 σ = some w_19 → V X G 9 0 0 σ 214 [(0, .ref (ga G 6)), (1, .int x1), (2, .int x2), (4, .int x4), (5, .int x5)] [] := by
        intro x5 σ h
        unfold f_X12_nearAt_214 at h
        refine V_aload_n C (dt_at dt_X12_nearAt_3 2 rfl) 0 rfl rfl ?_
        refine V_iload C (dt_at dt_X12_nearAt_3 3 rfl) 4 rfl ?_
        refine V_iconst C 1 (dt_at dt_X12_nearAt_3 4 rfl) (by decide) ?_
        obtain ⟨r60, e61, h⟩ := bd_s h
        refine cv_X12_entryOf C ww_455 x5 1 e61 (Nat.le_of_ble_eq_true rfl) (Nat.le_of_ble_eq_true rfl) z0 (dt_at dt_X12_nearAt_3 5 rfl) ?_
        refine V_goto C 225 (dt_at dt_X12_nearAt_3 6 rfl) (by decide) ?_
        exact J_225 x5 r60 σ h
      have J_192 : ∀ (x3 : Int32) (x5 : Int32) (s0 : Int32) (σ : St), f_X12_nearAt_192 x1 x2 x3 x4 x5 s0 σ = some w_19 → V X G 9 0 0 σ 192 [(0, .ref (ga G 6)), (1, .int x1), (2, .int x2), (3, .int x3), (4, .int x4), (5, .int x5)] [.int s0] := by
        intro x3 x5 s0 σ h
        unfold f_X12_nearAt_192 at h
        refine V_istore C [1, 2, 3, 4, 5, 6, 0] (lv' := [(0, .ref (ga G 6)), (1, .int x1), (2, .int x2), (3, .int x3), (4, .int x4), (5, .int x5), (8, .int s0)]) (dt_at dt_X12_nearAt_2 31 rfl) (by decide) rfl ?_
        refine V_iload C (dt_at dt_X12_nearAt_2 32 rfl) 6 rfl ?_
        refine V_if_eq C 224 (dt_at dt_X12_nearAt_2 33 rfl) (by decide) (fun q54 => ?_) (fun q54 => ?_)
        · have h := ite_t q54 h
          refine V_sub [0, 1, 2, 3, 4, 5] (lv' := [(0, .ref (ga G 6)), (1, .int x1), (2, .int x2), (3, .int x3), (4, .int x4), (5, .int x5)]) rfl ?_
          exact J_224 x3 x5 σ h
        · have h := ite_f q54 h
          refine V_iload_n C (dt_at dt_X12_nearAt_2 34 rfl) 3 rfl rfl ?_
          refine V_if_lt C 214 (dt_at dt_X12_nearAt_2 35 rfl) (by decide) (fun q55 => ?_) (fun q55 => ?_)
          · have h := ite_t q55 h
            refine V_sub [0, 1, 2, 4, 5] (lv' := [(0, .ref (ga G 6)), (1, .int x1), (2, .int x2), (4, .int x4), (5, .int x5)]) rfl ?_
            exact J_214 x5 σ h
          · have h := ite_f q55 h
            refine V_aload_n C (dt_at dt_X12_nearAt_2 36 rfl) 0 rfl rfl ?_
            refine V_iload C (dt_at dt_X12_nearAt_2 37 rfl) 5 rfl ?_
            refine V_iconst C 1 (dt_at dt_X12_nearAt_2 38 rfl) (by decide) ?_
            obtain ⟨r56, e57, h⟩ := bd_s h
            refine cv_X12_entryOf C ww_455 x5 1 e57 (Nat.le_of_ble_eq_true rfl) (Nat.le_of_ble_eq_true rfl) z0 (dt_at dt_X12_nearAt_2 39 rfl) ?_
            refine V_iload_n C (dt_at dt_X12_nearAt_3 0 rfl) 3 rfl rfl ?_
            refine V_icmp_ge C 224 (dt_at dt_X12_nearAt_3 1 rfl) (by decide) (fun q59 => ?_) (fun q59 => ?_)
            · have h := ite_f q59 h
              refine V_sub [0, 1, 2, 3, 4, 5] (lv' := [(0, .ref (ga G 6)), (1, .int x1), (2, .int x2), (3, .int x3), (4, .int x4), (5, .int x5)]) rfl ?_
              exact J_224 x3 x5 σ h
            · have h := ite_t q59 h
              refine V_sub [0, 1, 2, 4, 5] (lv' := [(0, .ref (ga G 6)), (1, .int x1), (2, .int x2), (4, .int x4), (5, .int x5)]) rfl ?_
              exact J_214 x5 σ h
      have J_163 : ∀ (x3 : Int32) (x5 : Int32) (s0 : Int32) (σ : St), f_X12_nearAt_163 x1 x2 x3 x4 x5 s0 σ = some w_19 → V X G 9 0 0 σ 163 [(0, .ref (ga G 6)), (1, .int x1), (2, .int x2), (3, .int x3), (4, .int x4), (5, .int x5)] [.int s0] := by
        intro x3 x5 s0 σ h
        unfold f_X12_nearAt_163 at h
        refine V_istore C [1, 2, 3, 4, 5, 6, 0] (lv' := [(0, .ref (ga G 6)), (1, .int x1), (2, .int x2), (3, .int x3), (4, .int x4), (5, .int x5), (7, .int s0)]) (dt_at dt_X12_nearAt_2 14 rfl) (by decide) rfl ?_
        refine V_aload_n C (dt_at dt_X12_nearAt_2 15 rfl) 0 rfl rfl ?_
        refine V_iload C (dt_at dt_X12_nearAt_2 16 rfl) 5 rfl ?_
        refine V_iconst C 1 (dt_at dt_X12_nearAt_2 17 rfl) (by decide) ?_
        obtain ⟨r47, e48, h⟩ := bd_s h
        refine cv_X12_entryOf C ww_455 x5 1 e48 (Nat.le_of_ble_eq_true rfl) (Nat.le_of_ble_eq_true rfl) z0 (dt_at dt_X12_nearAt_2 18 rfl) ?_
        refine V_aload_n C (dt_at dt_X12_nearAt_2 19 rfl) 0 rfl rfl ?_
        refine V_iload C (dt_at dt_X12_nearAt_2 20 rfl) 4 rfl ?_
        refine V_iconst C 2 (dt_at dt_X12_nearAt_2 21 rfl) (by decide) ?_
        obtain ⟨r50, e51, h⟩ := bd_s h
        refine cv_X12_entryOf C ww_455 x4 2 e51 (Nat.le_of_ble_eq_true rfl) (Nat.le_of_ble_eq_true rfl) z0 (dt_at dt_X12_nearAt_2 22 rfl) ?_
        refine V_isub C (dt_at dt_X12_nearAt_2 23 rfl) ?_
        refine V_iconst C 1 (dt_at dt_X12_nearAt_2 24 rfl) (by decide) ?_
        refine V_isub C (dt_at dt_X12_nearAt_2 25 rfl) ?_
        refine V_iload C (dt_at dt_X12_nearAt_2 26 rfl) 6 rfl ?_
        refine V_icmp_ge C 191 (dt_at dt_X12_nearAt_2 27 rfl) (by decide) (fun q53 => ?_) (fun q53 => ?_)
        · have h := ite_f q53 h
          refine V_iconst C 0 (dt_at dt_X12_nearAt_2 30 rfl) (by decide) ?_
          refine V_sub [0, 1, 2, 3, 4, 5] (lv' := [(0, .ref (ga G 6)), (1, .int x1), (2, .int x2), (3, .int x3), (4, .int x4), (5, .int x5)]) rfl ?_
          exact J_192 x3 x5 0 σ h
        · have h := ite_t q53 h
          refine V_iconst C 1 (dt_at dt_X12_nearAt_2 28 rfl) (by decide) ?_
          refine V_goto C 192 (dt_at dt_X12_nearAt_2 29 rfl) (by decide) ?_
          refine V_sub [0, 1, 2, 3, 4, 5] (lv' := [(0, .ref (ga G 6)), (1, .int x1), (2, .int x2), (3, .int x3), (4, .int x4), (5, .int x5)]) rfl ?_
          exact J_192 x3 x5 1 σ h
      have J_154 : ∀ (x3 : Int32) (x5 : Int32) (x7 : Int32) (σ : St), f_X12_nearAt_154 x1 x2 x3 x4 x5 x7 σ = some w_19 → V X G 9 0 0 σ 154 [(0, .ref (ga G 6)), (1, .int x1), (2, .int x2), (3, .int x3), (4, .int x4), (5, .int x5), (7, .int x7)] [] := by
        intro x3 x5 x7 σ h
        unfold f_X12_nearAt_154 at h
        refine V_iload C (dt_at dt_X12_nearAt_2 9 rfl) 6 rfl ?_
        refine V_iconst C 2 (dt_at dt_X12_nearAt_2 10 rfl) (by decide) ?_
        refine V_idiv C (dt_at dt_X12_nearAt_2 11 rfl) (by decide) ?_
        refine V_goto C 163 (dt_at dt_X12_nearAt_2 12 rfl) (by decide) ?_
        refine V_sub [0, 1, 2, 3, 4, 5] (lv' := [(0, .ref (ga G 6)), (1, .int x1), (2, .int x2), (3, .int x3), (4, .int x4), (5, .int x5)]) rfl ?_
        exact J_163 x3 x5 (x7 / 2) σ h
      have J_130 : ∀ (x3 : Int32) (x5 : Int32) (σ : St), f_X12_nearAt_130 x1 x2 x3 x4 x5 σ = some w_19 → V X G 9 0 0 σ 130 [(0, .ref (ga G 6)), (1, .int x1), (2, .int x2), (3, .int x3), (4, .int x4), (5, .int x5)] [] := by
        intro x3 x5 σ h
        unfold f_X12_nearAt_130 at h
        refine V_iconst C 0 (dt_at dt_X12_nearAt_1 35 rfl) (by decide) ?_
        refine V_goto C 163 (dt_at dt_X12_nearAt_1 36 rfl) (by decide) ?_
        exact J_163 x3 x5 0 σ h
      have J_98 : ∀ (x3 : Int32) (x5 : Int32) (s0 : Int32) (σ : St), f_X12_nearAt_98 x1 x2 x3 x4 x5 s0 σ = some w_19 → V X G 9 0 0 σ 98 [(0, .ref (ga G 6)), (1, .int x1), (2, .int x2), (3, .int x3), (4, .int x4), (5, .int x5)] [.int s0] := by
        intro x3 x5 s0 σ h
        unfold f_X12_nearAt_98 at h
        refine V_istore C [1, 2, 3, 4, 5, 6, 0] (lv' := [(0, .ref (ga G 6)), (1, .int x1), (2, .int x2), (3, .int x3), (4, .int x4), (5, .int x5), (6, .int s0)]) (dt_at dt_X12_nearAt_1 16 rfl) (by decide) rfl ?_
        refine V_aload_n C (dt_at dt_X12_nearAt_1 17 rfl) 0 rfl rfl ?_
        refine V_iload_n C (dt_at dt_X12_nearAt_1 18 rfl) 1 rfl rfl ?_
        refine V_iload_n C (dt_at dt_X12_nearAt_1 19 rfl) 2 rfl rfl ?_
        refine V_iload C (dt_at dt_X12_nearAt_1 20 rfl) 6 rfl ?_
        obtain ⟨r28, σ30, e29, h⟩ := bd2_s h
        refine cv_X12_changeOf C ww_485 x1 x2 s0 e29 (Nat.le_of_ble_eq_true rfl) (Nat.le_of_ble_eq_true rfl) z0 (dt_at dt_X12_nearAt_1 21 rfl) ?_
        refine V_istore C [1, 2, 3, 4, 5, 6, 7, 0] (lv' := [(0, .ref (ga G 6)), (1, .int x1), (2, .int x2), (3, .int x3), (4, .int x4), (5, .int x5), (6, .int s0), (7, .int r28)]) (dt_at dt_X12_nearAt_1 22 rfl) (by decide) rfl ?_
        refine V_aload_n C (dt_at dt_X12_nearAt_1 23 rfl) 0 rfl rfl ?_
        refine V_iload_n C (dt_at dt_X12_nearAt_1 24 rfl) 1 rfl rfl ?_
        refine V_iconst C 0 (dt_at dt_X12_nearAt_1 25 rfl) (by decide) ?_
        obtain ⟨r31, e32, h⟩ := bd_s h
        refine cv_X12_its C ww_460 x1 0 e32 (Nat.le_of_ble_eq_true rfl) (Nat.le_of_ble_eq_true rfl) z0 (dt_at dt_X12_nearAt_1 26 rfl) ?_
        refine V_iconst C 3 (dt_at dt_X12_nearAt_1 27 rfl) (by decide) ?_
        refine V_icmp_eq C 130 (dt_at dt_X12_nearAt_1 28 rfl) (by decide) (fun q34 => ?_) (fun q34 => ?_)
        · have h := ite_t q34 h
          refine V_sub [0, 1, 2, 3, 4, 5] (lv' := [(0, .ref (ga G 6)), (1, .int x1), (2, .int x2), (3, .int x3), (4, .int x4), (5, .int x5)]) rfl ?_
          exact J_130 x3 x5 σ30 h
        · have h := ite_f q34 h
          refine V_aload_n C (dt_at dt_X12_nearAt_1 29 rfl) 0 rfl rfl ?_
          refine V_iload_n C (dt_at dt_X12_nearAt_1 30 rfl) 2 rfl rfl ?_
          refine V_iconst C 0 (dt_at dt_X12_nearAt_1 31 rfl) (by decide) ?_
          obtain ⟨r35, e36, h⟩ := bd_s h
          refine cv_X12_its C ww_460 x2 0 e36 (Nat.le_of_ble_eq_true rfl) (Nat.le_of_ble_eq_true rfl) z0 (dt_at dt_X12_nearAt_1 32 rfl) ?_
          refine V_iconst C 3 (dt_at dt_X12_nearAt_1 33 rfl) (by decide) ?_
          refine V_icmp_ne C 134 (dt_at dt_X12_nearAt_1 34 rfl) (by decide) (fun q38 => ?_) (fun q38 => ?_)
          · have h := ite_f q38 h
            refine V_aload_n C (dt_at dt_X12_nearAt_1 37 rfl) 0 rfl rfl ?_
            refine V_iload_n C (dt_at dt_X12_nearAt_1 38 rfl) 1 rfl rfl ?_
            refine V_iconst C 0 (dt_at dt_X12_nearAt_1 39 rfl) (by decide) ?_
            obtain ⟨r39, e40, h⟩ := bd_s h
            refine cv_X12_its C ww_460 x1 0 e40 (Nat.le_of_ble_eq_true rfl) (Nat.le_of_ble_eq_true rfl) z0 (dt_at dt_X12_nearAt_2 0 rfl) ?_
            refine V_iconst C 4 (dt_at dt_X12_nearAt_2 1 rfl) (by decide) ?_
            refine V_icmp_eq C 154 (dt_at dt_X12_nearAt_2 2 rfl) (by decide) (fun q42 => ?_) (fun q42 => ?_)
            · have h := ite_t q42 h
              refine V_sub [0, 1, 2, 3, 4, 5, 7] (lv' := [(0, .ref (ga G 6)), (1, .int x1), (2, .int x2), (3, .int x3), (4, .int x4), (5, .int x5), (7, .int r28)]) rfl ?_
              exact J_154 x3 x5 r28 σ30 h
            · have h := ite_f q42 h
              refine V_aload_n C (dt_at dt_X12_nearAt_2 3 rfl) 0 rfl rfl ?_
              refine V_iload_n C (dt_at dt_X12_nearAt_2 4 rfl) 2 rfl rfl ?_
              refine V_iconst C 0 (dt_at dt_X12_nearAt_2 5 rfl) (by decide) ?_
              obtain ⟨r43, e44, h⟩ := bd_s h
              refine cv_X12_its C ww_460 x2 0 e44 (Nat.le_of_ble_eq_true rfl) (Nat.le_of_ble_eq_true rfl) z0 (dt_at dt_X12_nearAt_2 6 rfl) ?_
              refine V_iconst C 4 (dt_at dt_X12_nearAt_2 7 rfl) (by decide) ?_
              refine V_icmp_ne C 161 (dt_at dt_X12_nearAt_2 8 rfl) (by decide) (fun q46 => ?_) (fun q46 => ?_)
              · have h := ite_f q46 h
                refine V_iload C (dt_at dt_X12_nearAt_2 13 rfl) 7 rfl ?_
                refine V_sub [0, 1, 2, 3, 4, 5] (lv' := [(0, .ref (ga G 6)), (1, .int x1), (2, .int x2), (3, .int x3), (4, .int x4), (5, .int x5)]) rfl ?_
                exact J_163 x3 x5 r28 σ30 h
              · have h := ite_t q46 h
                refine V_sub [0, 1, 2, 3, 4, 5, 7] (lv' := [(0, .ref (ga G 6)), (1, .int x1), (2, .int x2), (3, .int x3), (4, .int x4), (5, .int x5), (7, .int r28)]) rfl ?_
                exact J_154 x3 x5 r28 σ30 h
          · have h := ite_t q38 h
            refine V_sub [0, 1, 2, 3, 4, 5] (lv' := [(0, .ref (ga G 6)), (1, .int x1), (2, .int x2), (3, .int x3), (4, .int x4), (5, .int x5)]) rfl ?_
            exact J_130 x3 x5 σ30 h
      refine V_iload C (dt_at dt_X12_nearAt_0 12 rfl) 5 rfl ?_
      refine V_aload_n C (dt_at dt_X12_nearAt_0 13 rfl) 0 rfl rfl ?_
      refine g_X12_7_6 C (dt_at dt_X12_nearAt_0 14 rfl) ?_
      refine V_iconst C 2 (dt_at dt_X12_nearAt_0 15 rfl) (by decide) ?_
      obtain ⟨h3, h⟩ := chk_s h
      refine al_84 C h3 (dt_at dt_X12_nearAt_0 16 rfl) ?_
      refine V_icmp_ge C 232 (dt_at dt_X12_nearAt_0 17 rfl) (by decide) (fun q4 => ?_) (fun q4 => ?_)
      · have h := ite_f q4 h
        refine V_sub [0, 1, 2, 3, 4] (lv' := [(0, .ref (ga G 6)), (1, .int x1), (2, .int x2), (3, .int x3), (4, .int x4)]) rfl ?_
        obtain ⟨t5, h, e_19⟩ := map_s h
        have e_19 := ex_19 _ e_19
        rw [e_19] at h
        exact J_232 x3 x4 σ h
      · have h := ite_t q4 h
        refine V_aload_n C (dt_at dt_X12_nearAt_0 18 rfl) 0 rfl rfl ?_
        refine V_iload C (dt_at dt_X12_nearAt_0 19 rfl) 4 rfl ?_
        refine V_iconst C 0 (dt_at dt_X12_nearAt_0 20 rfl) (by decide) ?_
        obtain ⟨r6, e7, h⟩ := bd_s h
        refine cv_X12_entryOf C ww_455 x4 0 e7 (Nat.le_of_ble_eq_true rfl) (Nat.le_of_ble_eq_true rfl) z0 (dt_at dt_X12_nearAt_0 21 rfl) ?_
        refine V_iload_n C (dt_at dt_X12_nearAt_0 22 rfl) 1 rfl rfl ?_
        refine V_icmp_ne C 226 (dt_at dt_X12_nearAt_0 23 rfl) (by decide) (fun q9 => ?_) (fun q9 => ?_)
        · have h := ite_f q9 h
          exact J_226 x3 x5 σ h
        · have h := ite_t q9 h
          refine V_aload_n C (dt_at dt_X12_nearAt_0 24 rfl) 0 rfl rfl ?_
          refine V_iload C (dt_at dt_X12_nearAt_0 25 rfl) 5 rfl ?_
          refine V_iconst C 0 (dt_at dt_X12_nearAt_0 26 rfl) (by decide) ?_
          obtain ⟨r10, e11, h⟩ := bd_s h
          refine cv_X12_entryOf C ww_455 x5 0 e11 (Nat.le_of_ble_eq_true rfl) (Nat.le_of_ble_eq_true rfl) z0 (dt_at dt_X12_nearAt_0 27 rfl) ?_
          refine V_iload_n C (dt_at dt_X12_nearAt_0 28 rfl) 2 rfl rfl ?_
          refine V_icmp_ne C 226 (dt_at dt_X12_nearAt_0 29 rfl) (by decide) (fun q13 => ?_) (fun q13 => ?_)
          · have h := ite_f q13 h
            exact J_226 x3 x5 σ h
          · have h := ite_t q13 h
            refine V_aload_n C (dt_at dt_X12_nearAt_0 30 rfl) 0 rfl rfl ?_
            refine V_iload C (dt_at dt_X12_nearAt_0 31 rfl) 5 rfl ?_
            refine V_iconst C 1 (dt_at dt_X12_nearAt_0 32 rfl) (by decide) ?_
            obtain ⟨r14, e15, h⟩ := bd_s h
            refine cv_X12_entryOf C ww_455 x5 1 e15 (Nat.le_of_ble_eq_true rfl) (Nat.le_of_ble_eq_true rfl) z0 (dt_at dt_X12_nearAt_0 33 rfl) ?_
            refine V_aload_n C (dt_at dt_X12_nearAt_0 34 rfl) 0 rfl rfl ?_
            refine V_iload C (dt_at dt_X12_nearAt_0 35 rfl) 4 rfl ?_
            refine V_iconst C 2 (dt_at dt_X12_nearAt_0 36 rfl) (by decide) ?_
            obtain ⟨r17, e18, h⟩ := bd_s h
            refine cv_X12_entryOf C ww_455 x4 2 e18 (Nat.le_of_ble_eq_true rfl) (Nat.le_of_ble_eq_true rfl) z0 (dt_at dt_X12_nearAt_0 37 rfl) ?_
            refine V_icmp_gt C 72 (dt_at dt_X12_nearAt_0 38 rfl) (by decide) (fun q20 => ?_) (fun q20 => ?_)
            · have h := ite_t q20 h
              refine V_aload_n C (dt_at dt_X12_nearAt_1 0 rfl) 0 rfl rfl ?_
              refine V_iload C (dt_at dt_X12_nearAt_1 1 rfl) 4 rfl ?_
              refine V_iconst C 3 (dt_at dt_X12_nearAt_1 2 rfl) (by decide) ?_
              obtain ⟨r21, e22, h⟩ := bd_s h
              refine cv_X12_entryOf C ww_455 x4 3 e22 (Nat.le_of_ble_eq_true rfl) (Nat.le_of_ble_eq_true rfl) z0 (dt_at dt_X12_nearAt_1 3 rfl) ?_
              refine V_iconst C 1 (dt_at dt_X12_nearAt_1 4 rfl) (by decide) ?_
              refine V_iand C (dt_at dt_X12_nearAt_1 5 rfl) ?_
              refine V_aload_n C (dt_at dt_X12_nearAt_1 6 rfl) 0 rfl rfl ?_
              refine V_iload C (dt_at dt_X12_nearAt_1 7 rfl) 5 rfl ?_
              refine V_iconst C 3 (dt_at dt_X12_nearAt_1 8 rfl) (by decide) ?_
              obtain ⟨r24, e25, h⟩ := bd_s h
              refine cv_X12_entryOf C ww_455 x5 3 e25 (Nat.le_of_ble_eq_true rfl) (Nat.le_of_ble_eq_true rfl) z0 (dt_at dt_X12_nearAt_1 9 rfl) ?_
              refine V_iconst C 1 (dt_at dt_X12_nearAt_1 10 rfl) (by decide) ?_
              refine V_ishr C (dt_at dt_X12_nearAt_1 11 rfl) ?_
              refine V_icmp_ne C 97 (dt_at dt_X12_nearAt_1 12 rfl) (by decide) (fun q27 => ?_) (fun q27 => ?_)
              · have h := ite_f q27 h
                refine V_iconst C 0 (dt_at dt_X12_nearAt_1 15 rfl) (by decide) ?_
                exact J_98 x3 x5 0 σ h
              · have h := ite_t q27 h
                refine V_iconst C 1 (dt_at dt_X12_nearAt_1 13 rfl) (by decide) ?_
                refine V_goto C 98 (dt_at dt_X12_nearAt_1 14 rfl) (by decide) ?_
                exact J_98 x3 x5 1 σ h
            · have h := ite_f q20 h
              refine V_goto C 226 (dt_at dt_X12_nearAt_0 39 rfl) (by decide) ?_
              exact J_226 x3 x5 σ h
    refine V_iload C (dt_at dt_X12_nearAt_0 4 rfl) 4 rfl ?_
    refine V_aload_n C (dt_at dt_X12_nearAt_0 5 rfl) 0 rfl rfl ?_
    refine g_X12_7_6 C (dt_at dt_X12_nearAt_0 6 rfl) ?_
    refine V_iconst C 2 (dt_at dt_X12_nearAt_0 7 rfl) (by decide) ?_
    obtain ⟨h1, h⟩ := chk_s h
    refine al_84 C h1 (dt_at dt_X12_nearAt_0 8 rfl) ?_
    refine V_icmp_ge C 238 (dt_at dt_X12_nearAt_0 9 rfl) (by decide) (fun q2 => ?_) (fun q2 => ?_)
    · have h := ite_f q2 h
      refine V_iload_n C (dt_at dt_X12_nearAt_3 13 rfl) 3 rfl rfl ?_
      have e_5 := ex_5 _ (Option.some.inj h).symm
      obtain ⟨e1_, e2_⟩ := Prod.mk.inj e_5
      subst e1_; subst e2_
      exact V_iret C hR (dt_at dt_X12_nearAt_3 14 rfl)
    · have h := ite_t q2 h
      refine V_iconst C 0 (dt_at dt_X12_nearAt_0 10 rfl) (by decide) ?_
      refine V_istore C [1, 2, 3, 4, 5, 0] (lv' := [(0, .ref (ga G 6)), (1, .int x1), (2, .int x2), (3, .int x3), (4, .int x4), (5, .int 0)]) (dt_at dt_X12_nearAt_0 11 rfl) (by decide) rfl ?_
      exact J_19 x3 x4 0 σ h
  refine V_iconst C (-1) (dt_at dt_X12_nearAt_0 0 rfl) (by decide) ?_
  refine V_istore_n C [1, 2, 3, 0] (lv' := [(0, .ref (ga G 6)), (1, .int x1), (2, .int x2), (3, .int (-1))]) (dt_at dt_X12_nearAt_0 1 rfl) rfl (by decide) rfl ?_
  refine V_iconst C 0 (dt_at dt_X12_nearAt_0 2 rfl) (by decide) ?_
  refine V_istore C [1, 2, 3, 4, 0] (lv' := [(0, .ref (ga G 6)), (1, .int x1), (2, .int x2), (3, .int (-1)), (4, .int 0)]) (dt_at dt_X12_nearAt_0 3 rfl) (by decide) rfl ?_
  exact J_5 (-1) 0 σ h
theorem cv_X12_nearAt (C : Ck X G cc own nL d) {idx : Nat} (hlk : Cond.methodLink own idx yX12_nearAt ∈ gtb) (x1 : Int32) (x2 : Int32) {r0 : Int32} {σ0 : St} (e : f_X12_nearAt x1 x2 σ = some (r0, σ0)) (hdd : 5 ≤ d) (hroom : (rest.map fun v => v.category).sum ≤ 8) (hcs : cells ≤ (xR X).cells ∧ slots ≤ (xR X).slots) (hd : decode cc pc = .ok (.invokevirtual idx, 3)) (k : V X G nL cells slots σ0 (pc + 3) lv (.int r0 :: rest)) : V X G nL cells slots σ pc lv (.int x2 :: .int x1 :: .ref (ga G 6) :: rest) := V_callV C (As := [.int x1, .int x2]) (c_X12_nearAt X.2.1 G x1 x2 σ r0 σ0 e) cal_X12_nearAt ww_487 ww_488 hlk rfl hdd (lt110 rfl) rfl rfl rfl hroom hcs hd k
theorem dt_X12_layTwo_0 : dtab cX12_layTwo [(0, .aload_n 0, 1), (1, .iload_n 1, 1), (2, .iconst 0, 1), (3, .invokevirtual 114, 3), (6, .iconst 3, 1), (7, .if_icmp .ne 16, 3), (10, .aload_n 0, 1), (11, .iload_n 2, 1), (12, .iconst 0, 1), (13, .invokevirtual 114, 3), (16, .iconst 1, 1), (17, .invokestatic 117, 3), (20, .ifCond .eq 26, 3), (23, .aload_n 0, 1), (24, .iload_n 2, 1), (25, .iconst 0, 1), (26, .invokevirtual 114, 3), (29, .iconst 3, 1), (30, .if_icmp .ne 20, 3), (33, .aload_n 0, 1), (34, .iload_n 1, 1), (35, .iconst 0, 1), (36, .invokevirtual 114, 3), (39, .iconst 1, 1), (40, .invokestatic 117, 3), (43, .ifCond .ne 7, 3), (46, .iconst 1, 1), (47, .goto 4, 3), (50, .iconst 0, 1), (51, .istore_n 3, 1), (52, .iload_n 3, 1), (53, .ifCond .eq 7, 3), (56, .iconst 0, 1), (57, .goto 4, 3), (60, .iconst 2, 1), (61, .istore 4, 2), (63, .iload_n 3, 1), (64, .ifCond .eq 7, 3), (67, .iconst (-1), 1), (68, .goto 9, 3)] = true := by decide +kernel
theorem dt_X12_layTwo_1 : dtab cX12_layTwo [(71, .aload_n 0, 1), (72, .iload_n 1, 1), (73, .iload_n 2, 1), (74, .invokevirtual 228, 3), (77, .istore 5, 2), (79, .iload_n 3, 1), (80, .ifCond .ne 62, 3), (83, .iload 5, 2), (85, .ifCond .ge 57, 3), (88, .aload_n 0, 1), (89, .iload_n 1, 1), (90, .iload_n 2, 1), (91, .invokevirtual 231, 3), (94, .istore 6, 2), (96, .aload_n 0, 1), (97, .iload_n 2, 1), (98, .iload_n 1, 1), (99, .invokevirtual 231, 3), (102, .istore 7, 2), (104, .iload 6, 2), (106, .ifCond .lt 15, 3), (109, .iload 7, 2), (111, .ifCond .lt 15, 3), (114, .iload 7, 2), (116, .iload 6, 2), (118, .if_icmp .ge 8, 3), (121, .iload 7, 2), (123, .goto 5, 3), (126, .iload 6, 2), (128, .istore 5, 2), (130, .iload 5, 2), (132, .ifCond .ge 7, 3), (135, .iconst 0, 1), (136, .goto 4, 3), (139, .iconst 3, 1), (140, .istore 4, 2), (142, .aload_n 0, 1), (143, .getfield 22, 3), (146, .bipush 10, 2), (148, .iload_n 1, 1)] = true := by decide +kernel
theorem dt_X12_layTwo_2 : dtab cX12_layTwo [(149, .imul, 1), (150, .iload_n 2, 1), (151, .iadd, 1), (152, .iload 4, 2), (154, .iastore, 1), (155, .aload_n 0, 1), (156, .getfield 22, 3), (159, .bipush 10, 2), (161, .iload_n 2, 1), (162, .imul, 1), (163, .iload_n 1, 1), (164, .iadd, 1), (165, .iload 4, 2), (167, .iastore, 1), (168, .aload_n 0, 1), (169, .getfield 25, 3), (172, .bipush 10, 2), (174, .iload_n 1, 1), (175, .imul, 1), (176, .iload_n 2, 1), (177, .iadd, 1), (178, .iload 5, 2), (180, .iastore, 1), (181, .aload_n 0, 1), (182, .getfield 25, 3), (185, .bipush 10, 2), (187, .iload_n 2, 1), (188, .imul, 1), (189, .iload_n 1, 1), (190, .iadd, 1), (191, .iload 5, 2), (193, .iastore, 1), (194, .iload 4, 2), (196, .ifCond .eq 27, 3), (199, .aload_n 0, 1), (200, .getfield 19, 3), (203, .iload_n 1, 1), (204, .dup2, 1), (205, .iaload, 1), (206, .iconst 1, 1)] = true := by decide +kernel
theorem dt_X12_layTwo_3 : dtab cX12_layTwo [(207, .iload_n 2, 1), (208, .ishl, 1), (209, .ior, 1), (210, .iastore, 1), (211, .aload_n 0, 1), (212, .getfield 19, 3), (215, .iload_n 2, 1), (216, .dup2, 1), (217, .iaload, 1), (218, .iconst 1, 1), (219, .iload_n 1, 1), (220, .ishl, 1), (221, .ior, 1), (222, .iastore, 1), (223, .return_, 1)] = true := by decide +kernel
theorem cal_X12_layTwo : Cal yX12_layTwo cX12_layTwo 8 none 2 := ⟨ww_494, ww_429, ⟨by decide, by decide, by decide⟩, by decide⟩
set_option maxHeartbeats 4000000 in
set_option maxRecDepth 100000 in
theorem c_X12_layTwo (l : Launch) (G : Gx) (x1 : Int32) (x2 : Int32) (σ : St) (σ0 : St) (h : f_X12_layTwo x1 x2 σ = some σ0) : MI l G yX12_layTwo cX12_layTwo 8 none 5 [.ref (ga G 6), .int x1, .int x2] σ none σ0 := by
  refine MI_of RX12 rfl (by decide) [(0, .ref (ga G 6)), (1, .int x1), (2, .int x2)] rfl (Nat.le_of_ble_eq_true rfl) ?_
  intro X hXl C hR
  unfold f_X12_layTwo at h
  have J_142 : ∀ (x4 : Int32) (x5 : Int32) (σ : St), f_X12_layTwo_142 x1 x2 x4 x5 σ = some σ0 → V X G 8 0 0 σ 142 [(0, .ref (ga G 6)), (1, .int x1), (2, .int x2), (4, .int x4), (5, .int x5)] [] := by
    intro x4 x5 σ h
    unfold f_X12_layTwo_142 at h
    refine V_aload_n C (dt_at dt_X12_layTwo_1 36 rfl) 0 rfl rfl ?_
    refine g_X12_22_6 C (dt_at dt_X12_layTwo_1 37 rfl) ?_
    refine V_bipush C 10 (dt_at dt_X12_layTwo_1 38 rfl) (by decide) ?_
    refine V_iload_n C (dt_at dt_X12_layTwo_1 39 rfl) 1 rfl rfl ?_
    refine V_imul C (dt_at dt_X12_layTwo_2 0 rfl) ?_
    refine V_iload_n C (dt_at dt_X12_layTwo_2 1 rfl) 2 rfl rfl ?_
    refine V_iadd C (dt_at dt_X12_layTwo_2 2 rfl) ?_
    refine V_iload C (dt_at dt_X12_layTwo_2 3 rfl) 3 rfl ?_
    obtain ⟨h41, h⟩ := chk_s h
    obtain ⟨σ40, eσ40, h⟩ := nm_s h
    refine V_st eσ40 ?_ (fun k => as_88 C h41 (dt_at dt_X12_layTwo_2 4 rfl) k)
    refine V_aload_n C (dt_at dt_X12_layTwo_2 5 rfl) 0 rfl rfl ?_
    refine g_X12_22_6 C (dt_at dt_X12_layTwo_2 6 rfl) ?_
    refine V_bipush C 10 (dt_at dt_X12_layTwo_2 7 rfl) (by decide) ?_
    refine V_iload_n C (dt_at dt_X12_layTwo_2 8 rfl) 2 rfl rfl ?_
    refine V_imul C (dt_at dt_X12_layTwo_2 9 rfl) ?_
    refine V_iload_n C (dt_at dt_X12_layTwo_2 10 rfl) 1 rfl rfl ?_
    refine V_iadd C (dt_at dt_X12_layTwo_2 11 rfl) ?_
    refine V_iload C (dt_at dt_X12_layTwo_2 12 rfl) 3 rfl ?_
    obtain ⟨h43, h⟩ := chk_s h
    obtain ⟨σ42, eσ42, h⟩ := nm_s h
    refine V_st eσ42 ?_ (fun k => as_88 C h43 (dt_at dt_X12_layTwo_2 13 rfl) k)
    refine V_aload_n C (dt_at dt_X12_layTwo_2 14 rfl) 0 rfl rfl ?_
    refine g_X12_25_6 C (dt_at dt_X12_layTwo_2 15 rfl) ?_
    refine V_bipush C 10 (dt_at dt_X12_layTwo_2 16 rfl) (by decide) ?_
    refine V_iload_n C (dt_at dt_X12_layTwo_2 17 rfl) 1 rfl rfl ?_
    refine V_imul C (dt_at dt_X12_layTwo_2 18 rfl) ?_
    refine V_iload_n C (dt_at dt_X12_layTwo_2 19 rfl) 2 rfl rfl ?_
    refine V_iadd C (dt_at dt_X12_layTwo_2 20 rfl) ?_
    refine V_iload C (dt_at dt_X12_layTwo_2 21 rfl) 4 rfl ?_
    obtain ⟨σ44, eσ44, h⟩ := nm_s h
    refine V_st eσ44 ?_ (fun k => as_89 C h41 (dt_at dt_X12_layTwo_2 22 rfl) k)
    refine V_aload_n C (dt_at dt_X12_layTwo_2 23 rfl) 0 rfl rfl ?_
    refine g_X12_25_6 C (dt_at dt_X12_layTwo_2 24 rfl) ?_
    refine V_bipush C 10 (dt_at dt_X12_layTwo_2 25 rfl) (by decide) ?_
    refine V_iload_n C (dt_at dt_X12_layTwo_2 26 rfl) 2 rfl rfl ?_
    refine V_imul C (dt_at dt_X12_layTwo_2 27 rfl) ?_
    refine V_iload_n C (dt_at dt_X12_layTwo_2 28 rfl) 1 rfl rfl ?_
    refine V_iadd C (dt_at dt_X12_layTwo_2 29 rfl) ?_
    refine V_iload C (dt_at dt_X12_layTwo_2 30 rfl) 4 rfl ?_
    obtain ⟨σ45, eσ45, h⟩ := nm_s h
    refine V_st eσ45 ?_ (fun k => as_89 C h43 (dt_at dt_X12_layTwo_2 31 rfl) k)
    refine V_iload C (dt_at dt_X12_layTwo_2 32 rfl) 3 rfl ?_
    refine V_if_eq C 223 (dt_at dt_X12_layTwo_2 33 rfl) (by decide) (fun q46 => ?_) (fun q46 => ?_)
    · have h := ite_t q46 h
      have e1_ := Option.some.inj h
      subst e1_
      exact V_vret C hR (dt_at dt_X12_layTwo_3 14 rfl)
    · have h := ite_f q46 h
      refine V_aload_n C (dt_at dt_X12_layTwo_2 34 rfl) 0 rfl rfl ?_
      refine g_X12_19_6 C (dt_at dt_X12_layTwo_2 35 rfl) ?_
      refine V_iload_n C (dt_at dt_X12_layTwo_2 36 rfl) 1 rfl rfl ?_
      refine V_dup2 C (dt_at dt_X12_layTwo_2 37 rfl) rfl rfl ?_
      obtain ⟨h47, h⟩ := chk_s h
      refine al_87 C h47 (dt_at dt_X12_layTwo_2 38 rfl) ?_
      refine V_iconst C 1 (dt_at dt_X12_layTwo_2 39 rfl) (by decide) ?_
      refine V_iload_n C (dt_at dt_X12_layTwo_3 0 rfl) 2 rfl rfl ?_
      refine V_ishl C (dt_at dt_X12_layTwo_3 1 rfl) ?_
      refine V_ior C (dt_at dt_X12_layTwo_3 2 rfl) ?_
      obtain ⟨σ48, eσ48, h⟩ := nm_s h
      refine V_st eσ48 ?_ (fun k => as_87 C h47 (dt_at dt_X12_layTwo_3 3 rfl) k)
      refine V_aload_n C (dt_at dt_X12_layTwo_3 4 rfl) 0 rfl rfl ?_
      refine g_X12_19_6 C (dt_at dt_X12_layTwo_3 5 rfl) ?_
      refine V_iload_n C (dt_at dt_X12_layTwo_3 6 rfl) 2 rfl rfl ?_
      refine V_dup2 C (dt_at dt_X12_layTwo_3 7 rfl) rfl rfl ?_
      obtain ⟨h49, h⟩ := chk_s h
      refine al_87 C h49 (dt_at dt_X12_layTwo_3 8 rfl) ?_
      refine V_iconst C 1 (dt_at dt_X12_layTwo_3 9 rfl) (by decide) ?_
      refine V_iload_n C (dt_at dt_X12_layTwo_3 10 rfl) 1 rfl rfl ?_
      refine V_ishl C (dt_at dt_X12_layTwo_3 11 rfl) ?_
      refine V_ior C (dt_at dt_X12_layTwo_3 12 rfl) ?_
      obtain ⟨σ50, eσ50, h⟩ := nm_s h
      refine V_st eσ50 ?_ (fun k => as_87 C h49 (dt_at dt_X12_layTwo_3 13 rfl) k)
      have e1_ := Option.some.inj h
      subst e1_
      exact V_vret C hR (dt_at dt_X12_layTwo_3 14 rfl)
  have J_140 : ∀ (x5 : Int32) (s0 : Int32) (σ : St), f_X12_layTwo_140 x1 x2 x5 s0 σ = some σ0 → V X G 8 0 0 σ 140 [(0, .ref (ga G 6)), (1, .int x1), (2, .int x2), (5, .int x5)] [.int s0] := by
    intro x5 s0 σ h
    unfold f_X12_layTwo_140 at h
    refine V_istore C [1, 2, 3, 0, 4] (lv' := [(0, .ref (ga G 6)), (1, .int x1), (2, .int x2), (4, .int s0), (5, .int x5)]) (dt_at dt_X12_layTwo_1 35 rfl) (by decide) rfl ?_
    exact J_142 s0 x5 σ h
  have J_128 : ∀ (s0 : Int32) (σ : St), f_X12_layTwo_128 x1 x2 s0 σ = some σ0 → V X G 8 0 0 σ 128 [(0, .ref (ga G 6)), (1, .int x1), (2, .int x2)] [.int s0] := by
    intro s0 σ h
    unfold f_X12_layTwo_128 at h
    refine V_istore C [1, 2, 3, 0] (lv' := [(0, .ref (ga G 6)), (1, .int x1), (2, .int x2), (5, .int s0)]) (dt_at dt_X12_layTwo_1 29 rfl) (by decide) rfl ?_
    refine V_iload C (dt_at dt_X12_layTwo_1 30 rfl) 3 rfl ?_
    refine V_if_ge C 139 (dt_at dt_X12_layTwo_1 31 rfl) (by decide) (fun q39 => ?_) (fun q39 => ?_)
    · have h := ite_f q39 h
      refine V_iconst C 3 (dt_at dt_X12_layTwo_1 34 rfl) (by decide) ?_
      exact J_140 s0 3 σ h
    · have h := ite_t q39 h
      refine V_iconst C 0 (dt_at dt_X12_layTwo_1 32 rfl) (by decide) ?_
      refine V_goto C 140 (dt_at dt_X12_layTwo_1 33 rfl) (by decide) ?_
      exact J_140 s0 0 σ h
  have J_126 : ∀ (x6 : Int32) (σ : St), f_X12_layTwo_126 x1 x2 x6 σ = some σ0 → V X G 8 0 0 σ 126 [(0, .ref (ga G 6)), (1, .int x1), (2, .int x2), (6, .int x6)] [] := by
    intro x6 σ h
    unfold f_X12_layTwo_126 at h
    refine V_iload C (dt_at dt_X12_layTwo_1 28 rfl) 3 rfl ?_
    refine V_sub [0, 1, 2] (lv' := [(0, .ref (ga G 6)), (1, .int x1), (2, .int x2)]) rfl ?_
    exact J_128 x6 σ h
  have J_121 : ∀ (x7 : Int32) (σ : St), f_X12_layTwo_121 x1 x2 x7 σ = some σ0 → V X G 8 0 0 σ 121 [(0, .ref (ga G 6)), (1, .int x1), (2, .int x2), (7, .int x7)] [] := by
    intro x7 σ h
    unfold f_X12_layTwo_121 at h
    refine V_iload C (dt_at dt_X12_layTwo_1 26 rfl) 3 rfl ?_
    refine V_goto C 128 (dt_at dt_X12_layTwo_1 27 rfl) (by decide) ?_
    refine V_sub [0, 1, 2] (lv' := [(0, .ref (ga G 6)), (1, .int x1), (2, .int x2)]) rfl ?_
    exact J_128 x7 σ h
  have J_77 : ∀ (x3 : Int32) (x4 : Int32) (s0 : Int32) (σ : St), f_X12_layTwo_77 x1 x2 x3 x4 s0 σ = some σ0 → V X G 8 0 0 σ 77 [(0, .ref (ga G 6)), (1, .int x1), (2, .int x2), (3, .int x3), (4, .int x4)] [.int s0] := by
    intro x3 x4 s0 σ h
    unfold f_X12_layTwo_77 at h
    refine V_istore C [1, 2, 3, 4, 5, 0] (lv' := [(0, .ref (ga G 6)), (1, .int x1), (2, .int x2), (3, .int x3), (4, .int x4), (5, .int s0)]) (dt_at dt_X12_layTwo_1 4 rfl) (by decide) rfl ?_
    refine V_iload_n C (dt_at dt_X12_layTwo_1 5 rfl) 3 rfl rfl ?_
    refine V_if_ne C 142 (dt_at dt_X12_layTwo_1 6 rfl) (by decide) (fun q28 => ?_) (fun q28 => ?_)
    · have h := ite_f q28 h
      refine V_sub [0, 1, 2, 4, 5] (lv' := [(0, .ref (ga G 6)), (1, .int x1), (2, .int x2), (4, .int x4), (5, .int s0)]) rfl ?_
      exact J_142 x4 s0 σ h
    · have h := ite_t q28 h
      refine V_iload C (dt_at dt_X12_layTwo_1 7 rfl) 5 rfl ?_
      refine V_if_ge C 142 (dt_at dt_X12_layTwo_1 8 rfl) (by decide) (fun q29 => ?_) (fun q29 => ?_)
      · have h := ite_f q29 h
        refine V_sub [0, 1, 2, 4, 5] (lv' := [(0, .ref (ga G 6)), (1, .int x1), (2, .int x2), (4, .int x4), (5, .int s0)]) rfl ?_
        exact J_142 x4 s0 σ h
      · have h := ite_t q29 h
        refine V_aload_n C (dt_at dt_X12_layTwo_1 9 rfl) 0 rfl rfl ?_
        refine V_iload_n C (dt_at dt_X12_layTwo_1 10 rfl) 1 rfl rfl ?_
        refine V_iload_n C (dt_at dt_X12_layTwo_1 11 rfl) 2 rfl rfl ?_
        obtain ⟨r30, σ32, e31, h⟩ := bd2_s h
        refine cv_X12_nearAt C ww_490 x1 x2 e31 (Nat.le_of_ble_eq_true rfl) (Nat.le_of_ble_eq_true rfl) z0 (dt_at dt_X12_layTwo_1 12 rfl) ?_
        refine V_istore C [1, 2, 3, 4, 5, 6, 0] (lv' := [(0, .ref (ga G 6)), (1, .int x1), (2, .int x2), (3, .int x3), (4, .int x4), (5, .int s0), (6, .int r30)]) (dt_at dt_X12_layTwo_1 13 rfl) (by decide) rfl ?_
        refine V_aload_n C (dt_at dt_X12_layTwo_1 14 rfl) 0 rfl rfl ?_
        refine V_iload_n C (dt_at dt_X12_layTwo_1 15 rfl) 2 rfl rfl ?_
        refine V_iload_n C (dt_at dt_X12_layTwo_1 16 rfl) 1 rfl rfl ?_
        obtain ⟨r33, σ35, e34, h⟩ := bd2_s h
        refine cv_X12_nearAt C ww_490 x2 x1 e34 (Nat.le_of_ble_eq_true rfl) (Nat.le_of_ble_eq_true rfl) z0 (dt_at dt_X12_layTwo_1 17 rfl) ?_
        refine V_istore C [1, 2, 3, 4, 5, 6, 7, 0] (lv' := [(0, .ref (ga G 6)), (1, .int x1), (2, .int x2), (3, .int x3), (4, .int x4), (5, .int s0), (6, .int r30), (7, .int r33)]) (dt_at dt_X12_layTwo_1 18 rfl) (by decide) rfl ?_
        refine V_iload C (dt_at dt_X12_layTwo_1 19 rfl) 6 rfl ?_
        refine V_if_lt C 121 (dt_at dt_X12_layTwo_1 20 rfl) (by decide) (fun q36 => ?_) (fun q36 => ?_)
        · have h := ite_t q36 h
          refine V_sub [0, 1, 2, 7] (lv' := [(0, .ref (ga G 6)), (1, .int x1), (2, .int x2), (7, .int r33)]) rfl ?_
          exact J_121 r33 σ35 h
        · have h := ite_f q36 h
          refine V_iload C (dt_at dt_X12_layTwo_1 21 rfl) 7 rfl ?_
          refine V_if_lt C 126 (dt_at dt_X12_layTwo_1 22 rfl) (by decide) (fun q37 => ?_) (fun q37 => ?_)
          · have h := ite_t q37 h
            refine V_sub [0, 1, 2, 6] (lv' := [(0, .ref (ga G 6)), (1, .int x1), (2, .int x2), (6, .int r30)]) rfl ?_
            exact J_126 r30 σ35 h
          · have h := ite_f q37 h
            refine V_iload C (dt_at dt_X12_layTwo_1 23 rfl) 7 rfl ?_
            refine V_iload C (dt_at dt_X12_layTwo_1 24 rfl) 6 rfl ?_
            refine V_icmp_ge C 126 (dt_at dt_X12_layTwo_1 25 rfl) (by decide) (fun q38 => ?_) (fun q38 => ?_)
            · have h := ite_f q38 h
              refine V_sub [0, 1, 2, 6] (lv' := [(0, .ref (ga G 6)), (1, .int x1), (2, .int x2), (6, .int r30)]) rfl ?_
              exact J_126 r30 σ35 h
            · have h := ite_t q38 h
              refine V_sub [0, 1, 2, 7] (lv' := [(0, .ref (ga G 6)), (1, .int x1), (2, .int x2), (7, .int r33)]) rfl ?_
              exact J_121 r33 σ35 h
  have J_61 : ∀ (x3 : Int32) (s0 : Int32) (σ : St), f_X12_layTwo_61 x1 x2 x3 s0 σ = some σ0 → V X G 8 0 0 σ 61 [(0, .ref (ga G 6)), (1, .int x1), (2, .int x2), (3, .int x3)] [.int s0] := by
    intro x3 s0 σ h
    unfold f_X12_layTwo_61 at h
    refine V_istore C [1, 2, 3, 4, 0] (lv' := [(0, .ref (ga G 6)), (1, .int x1), (2, .int x2), (3, .int x3), (4, .int s0)]) (dt_at dt_X12_layTwo_0 35 rfl) (by decide) rfl ?_
    refine V_iload_n C (dt_at dt_X12_layTwo_0 36 rfl) 3 rfl rfl ?_
    refine V_if_eq C 71 (dt_at dt_X12_layTwo_0 37 rfl) (by decide) (fun q24 => ?_) (fun q24 => ?_)
    · have h := ite_t q24 h
      refine V_aload_n C (dt_at dt_X12_layTwo_1 0 rfl) 0 rfl rfl ?_
      refine V_iload_n C (dt_at dt_X12_layTwo_1 1 rfl) 1 rfl rfl ?_
      refine V_iload_n C (dt_at dt_X12_layTwo_1 2 rfl) 2 rfl rfl ?_
      obtain ⟨r25, e26, h⟩ := bd_s h
      refine cv_X12_meetAt C ww_489 x1 x2 e26 (Nat.le_of_ble_eq_true rfl) (Nat.le_of_ble_eq_true rfl) z0 (dt_at dt_X12_layTwo_1 3 rfl) ?_
      exact J_77 x3 s0 r25 σ h
    · have h := ite_f q24 h
      refine V_iconst C (-1) (dt_at dt_X12_layTwo_0 38 rfl) (by decide) ?_
      refine V_goto C 77 (dt_at dt_X12_layTwo_0 39 rfl) (by decide) ?_
      exact J_77 x3 s0 (-1) σ h
  have J_51 : ∀ (s0 : Int32) (σ : St), f_X12_layTwo_51 x1 x2 s0 σ = some σ0 → V X G 8 0 0 σ 51 [(0, .ref (ga G 6)), (1, .int x1), (2, .int x2)] [.int s0] := by
    intro s0 σ h
    unfold f_X12_layTwo_51 at h
    refine V_istore_n C [1, 2, 3, 0] (lv' := [(0, .ref (ga G 6)), (1, .int x1), (2, .int x2), (3, .int s0)]) (dt_at dt_X12_layTwo_0 29 rfl) rfl (by decide) rfl ?_
    refine V_iload_n C (dt_at dt_X12_layTwo_0 30 rfl) 3 rfl rfl ?_
    refine V_if_eq C 60 (dt_at dt_X12_layTwo_0 31 rfl) (by decide) (fun q23 => ?_) (fun q23 => ?_)
    · have h := ite_t q23 h
      refine V_iconst C 2 (dt_at dt_X12_layTwo_0 34 rfl) (by decide) ?_
      exact J_61 s0 2 σ h
    · have h := ite_f q23 h
      refine V_iconst C 0 (dt_at dt_X12_layTwo_0 32 rfl) (by decide) ?_
      refine V_goto C 61 (dt_at dt_X12_layTwo_0 33 rfl) (by decide) ?_
      exact J_61 s0 0 σ h
  have J_50 : ∀ (σ : St), f_X12_layTwo_50 x1 x2 σ = some σ0 → V X G 8 0 0 σ 50 [(0, .ref (ga G 6)), (1, .int x1), (2, .int x2)] [] := by
    intro σ h
    unfold f_X12_layTwo_50 at h
    refine V_iconst C 0 (dt_at dt_X12_layTwo_0 28 rfl) (by decide) ?_
    exact J_51 0 σ h
  have J_46 : ∀ (σ : St), f_X12_layTwo_46 x1 x2 σ = some σ0 → V X G 8 0 0 σ 46 [(0, .ref (ga G 6)), (1, .int x1), (2, .int x2)] [] := by
    intro σ h
    unfold f_X12_layTwo_46 at h
    refine V_iconst C 1 (dt_at dt_X12_layTwo_0 26 rfl) (by decide) ?_
    refine V_goto C 51 (dt_at dt_X12_layTwo_0 27 rfl) (by decide) ?_
    exact J_51 1 σ h
  have J_23 : ∀ (σ : St), f_X12_layTwo_23 x1 x2 σ = some σ0 → V X G 8 0 0 σ 23 [(0, .ref (ga G 6)), (1, .int x1), (2, .int x2)] [] := by
    intro σ h
    unfold f_X12_layTwo_23 at h
    refine V_aload_n C (dt_at dt_X12_layTwo_0 13 rfl) 0 rfl rfl ?_
    refine V_iload_n C (dt_at dt_X12_layTwo_0 14 rfl) 2 rfl rfl ?_
    refine V_iconst C 0 (dt_at dt_X12_layTwo_0 15 rfl) (by decide) ?_
    obtain ⟨r12, e13, h⟩ := bd_s h
    refine cv_X12_its C ww_460 x2 0 e13 (Nat.le_of_ble_eq_true rfl) (Nat.le_of_ble_eq_true rfl) z0 (dt_at dt_X12_layTwo_0 16 rfl) ?_
    refine V_iconst C 3 (dt_at dt_X12_layTwo_0 17 rfl) (by decide) ?_
    refine V_icmp_ne C 50 (dt_at dt_X12_layTwo_0 18 rfl) (by decide) (fun q15 => ?_) (fun q15 => ?_)
    · have h := ite_f q15 h
      exact J_50 σ h
    · have h := ite_t q15 h
      refine V_aload_n C (dt_at dt_X12_layTwo_0 19 rfl) 0 rfl rfl ?_
      refine V_iload_n C (dt_at dt_X12_layTwo_0 20 rfl) 1 rfl rfl ?_
      refine V_iconst C 0 (dt_at dt_X12_layTwo_0 21 rfl) (by decide) ?_
      obtain ⟨r16, e17, h⟩ := bd_s h
      refine cv_X12_its C ww_460 x1 0 e17 (Nat.le_of_ble_eq_true rfl) (Nat.le_of_ble_eq_true rfl) z0 (dt_at dt_X12_layTwo_0 22 rfl) ?_
      refine V_iconst C 1 (dt_at dt_X12_layTwo_0 23 rfl) (by decide) ?_
      obtain ⟨r19, e20, h⟩ := bd_s h
      refine cv_X12_isUnder C ww_461 r16 1 e20 (Nat.le_of_ble_eq_true rfl) (Nat.le_of_ble_eq_true rfl) z0 (dt_at dt_X12_layTwo_0 24 rfl) ?_
      refine V_if_ne C 50 (dt_at dt_X12_layTwo_0 25 rfl) (by decide) (fun q22 => ?_) (fun q22 => ?_)
      · have h := ite_f q22 h
        exact J_50 σ h
      · have h := ite_t q22 h
        exact J_46 σ h
  refine V_aload_n C (dt_at dt_X12_layTwo_0 0 rfl) 0 rfl rfl ?_
  refine V_iload_n C (dt_at dt_X12_layTwo_0 1 rfl) 1 rfl rfl ?_
  refine V_iconst C 0 (dt_at dt_X12_layTwo_0 2 rfl) (by decide) ?_
  obtain ⟨r1, e2, h⟩ := bd_s h
  refine cv_X12_its C ww_460 x1 0 e2 (Nat.le_of_ble_eq_true rfl) (Nat.le_of_ble_eq_true rfl) z0 (dt_at dt_X12_layTwo_0 3 rfl) ?_
  refine V_iconst C 3 (dt_at dt_X12_layTwo_0 4 rfl) (by decide) ?_
  refine V_icmp_ne C 23 (dt_at dt_X12_layTwo_0 5 rfl) (by decide) (fun q4 => ?_) (fun q4 => ?_)
  · have h := ite_f q4 h
    exact J_23 σ h
  · have h := ite_t q4 h
    refine V_aload_n C (dt_at dt_X12_layTwo_0 6 rfl) 0 rfl rfl ?_
    refine V_iload_n C (dt_at dt_X12_layTwo_0 7 rfl) 2 rfl rfl ?_
    refine V_iconst C 0 (dt_at dt_X12_layTwo_0 8 rfl) (by decide) ?_
    obtain ⟨r5, e6, h⟩ := bd_s h
    refine cv_X12_its C ww_460 x2 0 e6 (Nat.le_of_ble_eq_true rfl) (Nat.le_of_ble_eq_true rfl) z0 (dt_at dt_X12_layTwo_0 9 rfl) ?_
    refine V_iconst C 1 (dt_at dt_X12_layTwo_0 10 rfl) (by decide) ?_
    obtain ⟨r8, e9, h⟩ := bd_s h
    refine cv_X12_isUnder C ww_461 r5 1 e9 (Nat.le_of_ble_eq_true rfl) (Nat.le_of_ble_eq_true rfl) z0 (dt_at dt_X12_layTwo_0 11 rfl) ?_
    refine V_if_eq C 46 (dt_at dt_X12_layTwo_0 12 rfl) (by decide) (fun q11 => ?_) (fun q11 => ?_)
    · have h := ite_t q11 h
      exact J_46 σ h
    · have h := ite_f q11 h
      exact J_23 σ h
theorem cv_X12_layTwo (C : Ck X G cc own nL d) {idx : Nat} (hlk : Cond.methodLink own idx yX12_layTwo ∈ gtb) (x1 : Int32) (x2 : Int32) {σ0 : St} (e : f_X12_layTwo x1 x2 σ = some σ0) (hdd : 6 ≤ d) (hroom : (rest.map fun v => v.category).sum ≤ 8) (hcs : cells ≤ (xR X).cells ∧ slots ≤ (xR X).slots) (hd : decode cc pc = .ok (.invokevirtual idx, 3)) (k : V X G nL cells slots σ0 (pc + 3) lv (rest)) : V X G nL cells slots σ pc lv (.int x2 :: .int x1 :: .ref (ga G 6) :: rest) := V_callV C (As := [.int x1, .int x2]) (c_X12_layTwo X.2.1 G x1 x2 σ σ0 e) cal_X12_layTwo ww_495 ww_496 hlk rfl hdd (lt110 rfl) rfl rfl rfl hroom hcs hd k
theorem dt_X12_lay_0 : dtab cX12_lay [(0, .aload_n 0, 1), (1, .getfield 106, 3), (4, .ifCond .eq 4, 3), (7, .return_, 1), (8, .aload_n 0, 1), (9, .iconst 1, 1), (10, .putfield 106, 3), (13, .iconst 0, 1), (14, .istore_n 1, 1), (15, .iload_n 1, 1), (16, .bipush 10, 2), (18, .if_icmp .ge 16, 3), (21, .aload_n 0, 1), (22, .getfield 19, 3), (25, .iload_n 1, 1), (26, .iconst 0, 1), (27, .iastore, 1), (28, .iinc 1 1, 3), (31, .goto (-16), 3), (34, .iconst 0, 1), (35, .istore_n 1, 1), (36, .iload_n 1, 1), (37, .aload_n 0, 1), (38, .getfield 7, 3), (41, .iconst 1, 1), (42, .iaload, 1), (43, .if_icmp .ge 35, 3), (46, .iload_n 1, 1), (47, .iconst 1, 1), (48, .iadd, 1), (49, .istore_n 2, 1), (50, .iload_n 2, 1), (51, .aload_n 0, 1), (52, .getfield 7, 3), (55, .iconst 1, 1), (56, .iaload, 1), (57, .if_icmp .ge 15, 3), (60, .aload_n 0, 1), (61, .iload_n 1, 1), (62, .iload_n 2, 1)] = true := by decide +kernel
theorem dt_X12_lay_1 : dtab cX12_lay [(63, .invokevirtual 234, 3), (66, .iinc 2 1, 3), (69, .goto (-19), 3), (72, .iinc 1 1, 3), (75, .goto (-39), 3), (78, .return_, 1)] = true := by decide +kernel
theorem cal_X12_lay : Cal yX12_lay cX12_lay 3 none 0 := ⟨ww_499, ww_429, ⟨by decide, by decide, by decide⟩, by decide⟩
set_option maxHeartbeats 4000000 in
set_option maxRecDepth 100000 in
theorem c_X12_lay (l : Launch) (G : Gx) (σ : St) (σ0 : St) (h : f_X12_lay σ = some σ0) : MI l G yX12_lay cX12_lay 3 none 6 [.ref (ga G 6)] σ none σ0 := by
  refine MI_of RX12 rfl (by decide) [(0, .ref (ga G 6))] rfl (Nat.le_of_ble_eq_true rfl) ?_
  intro X hXl C hR
  unfold f_X12_lay at h
  have J_36 : ∀ (x1 : Int32) (σ : St), f_X12_lay_36 x1 σ = some σ0 → V X G 3 0 0 σ 36 [(0, .ref (ga G 6)), (1, .int x1)] [] := by
    intro x1 σ h
    refine it_v (P := fun z : Int32 × St => V X G 3 0 0 z.2 36 [(0, .ref (ga G 6)), (1, .int z.1)] []) ?_ (x1, σ) h
    clear h
    intro z w_36 h ih_36 ex_36
    obtain ⟨x1, σ⟩ := z
    have h : b_X12_lay_36 x1 σ = some w_36 := h
    show V X G 3 0 0 σ 36 [(0, .ref (ga G 6)), (1, .int x1)] []
    unfold b_X12_lay_36 at h
    have J_72 : ∀ (x1 : Int32) (σ : St), f_X12_lay_72 x1 σ = some w_36 → V X G 3 0 0 σ 72 [(0, .ref (ga G 6)), (1, .int x1)] [] := by
      intro x1 σ h
      unfold f_X12_lay_72 at h
      refine V_iinc C (x1 + 1) 1 [1, 0] (lv' := [(0, .ref (ga G 6)), (1, .int (x1 + 1))]) (dt_at dt_X12_lay_1 3 rfl) rfl (by rfl) (by decide) rfl ?_
      refine V_goto C 36 (dt_at dt_X12_lay_1 4 rfl) (by decide) ?_
      exact ih_36 ((x1 + 1), σ) (Option.some.inj h).symm
    have J_50 : ∀ (x1 : Int32) (x2 : Int32) (σ : St), f_X12_lay_50 x1 x2 σ = some w_36 → V X G 3 0 0 σ 50 [(0, .ref (ga G 6)), (1, .int x1), (2, .int x2)] [] := by
      intro x1 x2 σ h
      refine it_v (P := fun z : Int32 × St => V X G 3 0 0 z.2 50 [(0, .ref (ga G 6)), (1, .int x1), (2, .int z.1)] []) ?_ (x2, σ) h
      clear h
      intro z w_50 h ih_50 ex_50
      obtain ⟨x2, σ⟩ := z
      have h : b_X12_lay_50 x1 x2 σ = some w_50 := h
      show V X G 3 0 0 σ 50 [(0, .ref (ga G 6)), (1, .int x1), (2, .int x2)] []
      unfold b_X12_lay_50 at h
      refine V_iload_n C (dt_at dt_X12_lay_0 31 rfl) 2 rfl rfl ?_
      refine V_aload_n C (dt_at dt_X12_lay_0 32 rfl) 0 rfl rfl ?_
      refine g_X12_7_6 C (dt_at dt_X12_lay_0 33 rfl) ?_
      refine V_iconst C 1 (dt_at dt_X12_lay_0 34 rfl) (by decide) ?_
      obtain ⟨h9, h⟩ := chk_s h
      refine al_84 C h9 (dt_at dt_X12_lay_0 35 rfl) ?_
      refine V_icmp_ge C 72 (dt_at dt_X12_lay_0 36 rfl) (by decide) (fun q10 => ?_) (fun q10 => ?_)
      · have h := ite_f q10 h
        refine V_sub [0, 1] (lv' := [(0, .ref (ga G 6)), (1, .int x1)]) rfl ?_
        obtain ⟨t11, h, e_50⟩ := map_s h
        have e_50 := ex_50 _ e_50
        rw [e_50] at h
        exact J_72 x1 σ h
      · have h := ite_t q10 h
        refine V_aload_n C (dt_at dt_X12_lay_0 37 rfl) 0 rfl rfl ?_
        refine V_iload_n C (dt_at dt_X12_lay_0 38 rfl) 1 rfl rfl ?_
        refine V_iload_n C (dt_at dt_X12_lay_0 39 rfl) 2 rfl rfl ?_
        obtain ⟨σ14, e13, h⟩ := bd_s h
        refine cv_X12_layTwo C ww_498 x1 x2 e13 (Nat.le_of_ble_eq_true rfl) (Nat.le_of_ble_eq_true rfl) z0 (dt_at dt_X12_lay_1 0 rfl) ?_
        refine V_iinc C (x2 + 1) 2 [1, 2, 0] (lv' := [(0, .ref (ga G 6)), (1, .int x1), (2, .int (x2 + 1))]) (dt_at dt_X12_lay_1 1 rfl) rfl (by rfl) (by decide) rfl ?_
        refine V_goto C 50 (dt_at dt_X12_lay_1 2 rfl) (by decide) ?_
        exact ih_50 ((x2 + 1), σ14) (Option.some.inj h).symm
    refine V_iload_n C (dt_at dt_X12_lay_0 21 rfl) 1 rfl rfl ?_
    refine V_aload_n C (dt_at dt_X12_lay_0 22 rfl) 0 rfl rfl ?_
    refine g_X12_7_6 C (dt_at dt_X12_lay_0 23 rfl) ?_
    refine V_iconst C 1 (dt_at dt_X12_lay_0 24 rfl) (by decide) ?_
    obtain ⟨h7, h⟩ := chk_s h
    refine al_84 C h7 (dt_at dt_X12_lay_0 25 rfl) ?_
    refine V_icmp_ge C 78 (dt_at dt_X12_lay_0 26 rfl) (by decide) (fun q8 => ?_) (fun q8 => ?_)
    · have h := ite_f q8 h
      have e_36 := ex_36 _ (Option.some.inj h).symm
      subst e_36
      exact V_vret C hR (dt_at dt_X12_lay_1 5 rfl)
    · have h := ite_t q8 h
      refine V_iload_n C (dt_at dt_X12_lay_0 27 rfl) 1 rfl rfl ?_
      refine V_iconst C 1 (dt_at dt_X12_lay_0 28 rfl) (by decide) ?_
      refine V_iadd C (dt_at dt_X12_lay_0 29 rfl) ?_
      refine V_istore_n C [1, 2, 0] (lv' := [(0, .ref (ga G 6)), (1, .int x1), (2, .int (x1 + 1))]) (dt_at dt_X12_lay_0 30 rfl) rfl (by decide) rfl ?_
      exact J_50 x1 (x1 + 1) σ h
  have J_34 : ∀ (σ : St), f_X12_lay_34 σ = some σ0 → V X G 3 0 0 σ 34 [(0, .ref (ga G 6))] [] := by
    intro σ h
    unfold f_X12_lay_34 at h
    refine V_iconst C 0 (dt_at dt_X12_lay_0 19 rfl) (by decide) ?_
    refine V_istore_n C [1, 0] (lv' := [(0, .ref (ga G 6)), (1, .int 0)]) (dt_at dt_X12_lay_0 20 rfl) rfl (by decide) rfl ?_
    exact J_36 0 σ h
  have J_15 : ∀ (x1 : Int32) (σ : St), f_X12_lay_15 x1 σ = some σ0 → V X G 3 0 0 σ 15 [(0, .ref (ga G 6)), (1, .int x1)] [] := by
    intro x1 σ h
    refine it_v (P := fun z : Int32 × St => V X G 3 0 0 z.2 15 [(0, .ref (ga G 6)), (1, .int z.1)] []) ?_ (x1, σ) h
    clear h
    intro z w_15 h ih_15 ex_15
    obtain ⟨x1, σ⟩ := z
    have h : b_X12_lay_15 x1 σ = some w_15 := h
    show V X G 3 0 0 σ 15 [(0, .ref (ga G 6)), (1, .int x1)] []
    unfold b_X12_lay_15 at h
    refine V_iload_n C (dt_at dt_X12_lay_0 9 rfl) 1 rfl rfl ?_
    refine V_bipush C 10 (dt_at dt_X12_lay_0 10 rfl) (by decide) ?_
    refine V_icmp_ge C 34 (dt_at dt_X12_lay_0 11 rfl) (by decide) (fun q3 => ?_) (fun q3 => ?_)
    · have h := ite_f q3 h
      refine V_sub [0] (lv' := [(0, .ref (ga G 6))]) rfl ?_
      obtain ⟨t4, h, e_15⟩ := map_s h
      have e_15 := ex_15 _ e_15
      rw [e_15] at h
      exact J_34 σ h
    · have h := ite_t q3 h
      refine V_aload_n C (dt_at dt_X12_lay_0 12 rfl) 0 rfl rfl ?_
      refine g_X12_19_6 C (dt_at dt_X12_lay_0 13 rfl) ?_
      refine V_iload_n C (dt_at dt_X12_lay_0 14 rfl) 1 rfl rfl ?_
      refine V_iconst C 0 (dt_at dt_X12_lay_0 15 rfl) (by decide) ?_
      obtain ⟨h6, h⟩ := chk_s h
      obtain ⟨σ5, eσ5, h⟩ := nm_s h
      refine V_st eσ5 ?_ (fun k => as_87 C h6 (dt_at dt_X12_lay_0 16 rfl) k)
      refine V_iinc C (x1 + 1) 1 [1, 0] (lv' := [(0, .ref (ga G 6)), (1, .int (x1 + 1))]) (dt_at dt_X12_lay_0 17 rfl) rfl (by rfl) (by decide) rfl ?_
      refine V_goto C 15 (dt_at dt_X12_lay_0 18 rfl) (by decide) ?_
      exact ih_15 ((x1 + 1), σ5) (Option.some.inj h).symm
  refine V_aload_n C (dt_at dt_X12_lay_0 0 rfl) 0 rfl rfl ?_
  refine g_X12_106_6 C (dt_at dt_X12_lay_0 1 rfl) ?_
  refine V_if_eq C 8 (dt_at dt_X12_lay_0 2 rfl) (by decide) (fun q1 => ?_) (fun q1 => ?_)
  · have h := ite_t q1 h
    refine V_aload_n C (dt_at dt_X12_lay_0 4 rfl) 0 rfl rfl ?_
    refine V_iconst C 1 (dt_at dt_X12_lay_0 5 rfl) (by decide) ?_
    obtain ⟨σ2, eσ2, h⟩ := nm_s h
    refine V_st eσ2 ?_ (fun k => p_X12_106_6 C rfl rfl (dt_at dt_X12_lay_0 6 rfl) k)
    refine V_iconst C 0 (dt_at dt_X12_lay_0 7 rfl) (by decide) ?_
    refine V_istore_n C [1, 0] (lv' := [(0, .ref (ga G 6)), (1, .int 0)]) (dt_at dt_X12_lay_0 8 rfl) rfl (by decide) rfl ?_
    exact J_15 0 σ2 h
  · have h := ite_f q1 h
    have e1_ := Option.some.inj h
    subst e1_
    exact V_vret C hR (dt_at dt_X12_lay_0 3 rfl)
theorem cv_X12_lay (C : Ck X G cc own nL d) {idx : Nat} (hlk : Cond.methodLink own idx yX12_lay ∈ gtb) {σ0 : St} (e : f_X12_lay σ = some σ0) (hdd : 7 ≤ d) (hroom : (rest.map fun v => v.category).sum ≤ 8) (hcs : cells ≤ (xR X).cells ∧ slots ≤ (xR X).slots) (hd : decode cc pc = .ok (.invokevirtual idx, 3)) (k : V X G nL cells slots σ0 (pc + 3) lv (rest)) : V X G nL cells slots σ pc lv (.ref (ga G 6) :: rest) := V_callV C (As := []) (c_X12_lay X.2.1 G  σ σ0 e) cal_X12_lay ww_500 ww_501 hlk rfl hdd (lt110 rfl) rfl rfl rfl hroom hcs hd k
theorem dt_X12_playerOf_0 : dtab cX12_playerOf [(0, .aload_n 0, 1), (1, .getfield 7, 3), (4, .sipush 220, 3), (7, .iconst 3, 1), (8, .iload_n 1, 1), (9, .imul, 1), (10, .iadd, 1), (11, .iload_n 2, 1), (12, .iadd, 1), (13, .iaload, 1), (14, .ireturn, 1)] = true := by decide +kernel
theorem cal_X12_playerOf : Cal yX12_playerOf cX12_playerOf 3 (some .int) 2 := ⟨ww_502, ww_429, ⟨by decide, by decide, by decide⟩, by decide⟩
set_option maxHeartbeats 4000000 in
set_option maxRecDepth 100000 in
theorem c_X12_playerOf (l : Launch) (G : Gx) (x1 : Int32) (x2 : Int32) (σ : St) (r0 : Int32) (h : f_X12_playerOf x1 x2 σ = some r0) : MI l G yX12_playerOf cX12_playerOf 3 (some .int) 1 [.ref (ga G 6), .int x1, .int x2] σ (some (.int r0)) σ := by
  refine MI_of RX12 rfl (by decide) [(0, .ref (ga G 6)), (1, .int x1), (2, .int x2)] rfl (Nat.le_of_ble_eq_true rfl) ?_
  intro X hXl C hR
  unfold f_X12_playerOf at h
  refine V_aload_n C (dt_at dt_X12_playerOf_0 0 rfl) 0 rfl rfl ?_
  refine g_X12_7_6 C (dt_at dt_X12_playerOf_0 1 rfl) ?_
  refine V_sipush C 220 (dt_at dt_X12_playerOf_0 2 rfl) (by decide) ?_
  refine V_iconst C 3 (dt_at dt_X12_playerOf_0 3 rfl) (by decide) ?_
  refine V_iload_n C (dt_at dt_X12_playerOf_0 4 rfl) 1 rfl rfl ?_
  refine V_imul C (dt_at dt_X12_playerOf_0 5 rfl) ?_
  refine V_iadd C (dt_at dt_X12_playerOf_0 6 rfl) ?_
  refine V_iload_n C (dt_at dt_X12_playerOf_0 7 rfl) 2 rfl rfl ?_
  refine V_iadd C (dt_at dt_X12_playerOf_0 8 rfl) ?_
  obtain ⟨h1, h⟩ := chk_s h
  refine al_84 C h1 (dt_at dt_X12_playerOf_0 9 rfl) ?_
  have e1_ := Option.some.inj h
  subst e1_
  exact V_iret C hR (dt_at dt_X12_playerOf_0 10 rfl)
theorem cv_X12_playerOf (C : Ck X G cc own nL d) {idx : Nat} (hlk : Cond.methodLink own idx yX12_playerOf ∈ gtb) (x1 : Int32) (x2 : Int32) {r0 : Int32} (e : f_X12_playerOf x1 x2 σ = some r0) (hdd : 2 ≤ d) (hroom : (rest.map fun v => v.category).sum ≤ 8) (hcs : cells ≤ (xR X).cells ∧ slots ≤ (xR X).slots) (hd : decode cc pc = .ok (.invokevirtual idx, 3)) (k : V X G nL cells slots σ (pc + 3) lv (.int r0 :: rest)) : V X G nL cells slots σ pc lv (.int x2 :: .int x1 :: .ref (ga G 6) :: rest) := V_callV C (As := [.int x1, .int x2]) (c_X12_playerOf X.2.1 G x1 x2 σ r0 e) cal_X12_playerOf ww_503 ww_504 hlk rfl hdd (lt110 rfl) rfl rfl rfl hroom hcs hd k
theorem dt_X12_names_0 : dtab cX12_names [(0, .aload_n 0, 1), (1, .getfield 28, 3), (4, .iconst 0, 1), (5, .aload_n 0, 1), (6, .iload_n 1, 1), (7, .iconst 0, 1), (8, .invokevirtual 148, 3), (11, .iastore, 1), (12, .aload_n 0, 1), (13, .getfield 28, 3), (16, .iconst 1, 1), (17, .aload_n 0, 1), (18, .iload_n 1, 1), (19, .iconst 1, 1), (20, .invokevirtual 148, 3), (23, .iastore, 1), (24, .aload_n 0, 1), (25, .getfield 28, 3), (28, .iconst 2, 1), (29, .aload_n 0, 1), (30, .iload_n 2, 1), (31, .iconst 1, 1), (32, .invokevirtual 114, 3), (35, .iastore, 1), (36, .aload_n 0, 1), (37, .getfield 28, 3), (40, .iconst 3, 1), (41, .aload_n 0, 1), (42, .iload_n 2, 1), (43, .iconst 2, 1), (44, .invokevirtual 114, 3), (47, .iastore, 1), (48, .aload_n 0, 1), (49, .getfield 28, 3), (52, .iconst 4, 1), (53, .aload_n 0, 1), (54, .iload_n 2, 1), (55, .iconst 0, 1), (56, .invokevirtual 114, 3), (59, .iastore, 1)] = true := by decide +kernel
theorem dt_X12_names_1 : dtab cX12_names [(60, .return_, 1)] = true := by decide +kernel
theorem cal_X12_names : Cal yX12_names cX12_names 3 none 2 := ⟨ww_506, ww_429, ⟨by decide, by decide, by decide⟩, by decide⟩
set_option maxHeartbeats 4000000 in
set_option maxRecDepth 100000 in
theorem c_X12_names (l : Launch) (G : Gx) (x1 : Int32) (x2 : Int32) (σ : St) (σ0 : St) (h : f_X12_names x1 x2 σ = some σ0) : MI l G yX12_names cX12_names 3 none 2 [.ref (ga G 6), .int x1, .int x2] σ none σ0 := by
  refine MI_of RX12 rfl (by decide) [(0, .ref (ga G 6)), (1, .int x1), (2, .int x2)] rfl (Nat.le_of_ble_eq_true rfl) ?_
  intro X hXl C hR
  unfold f_X12_names at h
  refine V_aload_n C (dt_at dt_X12_names_0 0 rfl) 0 rfl rfl ?_
  refine g_X12_28_6 C (dt_at dt_X12_names_0 1 rfl) ?_
  refine V_iconst C 0 (dt_at dt_X12_names_0 2 rfl) (by decide) ?_
  refine V_aload_n C (dt_at dt_X12_names_0 3 rfl) 0 rfl rfl ?_
  refine V_iload_n C (dt_at dt_X12_names_0 4 rfl) 1 rfl rfl ?_
  refine V_iconst C 0 (dt_at dt_X12_names_0 5 rfl) (by decide) ?_
  obtain ⟨r1, e2, h⟩ := bd_s h
  refine cv_X12_playerOf C ww_505 x1 0 e2 (Nat.le_of_ble_eq_true rfl) (Nat.le_of_ble_eq_true rfl) z0 (dt_at dt_X12_names_0 6 rfl) ?_
  obtain ⟨h5, h⟩ := chk_s h
  obtain ⟨σ4, eσ4, h⟩ := nm_s h
  refine V_st eσ4 ?_ (fun k => as_90 C h5 (dt_at dt_X12_names_0 7 rfl) k)
  refine V_aload_n C (dt_at dt_X12_names_0 8 rfl) 0 rfl rfl ?_
  refine g_X12_28_6 C (dt_at dt_X12_names_0 9 rfl) ?_
  refine V_iconst C 1 (dt_at dt_X12_names_0 10 rfl) (by decide) ?_
  refine V_aload_n C (dt_at dt_X12_names_0 11 rfl) 0 rfl rfl ?_
  refine V_iload_n C (dt_at dt_X12_names_0 12 rfl) 1 rfl rfl ?_
  refine V_iconst C 1 (dt_at dt_X12_names_0 13 rfl) (by decide) ?_
  obtain ⟨r6, e7, h⟩ := bd_s h
  refine cv_X12_playerOf C ww_505 x1 1 e7 (Nat.le_of_ble_eq_true rfl) (Nat.le_of_ble_eq_true rfl) z0 (dt_at dt_X12_names_0 14 rfl) ?_
  obtain ⟨h10, h⟩ := chk_s h
  obtain ⟨σ9, eσ9, h⟩ := nm_s h
  refine V_st eσ9 ?_ (fun k => as_90 C h10 (dt_at dt_X12_names_0 15 rfl) k)
  refine V_aload_n C (dt_at dt_X12_names_0 16 rfl) 0 rfl rfl ?_
  refine g_X12_28_6 C (dt_at dt_X12_names_0 17 rfl) ?_
  refine V_iconst C 2 (dt_at dt_X12_names_0 18 rfl) (by decide) ?_
  refine V_aload_n C (dt_at dt_X12_names_0 19 rfl) 0 rfl rfl ?_
  refine V_iload_n C (dt_at dt_X12_names_0 20 rfl) 2 rfl rfl ?_
  refine V_iconst C 1 (dt_at dt_X12_names_0 21 rfl) (by decide) ?_
  obtain ⟨r11, e12, h⟩ := bd_s h
  refine cv_X12_its C ww_460 x2 1 e12 (Nat.le_of_ble_eq_true rfl) (Nat.le_of_ble_eq_true rfl) z0 (dt_at dt_X12_names_0 22 rfl) ?_
  obtain ⟨h15, h⟩ := chk_s h
  obtain ⟨σ14, eσ14, h⟩ := nm_s h
  refine V_st eσ14 ?_ (fun k => as_90 C h15 (dt_at dt_X12_names_0 23 rfl) k)
  refine V_aload_n C (dt_at dt_X12_names_0 24 rfl) 0 rfl rfl ?_
  refine g_X12_28_6 C (dt_at dt_X12_names_0 25 rfl) ?_
  refine V_iconst C 3 (dt_at dt_X12_names_0 26 rfl) (by decide) ?_
  refine V_aload_n C (dt_at dt_X12_names_0 27 rfl) 0 rfl rfl ?_
  refine V_iload_n C (dt_at dt_X12_names_0 28 rfl) 2 rfl rfl ?_
  refine V_iconst C 2 (dt_at dt_X12_names_0 29 rfl) (by decide) ?_
  obtain ⟨r16, e17, h⟩ := bd_s h
  refine cv_X12_its C ww_460 x2 2 e17 (Nat.le_of_ble_eq_true rfl) (Nat.le_of_ble_eq_true rfl) z0 (dt_at dt_X12_names_0 30 rfl) ?_
  obtain ⟨h20, h⟩ := chk_s h
  obtain ⟨σ19, eσ19, h⟩ := nm_s h
  refine V_st eσ19 ?_ (fun k => as_90 C h20 (dt_at dt_X12_names_0 31 rfl) k)
  refine V_aload_n C (dt_at dt_X12_names_0 32 rfl) 0 rfl rfl ?_
  refine g_X12_28_6 C (dt_at dt_X12_names_0 33 rfl) ?_
  refine V_iconst C 4 (dt_at dt_X12_names_0 34 rfl) (by decide) ?_
  refine V_aload_n C (dt_at dt_X12_names_0 35 rfl) 0 rfl rfl ?_
  refine V_iload_n C (dt_at dt_X12_names_0 36 rfl) 2 rfl rfl ?_
  refine V_iconst C 0 (dt_at dt_X12_names_0 37 rfl) (by decide) ?_
  obtain ⟨r21, e22, h⟩ := bd_s h
  refine cv_X12_its C ww_460 x2 0 e22 (Nat.le_of_ble_eq_true rfl) (Nat.le_of_ble_eq_true rfl) z0 (dt_at dt_X12_names_0 38 rfl) ?_
  obtain ⟨h25, h⟩ := chk_s h
  obtain ⟨σ24, eσ24, h⟩ := nm_s h
  refine V_st eσ24 ?_ (fun k => as_90 C h25 (dt_at dt_X12_names_0 39 rfl) k)
  have e1_ := Option.some.inj h
  subst e1_
  exact V_vret C hR (dt_at dt_X12_names_1 0 rfl)
theorem cv_X12_names (C : Ck X G cc own nL d) {idx : Nat} (hlk : Cond.methodLink own idx yX12_names ∈ gtb) (x1 : Int32) (x2 : Int32) {σ0 : St} (e : f_X12_names x1 x2 σ = some σ0) (hdd : 3 ≤ d) (hroom : (rest.map fun v => v.category).sum ≤ 8) (hcs : cells ≤ (xR X).cells ∧ slots ≤ (xR X).slots) (hd : decode cc pc = .ok (.invokevirtual idx, 3)) (k : V X G nL cells slots σ0 (pc + 3) lv (rest)) : V X G nL cells slots σ pc lv (.int x2 :: .int x1 :: .ref (ga G 6) :: rest) := V_callV C (As := [.int x1, .int x2]) (c_X12_names X.2.1 G x1 x2 σ σ0 e) cal_X12_names ww_507 ww_508 hlk rfl hdd (lt110 rfl) rfl rfl rfl hroom hcs hd k
theorem dt_X12_isAble_0 : dtab cX12_isAble [(0, .aload_n 0, 1), (1, .getfield 7, 3), (4, .sipush 310, 3), (7, .iaload, 1), (8, .ifCond .ne 24, 3), (11, .aload_n 0, 1), (12, .iload_n 1, 1), (13, .iconst 0, 1), (14, .invokevirtual 148, 3), (17, .aload_n 0, 1), (18, .iload_n 2, 1), (19, .iconst 1, 1), (20, .invokevirtual 114, 3), (23, .if_icmp .lt 7, 3), (26, .iconst 1, 1), (27, .goto 4, 3), (30, .iconst 0, 1), (31, .ireturn, 1), (32, .aload_n 0, 1), (33, .iload_n 1, 1), (34, .iload_n 2, 1), (35, .invokevirtual 151, 3), (38, .aload_n 0, 1), (39, .iconst 0, 1), (40, .invokevirtual 154, 3), (43, .ifCond .eq 7, 3), (46, .iconst 1, 1), (47, .goto 4, 3), (50, .iconst 0, 1), (51, .ireturn, 1)] = true := by decide +kernel
theorem cal_X12_isAble : Cal yX12_isAble cX12_isAble 3 (some .boolean) 2 := ⟨ww_510, ww_429, ⟨by decide, by decide, by decide⟩, by decide⟩
set_option maxHeartbeats 4000000 in
set_option maxRecDepth 100000 in
theorem c_X12_isAble (l : Launch) (G : Gx) (x1 : Int32) (x2 : Int32) (σ : St) (r0 : Int32) (σ0 : St) (h : f_X12_isAble x1 x2 σ = some (r0, σ0)) : MI l G yX12_isAble cX12_isAble 3 (some .boolean) 3 [.ref (ga G 6), .int x1, .int x2] σ (some (.int r0)) σ0 := by
  refine MI_of RX12 rfl (by decide) [(0, .ref (ga G 6)), (1, .int x1), (2, .int x2)] rfl (Nat.le_of_ble_eq_true rfl) ?_
  intro X hXl C hR
  unfold f_X12_isAble at h
  refine V_aload_n C (dt_at dt_X12_isAble_0 0 rfl) 0 rfl rfl ?_
  refine g_X12_7_6 C (dt_at dt_X12_isAble_0 1 rfl) ?_
  refine V_sipush C 310 (dt_at dt_X12_isAble_0 2 rfl) (by decide) ?_
  obtain ⟨h1, h⟩ := chk_s h
  refine al_84 C h1 (dt_at dt_X12_isAble_0 3 rfl) ?_
  refine V_if_ne C 32 (dt_at dt_X12_isAble_0 4 rfl) (by decide) (fun q2 => ?_) (fun q2 => ?_)
  · have h := ite_f q2 h
    refine V_aload_n C (dt_at dt_X12_isAble_0 18 rfl) 0 rfl rfl ?_
    refine V_iload_n C (dt_at dt_X12_isAble_0 19 rfl) 1 rfl rfl ?_
    refine V_iload_n C (dt_at dt_X12_isAble_0 20 rfl) 2 rfl rfl ?_
    obtain ⟨σ5, e4, h⟩ := bd_s h
    refine cv_X12_names C ww_509 x1 x2 e4 (Nat.le_of_ble_eq_true rfl) (Nat.le_of_ble_eq_true rfl) z0 (dt_at dt_X12_isAble_0 21 rfl) ?_
    refine V_aload_n C (dt_at dt_X12_isAble_0 22 rfl) 0 rfl rfl ?_
    refine V_iconst C 0 (dt_at dt_X12_isAble_0 23 rfl) (by decide) ?_
    obtain ⟨r6, σ8, e7, h⟩ := bd2_s h
    refine cv_X12_comesTo C ww_480 0 e7 (Nat.le_of_ble_eq_true rfl) (Nat.le_of_ble_eq_true rfl) z0 (dt_at dt_X12_isAble_0 24 rfl) ?_
    refine V_if_eq C 50 (dt_at dt_X12_isAble_0 25 rfl) (by decide) (fun q9 => ?_) (fun q9 => ?_)
    · have h := ite_t q9 h
      refine V_iconst C 0 (dt_at dt_X12_isAble_0 28 rfl) (by decide) ?_
      obtain ⟨e1_, e2_⟩ := pin2 h
      subst e1_; subst e2_
      exact V_zret C rfl hR (dt_at dt_X12_isAble_0 29 rfl)
    · have h := ite_f q9 h
      refine V_iconst C 1 (dt_at dt_X12_isAble_0 26 rfl) (by decide) ?_
      refine V_goto C 51 (dt_at dt_X12_isAble_0 27 rfl) (by decide) ?_
      obtain ⟨e1_, e2_⟩ := pin2 h
      subst e1_; subst e2_
      exact V_zret C rfl hR (dt_at dt_X12_isAble_0 29 rfl)
  · have h := ite_t q2 h
    refine V_aload_n C (dt_at dt_X12_isAble_0 5 rfl) 0 rfl rfl ?_
    refine V_iload_n C (dt_at dt_X12_isAble_0 6 rfl) 1 rfl rfl ?_
    refine V_iconst C 0 (dt_at dt_X12_isAble_0 7 rfl) (by decide) ?_
    obtain ⟨r10, e11, h⟩ := bd_s h
    refine cv_X12_playerOf C ww_505 x1 0 e11 (Nat.le_of_ble_eq_true rfl) (Nat.le_of_ble_eq_true rfl) z0 (dt_at dt_X12_isAble_0 8 rfl) ?_
    refine V_aload_n C (dt_at dt_X12_isAble_0 9 rfl) 0 rfl rfl ?_
    refine V_iload_n C (dt_at dt_X12_isAble_0 10 rfl) 2 rfl rfl ?_
    refine V_iconst C 1 (dt_at dt_X12_isAble_0 11 rfl) (by decide) ?_
    obtain ⟨r13, e14, h⟩ := bd_s h
    refine cv_X12_its C ww_460 x2 1 e14 (Nat.le_of_ble_eq_true rfl) (Nat.le_of_ble_eq_true rfl) z0 (dt_at dt_X12_isAble_0 12 rfl) ?_
    refine V_icmp_lt C 30 (dt_at dt_X12_isAble_0 13 rfl) (by decide) (fun q16 => ?_) (fun q16 => ?_)
    · have h := ite_t q16 h
      refine V_iconst C 0 (dt_at dt_X12_isAble_0 16 rfl) (by decide) ?_
      obtain ⟨e1_, e2_⟩ := pin2 h
      subst e1_; subst e2_
      exact V_zret C rfl hR (dt_at dt_X12_isAble_0 17 rfl)
    · have h := ite_f q16 h
      refine V_iconst C 1 (dt_at dt_X12_isAble_0 14 rfl) (by decide) ?_
      refine V_goto C 31 (dt_at dt_X12_isAble_0 15 rfl) (by decide) ?_
      obtain ⟨e1_, e2_⟩ := pin2 h
      subst e1_; subst e2_
      exact V_zret C rfl hR (dt_at dt_X12_isAble_0 17 rfl)
theorem cv_X12_isAble (C : Ck X G cc own nL d) {idx : Nat} (hlk : Cond.methodLink own idx yX12_isAble ∈ gtb) (x1 : Int32) (x2 : Int32) {r0 : Int32} {σ0 : St} (e : f_X12_isAble x1 x2 σ = some (r0, σ0)) (hdd : 4 ≤ d) (hroom : (rest.map fun v => v.category).sum ≤ 8) (hcs : cells ≤ (xR X).cells ∧ slots ≤ (xR X).slots) (hd : decode cc pc = .ok (.invokevirtual idx, 3)) (k : V X G nL cells slots σ0 (pc + 3) lv (.int r0 :: rest)) : V X G nL cells slots σ pc lv (.int x2 :: .int x1 :: .ref (ga G 6) :: rest) := V_callV C (As := [.int x1, .int x2]) (c_X12_isAble X.2.1 G x1 x2 σ r0 σ0 e) cal_X12_isAble ww_511 ww_512 hlk rfl hdd (lt110 rfl) rfl rfl rfl hroom hcs hd k
theorem dt_X12_findBar_0 : dtab cX12_findBar [(0, .aload_n 0, 1), (1, .invokevirtual 237, 3), (4, .aload_n 0, 1), (5, .getfield 40, 3), (8, .iconst 0, 1), (9, .iconst 0, 1), (10, .iastore, 1), (11, .iconst 0, 1), (12, .istore_n 1, 1), (13, .iload_n 1, 1), (14, .aload_n 0, 1), (15, .getfield 7, 3), (18, .iconst 1, 1), (19, .iaload, 1), (20, .if_icmp .ge 136, 3), (23, .aload_n 0, 1), (24, .iload_n 1, 1), (25, .iconst 4, 1), (26, .invokevirtual 114, 3), (29, .istore_n 2, 1), (30, .iload_n 2, 1), (31, .ifCond .ge 6, 3), (34, .goto 116, 3), (37, .aload_n 0, 1), (38, .getfield 40, 3), (41, .iconst 1, 1), (42, .iload_n 1, 1), (43, .iastore, 1), (44, .aload_n 0, 1), (45, .iload_n 2, 1), (46, .iload_n 1, 1), (47, .invokevirtual 160, 3), (50, .ifCond .ne 11, 3), (53, .aload_n 0, 1), (54, .getfield 40, 3), (57, .iconst 0, 1), (58, .iconst 1, 1), (59, .iastore, 1), (60, .return_, 1), (61, .iload_n 1, 1)] = true := by decide +kernel
theorem dt_X12_findBar_1 : dtab cX12_findBar [(62, .iconst 1, 1), (63, .iadd, 1), (64, .istore_n 3, 1), (65, .iload_n 3, 1), (66, .aload_n 0, 1), (67, .getfield 7, 3), (70, .iconst 1, 1), (71, .iaload, 1), (72, .if_icmp .ge 78, 3), (75, .aload_n 0, 1), (76, .iload_n 3, 1), (77, .iconst 4, 1), (78, .invokevirtual 114, 3), (81, .iload_n 2, 1), (82, .if_icmp .ne 62, 3), (85, .aload_n 0, 1), (86, .getfield 22, 3), (89, .bipush 10, 2), (91, .iload_n 1, 1), (92, .imul, 1), (93, .iload_n 3, 1), (94, .iadd, 1), (95, .iaload, 1), (96, .ifCond .ne 6, 3), (99, .goto 45, 3), (102, .aload_n 0, 1), (103, .getfield 40, 3), (106, .iconst 0, 1), (107, .aload_n 0, 1), (108, .getfield 22, 3), (111, .bipush 10, 2), (113, .iload_n 1, 1), (114, .imul, 1), (115, .iload_n 3, 1), (116, .iadd, 1), (117, .iaload, 1), (118, .iastore, 1), (119, .aload_n 0, 1), (120, .getfield 40, 3), (123, .iconst 2, 1)] = true := by decide +kernel
theorem dt_X12_findBar_2 : dtab cX12_findBar [(124, .iload_n 3, 1), (125, .iastore, 1), (126, .aload_n 0, 1), (127, .getfield 40, 3), (130, .iconst 3, 1), (131, .aload_n 0, 1), (132, .getfield 25, 3), (135, .bipush 10, 2), (137, .iload_n 1, 1), (138, .imul, 1), (139, .iload_n 3, 1), (140, .iadd, 1), (141, .iaload, 1), (142, .iastore, 1), (143, .return_, 1), (144, .iinc 3 1, 3), (147, .goto (-82), 3), (150, .iinc 1 1, 3), (153, .goto (-140), 3), (156, .return_, 1)] = true := by decide +kernel
theorem cal_X12_findBar : Cal yX12_findBar cX12_findBar 4 none 0 := ⟨ww_516, ww_429, ⟨by decide, by decide, by decide⟩, by decide⟩
set_option maxHeartbeats 4000000 in
set_option maxRecDepth 100000 in
theorem c_X12_findBar (l : Launch) (G : Gx) (σ : St) (σ0 : St) (h : f_X12_findBar σ = some σ0) : MI l G yX12_findBar cX12_findBar 4 none 7 [.ref (ga G 6)] σ none σ0 := by
  refine MI_of RX12 rfl (by decide) [(0, .ref (ga G 6))] rfl (Nat.le_of_ble_eq_true rfl) ?_
  intro X hXl C hR
  unfold f_X12_findBar at h
  have J_102 : ∀ (x1 : Int32) (x3 : Int32) (σ : St), f_X12_findBar_102 x1 x3 σ = some σ0 → V X G 4 0 0 σ 102 [(0, .ref (ga G 6)), (1, .int x1), (3, .int x3)] [] := by
    intro x1 x3 σ h
    unfold f_X12_findBar_102 at h
    refine V_aload_n C (dt_at dt_X12_findBar_1 25 rfl) 0 rfl rfl ?_
    refine g_X12_40_6 C (dt_at dt_X12_findBar_1 26 rfl) ?_
    refine V_iconst C 0 (dt_at dt_X12_findBar_1 27 rfl) (by decide) ?_
    refine V_aload_n C (dt_at dt_X12_findBar_1 28 rfl) 0 rfl rfl ?_
    refine g_X12_22_6 C (dt_at dt_X12_findBar_1 29 rfl) ?_
    refine V_bipush C 10 (dt_at dt_X12_findBar_1 30 rfl) (by decide) ?_
    refine V_iload_n C (dt_at dt_X12_findBar_1 31 rfl) 1 rfl rfl ?_
    refine V_imul C (dt_at dt_X12_findBar_1 32 rfl) ?_
    refine V_iload_n C (dt_at dt_X12_findBar_1 33 rfl) 2 rfl rfl ?_
    refine V_iadd C (dt_at dt_X12_findBar_1 34 rfl) ?_
    obtain ⟨h32, h⟩ := chk_s h
    refine al_88 C h32 (dt_at dt_X12_findBar_1 35 rfl) ?_
    obtain ⟨h34, h⟩ := chk_s h
    obtain ⟨σ33, eσ33, h⟩ := nm_s h
    refine V_st eσ33 ?_ (fun k => as_94 C h34 (dt_at dt_X12_findBar_1 36 rfl) k)
    refine V_aload_n C (dt_at dt_X12_findBar_1 37 rfl) 0 rfl rfl ?_
    refine g_X12_40_6 C (dt_at dt_X12_findBar_1 38 rfl) ?_
    refine V_iconst C 2 (dt_at dt_X12_findBar_1 39 rfl) (by decide) ?_
    refine V_iload_n C (dt_at dt_X12_findBar_2 0 rfl) 2 rfl rfl ?_
    obtain ⟨h36, h⟩ := chk_s h
    obtain ⟨σ35, eσ35, h⟩ := nm_s h
    refine V_st eσ35 ?_ (fun k => as_94 C h36 (dt_at dt_X12_findBar_2 1 rfl) k)
    refine V_aload_n C (dt_at dt_X12_findBar_2 2 rfl) 0 rfl rfl ?_
    refine g_X12_40_6 C (dt_at dt_X12_findBar_2 3 rfl) ?_
    refine V_iconst C 3 (dt_at dt_X12_findBar_2 4 rfl) (by decide) ?_
    refine V_aload_n C (dt_at dt_X12_findBar_2 5 rfl) 0 rfl rfl ?_
    refine g_X12_25_6 C (dt_at dt_X12_findBar_2 6 rfl) ?_
    refine V_bipush C 10 (dt_at dt_X12_findBar_2 7 rfl) (by decide) ?_
    refine V_iload_n C (dt_at dt_X12_findBar_2 8 rfl) 1 rfl rfl ?_
    refine V_imul C (dt_at dt_X12_findBar_2 9 rfl) ?_
    refine V_iload_n C (dt_at dt_X12_findBar_2 10 rfl) 2 rfl rfl ?_
    refine V_iadd C (dt_at dt_X12_findBar_2 11 rfl) ?_
    refine al_89 C h32 (dt_at dt_X12_findBar_2 12 rfl) ?_
    obtain ⟨h38, h⟩ := chk_s h
    obtain ⟨σ37, eσ37, h⟩ := nm_s h
    refine V_st eσ37 ?_ (fun k => as_94 C h38 (dt_at dt_X12_findBar_2 13 rfl) k)
    have e1_ := Option.some.inj h
    subst e1_
    exact V_vret C hR (dt_at dt_X12_findBar_2 14 rfl)
  have J_53 : ∀ (σ : St), f_X12_findBar_53 σ = some σ0 → V X G 4 0 0 σ 53 [(0, .ref (ga G 6))] [] := by
    intro σ h
    unfold f_X12_findBar_53 at h
    refine V_aload_n C (dt_at dt_X12_findBar_0 33 rfl) 0 rfl rfl ?_
    refine g_X12_40_6 C (dt_at dt_X12_findBar_0 34 rfl) ?_
    refine V_iconst C 0 (dt_at dt_X12_findBar_0 35 rfl) (by decide) ?_
    refine V_iconst C 1 (dt_at dt_X12_findBar_0 36 rfl) (by decide) ?_
    obtain ⟨h31, h⟩ := chk_s h
    obtain ⟨σ30, eσ30, h⟩ := nm_s h
    refine V_st eσ30 ?_ (fun k => as_94 C h31 (dt_at dt_X12_findBar_0 37 rfl) k)
    have e1_ := Option.some.inj h
    subst e1_
    exact V_vret C hR (dt_at dt_X12_findBar_0 38 rfl)
  have J_13 : ∀ (x1 : Int32) (σ : St), f_X12_findBar_13 x1 σ = some σ0 → V X G 4 0 0 σ 13 [(0, .ref (ga G 6)), (1, .int x1)] [] := by
    intro x1 σ h
    refine it_v (P := fun z : Int32 × St => V X G 4 0 0 z.2 13 [(0, .ref (ga G 6)), (1, .int z.1)] []) ?_ (x1, σ) h
    clear h
    intro z w_13 h ih_13 ex_13
    obtain ⟨x1, σ⟩ := z
    have h : b_X12_findBar_13 x1 σ = some w_13 := h
    show V X G 4 0 0 σ 13 [(0, .ref (ga G 6)), (1, .int x1)] []
    unfold b_X12_findBar_13 at h
    have J_150 : ∀ (x1 : Int32) (σ : St), f_X12_findBar_150 x1 σ = some w_13 → V X G 4 0 0 σ 150 [(0, .ref (ga G 6)), (1, .int x1)] [] := by
      intro x1 σ h
      unfold f_X12_findBar_150 at h
      refine V_iinc C (x1 + 1) 1 [1, 0] (lv' := [(0, .ref (ga G 6)), (1, .int (x1 + 1))]) (dt_at dt_X12_findBar_2 17 rfl) rfl (by rfl) (by decide) rfl ?_
      refine V_goto C 13 (dt_at dt_X12_findBar_2 18 rfl) (by decide) ?_
      exact ih_13 ((x1 + 1), σ) (Option.some.inj h).symm
    have J_65 : ∀ (x1 : Int32) (x2 : Int32) (x3 : Int32) (σ : St), f_X12_findBar_65 x1 x2 x3 σ = some w_13 → V X G 4 0 0 σ 65 [(0, .ref (ga G 6)), (1, .int x1), (2, .int x2), (3, .int x3)] [] := by
      intro x1 x2 x3 σ h
      refine it_v (P := fun z : Int32 => V X G 4 0 0 σ 65 [(0, .ref (ga G 6)), (1, .int x1), (2, .int x2), (3, .int z)] []) ?_ x3 h
      clear h
      intro z w_65 h ih_65 ex_65
      revert h; revert z; intro x3 h
      have h : b_X12_findBar_65 x1 x2 x3 σ = some w_65 := h
      show V X G 4 0 0 σ 65 [(0, .ref (ga G 6)), (1, .int x1), (2, .int x2), (3, .int x3)] []
      unfold b_X12_findBar_65 at h
      have J_144 : ∀ (x3 : Int32), f_X12_findBar_144 x1 x2 x3 σ = some w_65 → V X G 4 0 0 σ 144 [(0, .ref (ga G 6)), (1, .int x1), (2, .int x2), (3, .int x3)] [] := by
        intro x3 h
        unfold f_X12_findBar_144 at h
        refine V_iinc C (x3 + 1) 3 [1, 2, 3, 0] (lv' := [(0, .ref (ga G 6)), (1, .int x1), (2, .int x2), (3, .int (x3 + 1))]) (dt_at dt_X12_findBar_2 15 rfl) rfl (by rfl) (by decide) rfl ?_
        refine V_goto C 65 (dt_at dt_X12_findBar_2 16 rfl) (by decide) ?_
        exact ih_65 (x3 + 1) (Option.some.inj h).symm
      refine V_iload_n C (dt_at dt_X12_findBar_1 3 rfl) 3 rfl rfl ?_
      refine V_aload_n C (dt_at dt_X12_findBar_1 4 rfl) 0 rfl rfl ?_
      refine g_X12_7_6 C (dt_at dt_X12_findBar_1 5 rfl) ?_
      refine V_iconst C 1 (dt_at dt_X12_findBar_1 6 rfl) (by decide) ?_
      obtain ⟨h19, h⟩ := chk_s h
      refine al_84 C h19 (dt_at dt_X12_findBar_1 7 rfl) ?_
      refine V_icmp_ge C 150 (dt_at dt_X12_findBar_1 8 rfl) (by decide) (fun q20 => ?_) (fun q20 => ?_)
      · have h := ite_f q20 h
        refine V_sub [0, 1] (lv' := [(0, .ref (ga G 6)), (1, .int x1)]) rfl ?_
        obtain ⟨t21, h, e_65⟩ := map_s h
        have e_65 := ex_65 _ e_65
        rw [e_65] at h
        exact J_150 x1 σ h
      · have h := ite_t q20 h
        refine V_aload_n C (dt_at dt_X12_findBar_1 9 rfl) 0 rfl rfl ?_
        refine V_iload_n C (dt_at dt_X12_findBar_1 10 rfl) 3 rfl rfl ?_
        refine V_iconst C 4 (dt_at dt_X12_findBar_1 11 rfl) (by decide) ?_
        obtain ⟨r22, e23, h⟩ := bd_s h
        refine cv_X12_its C ww_460 x3 4 e23 (Nat.le_of_ble_eq_true rfl) (Nat.le_of_ble_eq_true rfl) z0 (dt_at dt_X12_findBar_1 12 rfl) ?_
        refine V_iload_n C (dt_at dt_X12_findBar_1 13 rfl) 2 rfl rfl ?_
        refine V_icmp_ne C 144 (dt_at dt_X12_findBar_1 14 rfl) (by decide) (fun q25 => ?_) (fun q25 => ?_)
        · have h := ite_f q25 h
          exact J_144 x3 h
        · have h := ite_t q25 h
          refine V_aload_n C (dt_at dt_X12_findBar_1 15 rfl) 0 rfl rfl ?_
          refine g_X12_22_6 C (dt_at dt_X12_findBar_1 16 rfl) ?_
          refine V_bipush C 10 (dt_at dt_X12_findBar_1 17 rfl) (by decide) ?_
          refine V_iload_n C (dt_at dt_X12_findBar_1 18 rfl) 1 rfl rfl ?_
          refine V_imul C (dt_at dt_X12_findBar_1 19 rfl) ?_
          refine V_iload_n C (dt_at dt_X12_findBar_1 20 rfl) 3 rfl rfl ?_
          refine V_iadd C (dt_at dt_X12_findBar_1 21 rfl) ?_
          obtain ⟨h26, h⟩ := chk_s h
          refine al_88 C h26 (dt_at dt_X12_findBar_1 22 rfl) ?_
          refine V_if_ne C 102 (dt_at dt_X12_findBar_1 23 rfl) (by decide) (fun q27 => ?_) (fun q27 => ?_)
          · have h := ite_f q27 h
            refine V_sub [0, 1, 3] (lv' := [(0, .ref (ga G 6)), (1, .int x1), (3, .int x3)]) rfl ?_
            obtain ⟨t28, h, e_65⟩ := map_s h
            have e_65 := ex_65 _ e_65
            rw [e_65] at h
            obtain ⟨t29, h, e_13⟩ := map_s h
            have e_13 := ex_13 _ e_13
            rw [e_13] at h
            exact J_102 x1 x3 σ h
          · have h := ite_t q27 h
            refine V_goto C 144 (dt_at dt_X12_findBar_1 24 rfl) (by decide) ?_
            exact J_144 x3 h
    refine V_iload_n C (dt_at dt_X12_findBar_0 9 rfl) 1 rfl rfl ?_
    refine V_aload_n C (dt_at dt_X12_findBar_0 10 rfl) 0 rfl rfl ?_
    refine g_X12_7_6 C (dt_at dt_X12_findBar_0 11 rfl) ?_
    refine V_iconst C 1 (dt_at dt_X12_findBar_0 12 rfl) (by decide) ?_
    obtain ⟨h6, h⟩ := chk_s h
    refine al_84 C h6 (dt_at dt_X12_findBar_0 13 rfl) ?_
    refine V_icmp_ge C 156 (dt_at dt_X12_findBar_0 14 rfl) (by decide) (fun q7 => ?_) (fun q7 => ?_)
    · have h := ite_f q7 h
      have e_13 := ex_13 _ (Option.some.inj h).symm
      subst e_13
      exact V_vret C hR (dt_at dt_X12_findBar_2 19 rfl)
    · have h := ite_t q7 h
      refine V_aload_n C (dt_at dt_X12_findBar_0 15 rfl) 0 rfl rfl ?_
      refine V_iload_n C (dt_at dt_X12_findBar_0 16 rfl) 1 rfl rfl ?_
      refine V_iconst C 4 (dt_at dt_X12_findBar_0 17 rfl) (by decide) ?_
      obtain ⟨r8, e9, h⟩ := bd_s h
      refine cv_X12_its C ww_460 x1 4 e9 (Nat.le_of_ble_eq_true rfl) (Nat.le_of_ble_eq_true rfl) z0 (dt_at dt_X12_findBar_0 18 rfl) ?_
      refine V_istore_n C [1, 2, 0] (lv' := [(0, .ref (ga G 6)), (1, .int x1), (2, .int r8)]) (dt_at dt_X12_findBar_0 19 rfl) rfl (by decide) rfl ?_
      refine V_iload_n C (dt_at dt_X12_findBar_0 20 rfl) 2 rfl rfl ?_
      refine V_if_ge C 37 (dt_at dt_X12_findBar_0 21 rfl) (by decide) (fun q11 => ?_) (fun q11 => ?_)
      · have h := ite_f q11 h
        refine V_aload_n C (dt_at dt_X12_findBar_0 23 rfl) 0 rfl rfl ?_
        refine g_X12_40_6 C (dt_at dt_X12_findBar_0 24 rfl) ?_
        refine V_iconst C 1 (dt_at dt_X12_findBar_0 25 rfl) (by decide) ?_
        refine V_iload_n C (dt_at dt_X12_findBar_0 26 rfl) 1 rfl rfl ?_
        obtain ⟨h13, h⟩ := chk_s h
        obtain ⟨σ12, eσ12, h⟩ := nm_s h
        refine V_st eσ12 ?_ (fun k => as_94 C h13 (dt_at dt_X12_findBar_0 27 rfl) k)
        refine V_aload_n C (dt_at dt_X12_findBar_0 28 rfl) 0 rfl rfl ?_
        refine V_iload_n C (dt_at dt_X12_findBar_0 29 rfl) 2 rfl rfl ?_
        refine V_iload_n C (dt_at dt_X12_findBar_0 30 rfl) 1 rfl rfl ?_
        obtain ⟨r14, σ16, e15, h⟩ := bd2_s h
        refine cv_X12_isAble C ww_515 r8 x1 e15 (Nat.le_of_ble_eq_true rfl) (Nat.le_of_ble_eq_true rfl) z0 (dt_at dt_X12_findBar_0 31 rfl) ?_
        refine V_if_ne C 61 (dt_at dt_X12_findBar_0 32 rfl) (by decide) (fun q17 => ?_) (fun q17 => ?_)
        · have h := ite_f q17 h
          refine V_iload_n C (dt_at dt_X12_findBar_0 39 rfl) 1 rfl rfl ?_
          refine V_iconst C 1 (dt_at dt_X12_findBar_1 0 rfl) (by decide) ?_
          refine V_iadd C (dt_at dt_X12_findBar_1 1 rfl) ?_
          refine V_istore_n C [1, 2, 3, 0] (lv' := [(0, .ref (ga G 6)), (1, .int x1), (2, .int r8), (3, .int (x1 + 1))]) (dt_at dt_X12_findBar_1 2 rfl) rfl (by decide) rfl ?_
          exact J_65 x1 r8 (x1 + 1) σ16 h
        · have h := ite_t q17 h
          refine V_sub [0] (lv' := [(0, .ref (ga G 6))]) rfl ?_
          obtain ⟨t18, h, e_13⟩ := map_s h
          have e_13 := ex_13 _ e_13
          rw [e_13] at h
          exact J_53 σ16 h
      · have h := ite_t q11 h
        refine V_goto C 150 (dt_at dt_X12_findBar_0 22 rfl) (by decide) ?_
        refine V_sub [0, 1] (lv' := [(0, .ref (ga G 6)), (1, .int x1)]) rfl ?_
        exact J_150 x1 σ h
  refine V_aload_n C (dt_at dt_X12_findBar_0 0 rfl) 0 rfl rfl ?_
  obtain ⟨σ3, e2, h⟩ := bd_s h
  refine cv_X12_lay C ww_513  e2 (Nat.le_of_ble_eq_true rfl) (Nat.le_of_ble_eq_true rfl) z0 (dt_at dt_X12_findBar_0 1 rfl) ?_
  refine V_aload_n C (dt_at dt_X12_findBar_0 2 rfl) 0 rfl rfl ?_
  refine g_X12_40_6 C (dt_at dt_X12_findBar_0 3 rfl) ?_
  refine V_iconst C 0 (dt_at dt_X12_findBar_0 4 rfl) (by decide) ?_
  refine V_iconst C 0 (dt_at dt_X12_findBar_0 5 rfl) (by decide) ?_
  obtain ⟨h5, h⟩ := chk_s h
  obtain ⟨σ4, eσ4, h⟩ := nm_s h
  refine V_st eσ4 ?_ (fun k => as_94 C h5 (dt_at dt_X12_findBar_0 6 rfl) k)
  refine V_iconst C 0 (dt_at dt_X12_findBar_0 7 rfl) (by decide) ?_
  refine V_istore_n C [1, 0] (lv' := [(0, .ref (ga G 6)), (1, .int 0)]) (dt_at dt_X12_findBar_0 8 rfl) rfl (by decide) rfl ?_
  exact J_13 0 σ4 h
theorem cv_X12_findBar (C : Ck X G cc own nL d) {idx : Nat} (hlk : Cond.methodLink own idx yX12_findBar ∈ gtb) {σ0 : St} (e : f_X12_findBar σ = some σ0) (hdd : 8 ≤ d) (hroom : (rest.map fun v => v.category).sum ≤ 8) (hcs : cells ≤ (xR X).cells ∧ slots ≤ (xR X).slots) (hd : decode cc pc = .ok (.invokevirtual idx, 3)) (k : V X G nL cells slots σ0 (pc + 3) lv (rest)) : V X G nL cells slots σ pc lv (.ref (ga G 6) :: rest) := V_callV C (As := []) (c_X12_findBar X.2.1 G  σ σ0 e) cal_X12_findBar ww_517 ww_518 hlk rfl hdd (lt110 rfl) rfl rfl rfl hroom hcs hd k
end WK
