section WK
variable {X : Xx} {G : Gx} {cc : ByteArray} {own : String} {nL d cells slots pc : Nat} {σ : St} {lv : List (Nat × Value)} {rest : List Value}
theorem dt_X8_together_0 : dtab cX8_together [(0, .iload_n 0, 1), (1, .iconst 2, 1), (2, .if_icmp .ne 11, 3), (5, .iload_n 1, 1), (6, .iload_n 2, 1), (7, .invokestatic 147, 3), (10, .goto 6, 3), (13, .iload_n 1, 1), (14, .iload_n 2, 1), (15, .iadd, 1), (16, .ireturn, 1)] = true := by decide +kernel
theorem cal_X8_together : Cal yX8_together cX8_together 3 (some .int) 3 := ⟨ww_153, ww_129, ⟨by decide, by decide, by decide⟩, by decide⟩
set_option maxHeartbeats 4000000 in
set_option maxRecDepth 100000 in
theorem c_X8_together (l : Launch) (G : Gx) (x0 : Int32) (x1 : Int32) (x2 : Int32) (σ : St) (r0 : Int32) (h : f_X8_together x0 x1 x2 = some r0) : MI l G yX8_together cX8_together 3 (some .int) 1 [.int x0, .int x1, .int x2] σ (some (.int r0)) σ := by
  refine MI_of RX8 rfl (by decide) [(0, .int x0), (1, .int x1), (2, .int x2)] rfl (Nat.le_of_ble_eq_true rfl) ?_
  intro X hXl C hR
  unfold f_X8_together at h
  refine V_iload_n C (dt_at dt_X8_together_0 0 rfl) 0 rfl rfl ?_
  refine V_iconst C 2 (dt_at dt_X8_together_0 1 rfl) (by decide) ?_
  refine V_icmp_ne C 13 (dt_at dt_X8_together_0 2 rfl) (by decide) (fun q1 => ?_) (fun q1 => ?_)
  · have h := ite_f q1 h
    refine V_iload_n C (dt_at dt_X8_together_0 7 rfl) 1 rfl rfl ?_
    refine V_iload_n C (dt_at dt_X8_together_0 8 rfl) 2 rfl rfl ?_
    refine V_iadd C (dt_at dt_X8_together_0 9 rfl) ?_
    have e1_ := Option.some.inj h
    subst e1_
    exact V_iret C hR (dt_at dt_X8_together_0 10 rfl)
  · have h := ite_t q1 h
    refine V_iload_n C (dt_at dt_X8_together_0 3 rfl) 1 rfl rfl ?_
    refine V_iload_n C (dt_at dt_X8_together_0 4 rfl) 2 rfl rfl ?_
    refine V_max C ww_152 w_max (Nat.le_of_ble_eq_true rfl) (Nat.le_of_ble_eq_true rfl) z0 (dt_at dt_X8_together_0 5 rfl) ?_
    refine V_goto C 16 (dt_at dt_X8_together_0 6 rfl) (by decide) ?_
    have e1_ := Option.some.inj h
    subst e1_
    exact V_iret C hR (dt_at dt_X8_together_0 10 rfl)
theorem cv_X8_together (C : Ck X G cc own nL d) {idx : Nat} (hlk : Cond.methodLink own idx yX8_together ∈ gtb) (x0 : Int32) (x1 : Int32) (x2 : Int32) {r0 : Int32} (e : f_X8_together x0 x1 x2 = some r0) (hdd : 2 ≤ d) (hroom : (rest.map fun v => v.category).sum ≤ 8) (hcs : cells ≤ (xR X).cells ∧ slots ≤ (xR X).slots) (hd : decode cc pc = .ok (.invokestatic idx, 3)) (k : V X G nL cells slots σ (pc + 3) lv (.int r0 :: rest)) : V X G nL cells slots σ pc lv (.int x2 :: .int x1 :: .int x0 :: rest) := V_callS C (As := [.int x0, .int x1, .int x2]) (c_X8_together X.2.1 G x0 x1 x2 σ r0 e) cal_X8_together ww_154 hlk rfl hdd rfl hroom hcs hd k
theorem dt_X8_addToTeam_0 : dtab cX8_addToTeam [(0, .aload_n 0, 1), (1, .getfield 33, 3), (4, .iload_n 2, 1), (5, .iconst 1, 1), (6, .iadd, 1), (7, .aaload, 1), (8, .astore 4, 2), (10, .aload_n 0, 1), (11, .getfield 33, 3), (14, .iload_n 2, 1), (15, .aaload, 1), (16, .astore 5, 2), (18, .aload 5, 2), (20, .iconst 0, 1), (21, .iload_n 3, 1), (22, .iconst 1, 1), (23, .iadd, 1), (24, .ldc 97, 2), (26, .invokestatic 136, 3), (29, .iconst 0, 1), (30, .istore 6, 2), (32, .iload 6, 2), (34, .iload_n 3, 1), (35, .if_icmp .gt 120, 3), (38, .aload_n 0, 1), (39, .getfield 30, 3), (42, .iload 6, 2), (44, .iaload, 1), (45, .ldc 97, 2), (47, .if_icmp .ge 102, 3), (50, .iload_n 3, 1), (51, .iload 6, 2), (53, .ixor, 1), (54, .istore 7, 2), (56, .iload_n 2, 1), (57, .ifCond .ne 8, 3), (60, .iload 7, 2), (62, .goto 4, 3), (65, .iconst 0, 1), (66, .istore 8, 2)] = true := by decide +kernel
theorem dt_X8_addToTeam_1 : dtab cX8_addToTeam [(68, .iload 7, 2), (70, .istore 9, 2), (72, .iload 9, 2), (74, .iload 8, 2), (76, .if_icmp .lt 73, 3), (79, .aload 4, 2), (81, .iload 9, 2), (83, .iaload, 1), (84, .ldc 97, 2), (86, .if_icmp .ge 42, 3), (89, .iload_n 1, 1), (90, .aload_n 0, 1), (91, .getfield 30, 3), (94, .iload 6, 2), (96, .iaload, 1), (97, .aload 4, 2), (99, .iload 9, 2), (101, .iaload, 1), (102, .invokestatic 139, 3), (105, .istore 10, 2), (107, .aload 5, 2), (109, .iload 6, 2), (111, .iload 9, 2), (113, .ior, 1), (114, .aload 5, 2), (116, .iload 6, 2), (118, .iload 9, 2), (120, .ior, 1), (121, .iaload, 1), (122, .iload 10, 2), (124, .invokestatic 142, 3), (127, .iastore, 1), (128, .iload 9, 2), (130, .ifCond .ne 7, 3), (133, .iconst (-1), 1), (134, .goto 10, 3), (137, .iload 9, 2), (139, .iconst 1, 1), (140, .isub, 1), (141, .iload 7, 2)] = true := by decide +kernel
theorem dt_X8_addToTeam_2 : dtab cX8_addToTeam [(143, .iand, 1), (144, .istore 9, 2), (146, .goto (-74), 3), (149, .iinc 6 1, 3), (152, .goto (-120), 3), (155, .return_, 1)] = true := by decide +kernel
theorem cal_X8_addToTeam : Cal yX8_addToTeam cX8_addToTeam 11 none 3 := ⟨ww_159, ww_129, ⟨by decide, by decide, by decide⟩, by decide⟩
set_option maxHeartbeats 4000000 in
set_option maxRecDepth 100000 in
theorem c_X8_addToTeam (l : Launch) (G : Gx) (x1 : Int32) (x2 : Int32) (x3 : Int32) (σ : St) (σ0 : St) (h : f_X8_addToTeam x1 x2 x3 σ = some σ0) : MI l G yX8_addToTeam cX8_addToTeam 11 none 3 [.ref (ga G 4), .int x1, .int x2, .int x3] σ none σ0 := by
  refine MI_of RX8 rfl (by decide) [(0, .ref (ga G 4)), (1, .int x1), (2, .int x2), (3, .int x3)] rfl (Nat.le_of_ble_eq_true rfl) ?_
  intro X hXl C hR
  unfold f_X8_addToTeam at h
  have J_32 : ∀ (c4 : Nat) (c5 : Nat) (x6 : Int32) (σ : St) (hf_c4 : isLeast c4 = true) (hf_c5 : isLeast c5 = true), f_X8_addToTeam_32 x1 x2 x3 c4 c5 x6 σ = some σ0 → V X G 11 0 0 σ 32 [(0, .ref (ga G 4)), (1, .int x1), (2, .int x2), (3, .int x3), (4, .ref (ga G c4)), (5, .ref (ga G c5)), (6, .int x6)] [] := by
    intro c4 c5 x6 σ hf_c4 hf_c5 h
    refine it_v (P := fun z : Int32 × St => V X G 11 0 0 z.2 32 [(0, .ref (ga G 4)), (1, .int x1), (2, .int x2), (3, .int x3), (4, .ref (ga G c4)), (5, .ref (ga G c5)), (6, .int z.1)] []) ?_ (x6, σ) h
    clear h
    intro z w_32 h ih_32 ex_32
    obtain ⟨x6, σ⟩ := z
    have h : b_X8_addToTeam_32 x1 x2 x3 c4 c5 x6 σ = some w_32 := h
    show V X G 11 0 0 σ 32 [(0, .ref (ga G 4)), (1, .int x1), (2, .int x2), (3, .int x3), (4, .ref (ga G c4)), (5, .ref (ga G c5)), (6, .int x6)] []
    unfold b_X8_addToTeam_32 at h
    have J_149 : ∀ (x6 : Int32) (σ : St), f_X8_addToTeam_149 x1 x2 x3 c4 c5 x6 σ = some w_32 → V X G 11 0 0 σ 149 [(0, .ref (ga G 4)), (1, .int x1), (2, .int x2), (3, .int x3), (4, .ref (ga G c4)), (5, .ref (ga G c5)), (6, .int x6)] [] := by
      intro x6 σ h
      unfold f_X8_addToTeam_149 at h
      refine V_iinc C (x6 + 1) 6 [1, 2, 3, 4, 5, 6, 0] (lv' := [(0, .ref (ga G 4)), (1, .int x1), (2, .int x2), (3, .int x3), (4, .ref (ga G c4)), (5, .ref (ga G c5)), (6, .int (x6 + 1))]) (dt_at dt_X8_addToTeam_2 3 rfl) rfl (by rfl) (by decide) rfl ?_
      refine V_goto C 32 (dt_at dt_X8_addToTeam_2 4 rfl) (by decide) ?_
      exact ih_32 ((x6 + 1), σ) (Option.some.inj h).symm
    have J_72 : ∀ (x6 : Int32) (x7 : Int32) (x8 : Int32) (x9 : Int32) (σ : St), f_X8_addToTeam_72 x1 x2 x3 c4 c5 x6 x7 x8 x9 σ = some w_32 → V X G 11 0 0 σ 72 [(0, .ref (ga G 4)), (1, .int x1), (2, .int x2), (3, .int x3), (4, .ref (ga G c4)), (5, .ref (ga G c5)), (6, .int x6), (7, .int x7), (8, .int x8), (9, .int x9)] [] := by
      intro x6 x7 x8 x9 σ h
      refine it_v (P := fun z : Int32 × St => V X G 11 0 0 z.2 72 [(0, .ref (ga G 4)), (1, .int x1), (2, .int x2), (3, .int x3), (4, .ref (ga G c4)), (5, .ref (ga G c5)), (6, .int x6), (7, .int x7), (8, .int x8), (9, .int z.1)] []) ?_ (x9, σ) h
      clear h
      intro z w_72 h ih_72 ex_72
      obtain ⟨x9, σ⟩ := z
      have h : b_X8_addToTeam_72 x1 x2 x3 c4 c5 x6 x7 x8 x9 σ = some w_72 := h
      show V X G 11 0 0 σ 72 [(0, .ref (ga G 4)), (1, .int x1), (2, .int x2), (3, .int x3), (4, .ref (ga G c4)), (5, .ref (ga G c5)), (6, .int x6), (7, .int x7), (8, .int x8), (9, .int x9)] []
      unfold b_X8_addToTeam_72 at h
      have J_144 : ∀ (s0 : Int32) (σ : St), f_X8_addToTeam_144 x1 x2 x3 c4 c5 x6 x7 x8 s0 σ = some w_72 → V X G 11 0 0 σ 144 [(0, .ref (ga G 4)), (1, .int x1), (2, .int x2), (3, .int x3), (4, .ref (ga G c4)), (5, .ref (ga G c5)), (6, .int x6), (7, .int x7), (8, .int x8)] [.int s0] := by
        intro s0 σ h
        unfold f_X8_addToTeam_144 at h
        refine V_istore C [1, 2, 3, 4, 5, 6, 7, 8, 9, 0] (lv' := [(0, .ref (ga G 4)), (1, .int x1), (2, .int x2), (3, .int x3), (4, .ref (ga G c4)), (5, .ref (ga G c5)), (6, .int x6), (7, .int x7), (8, .int x8), (9, .int s0)]) (dt_at dt_X8_addToTeam_2 1 rfl) (by decide) rfl ?_
        refine V_goto C 72 (dt_at dt_X8_addToTeam_2 2 rfl) (by decide) ?_
        exact ih_72 (s0, σ) (Option.some.inj h).symm
      have J_128 : ∀ (x9 : Int32) (σ : St), f_X8_addToTeam_128 x1 x2 x3 c4 c5 x6 x7 x8 x9 σ = some w_72 → V X G 11 0 0 σ 128 [(0, .ref (ga G 4)), (1, .int x1), (2, .int x2), (3, .int x3), (4, .ref (ga G c4)), (5, .ref (ga G c5)), (6, .int x6), (7, .int x7), (8, .int x8), (9, .int x9)] [] := by
        intro x9 σ h
        unfold f_X8_addToTeam_128 at h
        refine V_iload C (dt_at dt_X8_addToTeam_1 32 rfl) 9 rfl ?_
        refine V_if_ne C 137 (dt_at dt_X8_addToTeam_1 33 rfl) (by decide) (fun q22 => ?_) (fun q22 => ?_)
        · have h := ite_f q22 h
          refine V_iload C (dt_at dt_X8_addToTeam_1 36 rfl) 9 rfl ?_
          refine V_iconst C 1 (dt_at dt_X8_addToTeam_1 37 rfl) (by decide) ?_
          refine V_isub C (dt_at dt_X8_addToTeam_1 38 rfl) ?_
          refine V_iload C (dt_at dt_X8_addToTeam_1 39 rfl) 7 rfl ?_
          refine V_iand C (dt_at dt_X8_addToTeam_2 0 rfl) ?_
          refine V_sub [0, 1, 2, 3, 4, 5, 6, 7, 8] (lv' := [(0, .ref (ga G 4)), (1, .int x1), (2, .int x2), (3, .int x3), (4, .ref (ga G c4)), (5, .ref (ga G c5)), (6, .int x6), (7, .int x7), (8, .int x8)]) rfl ?_
          exact J_144 ((x9 - 1) &&& x7) σ h
        · have h := ite_t q22 h
          refine V_iconst C (-1) (dt_at dt_X8_addToTeam_1 34 rfl) (by decide) ?_
          refine V_goto C 144 (dt_at dt_X8_addToTeam_1 35 rfl) (by decide) ?_
          refine V_sub [0, 1, 2, 3, 4, 5, 6, 7, 8] (lv' := [(0, .ref (ga G 4)), (1, .int x1), (2, .int x2), (3, .int x3), (4, .ref (ga G c4)), (5, .ref (ga G c5)), (6, .int x6), (7, .int x7), (8, .int x8)]) rfl ?_
          exact J_144 (-1) σ h
      refine V_iload C (dt_at dt_X8_addToTeam_1 2 rfl) 9 rfl ?_
      refine V_iload C (dt_at dt_X8_addToTeam_1 3 rfl) 8 rfl ?_
      refine V_icmp_lt C 149 (dt_at dt_X8_addToTeam_1 4 rfl) (by decide) (fun q12 => ?_) (fun q12 => ?_)
      · have h := ite_t q12 h
        refine V_sub [0, 1, 2, 3, 4, 5, 6] (lv' := [(0, .ref (ga G 4)), (1, .int x1), (2, .int x2), (3, .int x3), (4, .ref (ga G c4)), (5, .ref (ga G c5)), (6, .int x6)]) rfl ?_
        obtain ⟨t13, h, e_72⟩ := map_s h
        have e_72 := ex_72 _ e_72
        rw [e_72] at h
        exact J_149 x6 σ h
      · have h := ite_f q12 h
        refine V_aload C (dt_at dt_X8_addToTeam_1 5 rfl) 4 rfl ?_
        refine V_iload C (dt_at dt_X8_addToTeam_1 6 rfl) 9 rfl ?_
        obtain ⟨h14, h⟩ := chk_s h
        refine V_iald C (K := c4) (isLeast_lt hf_c4) (lay_least G hf_c4 (_) _) h14 (dt_at dt_X8_addToTeam_1 7 rfl) ?_
        refine V_ldc C 100000000 (dt_at dt_X8_addToTeam_1 8 rfl) ww_135 ?_
        refine V_icmp_ge C 128 (dt_at dt_X8_addToTeam_1 9 rfl) (by decide) (fun q15 => ?_) (fun q15 => ?_)
        · have h := ite_f q15 h
          exact J_128 x9 σ h
        · have h := ite_t q15 h
          refine V_iload_n C (dt_at dt_X8_addToTeam_1 10 rfl) 1 rfl rfl ?_
          refine V_aload_n C (dt_at dt_X8_addToTeam_1 11 rfl) 0 rfl rfl ?_
          refine g_X8_30_4 C (dt_at dt_X8_addToTeam_1 12 rfl) ?_
          refine V_iload C (dt_at dt_X8_addToTeam_1 13 rfl) 6 rfl ?_
          obtain ⟨h16, h⟩ := chk_s h
          refine al_37 C h16 (dt_at dt_X8_addToTeam_1 14 rfl) ?_
          refine V_aload C (dt_at dt_X8_addToTeam_1 15 rfl) 4 rfl ?_
          refine V_iload C (dt_at dt_X8_addToTeam_1 16 rfl) 9 rfl ?_
          refine V_iald C (K := c4) (isLeast_lt hf_c4) (lay_least G hf_c4 (_) _) h14 (dt_at dt_X8_addToTeam_1 17 rfl) ?_
          obtain ⟨r17, e18, h⟩ := bd_s h
          refine cv_X8_together C ww_157 x1 (rd σ 37 x6) (rd σ c4 x9) e18 (Nat.le_of_ble_eq_true rfl) (Nat.le_of_ble_eq_true rfl) z0 (dt_at dt_X8_addToTeam_1 18 rfl) ?_
          refine V_istore C [1, 2, 3, 4, 5, 6, 7, 8, 9, 10, 0] (lv' := [(0, .ref (ga G 4)), (1, .int x1), (2, .int x2), (3, .int x3), (4, .ref (ga G c4)), (5, .ref (ga G c5)), (6, .int x6), (7, .int x7), (8, .int x8), (9, .int x9), (10, .int r17)]) (dt_at dt_X8_addToTeam_1 19 rfl) (by decide) rfl ?_
          refine V_aload C (dt_at dt_X8_addToTeam_1 20 rfl) 5 rfl ?_
          refine V_iload C (dt_at dt_X8_addToTeam_1 21 rfl) 6 rfl ?_
          refine V_iload C (dt_at dt_X8_addToTeam_1 22 rfl) 9 rfl ?_
          refine V_ior C (dt_at dt_X8_addToTeam_1 23 rfl) ?_
          refine V_aload C (dt_at dt_X8_addToTeam_1 24 rfl) 5 rfl ?_
          refine V_iload C (dt_at dt_X8_addToTeam_1 25 rfl) 6 rfl ?_
          refine V_iload C (dt_at dt_X8_addToTeam_1 26 rfl) 9 rfl ?_
          refine V_ior C (dt_at dt_X8_addToTeam_1 27 rfl) ?_
          obtain ⟨h20, h⟩ := chk_s h
          refine V_iald C (K := c5) (isLeast_lt hf_c5) (lay_least G hf_c5 (_) _) h20 (dt_at dt_X8_addToTeam_1 28 rfl) ?_
          refine V_iload C (dt_at dt_X8_addToTeam_1 29 rfl) 10 rfl ?_
          refine V_min C ww_158 w_min (Nat.le_of_ble_eq_true rfl) (Nat.le_of_ble_eq_true rfl) z0 (dt_at dt_X8_addToTeam_1 30 rfl) ?_
          obtain ⟨σ21, eσ21, h⟩ := nm_s h
          refine V_st eσ21 ?_ (fun k => V_iast C (K := c5) (isLeast_lt hf_c5) (fun f => (lay_least G hf_c5 f _)) h20 (dt_at dt_X8_addToTeam_1 31 rfl) k)
          refine V_sub [0, 1, 2, 3, 4, 5, 6, 7, 8, 9] (lv' := [(0, .ref (ga G 4)), (1, .int x1), (2, .int x2), (3, .int x3), (4, .ref (ga G c4)), (5, .ref (ga G c5)), (6, .int x6), (7, .int x7), (8, .int x8), (9, .int x9)]) rfl ?_
          exact J_128 x9 σ21 h
    have J_66 : ∀ (x6 : Int32) (x7 : Int32) (s0 : Int32) (σ : St), f_X8_addToTeam_66 x1 x2 x3 c4 c5 x6 x7 s0 σ = some w_32 → V X G 11 0 0 σ 66 [(0, .ref (ga G 4)), (1, .int x1), (2, .int x2), (3, .int x3), (4, .ref (ga G c4)), (5, .ref (ga G c5)), (6, .int x6), (7, .int x7)] [.int s0] := by
      intro x6 x7 s0 σ h
      unfold f_X8_addToTeam_66 at h
      refine V_istore C [1, 2, 3, 4, 5, 6, 7, 8, 0] (lv' := [(0, .ref (ga G 4)), (1, .int x1), (2, .int x2), (3, .int x3), (4, .ref (ga G c4)), (5, .ref (ga G c5)), (6, .int x6), (7, .int x7), (8, .int s0)]) (dt_at dt_X8_addToTeam_0 39 rfl) (by decide) rfl ?_
      refine V_iload C (dt_at dt_X8_addToTeam_1 0 rfl) 7 rfl ?_
      refine V_istore C [1, 2, 3, 4, 5, 6, 7, 8, 9, 0] (lv' := [(0, .ref (ga G 4)), (1, .int x1), (2, .int x2), (3, .int x3), (4, .ref (ga G c4)), (5, .ref (ga G c5)), (6, .int x6), (7, .int x7), (8, .int s0), (9, .int x7)]) (dt_at dt_X8_addToTeam_1 1 rfl) (by decide) rfl ?_
      exact J_72 x6 x7 s0 x7 σ h
    refine V_iload C (dt_at dt_X8_addToTeam_0 21 rfl) 6 rfl ?_
    refine V_iload_n C (dt_at dt_X8_addToTeam_0 22 rfl) 3 rfl rfl ?_
    refine V_icmp_gt C 155 (dt_at dt_X8_addToTeam_0 23 rfl) (by decide) (fun q8 => ?_) (fun q8 => ?_)
    · have h := ite_t q8 h
      have e_32 := ex_32 _ (Option.some.inj h).symm
      subst e_32
      exact V_vret C hR (dt_at dt_X8_addToTeam_2 5 rfl)
    · have h := ite_f q8 h
      refine V_aload_n C (dt_at dt_X8_addToTeam_0 24 rfl) 0 rfl rfl ?_
      refine g_X8_30_4 C (dt_at dt_X8_addToTeam_0 25 rfl) ?_
      refine V_iload C (dt_at dt_X8_addToTeam_0 26 rfl) 6 rfl ?_
      obtain ⟨h9, h⟩ := chk_s h
      refine al_37 C h9 (dt_at dt_X8_addToTeam_0 27 rfl) ?_
      refine V_ldc C 100000000 (dt_at dt_X8_addToTeam_0 28 rfl) ww_135 ?_
      refine V_icmp_ge C 149 (dt_at dt_X8_addToTeam_0 29 rfl) (by decide) (fun q10 => ?_) (fun q10 => ?_)
      · have h := ite_f q10 h
        exact J_149 x6 σ h
      · have h := ite_t q10 h
        refine V_iload_n C (dt_at dt_X8_addToTeam_0 30 rfl) 3 rfl rfl ?_
        refine V_iload C (dt_at dt_X8_addToTeam_0 31 rfl) 6 rfl ?_
        refine V_ixor C (dt_at dt_X8_addToTeam_0 32 rfl) ?_
        refine V_istore C [1, 2, 3, 4, 5, 6, 7, 0] (lv' := [(0, .ref (ga G 4)), (1, .int x1), (2, .int x2), (3, .int x3), (4, .ref (ga G c4)), (5, .ref (ga G c5)), (6, .int x6), (7, .int (x3 ^^^ x6))]) (dt_at dt_X8_addToTeam_0 33 rfl) (by decide) rfl ?_
        refine V_iload_n C (dt_at dt_X8_addToTeam_0 34 rfl) 2 rfl rfl ?_
        refine V_if_ne C 65 (dt_at dt_X8_addToTeam_0 35 rfl) (by decide) (fun q11 => ?_) (fun q11 => ?_)
        · have h := ite_f q11 h
          refine V_iconst C 0 (dt_at dt_X8_addToTeam_0 38 rfl) (by decide) ?_
          exact J_66 x6 (x3 ^^^ x6) 0 σ h
        · have h := ite_t q11 h
          refine V_iload C (dt_at dt_X8_addToTeam_0 36 rfl) 7 rfl ?_
          refine V_goto C 66 (dt_at dt_X8_addToTeam_0 37 rfl) (by decide) ?_
          exact J_66 x6 (x3 ^^^ x6) (x3 ^^^ x6) σ h
  refine V_aload_n C (dt_at dt_X8_addToTeam_0 0 rfl) 0 rfl rfl ?_
  refine g_X8_33_4 C (dt_at dt_X8_addToTeam_0 1 rfl) ?_
  refine V_iload_n C (dt_at dt_X8_addToTeam_0 2 rfl) 2 rfl rfl ?_
  refine V_iconst C 1 (dt_at dt_X8_addToTeam_0 3 rfl) (by decide) ?_
  refine V_iadd C (dt_at dt_X8_addToTeam_0 4 rfl) ?_
  obtain ⟨h1, h⟩ := chk_s h
  refine V_aa38 C h1 (dt_at dt_X8_addToTeam_0 5 rfl) ?_
  have h2 : isLeast (46 + (x2 + 1).toNatClampNeg) = true := ok_38 h1
  refine V_astore C [1, 2, 3, 4, 0] (lv' := [(0, .ref (ga G 4)), (1, .int x1), (2, .int x2), (3, .int x3), (4, .ref (ga G (46 + (x2 + 1).toNatClampNeg)))]) (dt_at dt_X8_addToTeam_0 6 rfl) (by decide) rfl ?_
  refine V_aload_n C (dt_at dt_X8_addToTeam_0 7 rfl) 0 rfl rfl ?_
  refine g_X8_33_4 C (dt_at dt_X8_addToTeam_0 8 rfl) ?_
  refine V_iload_n C (dt_at dt_X8_addToTeam_0 9 rfl) 2 rfl rfl ?_
  obtain ⟨h3, h⟩ := chk_s h
  refine V_aa38 C h3 (dt_at dt_X8_addToTeam_0 10 rfl) ?_
  have h4 : isLeast (46 + x2.toNatClampNeg) = true := ok_38 h3
  refine V_astore C [1, 2, 3, 4, 5, 0] (lv' := [(0, .ref (ga G 4)), (1, .int x1), (2, .int x2), (3, .int x3), (4, .ref (ga G (46 + (x2 + 1).toNatClampNeg))), (5, .ref (ga G (46 + x2.toNatClampNeg)))]) (dt_at dt_X8_addToTeam_0 11 rfl) (by decide) rfl ?_
  refine V_aload C (dt_at dt_X8_addToTeam_0 12 rfl) 5 rfl ?_
  refine V_iconst C 0 (dt_at dt_X8_addToTeam_0 13 rfl) (by decide) ?_
  refine V_iload_n C (dt_at dt_X8_addToTeam_0 14 rfl) 3 rfl rfl ?_
  refine V_iconst C 1 (dt_at dt_X8_addToTeam_0 15 rfl) (by decide) ?_
  refine V_iadd C (dt_at dt_X8_addToTeam_0 16 rfl) ?_
  refine V_ldc C 100000000 (dt_at dt_X8_addToTeam_0 17 rfl) ww_135 ?_
  obtain ⟨σ7, e6, h⟩ := bd_s h
  refine cv_J7_fill_fda19 C ww_156 (46 + x2.toNatClampNeg) 0 (x3 + 1) 100000000 e6 (Nat.le_of_ble_eq_true rfl) (Nat.le_of_ble_eq_true rfl) z0 (dt_at dt_X8_addToTeam_0 18 rfl) ?_
  refine V_iconst C 0 (dt_at dt_X8_addToTeam_0 19 rfl) (by decide) ?_
  refine V_istore C [1, 2, 3, 4, 5, 6, 0] (lv' := [(0, .ref (ga G 4)), (1, .int x1), (2, .int x2), (3, .int x3), (4, .ref (ga G (46 + (x2 + 1).toNatClampNeg))), (5, .ref (ga G (46 + x2.toNatClampNeg))), (6, .int 0)]) (dt_at dt_X8_addToTeam_0 20 rfl) (by decide) rfl ?_
  exact J_32 (46 + (x2 + 1).toNatClampNeg) (46 + x2.toNatClampNeg) 0 σ7 h2 h4 h
theorem cv_X8_addToTeam (C : Ck X G cc own nL d) {idx : Nat} (hlk : Cond.methodLink own idx yX8_addToTeam ∈ gtb) (x1 : Int32) (x2 : Int32) (x3 : Int32) {σ0 : St} (e : f_X8_addToTeam x1 x2 x3 σ = some σ0) (hdd : 4 ≤ d) (hroom : (rest.map fun v => v.category).sum ≤ 8) (hcs : cells ≤ (xR X).cells ∧ slots ≤ (xR X).slots) (hd : decode cc pc = .ok (.invokevirtual idx, 3)) (k : V X G nL cells slots σ0 (pc + 3) lv (rest)) : V X G nL cells slots σ pc lv (.int x3 :: .int x2 :: .int x1 :: .ref (ga G 4) :: rest) := V_callV C (As := [.int x1, .int x2, .int x3]) (c_X8_addToTeam X.2.1 G x1 x2 x3 σ σ0 e) cal_X8_addToTeam ww_160 ww_161 hlk rfl hdd (lt110 rfl) rfl rfl rfl hroom hcs hd k
theorem dt_X8_leastShare_0 : dtab cX8_leastShare [(0, .aload_n 0, 1), (1, .getfield 33, 3), (4, .iload_n 2, 1), (5, .iconst 1, 1), (6, .iadd, 1), (7, .aaload, 1), (8, .astore 5, 2), (10, .iconst 0, 1), (11, .istore 6, 2), (13, .iload 6, 2), (15, .iload_n 3, 1), (16, .if_icmp .ge 44, 3), (19, .iload 6, 2), (21, .iload_n 3, 1), (22, .iconst (-1), 1), (23, .ixor, 1), (24, .iand, 1), (25, .ifCond .ne 29, 3), (28, .iload_n 1, 1), (29, .aload_n 0, 1), (30, .getfield 30, 3), (33, .iload 6, 2), (35, .iaload, 1), (36, .aload 5, 2), (38, .iload_n 3, 1), (39, .iload 6, 2), (41, .ixor, 1), (42, .iaload, 1), (43, .invokestatic 139, 3), (46, .iload 4, 2), (48, .if_icmp .gt 6, 3), (51, .iload 6, 2), (53, .ireturn, 1), (54, .iinc 6 1, 3), (57, .goto (-44), 3), (60, .iload_n 3, 1), (61, .ireturn, 1)] = true := by decide +kernel
theorem cal_X8_leastShare : Cal yX8_leastShare cX8_leastShare 7 (some .int) 4 := ⟨ww_162, ww_129, ⟨by decide, by decide, by decide⟩, by decide⟩
set_option maxHeartbeats 4000000 in
set_option maxRecDepth 100000 in
theorem c_X8_leastShare (l : Launch) (G : Gx) (x1 : Int32) (x2 : Int32) (x3 : Int32) (x4 : Int32) (σ : St) (r0 : Int32) (h : f_X8_leastShare x1 x2 x3 x4 σ = some r0) : MI l G yX8_leastShare cX8_leastShare 7 (some .int) 2 [.ref (ga G 4), .int x1, .int x2, .int x3, .int x4] σ (some (.int r0)) σ := by
  refine MI_of RX8 rfl (by decide) [(0, .ref (ga G 4)), (1, .int x1), (2, .int x2), (3, .int x3), (4, .int x4)] rfl (Nat.le_of_ble_eq_true rfl) ?_
  intro X hXl C hR
  unfold f_X8_leastShare at h
  have J_13 : ∀ (c5 : Nat) (x6 : Int32) (hf_c5 : isLeast c5 = true), f_X8_leastShare_13 x1 x3 x4 c5 x6 σ = some r0 → V X G 7 0 0 σ 13 [(0, .ref (ga G 4)), (1, .int x1), (3, .int x3), (4, .int x4), (5, .ref (ga G c5)), (6, .int x6)] [] := by
    intro c5 x6 hf_c5 h
    refine it_v (P := fun z : Int32 => V X G 7 0 0 σ 13 [(0, .ref (ga G 4)), (1, .int x1), (3, .int x3), (4, .int x4), (5, .ref (ga G c5)), (6, .int z)] []) ?_ x6 h
    clear h
    intro z w_13 h ih_13 ex_13
    revert h; revert z; intro x6 h
    have h : b_X8_leastShare_13 x1 x3 x4 c5 x6 σ = some w_13 := h
    show V X G 7 0 0 σ 13 [(0, .ref (ga G 4)), (1, .int x1), (3, .int x3), (4, .int x4), (5, .ref (ga G c5)), (6, .int x6)] []
    unfold b_X8_leastShare_13 at h
    have J_54 : ∀ (x6 : Int32), f_X8_leastShare_54 x1 x3 x4 c5 x6 σ = some w_13 → V X G 7 0 0 σ 54 [(0, .ref (ga G 4)), (1, .int x1), (3, .int x3), (4, .int x4), (5, .ref (ga G c5)), (6, .int x6)] [] := by
      intro x6 h
      unfold f_X8_leastShare_54 at h
      refine V_iinc C (x6 + 1) 5 [1, 2, 3, 4, 5, 0] (lv' := [(0, .ref (ga G 4)), (1, .int x1), (3, .int x3), (4, .int x4), (5, .ref (ga G c5)), (6, .int (x6 + 1))]) (dt_at dt_X8_leastShare_0 33 rfl) rfl (by rfl) (by decide) rfl ?_
      refine V_goto C 13 (dt_at dt_X8_leastShare_0 34 rfl) (by decide) ?_
      exact ih_13 (x6 + 1) (Option.some.inj h).symm
    refine V_iload C (dt_at dt_X8_leastShare_0 9 rfl) 5 rfl ?_
    refine V_iload_n C (dt_at dt_X8_leastShare_0 10 rfl) 2 rfl rfl ?_
    refine V_icmp_ge C 60 (dt_at dt_X8_leastShare_0 11 rfl) (by decide) (fun q3 => ?_) (fun q3 => ?_)
    · have h := ite_f q3 h
      refine V_iload_n C (dt_at dt_X8_leastShare_0 35 rfl) 2 rfl rfl ?_
      have e_13 := ex_13 _ (Option.some.inj h).symm
      subst e_13
      exact V_iret C hR (dt_at dt_X8_leastShare_0 36 rfl)
    · have h := ite_t q3 h
      refine V_iload C (dt_at dt_X8_leastShare_0 12 rfl) 5 rfl ?_
      refine V_iload_n C (dt_at dt_X8_leastShare_0 13 rfl) 2 rfl rfl ?_
      refine V_iconst C (-1) (dt_at dt_X8_leastShare_0 14 rfl) (by decide) ?_
      refine V_ixor C (dt_at dt_X8_leastShare_0 15 rfl) ?_
      refine V_iand C (dt_at dt_X8_leastShare_0 16 rfl) ?_
      refine V_if_ne C 54 (dt_at dt_X8_leastShare_0 17 rfl) (by decide) (fun q4 => ?_) (fun q4 => ?_)
      · have h := ite_f q4 h
        exact J_54 x6 h
      · have h := ite_t q4 h
        refine V_iload_n C (dt_at dt_X8_leastShare_0 18 rfl) 1 rfl rfl ?_
        refine V_aload_n C (dt_at dt_X8_leastShare_0 19 rfl) 0 rfl rfl ?_
        refine g_X8_30_4 C (dt_at dt_X8_leastShare_0 20 rfl) ?_
        refine V_iload C (dt_at dt_X8_leastShare_0 21 rfl) 5 rfl ?_
        obtain ⟨h5, h⟩ := chk_s h
        refine al_37 C h5 (dt_at dt_X8_leastShare_0 22 rfl) ?_
        refine V_aload C (dt_at dt_X8_leastShare_0 23 rfl) 4 rfl ?_
        refine V_iload_n C (dt_at dt_X8_leastShare_0 24 rfl) 2 rfl rfl ?_
        refine V_iload C (dt_at dt_X8_leastShare_0 25 rfl) 5 rfl ?_
        refine V_ixor C (dt_at dt_X8_leastShare_0 26 rfl) ?_
        obtain ⟨h6, h⟩ := chk_s h
        refine V_iald C (K := c5) (isLeast_lt hf_c5) (lay_least G hf_c5 (_) _) h6 (dt_at dt_X8_leastShare_0 27 rfl) ?_
        obtain ⟨r7, e8, h⟩ := bd_s h
        refine cv_X8_together C ww_157 x1 (rd σ 37 x6) (rd σ c5 (x3 ^^^ x6)) e8 (Nat.le_of_ble_eq_true rfl) (Nat.le_of_ble_eq_true rfl) z0 (dt_at dt_X8_leastShare_0 28 rfl) ?_
        refine V_iload C (dt_at dt_X8_leastShare_0 29 rfl) 3 rfl ?_
        refine V_icmp_gt C 54 (dt_at dt_X8_leastShare_0 30 rfl) (by decide) (fun q10 => ?_) (fun q10 => ?_)
        · have h := ite_t q10 h
          exact J_54 x6 h
        · have h := ite_f q10 h
          refine V_iload C (dt_at dt_X8_leastShare_0 31 rfl) 5 rfl ?_
          have e_13 := ex_13 _ (Option.some.inj h).symm
          subst e_13
          exact V_iret C hR (dt_at dt_X8_leastShare_0 32 rfl)
  refine V_aload_n C (dt_at dt_X8_leastShare_0 0 rfl) 0 rfl rfl ?_
  refine g_X8_33_4 C (dt_at dt_X8_leastShare_0 1 rfl) ?_
  refine V_iload_n C (dt_at dt_X8_leastShare_0 2 rfl) 2 rfl rfl ?_
  refine V_iconst C 1 (dt_at dt_X8_leastShare_0 3 rfl) (by decide) ?_
  refine V_iadd C (dt_at dt_X8_leastShare_0 4 rfl) ?_
  obtain ⟨h1, h⟩ := chk_s h
  refine V_aa38 C h1 (dt_at dt_X8_leastShare_0 5 rfl) ?_
  have h2 : isLeast (46 + (x2 + 1).toNatClampNeg) = true := ok_38 h1
  refine V_astore C [1, 2, 3, 4, 5, 0] (lv' := [(0, .ref (ga G 4)), (1, .int x1), (2, .int x2), (3, .int x3), (4, .int x4), (5, .ref (ga G (46 + (x2 + 1).toNatClampNeg)))]) (dt_at dt_X8_leastShare_0 6 rfl) (by decide) rfl ?_
  refine V_iconst C 0 (dt_at dt_X8_leastShare_0 7 rfl) (by decide) ?_
  refine V_istore C [1, 2, 3, 4, 5, 6, 0] (lv' := [(0, .ref (ga G 4)), (1, .int x1), (2, .int x2), (3, .int x3), (4, .int x4), (5, .ref (ga G (46 + (x2 + 1).toNatClampNeg))), (6, .int 0)]) (dt_at dt_X8_leastShare_0 8 rfl) (by decide) rfl ?_
  refine V_sub [0, 1, 3, 4, 5, 6] (lv' := [(0, .ref (ga G 4)), (1, .int x1), (3, .int x3), (4, .int x4), (5, .ref (ga G (46 + (x2 + 1).toNatClampNeg))), (6, .int 0)]) rfl ?_
  exact J_13 (46 + (x2 + 1).toNatClampNeg) 0 h2 h
theorem cv_X8_leastShare (C : Ck X G cc own nL d) {idx : Nat} (hlk : Cond.methodLink own idx yX8_leastShare ∈ gtb) (x1 : Int32) (x2 : Int32) (x3 : Int32) (x4 : Int32) {r0 : Int32} (e : f_X8_leastShare x1 x2 x3 x4 σ = some r0) (hdd : 3 ≤ d) (hroom : (rest.map fun v => v.category).sum ≤ 8) (hcs : cells ≤ (xR X).cells ∧ slots ≤ (xR X).slots) (hd : decode cc pc = .ok (.invokevirtual idx, 3)) (k : V X G nL cells slots σ (pc + 3) lv (.int r0 :: rest)) : V X G nL cells slots σ pc lv (.int x4 :: .int x3 :: .int x2 :: .int x1 :: .ref (ga G 4) :: rest) := V_callV C (As := [.int x1, .int x2, .int x3, .int x4]) (c_X8_leastShare X.2.1 G x1 x2 x3 x4 σ r0 e) cal_X8_leastShare ww_163 ww_164 hlk rfl hdd (lt110 rfl) rfl rfl rfl hroom hcs hd k
theorem dt_X8_give_0 : dtab cX8_give [(0, .iconst 0, 1), (1, .istore_n 3, 1), (2, .iload_n 3, 1), (3, .aload_n 0, 1), (4, .getfield 51, 3), (7, .getfield 64, 3), (10, .if_icmp .ge 24, 3), (13, .iload_n 1, 1), (14, .iload_n 3, 1), (15, .ishr, 1), (16, .iconst 1, 1), (17, .iand, 1), (18, .ifCond .eq 10, 3), (21, .aload_n 0, 1), (22, .getfield 39, 3), (25, .iload_n 3, 1), (26, .iload_n 2, 1), (27, .iastore, 1), (28, .iinc 3 1, 3), (31, .goto (-29), 3), (34, .return_, 1)] = true := by decide +kernel
theorem cal_X8_give : Cal yX8_give cX8_give 4 none 2 := ⟨ww_166, ww_129, ⟨by decide, by decide, by decide⟩, by decide⟩
set_option maxHeartbeats 4000000 in
set_option maxRecDepth 100000 in
theorem c_X8_give (l : Launch) (G : Gx) (x1 : Int32) (x2 : Int32) (σ : St) (σ0 : St) (h : f_X8_give x1 x2 σ = some σ0) : MI l G yX8_give cX8_give 4 none 1 [.ref (ga G 4), .int x1, .int x2] σ none σ0 := by
  refine MI_of RX8 rfl (by decide) [(0, .ref (ga G 4)), (1, .int x1), (2, .int x2)] rfl (Nat.le_of_ble_eq_true rfl) ?_
  intro X hXl C hR
  unfold f_X8_give at h
  have J_2 : ∀ (x3 : Int32) (σ : St), f_X8_give_2 x1 x2 x3 σ = some σ0 → V X G 4 0 0 σ 2 [(0, .ref (ga G 4)), (1, .int x1), (2, .int x2), (3, .int x3)] [] := by
    intro x3 σ h
    refine it_v (P := fun z : Int32 × St => V X G 4 0 0 z.2 2 [(0, .ref (ga G 4)), (1, .int x1), (2, .int x2), (3, .int z.1)] []) ?_ (x3, σ) h
    clear h
    intro z w_2 h ih_2 ex_2
    obtain ⟨x3, σ⟩ := z
    have h : b_X8_give_2 x1 x2 x3 σ = some w_2 := h
    show V X G 4 0 0 σ 2 [(0, .ref (ga G 4)), (1, .int x1), (2, .int x2), (3, .int x3)] []
    unfold b_X8_give_2 at h
    have J_28 : ∀ (x3 : Int32) (σ : St), f_X8_give_28 x1 x2 x3 σ = some w_2 → V X G 4 0 0 σ 28 [(0, .ref (ga G 4)), (1, .int x1), (2, .int x2), (3, .int x3)] [] := by
      intro x3 σ h
      unfold f_X8_give_28 at h
      refine V_iinc C (x3 + 1) 3 [1, 2, 3, 0] (lv' := [(0, .ref (ga G 4)), (1, .int x1), (2, .int x2), (3, .int (x3 + 1))]) (dt_at dt_X8_give_0 18 rfl) rfl (by rfl) (by decide) rfl ?_
      refine V_goto C 2 (dt_at dt_X8_give_0 19 rfl) (by decide) ?_
      exact ih_2 ((x3 + 1), σ) (Option.some.inj h).symm
    refine V_iload_n C (dt_at dt_X8_give_0 2 rfl) 3 rfl rfl ?_
    refine V_aload_n C (dt_at dt_X8_give_0 3 rfl) 0 rfl rfl ?_
    refine g_X8_51_4 C (dt_at dt_X8_give_0 4 rfl) ?_
    refine g_X8_64_1 C (dt_at dt_X8_give_0 5 rfl) ?_
    refine V_icmp_ge C 34 (dt_at dt_X8_give_0 6 rfl) (by decide) (fun q1 => ?_) (fun q1 => ?_)
    · have h := ite_f q1 h
      have e_2 := ex_2 _ (Option.some.inj h).symm
      subst e_2
      exact V_vret C hR (dt_at dt_X8_give_0 20 rfl)
    · have h := ite_t q1 h
      refine V_iload_n C (dt_at dt_X8_give_0 7 rfl) 1 rfl rfl ?_
      refine V_iload_n C (dt_at dt_X8_give_0 8 rfl) 3 rfl rfl ?_
      refine V_ishr C (dt_at dt_X8_give_0 9 rfl) ?_
      refine V_iconst C 1 (dt_at dt_X8_give_0 10 rfl) (by decide) ?_
      refine V_iand C (dt_at dt_X8_give_0 11 rfl) ?_
      refine V_if_eq C 28 (dt_at dt_X8_give_0 12 rfl) (by decide) (fun q2 => ?_) (fun q2 => ?_)
      · have h := ite_t q2 h
        exact J_28 x3 σ h
      · have h := ite_f q2 h
        refine V_aload_n C (dt_at dt_X8_give_0 13 rfl) 0 rfl rfl ?_
        refine g_X8_39_4 C (dt_at dt_X8_give_0 14 rfl) ?_
        refine V_iload_n C (dt_at dt_X8_give_0 15 rfl) 3 rfl rfl ?_
        refine V_iload_n C (dt_at dt_X8_give_0 16 rfl) 2 rfl rfl ?_
        obtain ⟨h4, h⟩ := chk_s h
        obtain ⟨σ3, eσ3, h⟩ := nm_s h
        refine V_st eσ3 ?_ (fun k => as_39 C h4 (dt_at dt_X8_give_0 17 rfl) k)
        exact J_28 x3 σ3 h
  refine V_iconst C 0 (dt_at dt_X8_give_0 0 rfl) (by decide) ?_
  refine V_istore_n C [1, 2, 3, 0] (lv' := [(0, .ref (ga G 4)), (1, .int x1), (2, .int x2), (3, .int 0)]) (dt_at dt_X8_give_0 1 rfl) rfl (by decide) rfl ?_
  exact J_2 0 σ h
theorem cv_X8_give (C : Ck X G cc own nL d) {idx : Nat} (hlk : Cond.methodLink own idx yX8_give ∈ gtb) (x1 : Int32) (x2 : Int32) {σ0 : St} (e : f_X8_give x1 x2 σ = some σ0) (hdd : 2 ≤ d) (hroom : (rest.map fun v => v.category).sum ≤ 8) (hcs : cells ≤ (xR X).cells ∧ slots ≤ (xR X).slots) (hd : decode cc pc = .ok (.invokevirtual idx, 3)) (k : V X G nL cells slots σ0 (pc + 3) lv (rest)) : V X G nL cells slots σ pc lv (.int x2 :: .int x1 :: .ref (ga G 4) :: rest) := V_callV C (As := [.int x1, .int x2]) (c_X8_give X.2.1 G x1 x2 σ σ0 e) cal_X8_give ww_167 ww_168 hlk rfl hdd (lt110 rfl) rfl rfl rfl hroom hcs hd k
theorem dt_X8_dealOut_0 : dtab cX8_dealOut [(0, .iload_n 2, 1), (1, .istore_n 3, 1), (2, .aload_n 0, 1), (3, .getfield 33, 3), (6, .iconst 0, 1), (7, .aaload, 1), (8, .iload_n 2, 1), (9, .iaload, 1), (10, .istore 4, 2), (12, .iconst 0, 1), (13, .istore 5, 2), (15, .iload 5, 2), (17, .aload_n 0, 1), (18, .getfield 21, 3), (21, .iconst 1, 1), (22, .isub, 1), (23, .if_icmp .ge 71, 3), (26, .aload_n 0, 1), (27, .aload_n 0, 1), (28, .getfield 18, 3), (31, .iload 5, 2), (33, .iaload, 1), (34, .invokevirtual 119, 3), (37, .aload_n 0, 1), (38, .iload_n 1, 1), (39, .iload 5, 2), (41, .iload_n 3, 1), (42, .iload 4, 2), (44, .invokevirtual 150, 3), (47, .istore 6, 2), (49, .aload_n 0, 1), (50, .iload 6, 2), (52, .aload_n 0, 1), (53, .getfield 18, 3), (56, .iload 5, 2), (58, .iaload, 1), (59, .invokevirtual 154, 3), (62, .iload_n 3, 1), (63, .iload 6, 2), (65, .ixor, 1)] = true := by decide +kernel
theorem dt_X8_dealOut_1 : dtab cX8_dealOut [(66, .istore_n 3, 1), (67, .iload 4, 2), (69, .iload_n 1, 1), (70, .iconst 2, 1), (71, .if_icmp .ne 7, 3), (74, .iconst 0, 1), (75, .goto 10, 3), (78, .aload_n 0, 1), (79, .getfield 30, 3), (82, .iload 6, 2), (84, .iaload, 1), (85, .isub, 1), (86, .istore 4, 2), (88, .iinc 5 1, 3), (91, .goto (-76), 3), (94, .aload_n 0, 1), (95, .iload_n 3, 1), (96, .aload_n 0, 1), (97, .getfield 18, 3), (100, .aload_n 0, 1), (101, .getfield 21, 3), (104, .iconst 1, 1), (105, .isub, 1), (106, .iaload, 1), (107, .invokevirtual 154, 3), (110, .return_, 1)] = true := by decide +kernel
theorem cal_X8_dealOut : Cal yX8_dealOut cX8_dealOut 7 none 2 := ⟨ww_172, ww_129, ⟨by decide, by decide, by decide⟩, by decide⟩
set_option maxHeartbeats 4000000 in
set_option maxRecDepth 100000 in
theorem c_X8_dealOut (l : Launch) (G : Gx) (x1 : Int32) (x2 : Int32) (σ : St) (σ0 : St) (h : f_X8_dealOut x1 x2 σ = some σ0) : MI l G yX8_dealOut cX8_dealOut 7 none 3 [.ref (ga G 4), .int x1, .int x2] σ none σ0 := by
  refine MI_of RX8 rfl (by decide) [(0, .ref (ga G 4)), (1, .int x1), (2, .int x2)] rfl (Nat.le_of_ble_eq_true rfl) ?_
  intro X hXl C hR
  unfold f_X8_dealOut at h
  have J_94 : ∀ (x3 : Int32) (σ : St), f_X8_dealOut_94 x3 σ = some σ0 → V X G 7 0 0 σ 94 [(0, .ref (ga G 4)), (3, .int x3)] [] := by
    intro x3 σ h
    unfold f_X8_dealOut_94 at h
    refine V_aload_n C (dt_at dt_X8_dealOut_1 15 rfl) 0 rfl rfl ?_
    refine V_iload_n C (dt_at dt_X8_dealOut_1 16 rfl) 1 rfl rfl ?_
    refine V_aload_n C (dt_at dt_X8_dealOut_1 17 rfl) 0 rfl rfl ?_
    refine g_X8_18_4 C (dt_at dt_X8_dealOut_1 18 rfl) ?_
    refine V_aload_n C (dt_at dt_X8_dealOut_1 19 rfl) 0 rfl rfl ?_
    refine g_X8_21_4 C (dt_at dt_X8_dealOut_1 20 rfl) ?_
    refine V_iconst C 1 (dt_at dt_X8_dealOut_1 21 rfl) (by decide) ?_
    refine V_isub C (dt_at dt_X8_dealOut_1 22 rfl) ?_
    obtain ⟨h16, h⟩ := chk_s h
    refine al_35 C h16 (dt_at dt_X8_dealOut_1 23 rfl) ?_
    obtain ⟨σ19, e18, h⟩ := bd_s h
    refine cv_X8_give C ww_171 x3 (rd σ 35 ((fd σ 4 5) - 1)) e18 (Nat.le_of_ble_eq_true rfl) (Nat.le_of_ble_eq_true rfl) z0 (dt_at dt_X8_dealOut_1 24 rfl) ?_
    have e1_ := Option.some.inj h
    subst e1_
    exact V_vret C hR (dt_at dt_X8_dealOut_1 25 rfl)
  have J_15 : ∀ (x3 : Int32) (x4 : Int32) (x5 : Int32) (σ : St), f_X8_dealOut_15 x1 x3 x4 x5 σ = some σ0 → V X G 7 0 0 σ 15 [(0, .ref (ga G 4)), (1, .int x1), (3, .int x3), (4, .int x4), (5, .int x5)] [] := by
    intro x3 x4 x5 σ h
    refine it_v (P := fun z : Int32 × Int32 × Int32 × St => V X G 7 0 0 z.2.2.2 15 [(0, .ref (ga G 4)), (1, .int x1), (3, .int z.1), (4, .int z.2.1), (5, .int z.2.2.1)] []) ?_ (x3, x4, x5, σ) h
    clear h
    intro z w_15 h ih_15 ex_15
    obtain ⟨x3, x4, x5, σ⟩ := z
    have h : b_X8_dealOut_15 x1 x3 x4 x5 σ = some w_15 := h
    show V X G 7 0 0 σ 15 [(0, .ref (ga G 4)), (1, .int x1), (3, .int x3), (4, .int x4), (5, .int x5)] []
    unfold b_X8_dealOut_15 at h
    have J_85 : ∀ (x3 : Int32) (x5 : Int32) (s0 : Int32) (s1 : Int32) (σ : St), f_X8_dealOut_85 x1 x3 x5 s0 s1 σ = some w_15 → V X G 7 0 0 σ 85 [(0, .ref (ga G 4)), (1, .int x1), (3, .int x3), (5, .int x5)] [.int s0, .int s1] := by
      intro x3 x5 s0 s1 σ h
      unfold f_X8_dealOut_85 at h
      refine V_isub C (dt_at dt_X8_dealOut_1 11 rfl) ?_
      refine V_istore C [1, 2, 3, 0, 4] (lv' := [(0, .ref (ga G 4)), (1, .int x1), (3, .int x3), (4, .int (s1 - s0)), (5, .int x5)]) (dt_at dt_X8_dealOut_1 12 rfl) (by decide) rfl ?_
      refine V_iinc C (x5 + 1) 4 [1, 2, 3, 4, 0] (lv' := [(0, .ref (ga G 4)), (1, .int x1), (3, .int x3), (4, .int (s1 - s0)), (5, .int (x5 + 1))]) (dt_at dt_X8_dealOut_1 13 rfl) rfl (by rfl) (by decide) rfl ?_
      refine V_goto C 15 (dt_at dt_X8_dealOut_1 14 rfl) (by decide) ?_
      exact ih_15 (x3, (s1 - s0), (x5 + 1), σ) (Option.some.inj h).symm
    refine V_iload C (dt_at dt_X8_dealOut_0 11 rfl) 4 rfl ?_
    refine V_aload_n C (dt_at dt_X8_dealOut_0 12 rfl) 0 rfl rfl ?_
    refine g_X8_21_4 C (dt_at dt_X8_dealOut_0 13 rfl) ?_
    refine V_iconst C 1 (dt_at dt_X8_dealOut_0 14 rfl) (by decide) ?_
    refine V_isub C (dt_at dt_X8_dealOut_0 15 rfl) ?_
    refine V_icmp_ge C 94 (dt_at dt_X8_dealOut_0 16 rfl) (by decide) (fun q2 => ?_) (fun q2 => ?_)
    · have h := ite_f q2 h
      refine V_sub [0, 2] (lv' := [(0, .ref (ga G 4)), (3, .int x3)]) rfl ?_
      obtain ⟨t3, h, e_15⟩ := map_s h
      have e_15 := ex_15 _ e_15
      rw [e_15] at h
      exact J_94 x3 σ h
    · have h := ite_t q2 h
      refine V_aload_n C (dt_at dt_X8_dealOut_0 17 rfl) 0 rfl rfl ?_
      refine V_aload_n C (dt_at dt_X8_dealOut_0 18 rfl) 0 rfl rfl ?_
      refine g_X8_18_4 C (dt_at dt_X8_dealOut_0 19 rfl) ?_
      refine V_iload C (dt_at dt_X8_dealOut_0 20 rfl) 4 rfl ?_
      obtain ⟨h4, h⟩ := chk_s h
      refine al_35 C h4 (dt_at dt_X8_dealOut_0 21 rfl) ?_
      obtain ⟨σ7, e6, h⟩ := bd_s h
      refine cv_X8_price C ww_169 (rd σ 35 x5) e6 (Nat.le_of_ble_eq_true rfl) (Nat.le_of_ble_eq_true rfl) z0 (dt_at dt_X8_dealOut_0 22 rfl) ?_
      refine V_aload_n C (dt_at dt_X8_dealOut_0 23 rfl) 0 rfl rfl ?_
      refine V_iload_n C (dt_at dt_X8_dealOut_0 24 rfl) 1 rfl rfl ?_
      refine V_iload C (dt_at dt_X8_dealOut_0 25 rfl) 4 rfl ?_
      refine V_iload_n C (dt_at dt_X8_dealOut_0 26 rfl) 2 rfl rfl ?_
      refine V_iload C (dt_at dt_X8_dealOut_0 27 rfl) 3 rfl ?_
      obtain ⟨r8, e9, h⟩ := bd_s h
      refine cv_X8_leastShare C ww_170 x1 x5 x3 x4 e9 (Nat.le_of_ble_eq_true rfl) (Nat.le_of_ble_eq_true rfl) z0 (dt_at dt_X8_dealOut_0 28 rfl) ?_
      refine V_istore C [1, 2, 3, 4, 5, 0] (lv' := [(0, .ref (ga G 4)), (1, .int x1), (3, .int x3), (4, .int x4), (5, .int x5), (6, .int r8)]) (dt_at dt_X8_dealOut_0 29 rfl) (by decide) rfl ?_
      refine V_aload_n C (dt_at dt_X8_dealOut_0 30 rfl) 0 rfl rfl ?_
      refine V_iload C (dt_at dt_X8_dealOut_0 31 rfl) 5 rfl ?_
      refine V_aload_n C (dt_at dt_X8_dealOut_0 32 rfl) 0 rfl rfl ?_
      refine g_X8_18_4 C (dt_at dt_X8_dealOut_0 33 rfl) ?_
      refine V_iload C (dt_at dt_X8_dealOut_0 34 rfl) 4 rfl ?_
      refine al_35 C h4 (dt_at dt_X8_dealOut_0 35 rfl) ?_
      obtain ⟨σ13, e12, h⟩ := bd_s h
      refine cv_X8_give C ww_171 r8 (rd σ7 35 x5) e12 (Nat.le_of_ble_eq_true rfl) (Nat.le_of_ble_eq_true rfl) z0 (dt_at dt_X8_dealOut_0 36 rfl) ?_
      refine V_iload_n C (dt_at dt_X8_dealOut_0 37 rfl) 2 rfl rfl ?_
      refine V_iload C (dt_at dt_X8_dealOut_0 38 rfl) 5 rfl ?_
      refine V_ixor C (dt_at dt_X8_dealOut_0 39 rfl) ?_
      refine V_istore_n C [1, 2, 0, 3, 4, 5] (lv' := [(0, .ref (ga G 4)), (1, .int x1), (3, .int (x3 ^^^ r8)), (4, .int x4), (5, .int x5), (6, .int r8)]) (dt_at dt_X8_dealOut_1 0 rfl) rfl (by decide) rfl ?_
      refine V_iload C (dt_at dt_X8_dealOut_1 1 rfl) 3 rfl ?_
      refine V_iload_n C (dt_at dt_X8_dealOut_1 2 rfl) 1 rfl rfl ?_
      refine V_iconst C 2 (dt_at dt_X8_dealOut_1 3 rfl) (by decide) ?_
      refine V_icmp_ne C 78 (dt_at dt_X8_dealOut_1 4 rfl) (by decide) (fun q14 => ?_) (fun q14 => ?_)
      · have h := ite_f q14 h
        refine V_aload_n C (dt_at dt_X8_dealOut_1 7 rfl) 0 rfl rfl ?_
        refine g_X8_30_4 C (dt_at dt_X8_dealOut_1 8 rfl) ?_
        refine V_iload C (dt_at dt_X8_dealOut_1 9 rfl) 5 rfl ?_
        obtain ⟨h15, h⟩ := chk_s h
        refine al_37 C h15 (dt_at dt_X8_dealOut_1 10 rfl) ?_
        refine V_sub [0, 1, 2, 4] (lv' := [(0, .ref (ga G 4)), (1, .int x1), (3, .int (x3 ^^^ r8)), (5, .int x5)]) rfl ?_
        exact J_85 (x3 ^^^ r8) x5 (rd σ13 37 r8) x4 σ13 h
      · have h := ite_t q14 h
        refine V_iconst C 0 (dt_at dt_X8_dealOut_1 5 rfl) (by decide) ?_
        refine V_goto C 85 (dt_at dt_X8_dealOut_1 6 rfl) (by decide) ?_
        refine V_sub [0, 1, 2, 4] (lv' := [(0, .ref (ga G 4)), (1, .int x1), (3, .int (x3 ^^^ r8)), (5, .int x5)]) rfl ?_
        exact J_85 (x3 ^^^ r8) x5 0 x4 σ13 h
  refine V_iload_n C (dt_at dt_X8_dealOut_0 0 rfl) 2 rfl rfl ?_
  refine V_istore_n C [1, 2, 3, 0] (lv' := [(0, .ref (ga G 4)), (1, .int x1), (2, .int x2), (3, .int x2)]) (dt_at dt_X8_dealOut_0 1 rfl) rfl (by decide) rfl ?_
  refine V_aload_n C (dt_at dt_X8_dealOut_0 2 rfl) 0 rfl rfl ?_
  refine g_X8_33_4 C (dt_at dt_X8_dealOut_0 3 rfl) ?_
  refine V_iconst C 0 (dt_at dt_X8_dealOut_0 4 rfl) (by decide) ?_
  refine V_aa38_0 C (dt_at dt_X8_dealOut_0 5 rfl) ?_
  refine V_iload_n C (dt_at dt_X8_dealOut_0 6 rfl) 2 rfl rfl ?_
  obtain ⟨h1, h⟩ := chk_s h
  refine al_46 C h1 (dt_at dt_X8_dealOut_0 7 rfl) ?_
  refine V_istore C [1, 2, 3, 4, 0] (lv' := [(0, .ref (ga G 4)), (1, .int x1), (2, .int x2), (3, .int x2), (4, .int (rd σ 46 x2))]) (dt_at dt_X8_dealOut_0 8 rfl) (by decide) rfl ?_
  refine V_iconst C 0 (dt_at dt_X8_dealOut_0 9 rfl) (by decide) ?_
  refine V_istore C [1, 2, 3, 4, 5, 0] (lv' := [(0, .ref (ga G 4)), (1, .int x1), (2, .int x2), (3, .int x2), (4, .int (rd σ 46 x2)), (5, .int 0)]) (dt_at dt_X8_dealOut_0 10 rfl) (by decide) rfl ?_
  refine V_sub [0, 1, 3, 4, 5] (lv' := [(0, .ref (ga G 4)), (1, .int x1), (3, .int x2), (4, .int (rd σ 46 x2)), (5, .int 0)]) rfl ?_
  exact J_15 x2 (rd σ 46 x2) 0 σ h
theorem cv_X8_dealOut (C : Ck X G cc own nL d) {idx : Nat} (hlk : Cond.methodLink own idx yX8_dealOut ∈ gtb) (x1 : Int32) (x2 : Int32) {σ0 : St} (e : f_X8_dealOut x1 x2 σ = some σ0) (hdd : 4 ≤ d) (hroom : (rest.map fun v => v.category).sum ≤ 8) (hcs : cells ≤ (xR X).cells ∧ slots ≤ (xR X).slots) (hd : decode cc pc = .ok (.invokevirtual idx, 3)) (k : V X G nL cells slots σ0 (pc + 3) lv (rest)) : V X G nL cells slots σ pc lv (.int x2 :: .int x1 :: .ref (ga G 4) :: rest) := V_callV C (As := [.int x1, .int x2]) (c_X8_dealOut X.2.1 G x1 x2 σ σ0 e) cal_X8_dealOut ww_173 ww_174 hlk rfl hdd (lt110 rfl) rfl rfl rfl hroom hcs hd k
theorem dt_X11_isMissing_0 : dtab cX11_isMissing [(0, .aload_n 0, 1), (1, .getfield 57, 3), (4, .iload_n 1, 1), (5, .iaload, 1), (6, .ifCond .ne 7, 3), (9, .iconst 1, 1), (10, .goto 4, 3), (13, .iconst 0, 1), (14, .ireturn, 1)] = true := by decide +kernel
theorem cal_X11_isMissing : Cal yX11_isMissing cX11_isMissing 2 (some .boolean) 1 := ⟨ww_176, ww_100, ⟨by decide, by decide, by decide⟩, by decide⟩
set_option maxHeartbeats 4000000 in
set_option maxRecDepth 100000 in
theorem c_X11_isMissing (l : Launch) (G : Gx) (x1 : Int32) (σ : St) (r0 : Int32) (h : f_X11_isMissing x1 σ = some r0) : MI l G yX11_isMissing cX11_isMissing 2 (some .boolean) 1 [.ref (ga G 0), .int x1] σ (some (.int r0)) σ := by
  refine MI_of RX11 rfl (by decide) [(0, .ref (ga G 0)), (1, .int x1)] rfl (Nat.le_of_ble_eq_true rfl) ?_
  intro X hXl C hR
  unfold f_X11_isMissing at h
  refine V_aload_n C (dt_at dt_X11_isMissing_0 0 rfl) 0 rfl rfl ?_
  refine g_X11_57_0 C (dt_at dt_X11_isMissing_0 1 rfl) ?_
  refine V_iload_n C (dt_at dt_X11_isMissing_0 2 rfl) 1 rfl rfl ?_
  obtain ⟨h1, h⟩ := chk_s h
  refine al_8 C h1 (dt_at dt_X11_isMissing_0 3 rfl) ?_
  refine V_if_ne C 13 (dt_at dt_X11_isMissing_0 4 rfl) (by decide) (fun q2 => ?_) (fun q2 => ?_)
  · have h := ite_f q2 h
    refine V_iconst C 0 (dt_at dt_X11_isMissing_0 7 rfl) (by decide) ?_
    have e1_ := Option.some.inj h
    subst e1_
    exact V_zret C rfl hR (dt_at dt_X11_isMissing_0 8 rfl)
  · have h := ite_t q2 h
    refine V_iconst C 1 (dt_at dt_X11_isMissing_0 5 rfl) (by decide) ?_
    refine V_goto C 14 (dt_at dt_X11_isMissing_0 6 rfl) (by decide) ?_
    have e1_ := Option.some.inj h
    subst e1_
    exact V_zret C rfl hR (dt_at dt_X11_isMissing_0 8 rfl)
theorem cv_X11_isMissing (C : Ck X G cc own nL d) {idx : Nat} (hlk : Cond.methodLink own idx yX11_isMissing ∈ gtb) (x1 : Int32) {r0 : Int32} (e : f_X11_isMissing x1 σ = some r0) (hdd : 2 ≤ d) (hroom : (rest.map fun v => v.category).sum ≤ 8) (hcs : cells ≤ (xR X).cells ∧ slots ≤ (xR X).slots) (hd : decode cc pc = .ok (.invokevirtual idx, 3)) (k : V X G nL cells slots σ (pc + 3) lv (.int r0 :: rest)) : V X G nL cells slots σ pc lv (.int x1 :: .ref (ga G 0) :: rest) := V_callV C (As := [.int x1]) (c_X11_isMissing X.2.1 G x1 σ r0 e) cal_X11_isMissing ww_177 ww_178 hlk rfl hdd (lt110 rfl) rfl rfl rfl hroom hcs hd k
theorem dt_X4_hasPlayer_0 : dtab cX4_hasPlayer [(0, .iload_n 1, 1), (1, .aload_n 0, 1), (2, .getfield 21, 3), (5, .invokestatic 81, 3), (8, .ireturn, 1)] = true := by decide +kernel
theorem cal_X4_hasPlayer : Cal yX4_hasPlayer cX4_hasPlayer 2 (some .boolean) 1 := ⟨ww_179, ww_92, ⟨by decide, by decide, by decide⟩, by decide⟩
set_option maxHeartbeats 4000000 in
set_option maxRecDepth 100000 in
theorem c_X4_hasPlayer (l : Launch) (G : Gx) (x1 : Int32) (σ : St) (r0 : Int32) (h : f_X4_hasPlayer x1 σ = some r0) : MI l G yX4_hasPlayer cX4_hasPlayer 2 (some .boolean) 2 [.ref (ga G 1), .int x1] σ (some (.int r0)) σ := by
  refine MI_of RX4 rfl (by decide) [(0, .ref (ga G 1)), (1, .int x1)] rfl (Nat.le_of_ble_eq_true rfl) ?_
  intro X hXl C hR
  unfold f_X4_hasPlayer at h
  refine V_iload_n C (dt_at dt_X4_hasPlayer_0 0 rfl) 1 rfl rfl ?_
  refine V_aload_n C (dt_at dt_X4_hasPlayer_0 1 rfl) 0 rfl rfl ?_
  refine g_X4_21_1 C (dt_at dt_X4_hasPlayer_0 2 rfl) ?_
  obtain ⟨r1, e2, h⟩ := bd_s h
  refine cn_X11_isWithin C x1 (fd σ 1 3) e2 (Nat.le_of_ble_eq_true rfl) (Nat.le_of_ble_eq_true rfl) z0 (dt_at dt_X4_hasPlayer_0 3 rfl) ?_
  obtain ⟨h4, h⟩ := chk_s h
  have e1_ := Option.some.inj h
  subst e1_
  exact V_zret C (isB_n h4) hR (dt_at dt_X4_hasPlayer_0 4 rfl)
theorem cv_X4_hasPlayer (C : Ck X G cc own nL d) {idx : Nat} (hlk : Cond.methodLink own idx yX4_hasPlayer ∈ gtb) (x1 : Int32) {r0 : Int32} (e : f_X4_hasPlayer x1 σ = some r0) (hdd : 3 ≤ d) (hroom : (rest.map fun v => v.category).sum ≤ 8) (hcs : cells ≤ (xR X).cells ∧ slots ≤ (xR X).slots) (hd : decode cc pc = .ok (.invokevirtual idx, 3)) (k : V X G nL cells slots σ (pc + 3) lv (.int r0 :: rest)) : V X G nL cells slots σ pc lv (.int x1 :: .ref (ga G 1) :: rest) := V_callV C (As := [.int x1]) (c_X4_hasPlayer X.2.1 G x1 σ r0 e) cal_X4_hasPlayer ww_180 ww_181 hlk rfl hdd (lt110 rfl) rfl rfl rfl hroom hcs hd k
theorem dt_X4_isPlayerOrNobody_0 : dtab cX4_isPlayerOrNobody [(0, .iload_n 1, 1), (1, .iconst (-1), 1), (2, .if_icmp .eq 11, 3), (5, .aload_n 0, 1), (6, .iload_n 1, 1), (7, .invokevirtual 85, 3), (10, .ifCond .eq 7, 3), (13, .iconst 1, 1), (14, .goto 4, 3), (17, .iconst 0, 1), (18, .ireturn, 1)] = true := by decide +kernel
theorem cal_X4_isPlayerOrNobody : Cal yX4_isPlayerOrNobody cX4_isPlayerOrNobody 2 (some .boolean) 1 := ⟨ww_183, ww_92, ⟨by decide, by decide, by decide⟩, by decide⟩
set_option maxHeartbeats 4000000 in
set_option maxRecDepth 100000 in
theorem c_X4_isPlayerOrNobody (l : Launch) (G : Gx) (x1 : Int32) (σ : St) (r0 : Int32) (h : f_X4_isPlayerOrNobody x1 σ = some r0) : MI l G yX4_isPlayerOrNobody cX4_isPlayerOrNobody 2 (some .boolean) 3 [.ref (ga G 1), .int x1] σ (some (.int r0)) σ := by
  refine MI_of RX4 rfl (by decide) [(0, .ref (ga G 1)), (1, .int x1)] rfl (Nat.le_of_ble_eq_true rfl) ?_
  intro X hXl C hR
  unfold f_X4_isPlayerOrNobody at h
  have J_13 : f_X4_isPlayerOrNobody_13 σ = some r0 → V X G 2 0 0 σ 13 [] [] := by
    intro  h
    unfold f_X4_isPlayerOrNobody_13 at h
    refine V_iconst C 1 (dt_at dt_X4_isPlayerOrNobody_0 7 rfl) (by decide) ?_
    refine V_goto C 18 (dt_at dt_X4_isPlayerOrNobody_0 8 rfl) (by decide) ?_
    have e1_ := Option.some.inj h
    subst e1_
    exact V_zret C rfl hR (dt_at dt_X4_isPlayerOrNobody_0 10 rfl)
  refine V_iload_n C (dt_at dt_X4_isPlayerOrNobody_0 0 rfl) 1 rfl rfl ?_
  refine V_iconst C (-1) (dt_at dt_X4_isPlayerOrNobody_0 1 rfl) (by decide) ?_
  refine V_icmp_eq C 13 (dt_at dt_X4_isPlayerOrNobody_0 2 rfl) (by decide) (fun q1 => ?_) (fun q1 => ?_)
  · have h := ite_t q1 h
    refine V_sub [] (lv' := []) rfl ?_
    exact J_13  h
  · have h := ite_f q1 h
    refine V_aload_n C (dt_at dt_X4_isPlayerOrNobody_0 3 rfl) 0 rfl rfl ?_
    refine V_iload_n C (dt_at dt_X4_isPlayerOrNobody_0 4 rfl) 1 rfl rfl ?_
    obtain ⟨r2, e3, h⟩ := bd_s h
    refine cv_X4_hasPlayer C ww_182 x1 e3 (Nat.le_of_ble_eq_true rfl) (Nat.le_of_ble_eq_true rfl) z0 (dt_at dt_X4_isPlayerOrNobody_0 5 rfl) ?_
    refine V_if_eq C 17 (dt_at dt_X4_isPlayerOrNobody_0 6 rfl) (by decide) (fun q5 => ?_) (fun q5 => ?_)
    · have h := ite_t q5 h
      refine V_iconst C 0 (dt_at dt_X4_isPlayerOrNobody_0 9 rfl) (by decide) ?_
      have e1_ := Option.some.inj h
      subst e1_
      exact V_zret C rfl hR (dt_at dt_X4_isPlayerOrNobody_0 10 rfl)
    · have h := ite_f q5 h
      refine V_sub [] (lv' := []) rfl ?_
      exact J_13  h
theorem cv_X4_isPlayerOrNobody (C : Ck X G cc own nL d) {idx : Nat} (hlk : Cond.methodLink own idx yX4_isPlayerOrNobody ∈ gtb) (x1 : Int32) {r0 : Int32} (e : f_X4_isPlayerOrNobody x1 σ = some r0) (hdd : 4 ≤ d) (hroom : (rest.map fun v => v.category).sum ≤ 8) (hcs : cells ≤ (xR X).cells ∧ slots ≤ (xR X).slots) (hd : decode cc pc = .ok (.invokevirtual idx, 3)) (k : V X G nL cells slots σ (pc + 3) lv (.int r0 :: rest)) : V X G nL cells slots σ pc lv (.int x1 :: .ref (ga G 1) :: rest) := V_callV C (As := [.int x1]) (c_X4_isPlayerOrNobody X.2.1 G x1 σ r0 e) cal_X4_isPlayerOrNobody ww_184 ww_185 hlk rfl hdd (lt110 rfl) rfl rfl rfl hroom hcs hd k
theorem dt_X11_block_0 : dtab cX11_block [(0, .iload_n 1, 1), (1, .iconst 4, 1), (2, .invokestatic 79, 3), (5, .ifCond .ne 9, 3), (8, .aload_n 0, 1), (9, .iconst 1, 1), (10, .invokevirtual 68, 3), (13, .ireturn, 1), (14, .aload_n 0, 1), (15, .iload_n 1, 1), (16, .invokevirtual 231, 3), (19, .ifCond .eq 9, 3), (22, .aload_n 0, 1), (23, .iconst 2, 1), (24, .invokevirtual 68, 3), (27, .ireturn, 1), (28, .aload_n 0, 1), (29, .getfield 53, 3), (32, .iload_n 1, 1), (33, .aaload, 1), (34, .astore_n 2, 1), (35, .aload_n 2, 1), (36, .getfield 189, 3), (39, .aload_n 0, 1), (40, .getfield 12, 3), (43, .getfield 83, 3), (46, .invokestatic 234, 3), (49, .istore_n 3, 1), (50, .iconst 0, 1), (51, .istore 4, 2), (53, .iload 4, 2), (55, .iload_n 3, 1), (56, .if_icmp .ge 32, 3), (59, .aload_n 0, 1), (60, .getfield 12, 3), (63, .aload_n 2, 1), (64, .getfield 239, 3), (67, .iload 4, 2), (69, .iaload, 1), (70, .invokevirtual 225, 3)] = true := by decide +kernel
theorem dt_X11_block_1 : dtab cX11_block [(73, .ifCond .ne 9, 3), (76, .aload_n 0, 1), (77, .iconst 5, 1), (78, .invokevirtual 68, 3), (81, .ireturn, 1), (82, .iinc 4 1, 3), (85, .goto (-32), 3), (88, .aload_n 2, 1), (89, .getfield 239, 3), (92, .iconst 0, 1), (93, .aload_n 0, 1), (94, .getfield 12, 3), (97, .getfield 228, 3), (100, .iconst 0, 1), (101, .iload_n 3, 1), (102, .invokestatic 242, 3), (105, .iload_n 3, 1), (106, .ireturn, 1)] = true := by decide +kernel
theorem cal_X11_block : Cal yX11_block cX11_block 5 (some .int) 1 := ⟨ww_198, ww_100, ⟨by decide, by decide, by decide⟩, by decide⟩
set_option maxHeartbeats 4000000 in
set_option maxRecDepth 100000 in
theorem c_X11_block (l : Launch) (G : Gx) (x1 : Int32) (σ : St) (r0 : Int32) (σ0 : St) (h : f_X11_block x1 σ = some (r0, σ0)) : MI l G yX11_block cX11_block 5 (some .int) 4 [.ref (ga G 0), .int x1] σ (some (.int r0)) σ0 := by
  refine MI_of RX11 rfl (by decide) [(0, .ref (ga G 0)), (1, .int x1)] rfl (Nat.le_of_ble_eq_true rfl) ?_
  intro X hXl C hR
  unfold f_X11_block at h
  have J_88 : ∀ (c2 : Nat) (x3 : Int32) (σ : St) (hf_c2 : isRow c2 = true), f_X11_block_88 c2 x3 σ = some (r0, σ0) → V X G 5 0 0 σ 88 [(0, .ref (ga G 0)), (2, .ref (ga G c2)), (3, .int x3)] [] := by
    intro c2 x3 σ hf_c2 h
    unfold f_X11_block_88 at h
    refine V_aload_n C (dt_at dt_X11_block_1 7 rfl) 1 rfl rfl ?_
    refine gw_X11_239 C (K := c2) hf_c2 (dt_at dt_X11_block_1 8 rfl) ?_
    refine V_iconst C 0 (dt_at dt_X11_block_1 9 rfl) (by decide) ?_
    refine V_aload_n C (dt_at dt_X11_block_1 10 rfl) 0 rfl rfl ?_
    refine g_X11_12_0 C (dt_at dt_X11_block_1 11 rfl) ?_
    refine g_X11_228_1 C (dt_at dt_X11_block_1 12 rfl) ?_
    refine V_iconst C 0 (dt_at dt_X11_block_1 13 rfl) (by decide) ?_
    refine V_iload_n C (dt_at dt_X11_block_1 14 rfl) 2 rfl rfl ?_
    obtain ⟨h29, h⟩ := chk_s h
    obtain ⟨σ30, eσ30, h⟩ := nm_s h
    refine V_st eσ30 ?_ (fun k => V_copy C (K0 := c2 + 1) (K1 := 11) ww_197 w_copy (isRowA_lt hf_c2) (lt110 rfl) (lay_rowA G hf_c2 _ _) (fun _ => rfl) h29 (Nat.le_of_ble_eq_true rfl) (Nat.le_of_ble_eq_true rfl) (dt_at dt_X11_block_1 15 rfl) k)
    refine V_iload_n C (dt_at dt_X11_block_1 16 rfl) 2 rfl rfl ?_
    obtain ⟨e1_, e2_⟩ := pin2 h
    subst e1_; subst e2_
    exact V_iret C hR (dt_at dt_X11_block_1 17 rfl)
  have J_76 : ∀ (σ : St), f_X11_block_76 σ = some (r0, σ0) → V X G 5 0 0 σ 76 [(0, .ref (ga G 0))] [] := by
    intro σ h
    unfold f_X11_block_76 at h
    refine V_aload_n C (dt_at dt_X11_block_1 1 rfl) 0 rfl rfl ?_
    refine V_iconst C 5 (dt_at dt_X11_block_1 2 rfl) (by decide) ?_
    obtain ⟨r26, σ28, e27, h⟩ := bd2_s h
    refine cv_X11_error C ww_193 5 e27 (Nat.le_of_ble_eq_true rfl) (Nat.le_of_ble_eq_true rfl) z0 (dt_at dt_X11_block_1 3 rfl) ?_
    obtain ⟨e1_, e2_⟩ := pin2 h
    subst e1_; subst e2_
    exact V_iret C hR (dt_at dt_X11_block_1 4 rfl)
  have J_53 : ∀ (c2 : Nat) (x3 : Int32) (x4 : Int32) (σ : St) (hf_c2 : isRow c2 = true), f_X11_block_53 c2 x3 x4 σ = some (r0, σ0) → V X G 5 0 0 σ 53 [(0, .ref (ga G 0)), (2, .ref (ga G c2)), (3, .int x3), (4, .int x4)] [] := by
    intro c2 x3 x4 σ hf_c2 h
    refine it_v (P := fun z : Int32 => V X G 5 0 0 σ 53 [(0, .ref (ga G 0)), (2, .ref (ga G c2)), (3, .int x3), (4, .int z)] []) ?_ x4 h
    clear h
    intro z w_53 h ih_53 ex_53
    revert h; revert z; intro x4 h
    have h : b_X11_block_53 c2 x3 x4 σ = some w_53 := h
    show V X G 5 0 0 σ 53 [(0, .ref (ga G 0)), (2, .ref (ga G c2)), (3, .int x3), (4, .int x4)] []
    unfold b_X11_block_53 at h
    refine V_iload C (dt_at dt_X11_block_0 30 rfl) 3 rfl ?_
    refine V_iload_n C (dt_at dt_X11_block_0 31 rfl) 2 rfl rfl ?_
    refine V_icmp_ge C 88 (dt_at dt_X11_block_0 32 rfl) (by decide) (fun q18 => ?_) (fun q18 => ?_)
    · have h := ite_f q18 h
      refine V_sub [0, 1, 2] (lv' := [(0, .ref (ga G 0)), (2, .ref (ga G c2)), (3, .int x3)]) rfl ?_
      obtain ⟨t19, h, e_53⟩ := map_s h
      have e_53 := ex_53 _ e_53
      rw [e_53] at h
      exact J_88 c2 x3 σ hf_c2 h
    · have h := ite_t q18 h
      refine V_aload_n C (dt_at dt_X11_block_0 33 rfl) 0 rfl rfl ?_
      refine g_X11_12_0 C (dt_at dt_X11_block_0 34 rfl) ?_
      refine V_aload_n C (dt_at dt_X11_block_0 35 rfl) 1 rfl rfl ?_
      refine gw_X11_239 C (K := c2) hf_c2 (dt_at dt_X11_block_0 36 rfl) ?_
      refine V_iload C (dt_at dt_X11_block_0 37 rfl) 3 rfl ?_
      obtain ⟨h20, h⟩ := chk_s h
      refine V_iald C (K := c2 + 1) (isRowA_lt hf_c2) (lay_rowA G hf_c2 (_) _) h20 (dt_at dt_X11_block_0 38 rfl) ?_
      obtain ⟨r21, e22, h⟩ := bd_s h
      refine cv_X4_isPlayerOrNobody C ww_195 (rd σ (c2 + 1) x4) e22 (Nat.le_of_ble_eq_true rfl) (Nat.le_of_ble_eq_true rfl) z0 (dt_at dt_X11_block_0 39 rfl) ?_
      refine V_if_ne C 82 (dt_at dt_X11_block_1 0 rfl) (by decide) (fun q24 => ?_) (fun q24 => ?_)
      · have h := ite_f q24 h
        refine V_iinc C (x4 + 1) 3 [1, 2, 3, 0] (lv' := [(0, .ref (ga G 0)), (2, .ref (ga G c2)), (3, .int x3), (4, .int (x4 + 1))]) (dt_at dt_X11_block_1 5 rfl) rfl (by rfl) (by decide) rfl ?_
        refine V_goto C 53 (dt_at dt_X11_block_1 6 rfl) (by decide) ?_
        exact ih_53 (x4 + 1) (Option.some.inj h).symm
      · have h := ite_t q24 h
        refine V_sub [0] (lv' := [(0, .ref (ga G 0))]) rfl ?_
        obtain ⟨t25, h, e_53⟩ := map_s h
        have e_53 := ex_53 _ e_53
        rw [e_53] at h
        exact J_76 σ h
  refine V_iload_n C (dt_at dt_X11_block_0 0 rfl) 1 rfl rfl ?_
  refine V_iconst C 4 (dt_at dt_X11_block_0 1 rfl) (by decide) ?_
  obtain ⟨r1, e2, h⟩ := bd_s h
  refine cv_X11_isWithin C ww_186 x1 4 e2 (Nat.le_of_ble_eq_true rfl) (Nat.le_of_ble_eq_true rfl) z0 (dt_at dt_X11_block_0 2 rfl) ?_
  refine V_if_ne C 14 (dt_at dt_X11_block_0 3 rfl) (by decide) (fun q4 => ?_) (fun q4 => ?_)
  · have h := ite_f q4 h
    refine V_aload_n C (dt_at dt_X11_block_0 8 rfl) 0 rfl rfl ?_
    refine V_iload_n C (dt_at dt_X11_block_0 9 rfl) 1 rfl rfl ?_
    obtain ⟨r5, e6, h⟩ := bd_s h
    refine cv_X11_isMissing C ww_187 x1 e6 (Nat.le_of_ble_eq_true rfl) (Nat.le_of_ble_eq_true rfl) z0 (dt_at dt_X11_block_0 10 rfl) ?_
    refine V_if_eq C 28 (dt_at dt_X11_block_0 11 rfl) (by decide) (fun q8 => ?_) (fun q8 => ?_)
    · have h := ite_t q8 h
      refine V_aload_n C (dt_at dt_X11_block_0 16 rfl) 0 rfl rfl ?_
      refine g_X11_53_0 C (dt_at dt_X11_block_0 17 rfl) ?_
      refine V_iload_n C (dt_at dt_X11_block_0 18 rfl) 1 rfl rfl ?_
      obtain ⟨h9, h⟩ := chk_s h
      refine V_aa7 C h9 (dt_at dt_X11_block_0 19 rfl) ?_
      have h10 : isRow (76 + 2 * x1.toNatClampNeg) = true := ok_7 h9
      refine V_astore_n C [1, 2, 0] (lv' := [(0, .ref (ga G 0)), (1, .int x1), (2, .ref (ga G (76 + 2 * x1.toNatClampNeg)))]) (dt_at dt_X11_block_0 20 rfl) rfl (by decide) rfl ?_
      refine V_aload_n C (dt_at dt_X11_block_0 21 rfl) 2 rfl rfl ?_
      refine gw_X11_189 C (K := (76 + 2 * x1.toNatClampNeg)) h10 (dt_at dt_X11_block_0 22 rfl) ?_
      refine V_aload_n C (dt_at dt_X11_block_0 23 rfl) 0 rfl rfl ?_
      refine g_X11_12_0 C (dt_at dt_X11_block_0 24 rfl) ?_
      refine g_X11_83_1 C (dt_at dt_X11_block_0 25 rfl) ?_
      refine V_min C ww_192 w_min (Nat.le_of_ble_eq_true rfl) (Nat.le_of_ble_eq_true rfl) z0 (dt_at dt_X11_block_0 26 rfl) ?_
      obtain ⟨y11, ey11, h⟩ := nm_s h
      refine V_nmi ey11 ?_
      refine V_istore_n C [1, 2, 3, 0] (lv' := [(0, .ref (ga G 0)), (1, .int x1), (2, .ref (ga G (76 + 2 * x1.toNatClampNeg))), (3, .int y11)]) (dt_at dt_X11_block_0 27 rfl) rfl (by decide) rfl ?_
      refine V_iconst C 0 (dt_at dt_X11_block_0 28 rfl) (by decide) ?_
      refine V_istore C [1, 2, 3, 4, 0] (lv' := [(0, .ref (ga G 0)), (1, .int x1), (2, .ref (ga G (76 + 2 * x1.toNatClampNeg))), (3, .int y11), (4, .int 0)]) (dt_at dt_X11_block_0 29 rfl) (by decide) rfl ?_
      refine V_sub [0, 2, 3, 4] (lv' := [(0, .ref (ga G 0)), (2, .ref (ga G (76 + 2 * x1.toNatClampNeg))), (3, .int y11), (4, .int 0)]) rfl ?_
      exact J_53 (76 + 2 * x1.toNatClampNeg) y11 0 σ h10 h
    · have h := ite_f q8 h
      refine V_aload_n C (dt_at dt_X11_block_0 12 rfl) 0 rfl rfl ?_
      refine V_iconst C 2 (dt_at dt_X11_block_0 13 rfl) (by decide) ?_
      obtain ⟨r12, σ14, e13, h⟩ := bd2_s h
      refine cv_X11_error C ww_193 2 e13 (Nat.le_of_ble_eq_true rfl) (Nat.le_of_ble_eq_true rfl) z0 (dt_at dt_X11_block_0 14 rfl) ?_
      obtain ⟨e1_, e2_⟩ := pin2 h
      subst e1_; subst e2_
      exact V_iret C hR (dt_at dt_X11_block_0 15 rfl)
  · have h := ite_t q4 h
    refine V_aload_n C (dt_at dt_X11_block_0 4 rfl) 0 rfl rfl ?_
    refine V_iconst C 1 (dt_at dt_X11_block_0 5 rfl) (by decide) ?_
    obtain ⟨r15, σ17, e16, h⟩ := bd2_s h
    refine cv_X11_error C ww_193 1 e16 (Nat.le_of_ble_eq_true rfl) (Nat.le_of_ble_eq_true rfl) z0 (dt_at dt_X11_block_0 6 rfl) ?_
    obtain ⟨e1_, e2_⟩ := pin2 h
    subst e1_; subst e2_
    exact V_iret C hR (dt_at dt_X11_block_0 7 rfl)
theorem cv_X11_block (C : Ck X G cc own nL d) {idx : Nat} (hlk : Cond.methodLink own idx yX11_block ∈ gtb) (x1 : Int32) {r0 : Int32} {σ0 : St} (e : f_X11_block x1 σ = some (r0, σ0)) (hdd : 5 ≤ d) (hroom : (rest.map fun v => v.category).sum ≤ 8) (hcs : cells ≤ (xR X).cells ∧ slots ≤ (xR X).slots) (hd : decode cc pc = .ok (.invokevirtual idx, 3)) (k : V X G nL cells slots σ0 (pc + 3) lv (.int r0 :: rest)) : V X G nL cells slots σ pc lv (.int x1 :: .ref (ga G 0) :: rest) := V_callV C (As := [.int x1]) (c_X11_block X.2.1 G x1 σ r0 σ0 e) cal_X11_block ww_199 ww_200 hlk rfl hdd (lt110 rfl) rfl rfl rfl hroom hcs hd k
theorem dt_X4_covers_0 : dtab cX4_covers [(0, .aload_n 0, 1), (1, .getfield 37, 3), (4, .iload_n 1, 1), (5, .iaload, 1), (6, .iload_n 2, 1), (7, .if_icmp .gt 17, 3), (10, .iload_n 2, 1), (11, .aload_n 0, 1), (12, .getfield 40, 3), (15, .iload_n 1, 1), (16, .iaload, 1), (17, .if_icmp .gt 7, 3), (20, .iconst 1, 1), (21, .goto 4, 3), (24, .iconst 0, 1), (25, .ireturn, 1)] = true := by decide +kernel
theorem cal_X4_covers : Cal yX4_covers cX4_covers 3 (some .boolean) 2 := ⟨ww_201, ww_92, ⟨by decide, by decide, by decide⟩, by decide⟩
set_option maxHeartbeats 4000000 in
set_option maxRecDepth 100000 in
theorem c_X4_covers (l : Launch) (G : Gx) (x1 : Int32) (x2 : Int32) (σ : St) (r0 : Int32) (h : f_X4_covers x1 x2 σ = some r0) : MI l G yX4_covers cX4_covers 3 (some .boolean) 1 [.ref (ga G 1), .int x1, .int x2] σ (some (.int r0)) σ := by
  refine MI_of RX4 rfl (by decide) [(0, .ref (ga G 1)), (1, .int x1), (2, .int x2)] rfl (Nat.le_of_ble_eq_true rfl) ?_
  intro X hXl C hR
  unfold f_X4_covers at h
  refine V_aload_n C (dt_at dt_X4_covers_0 0 rfl) 0 rfl rfl ?_
  refine g_X4_37_1 C (dt_at dt_X4_covers_0 1 rfl) ?_
  refine V_iload_n C (dt_at dt_X4_covers_0 2 rfl) 1 rfl rfl ?_
  obtain ⟨h1, h⟩ := chk_s h
  refine al_13 C h1 (dt_at dt_X4_covers_0 3 rfl) ?_
  refine V_iload_n C (dt_at dt_X4_covers_0 4 rfl) 2 rfl rfl ?_
  refine V_icmp_gt C 24 (dt_at dt_X4_covers_0 5 rfl) (by decide) (fun q2 => ?_) (fun q2 => ?_)
  · have h := ite_t q2 h
    refine V_iconst C 0 (dt_at dt_X4_covers_0 14 rfl) (by decide) ?_
    have e1_ := Option.some.inj h
    subst e1_
    exact V_zret C rfl hR (dt_at dt_X4_covers_0 15 rfl)
  · have h := ite_f q2 h
    refine V_iload_n C (dt_at dt_X4_covers_0 6 rfl) 2 rfl rfl ?_
    refine V_aload_n C (dt_at dt_X4_covers_0 7 rfl) 0 rfl rfl ?_
    refine g_X4_40_1 C (dt_at dt_X4_covers_0 8 rfl) ?_
    refine V_iload_n C (dt_at dt_X4_covers_0 9 rfl) 1 rfl rfl ?_
    refine al_14 C h1 (dt_at dt_X4_covers_0 10 rfl) ?_
    refine V_icmp_gt C 24 (dt_at dt_X4_covers_0 11 rfl) (by decide) (fun q3 => ?_) (fun q3 => ?_)
    · have h := ite_t q3 h
      refine V_iconst C 0 (dt_at dt_X4_covers_0 14 rfl) (by decide) ?_
      have e1_ := Option.some.inj h
      subst e1_
      exact V_zret C rfl hR (dt_at dt_X4_covers_0 15 rfl)
    · have h := ite_f q3 h
      refine V_iconst C 1 (dt_at dt_X4_covers_0 12 rfl) (by decide) ?_
      refine V_goto C 25 (dt_at dt_X4_covers_0 13 rfl) (by decide) ?_
      have e1_ := Option.some.inj h
      subst e1_
      exact V_zret C rfl hR (dt_at dt_X4_covers_0 15 rfl)
theorem cv_X4_covers (C : Ck X G cc own nL d) {idx : Nat} (hlk : Cond.methodLink own idx yX4_covers ∈ gtb) (x1 : Int32) (x2 : Int32) {r0 : Int32} (e : f_X4_covers x1 x2 σ = some r0) (hdd : 2 ≤ d) (hroom : (rest.map fun v => v.category).sum ≤ 8) (hcs : cells ≤ (xR X).cells ∧ slots ≤ (xR X).slots) (hd : decode cc pc = .ok (.invokevirtual idx, 3)) (k : V X G nL cells slots σ (pc + 3) lv (.int r0 :: rest)) : V X G nL cells slots σ pc lv (.int x2 :: .int x1 :: .ref (ga G 1) :: rest) := V_callV C (As := [.int x1, .int x2]) (c_X4_covers X.2.1 G x1 x2 σ r0 e) cal_X4_covers ww_202 ww_203 hlk rfl hdd (lt110 rfl) rfl rfl rfl hroom hcs hd k
theorem dt_X4_isOnStage_0 : dtab cX4_isOnStage [(0, .iconst 0, 1), (1, .istore_n 3, 1), (2, .iload_n 3, 1), (3, .aload_n 0, 1), (4, .getfield 18, 3), (7, .if_icmp .ge 35, 3), (10, .aload_n 0, 1), (11, .getfield 30, 3), (14, .aload_n 0, 1), (15, .getfield 34, 3), (18, .iload_n 3, 1), (19, .iaload, 1), (20, .iaload, 1), (21, .iload_n 1, 1), (22, .if_icmp .ne 14, 3), (25, .aload_n 0, 1), (26, .iload_n 3, 1), (27, .iload_n 2, 1), (28, .invokevirtual 99, 3), (31, .ifCond .eq 5, 3), (34, .iconst 1, 1), (35, .ireturn, 1), (36, .iinc 3 1, 3), (39, .goto (-37), 3), (42, .iconst 0, 1), (43, .ireturn, 1)] = true := by decide +kernel
theorem cal_X4_isOnStage : Cal yX4_isOnStage cX4_isOnStage 4 (some .boolean) 2 := ⟨ww_206, ww_92, ⟨by decide, by decide, by decide⟩, by decide⟩
set_option maxHeartbeats 4000000 in
set_option maxRecDepth 100000 in
theorem c_X4_isOnStage (l : Launch) (G : Gx) (x1 : Int32) (x2 : Int32) (σ : St) (r0 : Int32) (h : f_X4_isOnStage x1 x2 σ = some r0) : MI l G yX4_isOnStage cX4_isOnStage 4 (some .boolean) 2 [.ref (ga G 1), .int x1, .int x2] σ (some (.int r0)) σ := by
  refine MI_of RX4 rfl (by decide) [(0, .ref (ga G 1)), (1, .int x1), (2, .int x2)] rfl (Nat.le_of_ble_eq_true rfl) ?_
  intro X hXl C hR
  unfold f_X4_isOnStage at h
  have J_2 : ∀ (x3 : Int32), f_X4_isOnStage_2 x1 x2 x3 σ = some r0 → V X G 4 0 0 σ 2 [(0, .ref (ga G 1)), (1, .int x1), (2, .int x2), (3, .int x3)] [] := by
    intro x3 h
    refine it_v (P := fun z : Int32 => V X G 4 0 0 σ 2 [(0, .ref (ga G 1)), (1, .int x1), (2, .int x2), (3, .int z)] []) ?_ x3 h
    clear h
    intro z w_2 h ih_2 ex_2
    revert h; revert z; intro x3 h
    have h : b_X4_isOnStage_2 x1 x2 x3 σ = some w_2 := h
    show V X G 4 0 0 σ 2 [(0, .ref (ga G 1)), (1, .int x1), (2, .int x2), (3, .int x3)] []
    unfold b_X4_isOnStage_2 at h
    have J_36 : ∀ (x3 : Int32), f_X4_isOnStage_36 x1 x2 x3 σ = some w_2 → V X G 4 0 0 σ 36 [(0, .ref (ga G 1)), (1, .int x1), (2, .int x2), (3, .int x3)] [] := by
      intro x3 h
      unfold f_X4_isOnStage_36 at h
      refine V_iinc C (x3 + 1) 3 [1, 2, 3, 0] (lv' := [(0, .ref (ga G 1)), (1, .int x1), (2, .int x2), (3, .int (x3 + 1))]) (dt_at dt_X4_isOnStage_0 22 rfl) rfl (by rfl) (by decide) rfl ?_
      refine V_goto C 2 (dt_at dt_X4_isOnStage_0 23 rfl) (by decide) ?_
      exact ih_2 (x3 + 1) (Option.some.inj h).symm
    refine V_iload_n C (dt_at dt_X4_isOnStage_0 2 rfl) 3 rfl rfl ?_
    refine V_aload_n C (dt_at dt_X4_isOnStage_0 3 rfl) 0 rfl rfl ?_
    refine g_X4_18_1 C (dt_at dt_X4_isOnStage_0 4 rfl) ?_
    refine V_icmp_ge C 42 (dt_at dt_X4_isOnStage_0 5 rfl) (by decide) (fun q1 => ?_) (fun q1 => ?_)
    · have h := ite_f q1 h
      refine V_iconst C 0 (dt_at dt_X4_isOnStage_0 24 rfl) (by decide) ?_
      have e_2 := ex_2 _ (Option.some.inj h).symm
      subst e_2
      exact V_zret C rfl hR (dt_at dt_X4_isOnStage_0 25 rfl)
    · have h := ite_t q1 h
      refine V_aload_n C (dt_at dt_X4_isOnStage_0 6 rfl) 0 rfl rfl ?_
      refine g_X4_30_1 C (dt_at dt_X4_isOnStage_0 7 rfl) ?_
      refine V_aload_n C (dt_at dt_X4_isOnStage_0 8 rfl) 0 rfl rfl ?_
      refine g_X4_34_1 C (dt_at dt_X4_isOnStage_0 9 rfl) ?_
      refine V_iload_n C (dt_at dt_X4_isOnStage_0 10 rfl) 3 rfl rfl ?_
      obtain ⟨h2, h⟩ := chk_s h
      refine al_12 C h2 (dt_at dt_X4_isOnStage_0 11 rfl) ?_
      obtain ⟨h3, h⟩ := chk_s h
      refine al_11 C h3 (dt_at dt_X4_isOnStage_0 12 rfl) ?_
      refine V_iload_n C (dt_at dt_X4_isOnStage_0 13 rfl) 1 rfl rfl ?_
      refine V_icmp_ne C 36 (dt_at dt_X4_isOnStage_0 14 rfl) (by decide) (fun q4 => ?_) (fun q4 => ?_)
      · have h := ite_f q4 h
        exact J_36 x3 h
      · have h := ite_t q4 h
        refine V_aload_n C (dt_at dt_X4_isOnStage_0 15 rfl) 0 rfl rfl ?_
        refine V_iload_n C (dt_at dt_X4_isOnStage_0 16 rfl) 3 rfl rfl ?_
        refine V_iload_n C (dt_at dt_X4_isOnStage_0 17 rfl) 2 rfl rfl ?_
        obtain ⟨r5, e6, h⟩ := bd_s h
        refine cv_X4_covers C ww_205 x3 x2 e6 (Nat.le_of_ble_eq_true rfl) (Nat.le_of_ble_eq_true rfl) z0 (dt_at dt_X4_isOnStage_0 18 rfl) ?_
        refine V_if_eq C 36 (dt_at dt_X4_isOnStage_0 19 rfl) (by decide) (fun q8 => ?_) (fun q8 => ?_)
        · have h := ite_t q8 h
          exact J_36 x3 h
        · have h := ite_f q8 h
          refine V_iconst C 1 (dt_at dt_X4_isOnStage_0 20 rfl) (by decide) ?_
          have e_2 := ex_2 _ (Option.some.inj h).symm
          subst e_2
          exact V_zret C rfl hR (dt_at dt_X4_isOnStage_0 21 rfl)
  refine V_iconst C 0 (dt_at dt_X4_isOnStage_0 0 rfl) (by decide) ?_
  refine V_istore_n C [1, 2, 3, 0] (lv' := [(0, .ref (ga G 1)), (1, .int x1), (2, .int x2), (3, .int 0)]) (dt_at dt_X4_isOnStage_0 1 rfl) rfl (by decide) rfl ?_
  exact J_2 0 h
theorem cv_X4_isOnStage (C : Ck X G cc own nL d) {idx : Nat} (hlk : Cond.methodLink own idx yX4_isOnStage ∈ gtb) (x1 : Int32) (x2 : Int32) {r0 : Int32} (e : f_X4_isOnStage x1 x2 σ = some r0) (hdd : 3 ≤ d) (hroom : (rest.map fun v => v.category).sum ≤ 8) (hcs : cells ≤ (xR X).cells ∧ slots ≤ (xR X).slots) (hd : decode cc pc = .ok (.invokevirtual idx, 3)) (k : V X G nL cells slots σ (pc + 3) lv (.int r0 :: rest)) : V X G nL cells slots σ pc lv (.int x2 :: .int x1 :: .ref (ga G 1) :: rest) := V_callV C (As := [.int x1, .int x2]) (c_X4_isOnStage X.2.1 G x1 x2 σ r0 e) cal_X4_isOnStage ww_207 ww_208 hlk rfl hdd (lt110 rfl) rfl rfl rfl hroom hcs hd k
theorem dt_X11_busy_0 : dtab cX11_busy [(0, .aload_n 0, 1), (1, .getfield 12, 3), (4, .iload_n 1, 1), (5, .invokevirtual 171, 3), (8, .ifCond .ne 9, 3), (11, .aload_n 0, 1), (12, .iconst 1, 1), (13, .invokevirtual 68, 3), (16, .ireturn, 1), (17, .iconst 0, 1), (18, .istore_n 2, 1), (19, .iconst 0, 1), (20, .istore_n 3, 1), (21, .iload_n 3, 1), (22, .aload_n 0, 1), (23, .getfield 12, 3), (26, .getfield 76, 3), (29, .if_icmp .ge 24, 3), (32, .aload_n 0, 1), (33, .getfield 12, 3), (36, .iload_n 1, 1), (37, .iload_n 3, 1), (38, .invokevirtual 257, 3), (41, .ifCond .eq 6, 3), (44, .iinc 2 1, 3), (47, .iinc 3 1, 3), (50, .goto (-29), 3), (53, .iload_n 2, 1), (54, .ireturn, 1)] = true := by decide +kernel
theorem cal_X11_busy : Cal yX11_busy cX11_busy 4 (some .int) 1 := ⟨ww_212, ww_100, ⟨by decide, by decide, by decide⟩, by decide⟩
set_option maxHeartbeats 4000000 in
set_option maxRecDepth 100000 in
theorem c_X11_busy (l : Launch) (G : Gx) (x1 : Int32) (σ : St) (r0 : Int32) (σ0 : St) (h : f_X11_busy x1 σ = some (r0, σ0)) : MI l G yX11_busy cX11_busy 4 (some .int) 3 [.ref (ga G 0), .int x1] σ (some (.int r0)) σ0 := by
  refine MI_of RX11 rfl (by decide) [(0, .ref (ga G 0)), (1, .int x1)] rfl (Nat.le_of_ble_eq_true rfl) ?_
  intro X hXl C hR
  unfold f_X11_busy at h
  have J_21 : ∀ (x2 : Int32) (x3 : Int32) (σ : St), f_X11_busy_21 x1 x2 x3 σ = some (r0, σ0) → V X G 4 0 0 σ 21 [(0, .ref (ga G 0)), (1, .int x1), (2, .int x2), (3, .int x3)] [] := by
    intro x2 x3 σ h
    refine it_v (P := fun z : Int32 × Int32 => V X G 4 0 0 σ 21 [(0, .ref (ga G 0)), (1, .int x1), (2, .int z.1), (3, .int z.2)] []) ?_ (x2, x3) h
    clear h
    intro z w_21 h ih_21 ex_21
    obtain ⟨x2, x3⟩ := z
    have h : b_X11_busy_21 x1 x2 x3 σ = some w_21 := h
    show V X G 4 0 0 σ 21 [(0, .ref (ga G 0)), (1, .int x1), (2, .int x2), (3, .int x3)] []
    unfold b_X11_busy_21 at h
    have J_47 : ∀ (x2 : Int32) (x3 : Int32), f_X11_busy_47 x1 x2 x3 σ = some w_21 → V X G 4 0 0 σ 47 [(0, .ref (ga G 0)), (1, .int x1), (2, .int x2), (3, .int x3)] [] := by
      intro x2 x3 h
      unfold f_X11_busy_47 at h
      refine V_iinc C (x3 + 1) 3 [1, 2, 3, 0] (lv' := [(0, .ref (ga G 0)), (1, .int x1), (2, .int x2), (3, .int (x3 + 1))]) (dt_at dt_X11_busy_0 25 rfl) rfl (by rfl) (by decide) rfl ?_
      refine V_goto C 21 (dt_at dt_X11_busy_0 26 rfl) (by decide) ?_
      exact ih_21 (x2, (x3 + 1)) (Option.some.inj h).symm
    refine V_iload_n C (dt_at dt_X11_busy_0 13 rfl) 3 rfl rfl ?_
    refine V_aload_n C (dt_at dt_X11_busy_0 14 rfl) 0 rfl rfl ?_
    refine g_X11_12_0 C (dt_at dt_X11_busy_0 15 rfl) ?_
    refine g_X11_76_1 C (dt_at dt_X11_busy_0 16 rfl) ?_
    refine V_icmp_ge C 53 (dt_at dt_X11_busy_0 17 rfl) (by decide) (fun q8 => ?_) (fun q8 => ?_)
    · have h := ite_f q8 h
      refine V_iload_n C (dt_at dt_X11_busy_0 27 rfl) 2 rfl rfl ?_
      have e_21 := ex_21 _ (Option.some.inj h).symm
      obtain ⟨e1_, e2_⟩ := Prod.mk.inj e_21
      subst e1_; subst e2_
      exact V_iret C hR (dt_at dt_X11_busy_0 28 rfl)
    · have h := ite_t q8 h
      refine V_aload_n C (dt_at dt_X11_busy_0 18 rfl) 0 rfl rfl ?_
      refine g_X11_12_0 C (dt_at dt_X11_busy_0 19 rfl) ?_
      refine V_iload_n C (dt_at dt_X11_busy_0 20 rfl) 1 rfl rfl ?_
      refine V_iload_n C (dt_at dt_X11_busy_0 21 rfl) 3 rfl rfl ?_
      obtain ⟨r9, e10, h⟩ := bd_s h
      refine cv_X4_isOnStage C ww_211 x1 x3 e10 (Nat.le_of_ble_eq_true rfl) (Nat.le_of_ble_eq_true rfl) z0 (dt_at dt_X11_busy_0 22 rfl) ?_
      refine V_if_eq C 47 (dt_at dt_X11_busy_0 23 rfl) (by decide) (fun q12 => ?_) (fun q12 => ?_)
      · have h := ite_t q12 h
        exact J_47 x2 x3 h
      · have h := ite_f q12 h
        refine V_iinc C (x2 + 1) 2 [1, 2, 0, 3] (lv' := [(0, .ref (ga G 0)), (1, .int x1), (2, .int (x2 + 1)), (3, .int x3)]) (dt_at dt_X11_busy_0 24 rfl) rfl (by rfl) (by decide) rfl ?_
        exact J_47 (x2 + 1) x3 h
  refine V_aload_n C (dt_at dt_X11_busy_0 0 rfl) 0 rfl rfl ?_
  refine g_X11_12_0 C (dt_at dt_X11_busy_0 1 rfl) ?_
  refine V_iload_n C (dt_at dt_X11_busy_0 2 rfl) 1 rfl rfl ?_
  obtain ⟨r1, e2, h⟩ := bd_s h
  refine cv_X4_hasPlayer C ww_209 x1 e2 (Nat.le_of_ble_eq_true rfl) (Nat.le_of_ble_eq_true rfl) z0 (dt_at dt_X11_busy_0 3 rfl) ?_
  refine V_if_ne C 17 (dt_at dt_X11_busy_0 4 rfl) (by decide) (fun q4 => ?_) (fun q4 => ?_)
  · have h := ite_f q4 h
    refine V_iconst C 0 (dt_at dt_X11_busy_0 9 rfl) (by decide) ?_
    refine V_istore_n C [1, 2, 0] (lv' := [(0, .ref (ga G 0)), (1, .int x1), (2, .int 0)]) (dt_at dt_X11_busy_0 10 rfl) rfl (by decide) rfl ?_
    refine V_iconst C 0 (dt_at dt_X11_busy_0 11 rfl) (by decide) ?_
    refine V_istore_n C [1, 2, 3, 0] (lv' := [(0, .ref (ga G 0)), (1, .int x1), (2, .int 0), (3, .int 0)]) (dt_at dt_X11_busy_0 12 rfl) rfl (by decide) rfl ?_
    exact J_21 0 0 σ h
  · have h := ite_t q4 h
    refine V_aload_n C (dt_at dt_X11_busy_0 5 rfl) 0 rfl rfl ?_
    refine V_iconst C 1 (dt_at dt_X11_busy_0 6 rfl) (by decide) ?_
    obtain ⟨r5, σ7, e6, h⟩ := bd2_s h
    refine cv_X11_error C ww_193 1 e6 (Nat.le_of_ble_eq_true rfl) (Nat.le_of_ble_eq_true rfl) z0 (dt_at dt_X11_busy_0 7 rfl) ?_
    obtain ⟨e1_, e2_⟩ := pin2 h
    subst e1_; subst e2_
    exact V_iret C hR (dt_at dt_X11_busy_0 8 rfl)
theorem cv_X11_busy (C : Ck X G cc own nL d) {idx : Nat} (hlk : Cond.methodLink own idx yX11_busy ∈ gtb) (x1 : Int32) {r0 : Int32} {σ0 : St} (e : f_X11_busy x1 σ = some (r0, σ0)) (hdd : 4 ≤ d) (hroom : (rest.map fun v => v.category).sum ≤ 8) (hcs : cells ≤ (xR X).cells ∧ slots ≤ (xR X).slots) (hd : decode cc pc = .ok (.invokevirtual idx, 3)) (k : V X G nL cells slots σ0 (pc + 3) lv (.int r0 :: rest)) : V X G nL cells slots σ pc lv (.int x1 :: .ref (ga G 0) :: rest) := V_callV C (As := [.int x1]) (c_X11_busy X.2.1 G x1 σ r0 σ0 e) cal_X11_busy ww_213 ww_214 hlk rfl hdd (lt110 rfl) rfl rfl rfl hroom hcs hd k
theorem dt_X11_can_0 : dtab cX11_can [(0, .aload_n 0, 1), (1, .getfield 12, 3), (4, .iload_n 1, 1), (5, .invokevirtual 171, 3), (8, .ifCond .eq 14, 3), (11, .aload_n 0, 1), (12, .getfield 12, 3), (15, .iload_n 2, 1), (16, .invokevirtual 94, 3), (19, .ifCond .ne 9, 3), (22, .aload_n 0, 1), (23, .iconst 1, 1), (24, .invokevirtual 68, 3), (27, .ireturn, 1), (28, .aload_n 0, 1), (29, .getfield 21, 3), (32, .iload_n 1, 1), (33, .iload_n 2, 1), (34, .invokevirtual 180, 3), (37, .ifCond .eq 7, 3), (40, .iconst 1, 1), (41, .goto 4, 3), (44, .iconst 0, 1), (45, .ireturn, 1)] = true := by decide +kernel
theorem cal_X11_can : Cal yX11_can cX11_can 3 (some .int) 2 := ⟨ww_218, ww_100, ⟨by decide, by decide, by decide⟩, by decide⟩
set_option maxHeartbeats 4000000 in
set_option maxRecDepth 100000 in
theorem c_X11_can (l : Launch) (G : Gx) (x1 : Int32) (x2 : Int32) (σ : St) (r0 : Int32) (σ0 : St) (h : f_X11_can x1 x2 σ = some (r0, σ0)) : MI l G yX11_can cX11_can 3 (some .int) 4 [.ref (ga G 0), .int x1, .int x2] σ (some (.int r0)) σ0 := by
  refine MI_of RX11 rfl (by decide) [(0, .ref (ga G 0)), (1, .int x1), (2, .int x2)] rfl (Nat.le_of_ble_eq_true rfl) ?_
  intro X hXl C hR
  unfold f_X11_can at h
  have J_22 : ∀ (σ : St), f_X11_can_22 σ = some (r0, σ0) → V X G 3 0 0 σ 22 [(0, .ref (ga G 0))] [] := by
    intro σ h
    unfold f_X11_can_22 at h
    refine V_aload_n C (dt_at dt_X11_can_0 10 rfl) 0 rfl rfl ?_
    refine V_iconst C 1 (dt_at dt_X11_can_0 11 rfl) (by decide) ?_
    obtain ⟨r13, σ15, e14, h⟩ := bd2_s h
    refine cv_X11_error C ww_193 1 e14 (Nat.le_of_ble_eq_true rfl) (Nat.le_of_ble_eq_true rfl) z0 (dt_at dt_X11_can_0 12 rfl) ?_
    obtain ⟨e1_, e2_⟩ := pin2 h
    subst e1_; subst e2_
    exact V_iret C hR (dt_at dt_X11_can_0 13 rfl)
  refine V_aload_n C (dt_at dt_X11_can_0 0 rfl) 0 rfl rfl ?_
  refine g_X11_12_0 C (dt_at dt_X11_can_0 1 rfl) ?_
  refine V_iload_n C (dt_at dt_X11_can_0 2 rfl) 1 rfl rfl ?_
  obtain ⟨r1, e2, h⟩ := bd_s h
  refine cv_X4_hasPlayer C ww_209 x1 e2 (Nat.le_of_ble_eq_true rfl) (Nat.le_of_ble_eq_true rfl) z0 (dt_at dt_X11_can_0 3 rfl) ?_
  refine V_if_eq C 22 (dt_at dt_X11_can_0 4 rfl) (by decide) (fun q4 => ?_) (fun q4 => ?_)
  · have h := ite_t q4 h
    refine V_sub [0] (lv' := [(0, .ref (ga G 0))]) rfl ?_
    exact J_22 σ h
  · have h := ite_f q4 h
    refine V_aload_n C (dt_at dt_X11_can_0 5 rfl) 0 rfl rfl ?_
    refine g_X11_12_0 C (dt_at dt_X11_can_0 6 rfl) ?_
    refine V_iload_n C (dt_at dt_X11_can_0 7 rfl) 2 rfl rfl ?_
    obtain ⟨r5, e6, h⟩ := bd_s h
    refine cv_X4_hasPart C ww_215 x2 e6 (Nat.le_of_ble_eq_true rfl) (Nat.le_of_ble_eq_true rfl) z0 (dt_at dt_X11_can_0 8 rfl) ?_
    refine V_if_ne C 28 (dt_at dt_X11_can_0 9 rfl) (by decide) (fun q8 => ?_) (fun q8 => ?_)
    · have h := ite_f q8 h
      refine V_aload_n C (dt_at dt_X11_can_0 14 rfl) 0 rfl rfl ?_
      refine g_X11_21_0 C (dt_at dt_X11_can_0 15 rfl) ?_
      refine V_iload_n C (dt_at dt_X11_can_0 16 rfl) 1 rfl rfl ?_
      refine V_iload_n C (dt_at dt_X11_can_0 17 rfl) 2 rfl rfl ?_
      obtain ⟨r9, σ11, e10, h⟩ := bd2_s h
      refine cv_X10_isAble C ww_217 x1 x2 e10 (Nat.le_of_ble_eq_true rfl) (Nat.le_of_ble_eq_true rfl) z0 (dt_at dt_X11_can_0 18 rfl) ?_
      refine V_if_eq C 44 (dt_at dt_X11_can_0 19 rfl) (by decide) (fun q12 => ?_) (fun q12 => ?_)
      · have h := ite_t q12 h
        refine V_iconst C 0 (dt_at dt_X11_can_0 22 rfl) (by decide) ?_
        obtain ⟨e1_, e2_⟩ := pin2 h
        subst e1_; subst e2_
        exact V_iret C hR (dt_at dt_X11_can_0 23 rfl)
      · have h := ite_f q12 h
        refine V_iconst C 1 (dt_at dt_X11_can_0 20 rfl) (by decide) ?_
        refine V_goto C 45 (dt_at dt_X11_can_0 21 rfl) (by decide) ?_
        obtain ⟨e1_, e2_⟩ := pin2 h
        subst e1_; subst e2_
        exact V_iret C hR (dt_at dt_X11_can_0 23 rfl)
    · have h := ite_t q8 h
      refine V_sub [0] (lv' := [(0, .ref (ga G 0))]) rfl ?_
      exact J_22 σ h
theorem cv_X11_can (C : Ck X G cc own nL d) {idx : Nat} (hlk : Cond.methodLink own idx yX11_can ∈ gtb) (x1 : Int32) (x2 : Int32) {r0 : Int32} {σ0 : St} (e : f_X11_can x1 x2 σ = some (r0, σ0)) (hdd : 5 ≤ d) (hroom : (rest.map fun v => v.category).sum ≤ 8) (hcs : cells ≤ (xR X).cells ∧ slots ≤ (xR X).slots) (hd : decode cc pc = .ok (.invokevirtual idx, 3)) (k : V X G nL cells slots σ0 (pc + 3) lv (.int r0 :: rest)) : V X G nL cells slots σ pc lv (.int x2 :: .int x1 :: .ref (ga G 0) :: rest) := V_callV C (As := [.int x1, .int x2]) (c_X11_can X.2.1 G x1 x2 σ r0 σ0 e) cal_X11_can ww_219 ww_220 hlk rfl hdd (lt110 rfl) rfl rfl rfl hroom hcs hd k
theorem dt_X11_cast_0 : dtab cX11_cast [(0, .aload_n 0, 1), (1, .getfield 12, 3), (4, .iload_n 1, 1), (5, .invokevirtual 94, 3), (8, .ifCond .eq 14, 3), (11, .aload_n 0, 1), (12, .getfield 12, 3), (15, .iload_n 2, 1), (16, .invokevirtual 225, 3), (19, .ifCond .ne 9, 3), (22, .aload_n 0, 1), (23, .iconst 1, 1), (24, .invokevirtual 68, 3), (27, .ireturn, 1), (28, .aload_n 0, 1), (29, .getfield 12, 3), (32, .getfield 228, 3), (35, .iload_n 1, 1), (36, .iaload, 1), (37, .istore_n 3, 1), (38, .aload_n 0, 1), (39, .getfield 12, 3), (42, .getfield 228, 3), (45, .iload_n 1, 1), (46, .iload_n 2, 1), (47, .iastore, 1), (48, .iload_n 3, 1), (49, .ireturn, 1)] = true := by decide +kernel
theorem cal_X11_cast : Cal yX11_cast cX11_cast 4 (some .int) 2 := ⟨ww_221, ww_100, ⟨by decide, by decide, by decide⟩, by decide⟩
set_option maxHeartbeats 4000000 in
set_option maxRecDepth 100000 in
theorem c_X11_cast (l : Launch) (G : Gx) (x1 : Int32) (x2 : Int32) (σ : St) (r0 : Int32) (σ0 : St) (h : f_X11_cast x1 x2 σ = some (r0, σ0)) : MI l G yX11_cast cX11_cast 4 (some .int) 4 [.ref (ga G 0), .int x1, .int x2] σ (some (.int r0)) σ0 := by
  refine MI_of RX11 rfl (by decide) [(0, .ref (ga G 0)), (1, .int x1), (2, .int x2)] rfl (Nat.le_of_ble_eq_true rfl) ?_
  intro X hXl C hR
  unfold f_X11_cast at h
  have J_22 : ∀ (σ : St), f_X11_cast_22 σ = some (r0, σ0) → V X G 4 0 0 σ 22 [(0, .ref (ga G 0))] [] := by
    intro σ h
    unfold f_X11_cast_22 at h
    refine V_aload_n C (dt_at dt_X11_cast_0 10 rfl) 0 rfl rfl ?_
    refine V_iconst C 1 (dt_at dt_X11_cast_0 11 rfl) (by decide) ?_
    obtain ⟨r11, σ13, e12, h⟩ := bd2_s h
    refine cv_X11_error C ww_193 1 e12 (Nat.le_of_ble_eq_true rfl) (Nat.le_of_ble_eq_true rfl) z0 (dt_at dt_X11_cast_0 12 rfl) ?_
    obtain ⟨e1_, e2_⟩ := pin2 h
    subst e1_; subst e2_
    exact V_iret C hR (dt_at dt_X11_cast_0 13 rfl)
  refine V_aload_n C (dt_at dt_X11_cast_0 0 rfl) 0 rfl rfl ?_
  refine g_X11_12_0 C (dt_at dt_X11_cast_0 1 rfl) ?_
  refine V_iload_n C (dt_at dt_X11_cast_0 2 rfl) 1 rfl rfl ?_
  obtain ⟨r1, e2, h⟩ := bd_s h
  refine cv_X4_hasPart C ww_215 x1 e2 (Nat.le_of_ble_eq_true rfl) (Nat.le_of_ble_eq_true rfl) z0 (dt_at dt_X11_cast_0 3 rfl) ?_
  refine V_if_eq C 22 (dt_at dt_X11_cast_0 4 rfl) (by decide) (fun q4 => ?_) (fun q4 => ?_)
  · have h := ite_t q4 h
    refine V_sub [0] (lv' := [(0, .ref (ga G 0))]) rfl ?_
    exact J_22 σ h
  · have h := ite_f q4 h
    refine V_aload_n C (dt_at dt_X11_cast_0 5 rfl) 0 rfl rfl ?_
    refine g_X11_12_0 C (dt_at dt_X11_cast_0 6 rfl) ?_
    refine V_iload_n C (dt_at dt_X11_cast_0 7 rfl) 2 rfl rfl ?_
    obtain ⟨r5, e6, h⟩ := bd_s h
    refine cv_X4_isPlayerOrNobody C ww_195 x2 e6 (Nat.le_of_ble_eq_true rfl) (Nat.le_of_ble_eq_true rfl) z0 (dt_at dt_X11_cast_0 8 rfl) ?_
    refine V_if_ne C 28 (dt_at dt_X11_cast_0 9 rfl) (by decide) (fun q8 => ?_) (fun q8 => ?_)
    · have h := ite_f q8 h
      refine V_aload_n C (dt_at dt_X11_cast_0 14 rfl) 0 rfl rfl ?_
      refine g_X11_12_0 C (dt_at dt_X11_cast_0 15 rfl) ?_
      refine g_X11_228_1 C (dt_at dt_X11_cast_0 16 rfl) ?_
      refine V_iload_n C (dt_at dt_X11_cast_0 17 rfl) 1 rfl rfl ?_
      obtain ⟨h9, h⟩ := chk_s h
      refine al_11 C h9 (dt_at dt_X11_cast_0 18 rfl) ?_
      refine V_istore_n C [1, 2, 3, 0] (lv' := [(0, .ref (ga G 0)), (1, .int x1), (2, .int x2), (3, .int (rd σ 11 x1))]) (dt_at dt_X11_cast_0 19 rfl) rfl (by decide) rfl ?_
      refine V_aload_n C (dt_at dt_X11_cast_0 20 rfl) 0 rfl rfl ?_
      refine g_X11_12_0 C (dt_at dt_X11_cast_0 21 rfl) ?_
      refine g_X11_228_1 C (dt_at dt_X11_cast_0 22 rfl) ?_
      refine V_iload_n C (dt_at dt_X11_cast_0 23 rfl) 1 rfl rfl ?_
      refine V_iload_n C (dt_at dt_X11_cast_0 24 rfl) 2 rfl rfl ?_
      obtain ⟨σ10, eσ10, h⟩ := nm_s h
      refine V_st eσ10 ?_ (fun k => as_11 C h9 (dt_at dt_X11_cast_0 25 rfl) k)
      refine V_iload_n C (dt_at dt_X11_cast_0 26 rfl) 3 rfl rfl ?_
      obtain ⟨e1_, e2_⟩ := pin2 h
      subst e1_; subst e2_
      exact V_iret C hR (dt_at dt_X11_cast_0 27 rfl)
    · have h := ite_t q8 h
      refine V_sub [0] (lv' := [(0, .ref (ga G 0))]) rfl ?_
      exact J_22 σ h
theorem cv_X11_cast (C : Ck X G cc own nL d) {idx : Nat} (hlk : Cond.methodLink own idx yX11_cast ∈ gtb) (x1 : Int32) (x2 : Int32) {r0 : Int32} {σ0 : St} (e : f_X11_cast x1 x2 σ = some (r0, σ0)) (hdd : 5 ≤ d) (hroom : (rest.map fun v => v.category).sum ≤ 8) (hcs : cells ≤ (xR X).cells ∧ slots ≤ (xR X).slots) (hd : decode cc pc = .ok (.invokevirtual idx, 3)) (k : V X G nL cells slots σ0 (pc + 3) lv (.int r0 :: rest)) : V X G nL cells slots σ pc lv (.int x2 :: .int x1 :: .ref (ga G 0) :: rest) := V_callV C (As := [.int x1, .int x2]) (c_X11_cast X.2.1 G x1 x2 σ r0 σ0 e) cal_X11_cast ww_222 ww_223 hlk rfl hdd (lt110 rfl) rfl rfl rfl hroom hcs hd k
theorem dt_X8_countWithOneMore_0 : dtab cX8_countWithOneMore [(0, .aload_n 1, 1), (1, .iconst 0, 1), (2, .iload_n 2, 1), (3, .iconst 1, 1), (4, .iadd, 1), (5, .iconst 0, 1), (6, .invokestatic 136, 3), (9, .iconst 0, 1), (10, .istore_n 3, 1), (11, .iload_n 3, 1), (12, .iload_n 2, 1), (13, .if_icmp .gt 71, 3), (16, .aload_n 0, 1), (17, .getfield 30, 3), (20, .iload_n 3, 1), (21, .iaload, 1), (22, .ldc 97, 2), (24, .if_icmp .ge 54, 3), (27, .iload_n 2, 1), (28, .iload_n 3, 1), (29, .ixor, 1), (30, .istore 4, 2), (32, .iload 4, 2), (34, .istore 5, 2), (36, .iload 5, 2), (38, .ifCond .lt 40, 3), (41, .aload_n 1, 1), (42, .iload_n 3, 1), (43, .iload 5, 2), (45, .ior, 1), (46, .dup2, 1), (47, .iaload, 1), (48, .aload_n 0, 1), (49, .getfield 36, 3), (52, .iload 5, 2), (54, .iaload, 1), (55, .iadd, 1), (56, .iastore, 1), (57, .iload 5, 2), (59, .ifCond .ne 7, 3)] = true := by decide +kernel
theorem dt_X8_countWithOneMore_1 : dtab cX8_countWithOneMore [(62, .iconst (-1), 1), (63, .goto 10, 3), (66, .iload 5, 2), (68, .iconst 1, 1), (69, .isub, 1), (70, .iload 4, 2), (72, .iand, 1), (73, .istore 5, 2), (75, .goto (-39), 3), (78, .iinc 3 1, 3), (81, .goto (-70), 3), (84, .aload_n 0, 1), (85, .aload_n 1, 1), (86, .putfield 36, 3), (89, .return_, 1)] = true := by decide +kernel
theorem cal_X8_countWithOneMore : Cal yX8_countWithOneMore cX8_countWithOneMore 6 none 2 := ⟨ww_225, ww_129, ⟨by decide, by decide, by decide⟩, by decide⟩
set_option maxHeartbeats 4000000 in
set_option maxRecDepth 100000 in
theorem c_X8_countWithOneMore (l : Launch) (G : Gx) (c1 : Nat) (x2 : Int32) (σ : St) (σ0 : St) (h : f_X8_countWithOneMore c1 x2 σ = some σ0) : MI l G yX8_countWithOneMore cX8_countWithOneMore 6 none 3 [.ref (ga G 4), .ref (ga G c1), .int x2] σ none σ0 := by
  refine MI_of RX8 rfl (by decide) [(0, .ref (ga G 4)), (1, .ref (ga G c1)), (2, .int x2)] rfl (Nat.le_of_ble_eq_true rfl) ?_
  intro X hXl C hR
  unfold f_X8_countWithOneMore at h
  obtain ⟨hc_c1, h⟩ := chk_s h
  have J_84 : ∀ (σ : St), f_X8_countWithOneMore_84 c1 σ = some σ0 → V X G 6 0 0 σ 84 [(0, .ref (ga G 4)), (1, .ref (ga G c1))] [] := by
    intro σ h
    unfold f_X8_countWithOneMore_84 at h
    refine V_aload_n C (dt_at dt_X8_countWithOneMore_1 11 rfl) 0 rfl rfl ?_
    refine V_aload_n C (dt_at dt_X8_countWithOneMore_1 12 rfl) 1 rfl rfl ?_
    obtain ⟨h16, h⟩ := chk_s h
    obtain ⟨σ15, eσ15, h⟩ := nm_s h
    refine V_st eσ15 ?_ (fun k => p_X8_36_4 C (of_decide_eq_true h16) (dt_at dt_X8_countWithOneMore_1 13 rfl) k)
    have e1_ := Option.some.inj h
    subst e1_
    exact V_vret C hR (dt_at dt_X8_countWithOneMore_1 14 rfl)
  have J_11 : ∀ (x3 : Int32) (σ : St), f_X8_countWithOneMore_11 c1 x2 x3 σ = some σ0 → V X G 6 0 0 σ 11 [(0, .ref (ga G 4)), (1, .ref (ga G c1)), (2, .int x2), (3, .int x3)] [] := by
    intro x3 σ h
    refine it_v (P := fun z : Int32 × St => V X G 6 0 0 z.2 11 [(0, .ref (ga G 4)), (1, .ref (ga G c1)), (2, .int x2), (3, .int z.1)] []) ?_ (x3, σ) h
    clear h
    intro z w_11 h ih_11 ex_11
    obtain ⟨x3, σ⟩ := z
    have h : b_X8_countWithOneMore_11 c1 x2 x3 σ = some w_11 := h
    show V X G 6 0 0 σ 11 [(0, .ref (ga G 4)), (1, .ref (ga G c1)), (2, .int x2), (3, .int x3)] []
    unfold b_X8_countWithOneMore_11 at h
    have J_78 : ∀ (x3 : Int32) (σ : St), f_X8_countWithOneMore_78 c1 x2 x3 σ = some w_11 → V X G 6 0 0 σ 78 [(0, .ref (ga G 4)), (1, .ref (ga G c1)), (2, .int x2), (3, .int x3)] [] := by
      intro x3 σ h
      unfold f_X8_countWithOneMore_78 at h
      refine V_iinc C (x3 + 1) 3 [1, 2, 3, 0] (lv' := [(0, .ref (ga G 4)), (1, .ref (ga G c1)), (2, .int x2), (3, .int (x3 + 1))]) (dt_at dt_X8_countWithOneMore_1 9 rfl) rfl (by rfl) (by decide) rfl ?_
      refine V_goto C 11 (dt_at dt_X8_countWithOneMore_1 10 rfl) (by decide) ?_
      exact ih_11 ((x3 + 1), σ) (Option.some.inj h).symm
    have J_36 : ∀ (x3 : Int32) (x4 : Int32) (x5 : Int32) (σ : St), f_X8_countWithOneMore_36 c1 x2 x3 x4 x5 σ = some w_11 → V X G 6 0 0 σ 36 [(0, .ref (ga G 4)), (1, .ref (ga G c1)), (2, .int x2), (3, .int x3), (4, .int x4), (5, .int x5)] [] := by
      intro x3 x4 x5 σ h
      refine it_v (P := fun z : Int32 × St => V X G 6 0 0 z.2 36 [(0, .ref (ga G 4)), (1, .ref (ga G c1)), (2, .int x2), (3, .int x3), (4, .int x4), (5, .int z.1)] []) ?_ (x5, σ) h
      clear h
      intro z w_36 h ih_36 ex_36
      obtain ⟨x5, σ⟩ := z
      have h : b_X8_countWithOneMore_36 c1 x2 x3 x4 x5 σ = some w_36 := h
      show V X G 6 0 0 σ 36 [(0, .ref (ga G 4)), (1, .ref (ga G c1)), (2, .int x2), (3, .int x3), (4, .int x4), (5, .int x5)] []
      unfold b_X8_countWithOneMore_36 at h
      have J_73 : ∀ (s0 : Int32) (σ : St), f_X8_countWithOneMore_73 c1 x2 x3 x4 s0 σ = some w_36 → V X G 6 0 0 σ 73 [(0, .ref (ga G 4)), (1, .ref (ga G c1)), (2, .int x2), (3, .int x3), (4, .int x4)] [.int s0] := by
        intro s0 σ h
        unfold f_X8_countWithOneMore_73 at h
        refine V_istore C [1, 2, 3, 4, 5, 0] (lv' := [(0, .ref (ga G 4)), (1, .ref (ga G c1)), (2, .int x2), (3, .int x3), (4, .int x4), (5, .int s0)]) (dt_at dt_X8_countWithOneMore_1 7 rfl) (by decide) rfl ?_
        refine V_goto C 36 (dt_at dt_X8_countWithOneMore_1 8 rfl) (by decide) ?_
        exact ih_36 (s0, σ) (Option.some.inj h).symm
      refine V_iload C (dt_at dt_X8_countWithOneMore_0 24 rfl) 5 rfl ?_
      refine V_if_lt C 78 (dt_at dt_X8_countWithOneMore_0 25 rfl) (by decide) (fun q8 => ?_) (fun q8 => ?_)
      · have h := ite_t q8 h
        refine V_sub [0, 1, 2, 3] (lv' := [(0, .ref (ga G 4)), (1, .ref (ga G c1)), (2, .int x2), (3, .int x3)]) rfl ?_
        obtain ⟨t9, h, e_36⟩ := map_s h
        have e_36 := ex_36 _ e_36
        rw [e_36] at h
        exact J_78 x3 σ h
      · have h := ite_f q8 h
        refine V_aload_n C (dt_at dt_X8_countWithOneMore_0 26 rfl) 1 rfl rfl ?_
        refine V_iload_n C (dt_at dt_X8_countWithOneMore_0 27 rfl) 3 rfl rfl ?_
        refine V_iload C (dt_at dt_X8_countWithOneMore_0 28 rfl) 5 rfl ?_
        refine V_ior C (dt_at dt_X8_countWithOneMore_0 29 rfl) ?_
        refine V_dup2 C (dt_at dt_X8_countWithOneMore_0 30 rfl) rfl rfl ?_
        obtain ⟨h10, h⟩ := chk_s h
        refine V_iald C (K := c1) (isLeast_lt hc_c1) (lay_least G hc_c1 (_) _) h10 (dt_at dt_X8_countWithOneMore_0 31 rfl) ?_
        refine V_aload_n C (dt_at dt_X8_countWithOneMore_0 32 rfl) 0 rfl rfl ?_
        refine g_X8_36_4 C (dt_at dt_X8_countWithOneMore_0 33 rfl) ?_
        obtain ⟨h11, h⟩ := chk_s h
        refine V_iload C (dt_at dt_X8_countWithOneMore_0 34 rfl) 5 rfl ?_
        obtain ⟨h12, h⟩ := chk_s h
        refine V_iald C (K := (rc σ 4 9)) (isLeast_lt h11) (lay_least G h11 (_) _) h12 (dt_at dt_X8_countWithOneMore_0 35 rfl) ?_
        refine V_iadd C (dt_at dt_X8_countWithOneMore_0 36 rfl) ?_
        obtain ⟨σ13, eσ13, h⟩ := nm_s h
        refine V_st eσ13 ?_ (fun k => V_iast C (K := c1) (isLeast_lt hc_c1) (fun f => (lay_least G hc_c1 f _)) h10 (dt_at dt_X8_countWithOneMore_0 37 rfl) k)
        refine V_iload C (dt_at dt_X8_countWithOneMore_0 38 rfl) 5 rfl ?_
        refine V_if_ne C 66 (dt_at dt_X8_countWithOneMore_0 39 rfl) (by decide) (fun q14 => ?_) (fun q14 => ?_)
        · have h := ite_f q14 h
          refine V_iload C (dt_at dt_X8_countWithOneMore_1 2 rfl) 5 rfl ?_
          refine V_iconst C 1 (dt_at dt_X8_countWithOneMore_1 3 rfl) (by decide) ?_
          refine V_isub C (dt_at dt_X8_countWithOneMore_1 4 rfl) ?_
          refine V_iload C (dt_at dt_X8_countWithOneMore_1 5 rfl) 4 rfl ?_
          refine V_iand C (dt_at dt_X8_countWithOneMore_1 6 rfl) ?_
          refine V_sub [0, 1, 2, 3, 4] (lv' := [(0, .ref (ga G 4)), (1, .ref (ga G c1)), (2, .int x2), (3, .int x3), (4, .int x4)]) rfl ?_
          exact J_73 ((x5 - 1) &&& x4) σ13 h
        · have h := ite_t q14 h
          refine V_iconst C (-1) (dt_at dt_X8_countWithOneMore_1 0 rfl) (by decide) ?_
          refine V_goto C 73 (dt_at dt_X8_countWithOneMore_1 1 rfl) (by decide) ?_
          refine V_sub [0, 1, 2, 3, 4] (lv' := [(0, .ref (ga G 4)), (1, .ref (ga G c1)), (2, .int x2), (3, .int x3), (4, .int x4)]) rfl ?_
          exact J_73 (-1) σ13 h
    refine V_iload_n C (dt_at dt_X8_countWithOneMore_0 9 rfl) 3 rfl rfl ?_
    refine V_iload_n C (dt_at dt_X8_countWithOneMore_0 10 rfl) 2 rfl rfl ?_
    refine V_icmp_gt C 84 (dt_at dt_X8_countWithOneMore_0 11 rfl) (by decide) (fun q4 => ?_) (fun q4 => ?_)
    · have h := ite_t q4 h
      refine V_sub [0, 1] (lv' := [(0, .ref (ga G 4)), (1, .ref (ga G c1))]) rfl ?_
      obtain ⟨t5, h, e_11⟩ := map_s h
      have e_11 := ex_11 _ e_11
      rw [e_11] at h
      exact J_84 σ h
    · have h := ite_f q4 h
      refine V_aload_n C (dt_at dt_X8_countWithOneMore_0 12 rfl) 0 rfl rfl ?_
      refine g_X8_30_4 C (dt_at dt_X8_countWithOneMore_0 13 rfl) ?_
      refine V_iload_n C (dt_at dt_X8_countWithOneMore_0 14 rfl) 3 rfl rfl ?_
      obtain ⟨h6, h⟩ := chk_s h
      refine al_37 C h6 (dt_at dt_X8_countWithOneMore_0 15 rfl) ?_
      refine V_ldc C 100000000 (dt_at dt_X8_countWithOneMore_0 16 rfl) ww_135 ?_
      refine V_icmp_ge C 78 (dt_at dt_X8_countWithOneMore_0 17 rfl) (by decide) (fun q7 => ?_) (fun q7 => ?_)
      · have h := ite_f q7 h
        exact J_78 x3 σ h
      · have h := ite_t q7 h
        refine V_iload_n C (dt_at dt_X8_countWithOneMore_0 18 rfl) 2 rfl rfl ?_
        refine V_iload_n C (dt_at dt_X8_countWithOneMore_0 19 rfl) 3 rfl rfl ?_
        refine V_ixor C (dt_at dt_X8_countWithOneMore_0 20 rfl) ?_
        refine V_istore C [1, 2, 3, 4, 0] (lv' := [(0, .ref (ga G 4)), (1, .ref (ga G c1)), (2, .int x2), (3, .int x3), (4, .int (x2 ^^^ x3))]) (dt_at dt_X8_countWithOneMore_0 21 rfl) (by decide) rfl ?_
        refine V_iload C (dt_at dt_X8_countWithOneMore_0 22 rfl) 4 rfl ?_
        refine V_istore C [1, 2, 3, 4, 5, 0] (lv' := [(0, .ref (ga G 4)), (1, .ref (ga G c1)), (2, .int x2), (3, .int x3), (4, .int (x2 ^^^ x3)), (5, .int (x2 ^^^ x3))]) (dt_at dt_X8_countWithOneMore_0 23 rfl) (by decide) rfl ?_
        exact J_36 x3 (x2 ^^^ x3) (x2 ^^^ x3) σ h
  refine V_aload_n C (dt_at dt_X8_countWithOneMore_0 0 rfl) 1 rfl rfl ?_
  refine V_iconst C 0 (dt_at dt_X8_countWithOneMore_0 1 rfl) (by decide) ?_
  refine V_iload_n C (dt_at dt_X8_countWithOneMore_0 2 rfl) 2 rfl rfl ?_
  refine V_iconst C 1 (dt_at dt_X8_countWithOneMore_0 3 rfl) (by decide) ?_
  refine V_iadd C (dt_at dt_X8_countWithOneMore_0 4 rfl) ?_
  refine V_iconst C 0 (dt_at dt_X8_countWithOneMore_0 5 rfl) (by decide) ?_
  obtain ⟨σ3, e2, h⟩ := bd_s h
  refine cv_J7_fill_fda19 C ww_156 c1 0 (x2 + 1) 0 e2 (Nat.le_of_ble_eq_true rfl) (Nat.le_of_ble_eq_true rfl) z0 (dt_at dt_X8_countWithOneMore_0 6 rfl) ?_
  refine V_iconst C 0 (dt_at dt_X8_countWithOneMore_0 7 rfl) (by decide) ?_
  refine V_istore_n C [1, 2, 3, 0] (lv' := [(0, .ref (ga G 4)), (1, .ref (ga G c1)), (2, .int x2), (3, .int 0)]) (dt_at dt_X8_countWithOneMore_0 8 rfl) rfl (by decide) rfl ?_
  exact J_11 0 σ3 h
theorem cv_X8_countWithOneMore (C : Ck X G cc own nL d) {idx : Nat} (hlk : Cond.methodLink own idx yX8_countWithOneMore ∈ gtb) (c1 : Nat) (x2 : Int32) {σ0 : St} (e : f_X8_countWithOneMore c1 x2 σ = some σ0) (hdd : 4 ≤ d) (hroom : (rest.map fun v => v.category).sum ≤ 8) (hcs : cells ≤ (xR X).cells ∧ slots ≤ (xR X).slots) (hd : decode cc pc = .ok (.invokevirtual idx, 3)) (k : V X G nL cells slots σ0 (pc + 3) lv (rest)) : V X G nL cells slots σ pc lv (.int x2 :: .ref (ga G c1) :: .ref (ga G 4) :: rest) := V_callV C (As := [.ref (ga G c1), .int x2]) (c_X8_countWithOneMore X.2.1 G c1 x2 σ σ0 e) cal_X8_countWithOneMore ww_226 ww_227 hlk rfl hdd (lt110 rfl) rfl rfl rfl hroom hcs hd k
theorem dt_X11_isPair_0 : dtab cX11_isPair [(0, .aload_n 0, 1), (1, .getfield 12, 3), (4, .iload_n 1, 1), (5, .invokevirtual 94, 3), (8, .ifCond .eq 23, 3), (11, .aload_n 0, 1), (12, .getfield 12, 3), (15, .iload_n 2, 1), (16, .invokevirtual 94, 3), (19, .ifCond .eq 12, 3), (22, .iload_n 1, 1), (23, .iload_n 2, 1), (24, .if_icmp .eq 7, 3), (27, .iconst 1, 1), (28, .goto 4, 3), (31, .iconst 0, 1), (32, .ireturn, 1)] = true := by decide +kernel
theorem cal_X11_isPair : Cal yX11_isPair cX11_isPair 3 (some .boolean) 2 := ⟨ww_228, ww_100, ⟨by decide, by decide, by decide⟩, by decide⟩
set_option maxHeartbeats 4000000 in
set_option maxRecDepth 100000 in
theorem c_X11_isPair (l : Launch) (G : Gx) (x1 : Int32) (x2 : Int32) (σ : St) (r0 : Int32) (h : f_X11_isPair x1 x2 σ = some r0) : MI l G yX11_isPair cX11_isPair 3 (some .boolean) 3 [.ref (ga G 0), .int x1, .int x2] σ (some (.int r0)) σ := by
  refine MI_of RX11 rfl (by decide) [(0, .ref (ga G 0)), (1, .int x1), (2, .int x2)] rfl (Nat.le_of_ble_eq_true rfl) ?_
  intro X hXl C hR
  unfold f_X11_isPair at h
  refine V_aload_n C (dt_at dt_X11_isPair_0 0 rfl) 0 rfl rfl ?_
  refine g_X11_12_0 C (dt_at dt_X11_isPair_0 1 rfl) ?_
  refine V_iload_n C (dt_at dt_X11_isPair_0 2 rfl) 1 rfl rfl ?_
  obtain ⟨r1, e2, h⟩ := bd_s h
  refine cv_X4_hasPart C ww_215 x1 e2 (Nat.le_of_ble_eq_true rfl) (Nat.le_of_ble_eq_true rfl) z0 (dt_at dt_X11_isPair_0 3 rfl) ?_
  refine V_if_eq C 31 (dt_at dt_X11_isPair_0 4 rfl) (by decide) (fun q4 => ?_) (fun q4 => ?_)
  · have h := ite_t q4 h
    refine V_iconst C 0 (dt_at dt_X11_isPair_0 15 rfl) (by decide) ?_
    have e1_ := Option.some.inj h
    subst e1_
    exact V_zret C rfl hR (dt_at dt_X11_isPair_0 16 rfl)
  · have h := ite_f q4 h
    refine V_aload_n C (dt_at dt_X11_isPair_0 5 rfl) 0 rfl rfl ?_
    refine g_X11_12_0 C (dt_at dt_X11_isPair_0 6 rfl) ?_
    refine V_iload_n C (dt_at dt_X11_isPair_0 7 rfl) 2 rfl rfl ?_
    obtain ⟨r5, e6, h⟩ := bd_s h
    refine cv_X4_hasPart C ww_215 x2 e6 (Nat.le_of_ble_eq_true rfl) (Nat.le_of_ble_eq_true rfl) z0 (dt_at dt_X11_isPair_0 8 rfl) ?_
    refine V_if_eq C 31 (dt_at dt_X11_isPair_0 9 rfl) (by decide) (fun q8 => ?_) (fun q8 => ?_)
    · have h := ite_t q8 h
      refine V_iconst C 0 (dt_at dt_X11_isPair_0 15 rfl) (by decide) ?_
      have e1_ := Option.some.inj h
      subst e1_
      exact V_zret C rfl hR (dt_at dt_X11_isPair_0 16 rfl)
    · have h := ite_f q8 h
      refine V_iload_n C (dt_at dt_X11_isPair_0 10 rfl) 1 rfl rfl ?_
      refine V_iload_n C (dt_at dt_X11_isPair_0 11 rfl) 2 rfl rfl ?_
      refine V_icmp_eq C 31 (dt_at dt_X11_isPair_0 12 rfl) (by decide) (fun q9 => ?_) (fun q9 => ?_)
      · have h := ite_t q9 h
        refine V_iconst C 0 (dt_at dt_X11_isPair_0 15 rfl) (by decide) ?_
        have e1_ := Option.some.inj h
        subst e1_
        exact V_zret C rfl hR (dt_at dt_X11_isPair_0 16 rfl)
      · have h := ite_f q9 h
        refine V_iconst C 1 (dt_at dt_X11_isPair_0 13 rfl) (by decide) ?_
        refine V_goto C 32 (dt_at dt_X11_isPair_0 14 rfl) (by decide) ?_
        have e1_ := Option.some.inj h
        subst e1_
        exact V_zret C rfl hR (dt_at dt_X11_isPair_0 16 rfl)
theorem cv_X11_isPair (C : Ck X G cc own nL d) {idx : Nat} (hlk : Cond.methodLink own idx yX11_isPair ∈ gtb) (x1 : Int32) (x2 : Int32) {r0 : Int32} (e : f_X11_isPair x1 x2 σ = some r0) (hdd : 4 ≤ d) (hroom : (rest.map fun v => v.category).sum ≤ 8) (hcs : cells ≤ (xR X).cells ∧ slots ≤ (xR X).slots) (hd : decode cc pc = .ok (.invokevirtual idx, 3)) (k : V X G nL cells slots σ (pc + 3) lv (.int r0 :: rest)) : V X G nL cells slots σ pc lv (.int x2 :: .int x1 :: .ref (ga G 0) :: rest) := V_callV C (As := [.int x1, .int x2]) (c_X11_isPair X.2.1 G x1 x2 σ r0 e) cal_X11_isPair ww_229 ww_230 hlk rfl hdd (lt110 rfl) rfl rfl rfl hroom hcs hd k
theorem dt_X11_change_0 : dtab cX11_change [(0, .aload_n 0, 1), (1, .iload_n 1, 1), (2, .iload_n 2, 1), (3, .invokevirtual 212, 3), (6, .ifCond .eq 11, 3), (9, .iload_n 3, 1), (10, .iconst 2, 1), (11, .invokestatic 79, 3), (14, .ifCond .ne 9, 3), (17, .aload_n 0, 1), (18, .iconst 1, 1), (19, .invokevirtual 68, 3), (22, .ireturn, 1), (23, .aload_n 0, 1), (24, .getfield 21, 3), (27, .iload_n 1, 1), (28, .iload_n 2, 1), (29, .iload_n 3, 1), (30, .invokevirtual 215, 3), (33, .ireturn, 1)] = true := by decide +kernel
theorem cal_X11_change : Cal yX11_change cX11_change 4 (some .int) 3 := ⟨ww_233, ww_100, ⟨by decide, by decide, by decide⟩, by decide⟩
set_option maxHeartbeats 4000000 in
set_option maxRecDepth 100000 in
theorem c_X11_change (l : Launch) (G : Gx) (x1 : Int32) (x2 : Int32) (x3 : Int32) (σ : St) (r0 : Int32) (σ0 : St) (h : f_X11_change x1 x2 x3 σ = some (r0, σ0)) : MI l G yX11_change cX11_change 4 (some .int) 4 [.ref (ga G 0), .int x1, .int x2, .int x3] σ (some (.int r0)) σ0 := by
  refine MI_of RX11 rfl (by decide) [(0, .ref (ga G 0)), (1, .int x1), (2, .int x2), (3, .int x3)] rfl (Nat.le_of_ble_eq_true rfl) ?_
  intro X hXl C hR
  unfold f_X11_change at h
  have J_17 : ∀ (σ : St), f_X11_change_17 σ = some (r0, σ0) → V X G 4 0 0 σ 17 [(0, .ref (ga G 0))] [] := by
    intro σ h
    unfold f_X11_change_17 at h
    refine V_aload_n C (dt_at dt_X11_change_0 9 rfl) 0 rfl rfl ?_
    refine V_iconst C 1 (dt_at dt_X11_change_0 10 rfl) (by decide) ?_
    obtain ⟨r12, σ14, e13, h⟩ := bd2_s h
    refine cv_X11_error C ww_193 1 e13 (Nat.le_of_ble_eq_true rfl) (Nat.le_of_ble_eq_true rfl) z0 (dt_at dt_X11_change_0 11 rfl) ?_
    obtain ⟨e1_, e2_⟩ := pin2 h
    subst e1_; subst e2_
    exact V_iret C hR (dt_at dt_X11_change_0 12 rfl)
  refine V_aload_n C (dt_at dt_X11_change_0 0 rfl) 0 rfl rfl ?_
  refine V_iload_n C (dt_at dt_X11_change_0 1 rfl) 1 rfl rfl ?_
  refine V_iload_n C (dt_at dt_X11_change_0 2 rfl) 2 rfl rfl ?_
  obtain ⟨r1, e2, h⟩ := bd_s h
  refine cv_X11_isPair C ww_231 x1 x2 e2 (Nat.le_of_ble_eq_true rfl) (Nat.le_of_ble_eq_true rfl) z0 (dt_at dt_X11_change_0 3 rfl) ?_
  refine V_if_eq C 17 (dt_at dt_X11_change_0 4 rfl) (by decide) (fun q4 => ?_) (fun q4 => ?_)
  · have h := ite_t q4 h
    refine V_sub [0] (lv' := [(0, .ref (ga G 0))]) rfl ?_
    exact J_17 σ h
  · have h := ite_f q4 h
    refine V_iload_n C (dt_at dt_X11_change_0 5 rfl) 3 rfl rfl ?_
    refine V_iconst C 2 (dt_at dt_X11_change_0 6 rfl) (by decide) ?_
    obtain ⟨r5, e6, h⟩ := bd_s h
    refine cv_X11_isWithin C ww_186 x3 2 e6 (Nat.le_of_ble_eq_true rfl) (Nat.le_of_ble_eq_true rfl) z0 (dt_at dt_X11_change_0 7 rfl) ?_
    refine V_if_ne C 23 (dt_at dt_X11_change_0 8 rfl) (by decide) (fun q8 => ?_) (fun q8 => ?_)
    · have h := ite_f q8 h
      refine V_aload_n C (dt_at dt_X11_change_0 13 rfl) 0 rfl rfl ?_
      refine g_X11_21_0 C (dt_at dt_X11_change_0 14 rfl) ?_
      refine V_iload_n C (dt_at dt_X11_change_0 15 rfl) 1 rfl rfl ?_
      refine V_iload_n C (dt_at dt_X11_change_0 16 rfl) 2 rfl rfl ?_
      refine V_iload_n C (dt_at dt_X11_change_0 17 rfl) 3 rfl rfl ?_
      obtain ⟨r9, σ11, e10, h⟩ := bd2_s h
      refine cv_X10_changeOf C ww_232 x1 x2 x3 e10 (Nat.le_of_ble_eq_true rfl) (Nat.le_of_ble_eq_true rfl) z0 (dt_at dt_X11_change_0 18 rfl) ?_
      obtain ⟨e1_, e2_⟩ := pin2 h
      subst e1_; subst e2_
      exact V_iret C hR (dt_at dt_X11_change_0 19 rfl)
    · have h := ite_t q8 h
      refine V_sub [0] (lv' := [(0, .ref (ga G 0))]) rfl ?_
      exact J_17 σ h
theorem cv_X11_change (C : Ck X G cc own nL d) {idx : Nat} (hlk : Cond.methodLink own idx yX11_change ∈ gtb) (x1 : Int32) (x2 : Int32) (x3 : Int32) {r0 : Int32} {σ0 : St} (e : f_X11_change x1 x2 x3 σ = some (r0, σ0)) (hdd : 5 ≤ d) (hroom : (rest.map fun v => v.category).sum ≤ 8) (hcs : cells ≤ (xR X).cells ∧ slots ≤ (xR X).slots) (hd : decode cc pc = .ok (.invokevirtual idx, 3)) (k : V X G nL cells slots σ0 (pc + 3) lv (.int r0 :: rest)) : V X G nL cells slots σ pc lv (.int x3 :: .int x2 :: .int x1 :: .ref (ga G 0) :: rest) := V_callV C (As := [.int x1, .int x2, .int x3]) (c_X11_change X.2.1 G x1 x2 x3 σ r0 σ0 e) cal_X11_change ww_234 ww_235 hlk rfl hdd (lt110 rfl) rfl rfl rfl hroom hcs hd k
theorem dt_X4_allPlayers_0 : dtab cX4_allPlayers [(0, .iconst 1, 1), (1, .aload_n 0, 1), (2, .getfield 21, 3), (5, .ishl, 1), (6, .iconst 1, 1), (7, .isub, 1), (8, .ireturn, 1)] = true := by decide +kernel
theorem cal_X4_allPlayers : Cal yX4_allPlayers cX4_allPlayers 1 (some .int) 0 := ⟨ww_236, ww_92, ⟨by decide, by decide, by decide⟩, by decide⟩
set_option maxHeartbeats 4000000 in
set_option maxRecDepth 100000 in
theorem c_X4_allPlayers (l : Launch) (G : Gx) (σ : St) (r0 : Int32) (h : f_X4_allPlayers σ = some r0) : MI l G yX4_allPlayers cX4_allPlayers 1 (some .int) 1 [.ref (ga G 1)] σ (some (.int r0)) σ := by
  refine MI_of RX4 rfl (by decide) [(0, .ref (ga G 1))] rfl (Nat.le_of_ble_eq_true rfl) ?_
  intro X hXl C hR
  unfold f_X4_allPlayers at h
  refine V_iconst C 1 (dt_at dt_X4_allPlayers_0 0 rfl) (by decide) ?_
  refine V_aload_n C (dt_at dt_X4_allPlayers_0 1 rfl) 0 rfl rfl ?_
  refine g_X4_21_1 C (dt_at dt_X4_allPlayers_0 2 rfl) ?_
  refine V_ishl C (dt_at dt_X4_allPlayers_0 3 rfl) ?_
  refine V_iconst C 1 (dt_at dt_X4_allPlayers_0 4 rfl) (by decide) ?_
  refine V_isub C (dt_at dt_X4_allPlayers_0 5 rfl) ?_
  have e1_ := Option.some.inj h
  subst e1_
  exact V_iret C hR (dt_at dt_X4_allPlayers_0 6 rfl)
theorem cv_X4_allPlayers (C : Ck X G cc own nL d) {idx : Nat} (hlk : Cond.methodLink own idx yX4_allPlayers ∈ gtb) {r0 : Int32} (e : f_X4_allPlayers σ = some r0) (hdd : 2 ≤ d) (hroom : (rest.map fun v => v.category).sum ≤ 8) (hcs : cells ≤ (xR X).cells ∧ slots ≤ (xR X).slots) (hd : decode cc pc = .ok (.invokevirtual idx, 3)) (k : V X G nL cells slots σ (pc + 3) lv (.int r0 :: rest)) : V X G nL cells slots σ pc lv (.ref (ga G 1) :: rest) := V_callV C (As := []) (c_X4_allPlayers X.2.1 G  σ r0 e) cal_X4_allPlayers ww_237 ww_238 hlk rfl hdd (lt110 rfl) rfl rfl rfl hroom hcs hd k
theorem dt_X4_usesWithText_0 : dtab cX4_usesWithText [(0, .iconst 0, 1), (1, .istore_n 1, 1), (2, .iconst 0, 1), (3, .istore_n 2, 1), (4, .iload_n 2, 1), (5, .iconst 3, 1), (6, .if_icmp .ge 24, 3), (9, .aload_n 0, 1), (10, .getfield 67, 3), (13, .iload_n 2, 1), (14, .aaload, 1), (15, .getfield 105, 3), (18, .ifCond .le 6, 3), (21, .iinc 1 1, 3), (24, .iinc 2 1, 3), (27, .goto (-23), 3), (30, .iload_n 1, 1), (31, .ireturn, 1)] = true := by decide +kernel
theorem cal_X4_usesWithText : Cal yX4_usesWithText cX4_usesWithText 3 (some .int) 0 := ⟨ww_241, ww_92, ⟨by decide, by decide, by decide⟩, by decide⟩
set_option maxHeartbeats 4000000 in
set_option maxRecDepth 100000 in
theorem c_X4_usesWithText (l : Launch) (G : Gx) (σ : St) (r0 : Int32) (h : f_X4_usesWithText σ = some r0) : MI l G yX4_usesWithText cX4_usesWithText 3 (some .int) 1 [.ref (ga G 1)] σ (some (.int r0)) σ := by
  refine MI_of RX4 rfl (by decide) [(0, .ref (ga G 1))] rfl (Nat.le_of_ble_eq_true rfl) ?_
  intro X hXl C hR
  unfold f_X4_usesWithText at h
  have J_4 : ∀ (x1 : Int32) (x2 : Int32), f_X4_usesWithText_4 x1 x2 σ = some r0 → V X G 3 0 0 σ 4 [(0, .ref (ga G 1)), (1, .int x1), (2, .int x2)] [] := by
    intro x1 x2 h
    refine it_v (P := fun z : Int32 × Int32 => V X G 3 0 0 σ 4 [(0, .ref (ga G 1)), (1, .int z.1), (2, .int z.2)] []) ?_ (x1, x2) h
    clear h
    intro z w_4 h ih_4 ex_4
    obtain ⟨x1, x2⟩ := z
    have h : b_X4_usesWithText_4 x1 x2 σ = some w_4 := h
    show V X G 3 0 0 σ 4 [(0, .ref (ga G 1)), (1, .int x1), (2, .int x2)] []
    unfold b_X4_usesWithText_4 at h
    have J_24 : ∀ (x1 : Int32) (x2 : Int32), f_X4_usesWithText_24 x1 x2 σ = some w_4 → V X G 3 0 0 σ 24 [(0, .ref (ga G 1)), (1, .int x1), (2, .int x2)] [] := by
      intro x1 x2 h
      unfold f_X4_usesWithText_24 at h
      refine V_iinc C (x2 + 1) 2 [1, 2, 0] (lv' := [(0, .ref (ga G 1)), (1, .int x1), (2, .int (x2 + 1))]) (dt_at dt_X4_usesWithText_0 14 rfl) rfl (by rfl) (by decide) rfl ?_
      refine V_goto C 4 (dt_at dt_X4_usesWithText_0 15 rfl) (by decide) ?_
      exact ih_4 (x1, (x2 + 1)) (Option.some.inj h).symm
    refine V_iload_n C (dt_at dt_X4_usesWithText_0 4 rfl) 2 rfl rfl ?_
    refine V_iconst C 3 (dt_at dt_X4_usesWithText_0 5 rfl) (by decide) ?_
    refine V_icmp_ge C 30 (dt_at dt_X4_usesWithText_0 6 rfl) (by decide) (fun q1 => ?_) (fun q1 => ?_)
    · have h := ite_f q1 h
      refine V_iload_n C (dt_at dt_X4_usesWithText_0 16 rfl) 1 rfl rfl ?_
      have e_4 := ex_4 _ (Option.some.inj h).symm
      subst e_4
      exact V_iret C hR (dt_at dt_X4_usesWithText_0 17 rfl)
    · have h := ite_t q1 h
      refine V_aload_n C (dt_at dt_X4_usesWithText_0 7 rfl) 0 rfl rfl ?_
      refine g_X4_67_1 C (dt_at dt_X4_usesWithText_0 8 rfl) ?_
      refine V_iload_n C (dt_at dt_X4_usesWithText_0 9 rfl) 2 rfl rfl ?_
      obtain ⟨h2, h⟩ := chk_s h
      refine V_aa19 C h2 (dt_at dt_X4_usesWithText_0 10 rfl) ?_
      have h3 : isRow (56 + 2 * x2.toNatClampNeg) = true := ok_19 h2
      refine gw_X4_105 C (K := (56 + 2 * x2.toNatClampNeg)) h3 (dt_at dt_X4_usesWithText_0 11 rfl) ?_
      refine V_if_le C 24 (dt_at dt_X4_usesWithText_0 12 rfl) (by decide) (fun q4 => ?_) (fun q4 => ?_)
      · have h := ite_f q4 h
        exact J_24 x1 x2 h
      · have h := ite_t q4 h
        refine V_iinc C (x1 + 1) 1 [1, 0, 2] (lv' := [(0, .ref (ga G 1)), (1, .int (x1 + 1)), (2, .int x2)]) (dt_at dt_X4_usesWithText_0 13 rfl) rfl (by rfl) (by decide) rfl ?_
        exact J_24 (x1 + 1) x2 h
  refine V_iconst C 0 (dt_at dt_X4_usesWithText_0 0 rfl) (by decide) ?_
  refine V_istore_n C [1, 0] (lv' := [(0, .ref (ga G 1)), (1, .int 0)]) (dt_at dt_X4_usesWithText_0 1 rfl) rfl (by decide) rfl ?_
  refine V_iconst C 0 (dt_at dt_X4_usesWithText_0 2 rfl) (by decide) ?_
  refine V_istore_n C [1, 2, 0] (lv' := [(0, .ref (ga G 1)), (1, .int 0), (2, .int 0)]) (dt_at dt_X4_usesWithText_0 3 rfl) rfl (by decide) rfl ?_
  exact J_4 0 0 h
theorem cv_X4_usesWithText (C : Ck X G cc own nL d) {idx : Nat} (hlk : Cond.methodLink own idx yX4_usesWithText ∈ gtb) {r0 : Int32} (e : f_X4_usesWithText σ = some r0) (hdd : 2 ≤ d) (hroom : (rest.map fun v => v.category).sum ≤ 8) (hcs : cells ≤ (xR X).cells ∧ slots ≤ (xR X).slots) (hd : decode cc pc = .ok (.invokevirtual idx, 3)) (k : V X G nL cells slots σ (pc + 3) lv (.int r0 :: rest)) : V X G nL cells slots σ pc lv (.ref (ga G 1) :: rest) := V_callV C (As := []) (c_X4_usesWithText X.2.1 G  σ r0 e) cal_X4_usesWithText ww_242 ww_243 hlk rfl hdd (lt110 rfl) rfl rfl rfl hroom hcs hd k
theorem dt_X4_partsGiven_0 : dtab cX4_partsGiven [(0, .iconst 0, 1), (1, .istore_n 1, 1), (2, .iconst 0, 1), (3, .istore_n 2, 1), (4, .iload_n 2, 1), (5, .aload_n 0, 1), (6, .getfield 15, 3), (9, .if_icmp .ge 22, 3), (12, .aload_n 0, 1), (13, .getfield 30, 3), (16, .iload_n 2, 1), (17, .iaload, 1), (18, .iconst (-1), 1), (19, .if_icmp .eq 6, 3), (22, .iinc 1 1, 3), (25, .iinc 2 1, 3), (28, .goto (-24), 3), (31, .iload_n 1, 1), (32, .ireturn, 1)] = true := by decide +kernel
theorem cal_X4_partsGiven : Cal yX4_partsGiven cX4_partsGiven 3 (some .int) 0 := ⟨ww_244, ww_92, ⟨by decide, by decide, by decide⟩, by decide⟩
set_option maxHeartbeats 4000000 in
set_option maxRecDepth 100000 in
theorem c_X4_partsGiven (l : Launch) (G : Gx) (σ : St) (r0 : Int32) (h : f_X4_partsGiven σ = some r0) : MI l G yX4_partsGiven cX4_partsGiven 3 (some .int) 1 [.ref (ga G 1)] σ (some (.int r0)) σ := by
  refine MI_of RX4 rfl (by decide) [(0, .ref (ga G 1))] rfl (Nat.le_of_ble_eq_true rfl) ?_
  intro X hXl C hR
  unfold f_X4_partsGiven at h
  have J_4 : ∀ (x1 : Int32) (x2 : Int32), f_X4_partsGiven_4 x1 x2 σ = some r0 → V X G 3 0 0 σ 4 [(0, .ref (ga G 1)), (1, .int x1), (2, .int x2)] [] := by
    intro x1 x2 h
    refine it_v (P := fun z : Int32 × Int32 => V X G 3 0 0 σ 4 [(0, .ref (ga G 1)), (1, .int z.1), (2, .int z.2)] []) ?_ (x1, x2) h
    clear h
    intro z w_4 h ih_4 ex_4
    obtain ⟨x1, x2⟩ := z
    have h : b_X4_partsGiven_4 x1 x2 σ = some w_4 := h
    show V X G 3 0 0 σ 4 [(0, .ref (ga G 1)), (1, .int x1), (2, .int x2)] []
    unfold b_X4_partsGiven_4 at h
    have J_25 : ∀ (x1 : Int32) (x2 : Int32), f_X4_partsGiven_25 x1 x2 σ = some w_4 → V X G 3 0 0 σ 25 [(0, .ref (ga G 1)), (1, .int x1), (2, .int x2)] [] := by
      intro x1 x2 h
      unfold f_X4_partsGiven_25 at h
      refine V_iinc C (x2 + 1) 2 [1, 2, 0] (lv' := [(0, .ref (ga G 1)), (1, .int x1), (2, .int (x2 + 1))]) (dt_at dt_X4_partsGiven_0 15 rfl) rfl (by rfl) (by decide) rfl ?_
      refine V_goto C 4 (dt_at dt_X4_partsGiven_0 16 rfl) (by decide) ?_
      exact ih_4 (x1, (x2 + 1)) (Option.some.inj h).symm
    refine V_iload_n C (dt_at dt_X4_partsGiven_0 4 rfl) 2 rfl rfl ?_
    refine V_aload_n C (dt_at dt_X4_partsGiven_0 5 rfl) 0 rfl rfl ?_
    refine g_X4_15_1 C (dt_at dt_X4_partsGiven_0 6 rfl) ?_
    refine V_icmp_ge C 31 (dt_at dt_X4_partsGiven_0 7 rfl) (by decide) (fun q1 => ?_) (fun q1 => ?_)
    · have h := ite_f q1 h
      refine V_iload_n C (dt_at dt_X4_partsGiven_0 17 rfl) 1 rfl rfl ?_
      have e_4 := ex_4 _ (Option.some.inj h).symm
      subst e_4
      exact V_iret C hR (dt_at dt_X4_partsGiven_0 18 rfl)
    · have h := ite_t q1 h
      refine V_aload_n C (dt_at dt_X4_partsGiven_0 8 rfl) 0 rfl rfl ?_
      refine g_X4_30_1 C (dt_at dt_X4_partsGiven_0 9 rfl) ?_
      refine V_iload_n C (dt_at dt_X4_partsGiven_0 10 rfl) 2 rfl rfl ?_
      obtain ⟨h2, h⟩ := chk_s h
      refine al_11 C h2 (dt_at dt_X4_partsGiven_0 11 rfl) ?_
      refine V_iconst C (-1) (dt_at dt_X4_partsGiven_0 12 rfl) (by decide) ?_
      refine V_icmp_eq C 25 (dt_at dt_X4_partsGiven_0 13 rfl) (by decide) (fun q3 => ?_) (fun q3 => ?_)
      · have h := ite_t q3 h
        exact J_25 x1 x2 h
      · have h := ite_f q3 h
        refine V_iinc C (x1 + 1) 1 [1, 0, 2] (lv' := [(0, .ref (ga G 1)), (1, .int (x1 + 1)), (2, .int x2)]) (dt_at dt_X4_partsGiven_0 14 rfl) rfl (by rfl) (by decide) rfl ?_
        exact J_25 (x1 + 1) x2 h
  refine V_iconst C 0 (dt_at dt_X4_partsGiven_0 0 rfl) (by decide) ?_
  refine V_istore_n C [1, 0] (lv' := [(0, .ref (ga G 1)), (1, .int 0)]) (dt_at dt_X4_partsGiven_0 1 rfl) rfl (by decide) rfl ?_
  refine V_iconst C 0 (dt_at dt_X4_partsGiven_0 2 rfl) (by decide) ?_
  refine V_istore_n C [1, 2, 0] (lv' := [(0, .ref (ga G 1)), (1, .int 0), (2, .int 0)]) (dt_at dt_X4_partsGiven_0 3 rfl) rfl (by decide) rfl ?_
  exact J_4 0 0 h
theorem cv_X4_partsGiven (C : Ck X G cc own nL d) {idx : Nat} (hlk : Cond.methodLink own idx yX4_partsGiven ∈ gtb) {r0 : Int32} (e : f_X4_partsGiven σ = some r0) (hdd : 2 ≤ d) (hroom : (rest.map fun v => v.category).sum ≤ 8) (hcs : cells ≤ (xR X).cells ∧ slots ≤ (xR X).slots) (hd : decode cc pc = .ok (.invokevirtual idx, 3)) (k : V X G nL cells slots σ (pc + 3) lv (.int r0 :: rest)) : V X G nL cells slots σ pc lv (.ref (ga G 1) :: rest) := V_callV C (As := []) (c_X4_partsGiven X.2.1 G  σ r0 e) cal_X4_partsGiven ww_245 ww_246 hlk rfl hdd (lt110 rfl) rfl rfl rfl hroom hcs hd k
theorem dt_X11_count_0 : dtab cX11_count [(0, .iload_n 1, 1), (1, .tableswitch 129 0 8 #[51, 59, 67, 75, 83, 94, 105, 113, 121], 51), (52, .aload_n 0, 1), (53, .getfield 12, 3), (56, .getfield 76, 3), (59, .ireturn, 1), (60, .aload_n 0, 1), (61, .getfield 12, 3), (64, .getfield 83, 3), (67, .ireturn, 1), (68, .aload_n 0, 1), (69, .getfield 12, 3), (72, .getfield 132, 3), (75, .ireturn, 1), (76, .aload_n 0, 1), (77, .getfield 12, 3), (80, .getfield 165, 3), (83, .ireturn, 1), (84, .aload_n 0, 1), (85, .getfield 12, 3), (88, .getfield 186, 3), (91, .getfield 189, 3), (94, .ireturn, 1), (95, .aload_n 0, 1), (96, .getfield 12, 3), (99, .getfield 336, 3), (102, .getfield 189, 3), (105, .ireturn, 1), (106, .aload_n 0, 1), (107, .getfield 49, 3), (110, .getfield 189, 3), (113, .ireturn, 1), (114, .aload_n 0, 1), (115, .getfield 12, 3), (118, .invokevirtual 342, 3), (121, .ireturn, 1), (122, .aload_n 0, 1), (123, .getfield 12, 3), (126, .invokevirtual 345, 3), (129, .ireturn, 1)] = true := by decide +kernel
theorem dt_X11_count_1 : dtab cX11_count [(130, .aload_n 0, 1), (131, .iconst 1, 1), (132, .invokevirtual 68, 3), (135, .ireturn, 1)] = true := by decide +kernel
theorem cal_X11_count : Cal yX11_count cX11_count 2 (some .int) 1 := ⟨ww_254, ww_100, ⟨by decide, by decide, by decide⟩, by decide⟩
set_option maxHeartbeats 4000000 in
set_option maxRecDepth 100000 in
theorem c_X11_count (l : Launch) (G : Gx) (x1 : Int32) (σ : St) (r0 : Int32) (σ0 : St) (h : f_X11_count x1 σ = some (r0, σ0)) : MI l G yX11_count cX11_count 2 (some .int) 2 [.ref (ga G 0), .int x1] σ (some (.int r0)) σ0 := by
  refine MI_of RX11 rfl (by decide) [(0, .ref (ga G 0)), (1, .int x1)] rfl (Nat.le_of_ble_eq_true rfl) ?_
  intro X hXl C hR
  unfold f_X11_count at h
  refine V_iload_n C (dt_at dt_X11_count_0 0 rfl) 1 rfl rfl ?_
  by_cases q1 : x1 = 0
  · have h := ite_t q1 h
    refine V_tin C 0 52 (dt_at dt_X11_count_0 1 rfl) ⟨by rw [q1] <;> rfl, by decide⟩ rfl (by decide) ?_
    refine V_aload_n C (dt_at dt_X11_count_0 2 rfl) 0 rfl rfl ?_
    refine g_X11_12_0 C (dt_at dt_X11_count_0 3 rfl) ?_
    refine g_X11_76_1 C (dt_at dt_X11_count_0 4 rfl) ?_
    obtain ⟨e1_, e2_⟩ := pin2 h
    subst e1_; subst e2_
    exact V_iret C hR (dt_at dt_X11_count_0 5 rfl)
  replace h := ite_f q1 h
  by_cases q2 : x1 = 1
  · have h := ite_t q2 h
    refine V_tin C 1 60 (dt_at dt_X11_count_0 1 rfl) ⟨by rw [q2] <;> rfl, by decide⟩ rfl (by decide) ?_
    refine V_aload_n C (dt_at dt_X11_count_0 6 rfl) 0 rfl rfl ?_
    refine g_X11_12_0 C (dt_at dt_X11_count_0 7 rfl) ?_
    refine g_X11_83_1 C (dt_at dt_X11_count_0 8 rfl) ?_
    obtain ⟨e1_, e2_⟩ := pin2 h
    subst e1_; subst e2_
    exact V_iret C hR (dt_at dt_X11_count_0 9 rfl)
  replace h := ite_f q2 h
  by_cases q3 : x1 = 2
  · have h := ite_t q3 h
    refine V_tin C 2 68 (dt_at dt_X11_count_0 1 rfl) ⟨by rw [q3] <;> rfl, by decide⟩ rfl (by decide) ?_
    refine V_aload_n C (dt_at dt_X11_count_0 10 rfl) 0 rfl rfl ?_
    refine g_X11_12_0 C (dt_at dt_X11_count_0 11 rfl) ?_
    refine g_X11_132_1 C (dt_at dt_X11_count_0 12 rfl) ?_
    obtain ⟨e1_, e2_⟩ := pin2 h
    subst e1_; subst e2_
    exact V_iret C hR (dt_at dt_X11_count_0 13 rfl)
  replace h := ite_f q3 h
  by_cases q4 : x1 = 3
  · have h := ite_t q4 h
    refine V_tin C 3 76 (dt_at dt_X11_count_0 1 rfl) ⟨by rw [q4] <;> rfl, by decide⟩ rfl (by decide) ?_
    refine V_aload_n C (dt_at dt_X11_count_0 14 rfl) 0 rfl rfl ?_
    refine g_X11_12_0 C (dt_at dt_X11_count_0 15 rfl) ?_
    refine g_X11_165_1 C (dt_at dt_X11_count_0 16 rfl) ?_
    obtain ⟨e1_, e2_⟩ := pin2 h
    subst e1_; subst e2_
    exact V_iret C hR (dt_at dt_X11_count_0 17 rfl)
  replace h := ite_f q4 h
  by_cases q5 : x1 = 4
  · have h := ite_t q5 h
    refine V_tin C 4 84 (dt_at dt_X11_count_0 1 rfl) ⟨by rw [q5] <;> rfl, by decide⟩ rfl (by decide) ?_
    refine V_aload_n C (dt_at dt_X11_count_0 18 rfl) 0 rfl rfl ?_
    refine g_X11_12_0 C (dt_at dt_X11_count_0 19 rfl) ?_
    refine g_X11_186_1 C (dt_at dt_X11_count_0 20 rfl) ?_
    refine g_X11_189_52 C (dt_at dt_X11_count_0 21 rfl) ?_
    obtain ⟨e1_, e2_⟩ := pin2 h
    subst e1_; subst e2_
    exact V_iret C hR (dt_at dt_X11_count_0 22 rfl)
  replace h := ite_f q5 h
  by_cases q6 : x1 = 5
  · have h := ite_t q6 h
    refine V_tin C 5 95 (dt_at dt_X11_count_0 1 rfl) ⟨by rw [q6] <;> rfl, by decide⟩ rfl (by decide) ?_
    refine V_aload_n C (dt_at dt_X11_count_0 23 rfl) 0 rfl rfl ?_
    refine g_X11_12_0 C (dt_at dt_X11_count_0 24 rfl) ?_
    refine g_X11_336_1 C (dt_at dt_X11_count_0 25 rfl) ?_
    refine g_X11_189_54 C (dt_at dt_X11_count_0 26 rfl) ?_
    obtain ⟨e1_, e2_⟩ := pin2 h
    subst e1_; subst e2_
    exact V_iret C hR (dt_at dt_X11_count_0 27 rfl)
  replace h := ite_f q6 h
  by_cases q7 : x1 = 6
  · have h := ite_t q7 h
    refine V_tin C 6 106 (dt_at dt_X11_count_0 1 rfl) ⟨by rw [q7] <;> rfl, by decide⟩ rfl (by decide) ?_
    refine V_aload_n C (dt_at dt_X11_count_0 28 rfl) 0 rfl rfl ?_
    refine g_X11_49_0 C (dt_at dt_X11_count_0 29 rfl) ?_
    refine g_X11_189_74 C (dt_at dt_X11_count_0 30 rfl) ?_
    obtain ⟨e1_, e2_⟩ := pin2 h
    subst e1_; subst e2_
    exact V_iret C hR (dt_at dt_X11_count_0 31 rfl)
  replace h := ite_f q7 h
  by_cases q8 : x1 = 7
  · have h := ite_t q8 h
    refine V_tin C 7 114 (dt_at dt_X11_count_0 1 rfl) ⟨by rw [q8] <;> rfl, by decide⟩ rfl (by decide) ?_
    refine V_aload_n C (dt_at dt_X11_count_0 32 rfl) 0 rfl rfl ?_
    refine g_X11_12_0 C (dt_at dt_X11_count_0 33 rfl) ?_
    obtain ⟨r9, e10, h⟩ := bd_s h
    refine cv_X4_usesWithText C ww_252  e10 (Nat.le_of_ble_eq_true rfl) (Nat.le_of_ble_eq_true rfl) z0 (dt_at dt_X11_count_0 34 rfl) ?_
    obtain ⟨e1_, e2_⟩ := pin2 h
    subst e1_; subst e2_
    exact V_iret C hR (dt_at dt_X11_count_0 35 rfl)
  replace h := ite_f q8 h
  by_cases q12 : x1 = 8
  · have h := ite_t q12 h
    refine V_tin C 8 122 (dt_at dt_X11_count_0 1 rfl) ⟨by rw [q12] <;> rfl, by decide⟩ rfl (by decide) ?_
    refine V_aload_n C (dt_at dt_X11_count_0 36 rfl) 0 rfl rfl ?_
    refine g_X11_12_0 C (dt_at dt_X11_count_0 37 rfl) ?_
    obtain ⟨r13, e14, h⟩ := bd_s h
    refine cv_X4_partsGiven C ww_253  e14 (Nat.le_of_ble_eq_true rfl) (Nat.le_of_ble_eq_true rfl) z0 (dt_at dt_X11_count_0 38 rfl) ?_
    obtain ⟨e1_, e2_⟩ := pin2 h
    subst e1_; subst e2_
    exact V_iret C hR (dt_at dt_X11_count_0 39 rfl)
  replace h := ite_f q12 h
  refine V_tout C 130 (dt_at dt_X11_count_0 1 rfl) (by have q1t := lv_neT q1 (a := 0) rfl; have q2t := lv_neT q2 (a := 1) rfl; have q3t := lv_neT q3 (a := 2) rfl; have q4t := lv_neT q4 (a := 3) rfl; have q5t := lv_neT q5 (a := 4) rfl; have q6t := lv_neT q6 (a := 5) rfl; have q7t := lv_neT q7 (a := 6) rfl; have q8t := lv_neT q8 (a := 7) rfl; have q12t := lv_neT q12 (a := 8) rfl; omega) (by decide) ?_
  refine V_aload_n C (dt_at dt_X11_count_1 0 rfl) 0 rfl rfl ?_
  refine V_iconst C 1 (dt_at dt_X11_count_1 1 rfl) (by decide) ?_
  obtain ⟨r16, σ18, e17, h⟩ := bd2_s h
  refine cv_X11_error C ww_193 1 e17 (Nat.le_of_ble_eq_true rfl) (Nat.le_of_ble_eq_true rfl) z0 (dt_at dt_X11_count_1 2 rfl) ?_
  obtain ⟨e1_, e2_⟩ := pin2 h
  subst e1_; subst e2_
  exact V_iret C hR (dt_at dt_X11_count_1 3 rfl)
theorem cv_X11_count (C : Ck X G cc own nL d) {idx : Nat} (hlk : Cond.methodLink own idx yX11_count ∈ gtb) (x1 : Int32) {r0 : Int32} {σ0 : St} (e : f_X11_count x1 σ = some (r0, σ0)) (hdd : 3 ≤ d) (hroom : (rest.map fun v => v.category).sum ≤ 8) (hcs : cells ≤ (xR X).cells ∧ slots ≤ (xR X).slots) (hd : decode cc pc = .ok (.invokevirtual idx, 3)) (k : V X G nL cells slots σ0 (pc + 3) lv (.int r0 :: rest)) : V X G nL cells slots σ pc lv (.int x1 :: .ref (ga G 0) :: rest) := V_callV C (As := [.int x1]) (c_X11_count X.2.1 G x1 σ r0 σ0 e) cal_X11_count ww_255 ww_256 hlk rfl hdd (lt110 rfl) rfl rfl rfl hroom hcs hd k
theorem dt_X4_seenOn_0 : dtab cX4_seenOn [(0, .iconst 0, 1), (1, .istore_n 2, 1), (2, .iconst 0, 1), (3, .istore_n 3, 1), (4, .iload_n 3, 1), (5, .aload_n 0, 1), (6, .getfield 18, 3), (9, .if_icmp .ge 39, 3), (12, .aload_n 0, 1), (13, .iload_n 3, 1), (14, .iload_n 1, 1), (15, .invokevirtual 99, 3), (18, .ifCond .eq 24, 3), (21, .aload_n 0, 1), (22, .getfield 26, 3), (25, .aload_n 0, 1), (26, .getfield 34, 3), (29, .iload_n 3, 1), (30, .iaload, 1), (31, .aaload, 1), (32, .getfield 102, 3), (35, .iconst 3, 1), (36, .if_icmp .eq 6, 3), (39, .iinc 2 1, 3), (42, .iinc 3 1, 3), (45, .goto (-41), 3), (48, .iload_n 2, 1), (49, .ireturn, 1)] = true := by decide +kernel
theorem cal_X4_seenOn : Cal yX4_seenOn cX4_seenOn 4 (some .int) 1 := ⟨ww_259, ww_92, ⟨by decide, by decide, by decide⟩, by decide⟩
set_option maxHeartbeats 4000000 in
set_option maxRecDepth 100000 in
theorem c_X4_seenOn (l : Launch) (G : Gx) (x1 : Int32) (σ : St) (r0 : Int32) (h : f_X4_seenOn x1 σ = some r0) : MI l G yX4_seenOn cX4_seenOn 4 (some .int) 2 [.ref (ga G 1), .int x1] σ (some (.int r0)) σ := by
  refine MI_of RX4 rfl (by decide) [(0, .ref (ga G 1)), (1, .int x1)] rfl (Nat.le_of_ble_eq_true rfl) ?_
  intro X hXl C hR
  unfold f_X4_seenOn at h
  have J_4 : ∀ (x2 : Int32) (x3 : Int32), f_X4_seenOn_4 x1 x2 x3 σ = some r0 → V X G 4 0 0 σ 4 [(0, .ref (ga G 1)), (1, .int x1), (2, .int x2), (3, .int x3)] [] := by
    intro x2 x3 h
    refine it_v (P := fun z : Int32 × Int32 => V X G 4 0 0 σ 4 [(0, .ref (ga G 1)), (1, .int x1), (2, .int z.1), (3, .int z.2)] []) ?_ (x2, x3) h
    clear h
    intro z w_4 h ih_4 ex_4
    obtain ⟨x2, x3⟩ := z
    have h : b_X4_seenOn_4 x1 x2 x3 σ = some w_4 := h
    show V X G 4 0 0 σ 4 [(0, .ref (ga G 1)), (1, .int x1), (2, .int x2), (3, .int x3)] []
    unfold b_X4_seenOn_4 at h
    have J_42 : ∀ (x2 : Int32) (x3 : Int32), f_X4_seenOn_42 x1 x2 x3 σ = some w_4 → V X G 4 0 0 σ 42 [(0, .ref (ga G 1)), (1, .int x1), (2, .int x2), (3, .int x3)] [] := by
      intro x2 x3 h
      unfold f_X4_seenOn_42 at h
      refine V_iinc C (x3 + 1) 3 [1, 2, 3, 0] (lv' := [(0, .ref (ga G 1)), (1, .int x1), (2, .int x2), (3, .int (x3 + 1))]) (dt_at dt_X4_seenOn_0 24 rfl) rfl (by rfl) (by decide) rfl ?_
      refine V_goto C 4 (dt_at dt_X4_seenOn_0 25 rfl) (by decide) ?_
      exact ih_4 (x2, (x3 + 1)) (Option.some.inj h).symm
    refine V_iload_n C (dt_at dt_X4_seenOn_0 4 rfl) 3 rfl rfl ?_
    refine V_aload_n C (dt_at dt_X4_seenOn_0 5 rfl) 0 rfl rfl ?_
    refine g_X4_18_1 C (dt_at dt_X4_seenOn_0 6 rfl) ?_
    refine V_icmp_ge C 48 (dt_at dt_X4_seenOn_0 7 rfl) (by decide) (fun q1 => ?_) (fun q1 => ?_)
    · have h := ite_f q1 h
      refine V_iload_n C (dt_at dt_X4_seenOn_0 26 rfl) 2 rfl rfl ?_
      have e_4 := ex_4 _ (Option.some.inj h).symm
      subst e_4
      exact V_iret C hR (dt_at dt_X4_seenOn_0 27 rfl)
    · have h := ite_t q1 h
      refine V_aload_n C (dt_at dt_X4_seenOn_0 8 rfl) 0 rfl rfl ?_
      refine V_iload_n C (dt_at dt_X4_seenOn_0 9 rfl) 3 rfl rfl ?_
      refine V_iload_n C (dt_at dt_X4_seenOn_0 10 rfl) 1 rfl rfl ?_
      obtain ⟨r2, e3, h⟩ := bd_s h
      refine cv_X4_covers C ww_205 x3 x1 e3 (Nat.le_of_ble_eq_true rfl) (Nat.le_of_ble_eq_true rfl) z0 (dt_at dt_X4_seenOn_0 11 rfl) ?_
      refine V_if_eq C 42 (dt_at dt_X4_seenOn_0 12 rfl) (by decide) (fun q5 => ?_) (fun q5 => ?_)
      · have h := ite_t q5 h
        exact J_42 x2 x3 h
      · have h := ite_f q5 h
        refine V_aload_n C (dt_at dt_X4_seenOn_0 13 rfl) 0 rfl rfl ?_
        refine g_X4_26_1 C (dt_at dt_X4_seenOn_0 14 rfl) ?_
        refine V_aload_n C (dt_at dt_X4_seenOn_0 15 rfl) 0 rfl rfl ?_
        refine g_X4_34_1 C (dt_at dt_X4_seenOn_0 16 rfl) ?_
        refine V_iload_n C (dt_at dt_X4_seenOn_0 17 rfl) 3 rfl rfl ?_
        obtain ⟨h6, h⟩ := chk_s h
        refine al_12 C h6 (dt_at dt_X4_seenOn_0 18 rfl) ?_
        obtain ⟨h7, h⟩ := chk_s h
        obtain ⟨h8, h⟩ := chk_s h
        refine V_aaR10 C h7 h8 (dt_at dt_X4_seenOn_0 19 rfl) ?_
        refine gr_X4_102 C (K := (rd σ 10 (rd σ 12 x3)).toNatClampNeg) h8 (dt_at dt_X4_seenOn_0 20 rfl) ?_
        refine V_iconst C 3 (dt_at dt_X4_seenOn_0 21 rfl) (by decide) ?_
        refine V_icmp_eq C 42 (dt_at dt_X4_seenOn_0 22 rfl) (by decide) (fun q9 => ?_) (fun q9 => ?_)
        · have h := ite_t q9 h
          exact J_42 x2 x3 h
        · have h := ite_f q9 h
          refine V_iinc C (x2 + 1) 2 [1, 2, 0, 3] (lv' := [(0, .ref (ga G 1)), (1, .int x1), (2, .int (x2 + 1)), (3, .int x3)]) (dt_at dt_X4_seenOn_0 23 rfl) rfl (by rfl) (by decide) rfl ?_
          exact J_42 (x2 + 1) x3 h
  refine V_iconst C 0 (dt_at dt_X4_seenOn_0 0 rfl) (by decide) ?_
  refine V_istore_n C [1, 2, 0] (lv' := [(0, .ref (ga G 1)), (1, .int x1), (2, .int 0)]) (dt_at dt_X4_seenOn_0 1 rfl) rfl (by decide) rfl ?_
  refine V_iconst C 0 (dt_at dt_X4_seenOn_0 2 rfl) (by decide) ?_
  refine V_istore_n C [1, 2, 3, 0] (lv' := [(0, .ref (ga G 1)), (1, .int x1), (2, .int 0), (3, .int 0)]) (dt_at dt_X4_seenOn_0 3 rfl) rfl (by decide) rfl ?_
  exact J_4 0 0 h
theorem cv_X4_seenOn (C : Ck X G cc own nL d) {idx : Nat} (hlk : Cond.methodLink own idx yX4_seenOn ∈ gtb) (x1 : Int32) {r0 : Int32} (e : f_X4_seenOn x1 σ = some r0) (hdd : 3 ≤ d) (hroom : (rest.map fun v => v.category).sum ≤ 8) (hcs : cells ≤ (xR X).cells ∧ slots ≤ (xR X).slots) (hd : decode cc pc = .ok (.invokevirtual idx, 3)) (k : V X G nL cells slots σ (pc + 3) lv (.int r0 :: rest)) : V X G nL cells slots σ pc lv (.int x1 :: .ref (ga G 1) :: rest) := V_callV C (As := [.int x1]) (c_X4_seenOn X.2.1 G x1 σ r0 e) cal_X4_seenOn ww_260 ww_261 hlk rfl hdd (lt110 rfl) rfl rfl rfl hroom hcs hd k
theorem dt_X11_crowd_0 : dtab cX11_crowd [(0, .iconst 0, 1), (1, .istore_n 1, 1), (2, .iconst 0, 1), (3, .istore_n 2, 1), (4, .iload_n 2, 1), (5, .aload_n 0, 1), (6, .getfield 12, 3), (9, .getfield 76, 3), (12, .if_icmp .ge 22, 3), (15, .iload_n 1, 1), (16, .aload_n 0, 1), (17, .getfield 12, 3), (20, .iload_n 2, 1), (21, .invokevirtual 266, 3), (24, .invokestatic 269, 3), (27, .istore_n 1, 1), (28, .iinc 2 1, 3), (31, .goto (-27), 3), (34, .iload_n 1, 1), (35, .ireturn, 1)] = true := by decide +kernel
theorem cal_X11_crowd : Cal yX11_crowd cX11_crowd 3 (some .int) 0 := ⟨ww_264, ww_100, ⟨by decide, by decide, by decide⟩, by decide⟩
set_option maxHeartbeats 4000000 in
set_option maxRecDepth 100000 in
theorem c_X11_crowd (l : Launch) (G : Gx) (σ : St) (r0 : Int32) (h : f_X11_crowd σ = some r0) : MI l G yX11_crowd cX11_crowd 3 (some .int) 3 [.ref (ga G 0)] σ (some (.int r0)) σ := by
  refine MI_of RX11 rfl (by decide) [(0, .ref (ga G 0))] rfl (Nat.le_of_ble_eq_true rfl) ?_
  intro X hXl C hR
  unfold f_X11_crowd at h
  have J_4 : ∀ (x1 : Int32) (x2 : Int32), f_X11_crowd_4 x1 x2 σ = some r0 → V X G 3 0 0 σ 4 [(0, .ref (ga G 0)), (1, .int x1), (2, .int x2)] [] := by
    intro x1 x2 h
    refine it_v (P := fun z : Int32 × Int32 => V X G 3 0 0 σ 4 [(0, .ref (ga G 0)), (1, .int z.1), (2, .int z.2)] []) ?_ (x1, x2) h
    clear h
    intro z w_4 h ih_4 ex_4
    obtain ⟨x1, x2⟩ := z
    have h : b_X11_crowd_4 x1 x2 σ = some w_4 := h
    show V X G 3 0 0 σ 4 [(0, .ref (ga G 0)), (1, .int x1), (2, .int x2)] []
    unfold b_X11_crowd_4 at h
    refine V_iload_n C (dt_at dt_X11_crowd_0 4 rfl) 2 rfl rfl ?_
    refine V_aload_n C (dt_at dt_X11_crowd_0 5 rfl) 0 rfl rfl ?_
    refine g_X11_12_0 C (dt_at dt_X11_crowd_0 6 rfl) ?_
    refine g_X11_76_1 C (dt_at dt_X11_crowd_0 7 rfl) ?_
    refine V_icmp_ge C 34 (dt_at dt_X11_crowd_0 8 rfl) (by decide) (fun q1 => ?_) (fun q1 => ?_)
    · have h := ite_f q1 h
      refine V_iload_n C (dt_at dt_X11_crowd_0 18 rfl) 1 rfl rfl ?_
      have e_4 := ex_4 _ (Option.some.inj h).symm
      subst e_4
      exact V_iret C hR (dt_at dt_X11_crowd_0 19 rfl)
    · have h := ite_t q1 h
      refine V_iload_n C (dt_at dt_X11_crowd_0 9 rfl) 1 rfl rfl ?_
      refine V_aload_n C (dt_at dt_X11_crowd_0 10 rfl) 0 rfl rfl ?_
      refine g_X11_12_0 C (dt_at dt_X11_crowd_0 11 rfl) ?_
      refine V_iload_n C (dt_at dt_X11_crowd_0 12 rfl) 2 rfl rfl ?_
      obtain ⟨r2, e3, h⟩ := bd_s h
      refine cv_X4_seenOn C ww_262 x2 e3 (Nat.le_of_ble_eq_true rfl) (Nat.le_of_ble_eq_true rfl) z0 (dt_at dt_X11_crowd_0 13 rfl) ?_
      refine V_max C ww_263 w_max (Nat.le_of_ble_eq_true rfl) (Nat.le_of_ble_eq_true rfl) z0 (dt_at dt_X11_crowd_0 14 rfl) ?_
      refine V_istore_n C [1, 0, 2] (lv' := [(0, .ref (ga G 0)), (1, .int (if x1 < r2 then r2 else x1)), (2, .int x2)]) (dt_at dt_X11_crowd_0 15 rfl) rfl (by decide) rfl ?_
      refine V_iinc C (x2 + 1) 2 [1, 2, 0] (lv' := [(0, .ref (ga G 0)), (1, .int (if x1 < r2 then r2 else x1)), (2, .int (x2 + 1))]) (dt_at dt_X11_crowd_0 16 rfl) rfl (by rfl) (by decide) rfl ?_
      refine V_goto C 4 (dt_at dt_X11_crowd_0 17 rfl) (by decide) ?_
      exact ih_4 ((if x1 < r2 then r2 else x1), (x2 + 1)) (Option.some.inj h).symm
  refine V_iconst C 0 (dt_at dt_X11_crowd_0 0 rfl) (by decide) ?_
  refine V_istore_n C [1, 0] (lv' := [(0, .ref (ga G 0)), (1, .int 0)]) (dt_at dt_X11_crowd_0 1 rfl) rfl (by decide) rfl ?_
  refine V_iconst C 0 (dt_at dt_X11_crowd_0 2 rfl) (by decide) ?_
  refine V_istore_n C [1, 2, 0] (lv' := [(0, .ref (ga G 0)), (1, .int 0), (2, .int 0)]) (dt_at dt_X11_crowd_0 3 rfl) rfl (by decide) rfl ?_
  exact J_4 0 0 h
theorem cv_X11_crowd (C : Ck X G cc own nL d) {idx : Nat} (hlk : Cond.methodLink own idx yX11_crowd ∈ gtb) {r0 : Int32} (e : f_X11_crowd σ = some r0) (hdd : 4 ≤ d) (hroom : (rest.map fun v => v.category).sum ≤ 8) (hcs : cells ≤ (xR X).cells ∧ slots ≤ (xR X).slots) (hd : decode cc pc = .ok (.invokevirtual idx, 3)) (k : V X G nL cells slots σ (pc + 3) lv (.int r0 :: rest)) : V X G nL cells slots σ pc lv (.ref (ga G 0) :: rest) := V_callV C (As := []) (c_X11_crowd X.2.1 G  σ r0 e) cal_X11_crowd ww_265 ww_266 hlk rfl hdd (lt110 rfl) rfl rfl rfl hroom hcs hd k
theorem dt_X4_hasLine_0 : dtab cX4_hasLine [(0, .iload_n 1, 1), (1, .aload_n 0, 1), (2, .getfield 9, 3), (5, .invokestatic 81, 3), (8, .ireturn, 1)] = true := by decide +kernel
theorem cal_X4_hasLine : Cal yX4_hasLine cX4_hasLine 2 (some .boolean) 1 := ⟨ww_268, ww_92, ⟨by decide, by decide, by decide⟩, by decide⟩
set_option maxHeartbeats 4000000 in
set_option maxRecDepth 100000 in
theorem c_X4_hasLine (l : Launch) (G : Gx) (x1 : Int32) (σ : St) (r0 : Int32) (h : f_X4_hasLine x1 σ = some r0) : MI l G yX4_hasLine cX4_hasLine 2 (some .boolean) 2 [.ref (ga G 1), .int x1] σ (some (.int r0)) σ := by
  refine MI_of RX4 rfl (by decide) [(0, .ref (ga G 1)), (1, .int x1)] rfl (Nat.le_of_ble_eq_true rfl) ?_
  intro X hXl C hR
  unfold f_X4_hasLine at h
  refine V_iload_n C (dt_at dt_X4_hasLine_0 0 rfl) 1 rfl rfl ?_
  refine V_aload_n C (dt_at dt_X4_hasLine_0 1 rfl) 0 rfl rfl ?_
  refine g_X4_9_1 C (dt_at dt_X4_hasLine_0 2 rfl) ?_
  obtain ⟨r1, e2, h⟩ := bd_s h
  refine cn_X11_isWithin C x1 (fd σ 1 0) e2 (Nat.le_of_ble_eq_true rfl) (Nat.le_of_ble_eq_true rfl) z0 (dt_at dt_X4_hasLine_0 3 rfl) ?_
  obtain ⟨h4, h⟩ := chk_s h
  have e1_ := Option.some.inj h
  subst e1_
  exact V_zret C (isB_n h4) hR (dt_at dt_X4_hasLine_0 4 rfl)
theorem cv_X4_hasLine (C : Ck X G cc own nL d) {idx : Nat} (hlk : Cond.methodLink own idx yX4_hasLine ∈ gtb) (x1 : Int32) {r0 : Int32} (e : f_X4_hasLine x1 σ = some r0) (hdd : 3 ≤ d) (hroom : (rest.map fun v => v.category).sum ≤ 8) (hcs : cells ≤ (xR X).cells ∧ slots ≤ (xR X).slots) (hd : decode cc pc = .ok (.invokevirtual idx, 3)) (k : V X G nL cells slots σ (pc + 3) lv (.int r0 :: rest)) : V X G nL cells slots σ pc lv (.int x1 :: .ref (ga G 1) :: rest) := V_callV C (As := [.int x1]) (c_X4_hasLine X.2.1 G x1 σ r0 e) cal_X4_hasLine ww_269 ww_270 hlk rfl hdd (lt110 rfl) rfl rfl rfl hroom hcs hd k
theorem dt_X4_isTaken_0 : dtab cX4_isTaken [(0, .iconst 0, 1), (1, .istore 5, 2), (3, .iload 5, 2), (5, .aload_n 0, 1), (6, .getfield 18, 3), (9, .if_icmp .ge 51, 3), (12, .iload 5, 2), (14, .iload 4, 2), (16, .if_icmp .eq 38, 3), (19, .aload_n 0, 1), (20, .getfield 34, 3), (23, .iload 5, 2), (25, .iaload, 1), (26, .iload_n 1, 1), (27, .if_icmp .ne 27, 3), (30, .aload_n 0, 1), (31, .getfield 37, 3), (34, .iload 5, 2), (36, .iaload, 1), (37, .iload_n 3, 1), (38, .if_icmp .gt 16, 3), (41, .iload_n 2, 1), (42, .aload_n 0, 1), (43, .getfield 40, 3), (46, .iload 5, 2), (48, .iaload, 1), (49, .if_icmp .gt 5, 3), (52, .iconst 1, 1), (53, .ireturn, 1), (54, .iinc 5 1, 3), (57, .goto (-54), 3), (60, .iconst 0, 1), (61, .ireturn, 1)] = true := by decide +kernel
theorem cal_X4_isTaken : Cal yX4_isTaken cX4_isTaken 6 (some .boolean) 4 := ⟨ww_271, ww_92, ⟨by decide, by decide, by decide⟩, by decide⟩
set_option maxHeartbeats 4000000 in
set_option maxRecDepth 100000 in
theorem c_X4_isTaken (l : Launch) (G : Gx) (x1 : Int32) (x2 : Int32) (x3 : Int32) (x4 : Int32) (σ : St) (r0 : Int32) (h : f_X4_isTaken x1 x2 x3 x4 σ = some r0) : MI l G yX4_isTaken cX4_isTaken 6 (some .boolean) 1 [.ref (ga G 1), .int x1, .int x2, .int x3, .int x4] σ (some (.int r0)) σ := by
  refine MI_of RX4 rfl (by decide) [(0, .ref (ga G 1)), (1, .int x1), (2, .int x2), (3, .int x3), (4, .int x4)] rfl (Nat.le_of_ble_eq_true rfl) ?_
  intro X hXl C hR
  unfold f_X4_isTaken at h
  have J_3 : ∀ (x5 : Int32), f_X4_isTaken_3 x1 x2 x3 x4 x5 σ = some r0 → V X G 6 0 0 σ 3 [(0, .ref (ga G 1)), (1, .int x1), (2, .int x2), (3, .int x3), (4, .int x4), (5, .int x5)] [] := by
    intro x5 h
    refine it_v (P := fun z : Int32 => V X G 6 0 0 σ 3 [(0, .ref (ga G 1)), (1, .int x1), (2, .int x2), (3, .int x3), (4, .int x4), (5, .int z)] []) ?_ x5 h
    clear h
    intro z w_3 h ih_3 ex_3
    revert h; revert z; intro x5 h
    have h : b_X4_isTaken_3 x1 x2 x3 x4 x5 σ = some w_3 := h
    show V X G 6 0 0 σ 3 [(0, .ref (ga G 1)), (1, .int x1), (2, .int x2), (3, .int x3), (4, .int x4), (5, .int x5)] []
    unfold b_X4_isTaken_3 at h
    have J_54 : ∀ (x5 : Int32), f_X4_isTaken_54 x1 x2 x3 x4 x5 σ = some w_3 → V X G 6 0 0 σ 54 [(0, .ref (ga G 1)), (1, .int x1), (2, .int x2), (3, .int x3), (4, .int x4), (5, .int x5)] [] := by
      intro x5 h
      unfold f_X4_isTaken_54 at h
      refine V_iinc C (x5 + 1) 5 [1, 2, 3, 4, 5, 0] (lv' := [(0, .ref (ga G 1)), (1, .int x1), (2, .int x2), (3, .int x3), (4, .int x4), (5, .int (x5 + 1))]) (dt_at dt_X4_isTaken_0 29 rfl) rfl (by rfl) (by decide) rfl ?_
      refine V_goto C 3 (dt_at dt_X4_isTaken_0 30 rfl) (by decide) ?_
      exact ih_3 (x5 + 1) (Option.some.inj h).symm
    refine V_iload C (dt_at dt_X4_isTaken_0 2 rfl) 5 rfl ?_
    refine V_aload_n C (dt_at dt_X4_isTaken_0 3 rfl) 0 rfl rfl ?_
    refine g_X4_18_1 C (dt_at dt_X4_isTaken_0 4 rfl) ?_
    refine V_icmp_ge C 60 (dt_at dt_X4_isTaken_0 5 rfl) (by decide) (fun q1 => ?_) (fun q1 => ?_)
    · have h := ite_f q1 h
      refine V_iconst C 0 (dt_at dt_X4_isTaken_0 31 rfl) (by decide) ?_
      have e_3 := ex_3 _ (Option.some.inj h).symm
      subst e_3
      exact V_zret C rfl hR (dt_at dt_X4_isTaken_0 32 rfl)
    · have h := ite_t q1 h
      refine V_iload C (dt_at dt_X4_isTaken_0 6 rfl) 5 rfl ?_
      refine V_iload C (dt_at dt_X4_isTaken_0 7 rfl) 4 rfl ?_
      refine V_icmp_eq C 54 (dt_at dt_X4_isTaken_0 8 rfl) (by decide) (fun q2 => ?_) (fun q2 => ?_)
      · have h := ite_t q2 h
        exact J_54 x5 h
      · have h := ite_f q2 h
        refine V_aload_n C (dt_at dt_X4_isTaken_0 9 rfl) 0 rfl rfl ?_
        refine g_X4_34_1 C (dt_at dt_X4_isTaken_0 10 rfl) ?_
        refine V_iload C (dt_at dt_X4_isTaken_0 11 rfl) 5 rfl ?_
        obtain ⟨h3, h⟩ := chk_s h
        refine al_12 C h3 (dt_at dt_X4_isTaken_0 12 rfl) ?_
        refine V_iload_n C (dt_at dt_X4_isTaken_0 13 rfl) 1 rfl rfl ?_
        refine V_icmp_ne C 54 (dt_at dt_X4_isTaken_0 14 rfl) (by decide) (fun q4 => ?_) (fun q4 => ?_)
        · have h := ite_f q4 h
          exact J_54 x5 h
        · have h := ite_t q4 h
          refine V_aload_n C (dt_at dt_X4_isTaken_0 15 rfl) 0 rfl rfl ?_
          refine g_X4_37_1 C (dt_at dt_X4_isTaken_0 16 rfl) ?_
          refine V_iload C (dt_at dt_X4_isTaken_0 17 rfl) 5 rfl ?_
          refine al_13 C h3 (dt_at dt_X4_isTaken_0 18 rfl) ?_
          refine V_iload_n C (dt_at dt_X4_isTaken_0 19 rfl) 3 rfl rfl ?_
          refine V_icmp_gt C 54 (dt_at dt_X4_isTaken_0 20 rfl) (by decide) (fun q5 => ?_) (fun q5 => ?_)
          · have h := ite_t q5 h
            exact J_54 x5 h
          · have h := ite_f q5 h
            refine V_iload_n C (dt_at dt_X4_isTaken_0 21 rfl) 2 rfl rfl ?_
            refine V_aload_n C (dt_at dt_X4_isTaken_0 22 rfl) 0 rfl rfl ?_
            refine g_X4_40_1 C (dt_at dt_X4_isTaken_0 23 rfl) ?_
            refine V_iload C (dt_at dt_X4_isTaken_0 24 rfl) 5 rfl ?_
            refine al_14 C h3 (dt_at dt_X4_isTaken_0 25 rfl) ?_
            refine V_icmp_gt C 54 (dt_at dt_X4_isTaken_0 26 rfl) (by decide) (fun q6 => ?_) (fun q6 => ?_)
            · have h := ite_t q6 h
              exact J_54 x5 h
            · have h := ite_f q6 h
              refine V_iconst C 1 (dt_at dt_X4_isTaken_0 27 rfl) (by decide) ?_
              have e_3 := ex_3 _ (Option.some.inj h).symm
              subst e_3
              exact V_zret C rfl hR (dt_at dt_X4_isTaken_0 28 rfl)
  refine V_iconst C 0 (dt_at dt_X4_isTaken_0 0 rfl) (by decide) ?_
  refine V_istore C [1, 2, 3, 4, 5, 0] (lv' := [(0, .ref (ga G 1)), (1, .int x1), (2, .int x2), (3, .int x3), (4, .int x4), (5, .int 0)]) (dt_at dt_X4_isTaken_0 1 rfl) (by decide) rfl ?_
  exact J_3 0 h
theorem cv_X4_isTaken (C : Ck X G cc own nL d) {idx : Nat} (hlk : Cond.methodLink own idx yX4_isTaken ∈ gtb) (x1 : Int32) (x2 : Int32) (x3 : Int32) (x4 : Int32) {r0 : Int32} (e : f_X4_isTaken x1 x2 x3 x4 σ = some r0) (hdd : 2 ≤ d) (hroom : (rest.map fun v => v.category).sum ≤ 8) (hcs : cells ≤ (xR X).cells ∧ slots ≤ (xR X).slots) (hd : decode cc pc = .ok (.invokevirtual idx, 3)) (k : V X G nL cells slots σ (pc + 3) lv (.int r0 :: rest)) : V X G nL cells slots σ pc lv (.int x4 :: .int x3 :: .int x2 :: .int x1 :: .ref (ga G 1) :: rest) := V_callV C (As := [.int x1, .int x2, .int x3, .int x4]) (c_X4_isTaken X.2.1 G x1 x2 x3 x4 σ r0 e) cal_X4_isTaken ww_272 ww_273 hlk rfl hdd (lt110 rfl) rfl rfl rfl hroom hcs hd k
theorem dt_X4_addEntry_0 : dtab cX4_addEntry [(0, .aload_n 0, 1), (1, .getfield 34, 3), (4, .aload_n 0, 1), (5, .getfield 18, 3), (8, .iload_n 1, 1), (9, .iastore, 1), (10, .aload_n 0, 1), (11, .getfield 37, 3), (14, .aload_n 0, 1), (15, .getfield 18, 3), (18, .iload_n 2, 1), (19, .iastore, 1), (20, .aload_n 0, 1), (21, .getfield 40, 3), (24, .aload_n 0, 1), (25, .getfield 18, 3), (28, .iload_n 3, 1), (29, .iastore, 1), (30, .aload_n 0, 1), (31, .getfield 43, 3), (34, .aload_n 0, 1), (35, .getfield 18, 3), (38, .iload 4, 2), (40, .iastore, 1), (41, .aload_n 0, 1), (42, .dup, 1), (43, .getfield 18, 3), (46, .iconst 1, 1), (47, .iadd, 1), (48, .putfield 18, 3), (51, .aload_n 0, 1), (52, .getfield 18, 3), (55, .iconst 1, 1), (56, .isub, 1), (57, .ireturn, 1)] = true := by decide +kernel
theorem cal_X4_addEntry : Cal yX4_addEntry cX4_addEntry 5 (some .int) 4 := ⟨ww_275, ww_92, ⟨by decide, by decide, by decide⟩, by decide⟩
set_option maxHeartbeats 4000000 in
set_option maxRecDepth 100000 in
theorem c_X4_addEntry (l : Launch) (G : Gx) (x1 : Int32) (x2 : Int32) (x3 : Int32) (x4 : Int32) (σ : St) (r0 : Int32) (σ0 : St) (h : f_X4_addEntry x1 x2 x3 x4 σ = some (r0, σ0)) : MI l G yX4_addEntry cX4_addEntry 5 (some .int) 1 [.ref (ga G 1), .int x1, .int x2, .int x3, .int x4] σ (some (.int r0)) σ0 := by
  refine MI_of RX4 rfl (by decide) [(0, .ref (ga G 1)), (1, .int x1), (2, .int x2), (3, .int x3), (4, .int x4)] rfl (Nat.le_of_ble_eq_true rfl) ?_
  intro X hXl C hR
  unfold f_X4_addEntry at h
  refine V_aload_n C (dt_at dt_X4_addEntry_0 0 rfl) 0 rfl rfl ?_
  refine g_X4_34_1 C (dt_at dt_X4_addEntry_0 1 rfl) ?_
  refine V_aload_n C (dt_at dt_X4_addEntry_0 2 rfl) 0 rfl rfl ?_
  refine g_X4_18_1 C (dt_at dt_X4_addEntry_0 3 rfl) ?_
  refine V_iload_n C (dt_at dt_X4_addEntry_0 4 rfl) 1 rfl rfl ?_
  obtain ⟨h2, h⟩ := chk_s h
  obtain ⟨σ1, eσ1, h⟩ := nm_s h
  refine V_st eσ1 ?_ (fun k => as_12 C h2 (dt_at dt_X4_addEntry_0 5 rfl) k)
  refine V_aload_n C (dt_at dt_X4_addEntry_0 6 rfl) 0 rfl rfl ?_
  refine g_X4_37_1 C (dt_at dt_X4_addEntry_0 7 rfl) ?_
  refine V_aload_n C (dt_at dt_X4_addEntry_0 8 rfl) 0 rfl rfl ?_
  refine g_X4_18_1 C (dt_at dt_X4_addEntry_0 9 rfl) ?_
  refine V_iload_n C (dt_at dt_X4_addEntry_0 10 rfl) 2 rfl rfl ?_
  obtain ⟨h4, h⟩ := chk_s h
  obtain ⟨σ3, eσ3, h⟩ := nm_s h
  refine V_st eσ3 ?_ (fun k => as_13 C h4 (dt_at dt_X4_addEntry_0 11 rfl) k)
  refine V_aload_n C (dt_at dt_X4_addEntry_0 12 rfl) 0 rfl rfl ?_
  refine g_X4_40_1 C (dt_at dt_X4_addEntry_0 13 rfl) ?_
  refine V_aload_n C (dt_at dt_X4_addEntry_0 14 rfl) 0 rfl rfl ?_
  refine g_X4_18_1 C (dt_at dt_X4_addEntry_0 15 rfl) ?_
  refine V_iload_n C (dt_at dt_X4_addEntry_0 16 rfl) 3 rfl rfl ?_
  obtain ⟨h6, h⟩ := chk_s h
  obtain ⟨σ5, eσ5, h⟩ := nm_s h
  refine V_st eσ5 ?_ (fun k => as_14 C h6 (dt_at dt_X4_addEntry_0 17 rfl) k)
  refine V_aload_n C (dt_at dt_X4_addEntry_0 18 rfl) 0 rfl rfl ?_
  refine g_X4_43_1 C (dt_at dt_X4_addEntry_0 19 rfl) ?_
  refine V_aload_n C (dt_at dt_X4_addEntry_0 20 rfl) 0 rfl rfl ?_
  refine g_X4_18_1 C (dt_at dt_X4_addEntry_0 21 rfl) ?_
  refine V_iload C (dt_at dt_X4_addEntry_0 22 rfl) 4 rfl ?_
  obtain ⟨h8, h⟩ := chk_s h
  obtain ⟨σ7, eσ7, h⟩ := nm_s h
  refine V_st eσ7 ?_ (fun k => as_15 C h8 (dt_at dt_X4_addEntry_0 23 rfl) k)
  refine V_aload_n C (dt_at dt_X4_addEntry_0 24 rfl) 0 rfl rfl ?_
  refine V_dup C (dt_at dt_X4_addEntry_0 25 rfl) rfl ?_
  refine g_X4_18_1 C (dt_at dt_X4_addEntry_0 26 rfl) ?_
  refine V_iconst C 1 (dt_at dt_X4_addEntry_0 27 rfl) (by decide) ?_
  refine V_iadd C (dt_at dt_X4_addEntry_0 28 rfl) ?_
  obtain ⟨σ9, eσ9, h⟩ := nm_s h
  refine V_st eσ9 ?_ (fun k => p_X4_18_1 C (dt_at dt_X4_addEntry_0 29 rfl) k)
  refine V_aload_n C (dt_at dt_X4_addEntry_0 30 rfl) 0 rfl rfl ?_
  refine g_X4_18_1 C (dt_at dt_X4_addEntry_0 31 rfl) ?_
  refine V_iconst C 1 (dt_at dt_X4_addEntry_0 32 rfl) (by decide) ?_
  refine V_isub C (dt_at dt_X4_addEntry_0 33 rfl) ?_
  obtain ⟨e1_, e2_⟩ := pin2 h
  subst e1_; subst e2_
  exact V_iret C hR (dt_at dt_X4_addEntry_0 34 rfl)
theorem cv_X4_addEntry (C : Ck X G cc own nL d) {idx : Nat} (hlk : Cond.methodLink own idx yX4_addEntry ∈ gtb) (x1 : Int32) (x2 : Int32) (x3 : Int32) (x4 : Int32) {r0 : Int32} {σ0 : St} (e : f_X4_addEntry x1 x2 x3 x4 σ = some (r0, σ0)) (hdd : 2 ≤ d) (hroom : (rest.map fun v => v.category).sum ≤ 8) (hcs : cells ≤ (xR X).cells ∧ slots ≤ (xR X).slots) (hd : decode cc pc = .ok (.invokevirtual idx, 3)) (k : V X G nL cells slots σ0 (pc + 3) lv (.int r0 :: rest)) : V X G nL cells slots σ pc lv (.int x4 :: .int x3 :: .int x2 :: .int x1 :: .ref (ga G 1) :: rest) := V_callV C (As := [.int x1, .int x2, .int x3, .int x4]) (c_X4_addEntry X.2.1 G x1 x2 x3 x4 σ r0 σ0 e) cal_X4_addEntry ww_276 ww_277 hlk rfl hdd (lt110 rfl) rfl rfl rfl hroom hcs hd k
theorem dt_X11_entry_0 : dtab cX11_entry [(0, .aload_n 0, 1), (1, .getfield 12, 3), (4, .iload_n 1, 1), (5, .invokevirtual 94, 3), (8, .ifCond .eq 39, 3), (11, .aload_n 0, 1), (12, .getfield 12, 3), (15, .iload_n 2, 1), (16, .invokevirtual 125, 3), (19, .ifCond .eq 28, 3), (22, .aload_n 0, 1), (23, .getfield 12, 3), (26, .iload_n 3, 1), (27, .invokevirtual 125, 3), (30, .ifCond .eq 17, 3), (33, .iload_n 3, 1), (34, .iload_n 2, 1), (35, .if_icmp .lt 12, 3), (38, .iload 4, 2), (40, .iconst 4, 1), (41, .invokestatic 79, 3), (44, .ifCond .ne 9, 3), (47, .aload_n 0, 1), (48, .iconst 1, 1), (49, .invokevirtual 68, 3), (52, .ireturn, 1), (53, .aload_n 0, 1), (54, .getfield 12, 3), (57, .iload_n 1, 1), (58, .iload_n 2, 1), (59, .iload_n 3, 1), (60, .iconst (-1), 1), (61, .invokevirtual 128, 3), (64, .ifCond .eq 9, 3), (67, .aload_n 0, 1), (68, .iconst 3, 1), (69, .invokevirtual 68, 3), (72, .ireturn, 1), (73, .aload_n 0, 1), (74, .getfield 12, 3)] = true := by decide +kernel
theorem dt_X11_entry_1 : dtab cX11_entry [(77, .getfield 132, 3), (80, .bipush 40, 2), (82, .if_icmp .lt 9, 3), (85, .aload_n 0, 1), (86, .iconst 4, 1), (87, .invokevirtual 68, 3), (90, .ireturn, 1), (91, .aload_n 0, 1), (92, .getfield 12, 3), (95, .iload_n 1, 1), (96, .iload_n 2, 1), (97, .iload_n 3, 1), (98, .iload 4, 2), (100, .invokevirtual 135, 3), (103, .ireturn, 1)] = true := by decide +kernel
theorem cal_X11_entry : Cal yX11_entry cX11_entry 5 (some .int) 4 := ⟨ww_281, ww_100, ⟨by decide, by decide, by decide⟩, by decide⟩
set_option maxHeartbeats 4000000 in
set_option maxRecDepth 100000 in
theorem c_X11_entry (l : Launch) (G : Gx) (x1 : Int32) (x2 : Int32) (x3 : Int32) (x4 : Int32) (σ : St) (r0 : Int32) (σ0 : St) (h : f_X11_entry x1 x2 x3 x4 σ = some (r0, σ0)) : MI l G yX11_entry cX11_entry 5 (some .int) 3 [.ref (ga G 0), .int x1, .int x2, .int x3, .int x4] σ (some (.int r0)) σ0 := by
  refine MI_of RX11 rfl (by decide) [(0, .ref (ga G 0)), (1, .int x1), (2, .int x2), (3, .int x3), (4, .int x4)] rfl (Nat.le_of_ble_eq_true rfl) ?_
  intro X hXl C hR
  unfold f_X11_entry at h
  have J_47 : ∀ (σ : St), f_X11_entry_47 σ = some (r0, σ0) → V X G 5 0 0 σ 47 [(0, .ref (ga G 0))] [] := by
    intro σ h
    unfold f_X11_entry_47 at h
    refine V_aload_n C (dt_at dt_X11_entry_0 22 rfl) 0 rfl rfl ?_
    refine V_iconst C 1 (dt_at dt_X11_entry_0 23 rfl) (by decide) ?_
    obtain ⟨r32, σ34, e33, h⟩ := bd2_s h
    refine cv_X11_error C ww_193 1 e33 (Nat.le_of_ble_eq_true rfl) (Nat.le_of_ble_eq_true rfl) z0 (dt_at dt_X11_entry_0 24 rfl) ?_
    obtain ⟨e1_, e2_⟩ := pin2 h
    subst e1_; subst e2_
    exact V_iret C hR (dt_at dt_X11_entry_0 25 rfl)
  refine V_aload_n C (dt_at dt_X11_entry_0 0 rfl) 0 rfl rfl ?_
  refine g_X11_12_0 C (dt_at dt_X11_entry_0 1 rfl) ?_
  refine V_iload_n C (dt_at dt_X11_entry_0 2 rfl) 1 rfl rfl ?_
  obtain ⟨r1, e2, h⟩ := bd_s h
  refine cv_X4_hasPart C ww_215 x1 e2 (Nat.le_of_ble_eq_true rfl) (Nat.le_of_ble_eq_true rfl) z0 (dt_at dt_X11_entry_0 3 rfl) ?_
  refine V_if_eq C 47 (dt_at dt_X11_entry_0 4 rfl) (by decide) (fun q4 => ?_) (fun q4 => ?_)
  · have h := ite_t q4 h
    refine V_sub [0] (lv' := [(0, .ref (ga G 0))]) rfl ?_
    exact J_47 σ h
  · have h := ite_f q4 h
    refine V_aload_n C (dt_at dt_X11_entry_0 5 rfl) 0 rfl rfl ?_
    refine g_X11_12_0 C (dt_at dt_X11_entry_0 6 rfl) ?_
    refine V_iload_n C (dt_at dt_X11_entry_0 7 rfl) 2 rfl rfl ?_
    obtain ⟨r5, e6, h⟩ := bd_s h
    refine cv_X4_hasLine C ww_278 x2 e6 (Nat.le_of_ble_eq_true rfl) (Nat.le_of_ble_eq_true rfl) z0 (dt_at dt_X11_entry_0 8 rfl) ?_
    refine V_if_eq C 47 (dt_at dt_X11_entry_0 9 rfl) (by decide) (fun q8 => ?_) (fun q8 => ?_)
    · have h := ite_t q8 h
      refine V_sub [0] (lv' := [(0, .ref (ga G 0))]) rfl ?_
      exact J_47 σ h
    · have h := ite_f q8 h
      refine V_aload_n C (dt_at dt_X11_entry_0 10 rfl) 0 rfl rfl ?_
      refine g_X11_12_0 C (dt_at dt_X11_entry_0 11 rfl) ?_
      refine V_iload_n C (dt_at dt_X11_entry_0 12 rfl) 3 rfl rfl ?_
      obtain ⟨r9, e10, h⟩ := bd_s h
      refine cv_X4_hasLine C ww_278 x3 e10 (Nat.le_of_ble_eq_true rfl) (Nat.le_of_ble_eq_true rfl) z0 (dt_at dt_X11_entry_0 13 rfl) ?_
      refine V_if_eq C 47 (dt_at dt_X11_entry_0 14 rfl) (by decide) (fun q12 => ?_) (fun q12 => ?_)
      · have h := ite_t q12 h
        refine V_sub [0] (lv' := [(0, .ref (ga G 0))]) rfl ?_
        exact J_47 σ h
      · have h := ite_f q12 h
        refine V_iload_n C (dt_at dt_X11_entry_0 15 rfl) 3 rfl rfl ?_
        refine V_iload_n C (dt_at dt_X11_entry_0 16 rfl) 2 rfl rfl ?_
        refine V_icmp_lt C 47 (dt_at dt_X11_entry_0 17 rfl) (by decide) (fun q13 => ?_) (fun q13 => ?_)
        · have h := ite_t q13 h
          refine V_sub [0] (lv' := [(0, .ref (ga G 0))]) rfl ?_
          exact J_47 σ h
        · have h := ite_f q13 h
          refine V_iload C (dt_at dt_X11_entry_0 18 rfl) 4 rfl ?_
          refine V_iconst C 4 (dt_at dt_X11_entry_0 19 rfl) (by decide) ?_
          obtain ⟨r14, e15, h⟩ := bd_s h
          refine cv_X11_isWithin C ww_186 x4 4 e15 (Nat.le_of_ble_eq_true rfl) (Nat.le_of_ble_eq_true rfl) z0 (dt_at dt_X11_entry_0 20 rfl) ?_
          refine V_if_ne C 53 (dt_at dt_X11_entry_0 21 rfl) (by decide) (fun q17 => ?_) (fun q17 => ?_)
          · have h := ite_f q17 h
            refine V_aload_n C (dt_at dt_X11_entry_0 26 rfl) 0 rfl rfl ?_
            refine g_X11_12_0 C (dt_at dt_X11_entry_0 27 rfl) ?_
            refine V_iload_n C (dt_at dt_X11_entry_0 28 rfl) 1 rfl rfl ?_
            refine V_iload_n C (dt_at dt_X11_entry_0 29 rfl) 2 rfl rfl ?_
            refine V_iload_n C (dt_at dt_X11_entry_0 30 rfl) 3 rfl rfl ?_
            refine V_iconst C (-1) (dt_at dt_X11_entry_0 31 rfl) (by decide) ?_
            obtain ⟨r18, e19, h⟩ := bd_s h
            refine cv_X4_isTaken C ww_279 x1 x2 x3 (-1) e19 (Nat.le_of_ble_eq_true rfl) (Nat.le_of_ble_eq_true rfl) z0 (dt_at dt_X11_entry_0 32 rfl) ?_
            refine V_if_eq C 73 (dt_at dt_X11_entry_0 33 rfl) (by decide) (fun q21 => ?_) (fun q21 => ?_)
            · have h := ite_t q21 h
              refine V_aload_n C (dt_at dt_X11_entry_0 38 rfl) 0 rfl rfl ?_
              refine g_X11_12_0 C (dt_at dt_X11_entry_0 39 rfl) ?_
              refine g_X11_132_1 C (dt_at dt_X11_entry_1 0 rfl) ?_
              refine V_bipush C 40 (dt_at dt_X11_entry_1 1 rfl) (by decide) ?_
              refine V_icmp_lt C 91 (dt_at dt_X11_entry_1 2 rfl) (by decide) (fun q22 => ?_) (fun q22 => ?_)
              · have h := ite_t q22 h
                refine V_aload_n C (dt_at dt_X11_entry_1 7 rfl) 0 rfl rfl ?_
                refine g_X11_12_0 C (dt_at dt_X11_entry_1 8 rfl) ?_
                refine V_iload_n C (dt_at dt_X11_entry_1 9 rfl) 1 rfl rfl ?_
                refine V_iload_n C (dt_at dt_X11_entry_1 10 rfl) 2 rfl rfl ?_
                refine V_iload_n C (dt_at dt_X11_entry_1 11 rfl) 3 rfl rfl ?_
                refine V_iload C (dt_at dt_X11_entry_1 12 rfl) 4 rfl ?_
                obtain ⟨r23, σ25, e24, h⟩ := bd2_s h
                refine cv_X4_addEntry C ww_280 x1 x2 x3 x4 e24 (Nat.le_of_ble_eq_true rfl) (Nat.le_of_ble_eq_true rfl) z0 (dt_at dt_X11_entry_1 13 rfl) ?_
                obtain ⟨e1_, e2_⟩ := pin2 h
                subst e1_; subst e2_
                exact V_iret C hR (dt_at dt_X11_entry_1 14 rfl)
              · have h := ite_f q22 h
                refine V_aload_n C (dt_at dt_X11_entry_1 3 rfl) 0 rfl rfl ?_
                refine V_iconst C 4 (dt_at dt_X11_entry_1 4 rfl) (by decide) ?_
                obtain ⟨r26, σ28, e27, h⟩ := bd2_s h
                refine cv_X11_error C ww_193 4 e27 (Nat.le_of_ble_eq_true rfl) (Nat.le_of_ble_eq_true rfl) z0 (dt_at dt_X11_entry_1 5 rfl) ?_
                obtain ⟨e1_, e2_⟩ := pin2 h
                subst e1_; subst e2_
                exact V_iret C hR (dt_at dt_X11_entry_1 6 rfl)
            · have h := ite_f q21 h
              refine V_aload_n C (dt_at dt_X11_entry_0 34 rfl) 0 rfl rfl ?_
              refine V_iconst C 3 (dt_at dt_X11_entry_0 35 rfl) (by decide) ?_
              obtain ⟨r29, σ31, e30, h⟩ := bd2_s h
              refine cv_X11_error C ww_193 3 e30 (Nat.le_of_ble_eq_true rfl) (Nat.le_of_ble_eq_true rfl) z0 (dt_at dt_X11_entry_0 36 rfl) ?_
              obtain ⟨e1_, e2_⟩ := pin2 h
              subst e1_; subst e2_
              exact V_iret C hR (dt_at dt_X11_entry_0 37 rfl)
          · have h := ite_t q17 h
            refine V_sub [0] (lv' := [(0, .ref (ga G 0))]) rfl ?_
            exact J_47 σ h
theorem cv_X11_entry (C : Ck X G cc own nL d) {idx : Nat} (hlk : Cond.methodLink own idx yX11_entry ∈ gtb) (x1 : Int32) (x2 : Int32) (x3 : Int32) (x4 : Int32) {r0 : Int32} {σ0 : St} (e : f_X11_entry x1 x2 x3 x4 σ = some (r0, σ0)) (hdd : 4 ≤ d) (hroom : (rest.map fun v => v.category).sum ≤ 8) (hcs : cells ≤ (xR X).cells ∧ slots ≤ (xR X).slots) (hd : decode cc pc = .ok (.invokevirtual idx, 3)) (k : V X G nL cells slots σ0 (pc + 3) lv (.int r0 :: rest)) : V X G nL cells slots σ pc lv (.int x4 :: .int x3 :: .int x2 :: .int x1 :: .ref (ga G 0) :: rest) := V_callV C (As := [.int x1, .int x2, .int x3, .int x4]) (c_X11_entry X.2.1 G x1 x2 x3 x4 σ r0 σ0 e) cal_X11_entry ww_282 ww_283 hlk rfl hdd (lt110 rfl) rfl rfl rfl hroom hcs hd k
theorem dt_X4_hasEntry_0 : dtab cX4_hasEntry [(0, .iload_n 1, 1), (1, .aload_n 0, 1), (2, .getfield 18, 3), (5, .invokestatic 81, 3), (8, .ireturn, 1)] = true := by decide +kernel
theorem cal_X4_hasEntry : Cal yX4_hasEntry cX4_hasEntry 2 (some .boolean) 1 := ⟨ww_284, ww_92, ⟨by decide, by decide, by decide⟩, by decide⟩
set_option maxHeartbeats 4000000 in
set_option maxRecDepth 100000 in
theorem c_X4_hasEntry (l : Launch) (G : Gx) (x1 : Int32) (σ : St) (r0 : Int32) (h : f_X4_hasEntry x1 σ = some r0) : MI l G yX4_hasEntry cX4_hasEntry 2 (some .boolean) 2 [.ref (ga G 1), .int x1] σ (some (.int r0)) σ := by
  refine MI_of RX4 rfl (by decide) [(0, .ref (ga G 1)), (1, .int x1)] rfl (Nat.le_of_ble_eq_true rfl) ?_
  intro X hXl C hR
  unfold f_X4_hasEntry at h
  refine V_iload_n C (dt_at dt_X4_hasEntry_0 0 rfl) 1 rfl rfl ?_
  refine V_aload_n C (dt_at dt_X4_hasEntry_0 1 rfl) 0 rfl rfl ?_
  refine g_X4_18_1 C (dt_at dt_X4_hasEntry_0 2 rfl) ?_
  obtain ⟨r1, e2, h⟩ := bd_s h
  refine cn_X11_isWithin C x1 (fd σ 1 2) e2 (Nat.le_of_ble_eq_true rfl) (Nat.le_of_ble_eq_true rfl) z0 (dt_at dt_X4_hasEntry_0 3 rfl) ?_
  obtain ⟨h4, h⟩ := chk_s h
  have e1_ := Option.some.inj h
  subst e1_
  exact V_zret C (isB_n h4) hR (dt_at dt_X4_hasEntry_0 4 rfl)
theorem cv_X4_hasEntry (C : Ck X G cc own nL d) {idx : Nat} (hlk : Cond.methodLink own idx yX4_hasEntry ∈ gtb) (x1 : Int32) {r0 : Int32} (e : f_X4_hasEntry x1 σ = some r0) (hdd : 3 ≤ d) (hroom : (rest.map fun v => v.category).sum ≤ 8) (hcs : cells ≤ (xR X).cells ∧ slots ≤ (xR X).slots) (hd : decode cc pc = .ok (.invokevirtual idx, 3)) (k : V X G nL cells slots σ (pc + 3) lv (.int r0 :: rest)) : V X G nL cells slots σ pc lv (.int x1 :: .ref (ga G 1) :: rest) := V_callV C (As := [.int x1]) (c_X4_hasEntry X.2.1 G x1 σ r0 e) cal_X4_hasEntry ww_285 ww_286 hlk rfl hdd (lt110 rfl) rfl rfl rfl hroom hcs hd k
theorem dt_X11_entryIs_0 : dtab cX11_entryIs [(0, .aload_n 0, 1), (1, .getfield 12, 3), (4, .iload_n 1, 1), (5, .invokevirtual 139, 3), (8, .ifCond .eq 11, 3), (11, .iload_n 2, 1), (12, .iconst 4, 1), (13, .invokestatic 79, 3), (16, .ifCond .ne 9, 3), (19, .aload_n 0, 1), (20, .iconst 1, 1), (21, .invokevirtual 68, 3), (24, .ireturn, 1), (25, .iload_n 2, 1), (26, .tableswitch 56 0 2 #[26, 36, 46], 26), (52, .aload_n 0, 1), (53, .getfield 12, 3), (56, .getfield 142, 3), (59, .iload_n 1, 1), (60, .iaload, 1), (61, .ireturn, 1), (62, .aload_n 0, 1), (63, .getfield 12, 3), (66, .getfield 145, 3), (69, .iload_n 1, 1), (70, .iaload, 1), (71, .ireturn, 1), (72, .aload_n 0, 1), (73, .getfield 12, 3), (76, .getfield 148, 3), (79, .iload_n 1, 1), (80, .iaload, 1), (81, .ireturn, 1), (82, .aload_n 0, 1), (83, .getfield 12, 3), (86, .getfield 151, 3), (89, .iload_n 1, 1), (90, .iaload, 1), (91, .ireturn, 1)] = true := by decide +kernel
theorem cal_X11_entryIs : Cal yX11_entryIs cX11_entryIs 3 (some .int) 2 := ⟨ww_292, ww_100, ⟨by decide, by decide, by decide⟩, by decide⟩
set_option maxHeartbeats 4000000 in
set_option maxRecDepth 100000 in
theorem c_X11_entryIs (l : Launch) (G : Gx) (x1 : Int32) (x2 : Int32) (σ : St) (r0 : Int32) (σ0 : St) (h : f_X11_entryIs x1 x2 σ = some (r0, σ0)) : MI l G yX11_entryIs cX11_entryIs 3 (some .int) 3 [.ref (ga G 0), .int x1, .int x2] σ (some (.int r0)) σ0 := by
  refine MI_of RX11 rfl (by decide) [(0, .ref (ga G 0)), (1, .int x1), (2, .int x2)] rfl (Nat.le_of_ble_eq_true rfl) ?_
  intro X hXl C hR
  unfold f_X11_entryIs at h
  have J_19 : ∀ (σ : St), f_X11_entryIs_19 σ = some (r0, σ0) → V X G 3 0 0 σ 19 [(0, .ref (ga G 0))] [] := by
    intro σ h
    unfold f_X11_entryIs_19 at h
    refine V_aload_n C (dt_at dt_X11_entryIs_0 9 rfl) 0 rfl rfl ?_
    refine V_iconst C 1 (dt_at dt_X11_entryIs_0 10 rfl) (by decide) ?_
    obtain ⟨r16, σ18, e17, h⟩ := bd2_s h
    refine cv_X11_error C ww_193 1 e17 (Nat.le_of_ble_eq_true rfl) (Nat.le_of_ble_eq_true rfl) z0 (dt_at dt_X11_entryIs_0 11 rfl) ?_
    obtain ⟨e1_, e2_⟩ := pin2 h
    subst e1_; subst e2_
    exact V_iret C hR (dt_at dt_X11_entryIs_0 12 rfl)
  refine V_aload_n C (dt_at dt_X11_entryIs_0 0 rfl) 0 rfl rfl ?_
  refine g_X11_12_0 C (dt_at dt_X11_entryIs_0 1 rfl) ?_
  refine V_iload_n C (dt_at dt_X11_entryIs_0 2 rfl) 1 rfl rfl ?_
  obtain ⟨r1, e2, h⟩ := bd_s h
  refine cv_X4_hasEntry C ww_287 x1 e2 (Nat.le_of_ble_eq_true rfl) (Nat.le_of_ble_eq_true rfl) z0 (dt_at dt_X11_entryIs_0 3 rfl) ?_
  refine V_if_eq C 19 (dt_at dt_X11_entryIs_0 4 rfl) (by decide) (fun q4 => ?_) (fun q4 => ?_)
  · have h := ite_t q4 h
    refine V_sub [0] (lv' := [(0, .ref (ga G 0))]) rfl ?_
    exact J_19 σ h
  · have h := ite_f q4 h
    refine V_iload_n C (dt_at dt_X11_entryIs_0 5 rfl) 2 rfl rfl ?_
    refine V_iconst C 4 (dt_at dt_X11_entryIs_0 6 rfl) (by decide) ?_
    obtain ⟨r5, e6, h⟩ := bd_s h
    refine cv_X11_isWithin C ww_186 x2 4 e6 (Nat.le_of_ble_eq_true rfl) (Nat.le_of_ble_eq_true rfl) z0 (dt_at dt_X11_entryIs_0 7 rfl) ?_
    refine V_if_ne C 25 (dt_at dt_X11_entryIs_0 8 rfl) (by decide) (fun q8 => ?_) (fun q8 => ?_)
    · have h := ite_f q8 h
      refine V_iload_n C (dt_at dt_X11_entryIs_0 13 rfl) 2 rfl rfl ?_
      by_cases q9 : x2 = 0
      · have h := ite_t q9 h
        refine V_tin C 0 52 (dt_at dt_X11_entryIs_0 14 rfl) ⟨by rw [q9] <;> rfl, by decide⟩ rfl (by decide) ?_
        refine V_aload_n C (dt_at dt_X11_entryIs_0 15 rfl) 0 rfl rfl ?_
        refine g_X11_12_0 C (dt_at dt_X11_entryIs_0 16 rfl) ?_
        refine g_X11_142_1 C (dt_at dt_X11_entryIs_0 17 rfl) ?_
        refine V_iload_n C (dt_at dt_X11_entryIs_0 18 rfl) 1 rfl rfl ?_
        obtain ⟨h10, h⟩ := chk_s h
        refine al_12 C h10 (dt_at dt_X11_entryIs_0 19 rfl) ?_
        obtain ⟨e1_, e2_⟩ := pin2 h
        subst e1_; subst e2_
        exact V_iret C hR (dt_at dt_X11_entryIs_0 20 rfl)
      replace h := ite_f q9 h
      by_cases q11 : x2 = 1
      · have h := ite_t q11 h
        refine V_tin C 1 62 (dt_at dt_X11_entryIs_0 14 rfl) ⟨by rw [q11] <;> rfl, by decide⟩ rfl (by decide) ?_
        refine V_aload_n C (dt_at dt_X11_entryIs_0 21 rfl) 0 rfl rfl ?_
        refine g_X11_12_0 C (dt_at dt_X11_entryIs_0 22 rfl) ?_
        refine g_X11_145_1 C (dt_at dt_X11_entryIs_0 23 rfl) ?_
        refine V_iload_n C (dt_at dt_X11_entryIs_0 24 rfl) 1 rfl rfl ?_
        obtain ⟨h12, h⟩ := chk_s h
        refine al_13 C h12 (dt_at dt_X11_entryIs_0 25 rfl) ?_
        obtain ⟨e1_, e2_⟩ := pin2 h
        subst e1_; subst e2_
        exact V_iret C hR (dt_at dt_X11_entryIs_0 26 rfl)
      replace h := ite_f q11 h
      by_cases q13 : x2 = 2
      · have h := ite_t q13 h
        refine V_tin C 2 72 (dt_at dt_X11_entryIs_0 14 rfl) ⟨by rw [q13] <;> rfl, by decide⟩ rfl (by decide) ?_
        refine V_aload_n C (dt_at dt_X11_entryIs_0 27 rfl) 0 rfl rfl ?_
        refine g_X11_12_0 C (dt_at dt_X11_entryIs_0 28 rfl) ?_
        refine g_X11_148_1 C (dt_at dt_X11_entryIs_0 29 rfl) ?_
        refine V_iload_n C (dt_at dt_X11_entryIs_0 30 rfl) 1 rfl rfl ?_
        obtain ⟨h14, h⟩ := chk_s h
        refine al_14 C h14 (dt_at dt_X11_entryIs_0 31 rfl) ?_
        obtain ⟨e1_, e2_⟩ := pin2 h
        subst e1_; subst e2_
        exact V_iret C hR (dt_at dt_X11_entryIs_0 32 rfl)
      replace h := ite_f q13 h
      refine V_tout C 82 (dt_at dt_X11_entryIs_0 14 rfl) (by have q9t := lv_neT q9 (a := 0) rfl; have q11t := lv_neT q11 (a := 1) rfl; have q13t := lv_neT q13 (a := 2) rfl; omega) (by decide) ?_
      refine V_aload_n C (dt_at dt_X11_entryIs_0 33 rfl) 0 rfl rfl ?_
      refine g_X11_12_0 C (dt_at dt_X11_entryIs_0 34 rfl) ?_
      refine g_X11_151_1 C (dt_at dt_X11_entryIs_0 35 rfl) ?_
      refine V_iload_n C (dt_at dt_X11_entryIs_0 36 rfl) 1 rfl rfl ?_
      obtain ⟨h15, h⟩ := chk_s h
      refine al_15 C h15 (dt_at dt_X11_entryIs_0 37 rfl) ?_
      obtain ⟨e1_, e2_⟩ := pin2 h
      subst e1_; subst e2_
      exact V_iret C hR (dt_at dt_X11_entryIs_0 38 rfl)
    · have h := ite_t q8 h
      refine V_sub [0] (lv' := [(0, .ref (ga G 0))]) rfl ?_
      exact J_19 σ h
theorem cv_X11_entryIs (C : Ck X G cc own nL d) {idx : Nat} (hlk : Cond.methodLink own idx yX11_entryIs ∈ gtb) (x1 : Int32) (x2 : Int32) {r0 : Int32} {σ0 : St} (e : f_X11_entryIs x1 x2 σ = some (r0, σ0)) (hdd : 4 ≤ d) (hroom : (rest.map fun v => v.category).sum ≤ 8) (hcs : cells ≤ (xR X).cells ∧ slots ≤ (xR X).slots) (hd : decode cc pc = .ok (.invokevirtual idx, 3)) (k : V X G nL cells slots σ0 (pc + 3) lv (.int r0 :: rest)) : V X G nL cells slots σ pc lv (.int x2 :: .int x1 :: .ref (ga G 0) :: rest) := V_callV C (As := [.int x1, .int x2]) (c_X11_entryIs X.2.1 G x1 x2 σ r0 σ0 e) cal_X11_entryIs ww_293 ww_294 hlk rfl hdd (lt110 rfl) rfl rfl rfl hroom hcs hd k
theorem dt_X11_feed_0 : dtab cX11_feed [(0, .iload_n 3, 1), (1, .iconst 1, 1), (2, .if_icmp .lt 9, 3), (5, .iload_n 3, 1), (6, .bipush 8, 2), (8, .if_icmp .le 9, 3), (11, .aload_n 0, 1), (12, .iconst 1, 1), (13, .invokevirtual 68, 3), (16, .ireturn, 1), (17, .aload_n 0, 1), (18, .getfield 12, 3), (21, .getfield 186, 3), (24, .getfield 189, 3), (27, .iload_n 3, 1), (28, .iadd, 1), (29, .bipush 50, 2), (31, .if_icmp .le 9, 3), (34, .aload_n 0, 1), (35, .iconst 4, 1), (36, .invokevirtual 68, 3), (39, .ireturn, 1), (40, .iconst 0, 1), (41, .istore 4, 2), (43, .iload 4, 2), (45, .iload_n 3, 1), (46, .if_icmp .ge 31, 3), (49, .aload_n 0, 1), (50, .getfield 12, 3), (53, .getfield 186, 3), (56, .lload_n 1, 1), (57, .bipush 8, 2), (59, .iload 4, 2), (61, .imul, 1), (62, .lushr, 1), (63, .l2i, 1), (64, .sipush 255, 3), (67, .iand, 1), (68, .invokevirtual 192, 3), (71, .iinc 4 1, 3)] = true := by decide +kernel
theorem dt_X11_feed_1 : dtab cX11_feed [(74, .goto (-31), 3), (77, .aload_n 0, 1), (78, .getfield 12, 3), (81, .getfield 186, 3), (84, .getfield 189, 3), (87, .ireturn, 1)] = true := by decide +kernel
theorem cal_X11_feed : Cal yX11_feed cX11_feed 5 (some .int) 2 := ⟨ww_296, ww_100, ⟨by decide, by decide, by decide⟩, by decide⟩
set_option maxHeartbeats 4000000 in
set_option maxRecDepth 100000 in
theorem c_X11_feed (l : Launch) (G : Gx) (x1 : Int64) (x3 : Int32) (σ : St) (r0 : Int32) (σ0 : St) (h : f_X11_feed x1 x3 σ = some (r0, σ0)) : MI l G yX11_feed cX11_feed 5 (some .int) 2 [.ref (ga G 0), .long x1, .int x3] σ (some (.int r0)) σ0 := by
  refine MI_of RX11 rfl (by decide) [(0, .ref (ga G 0)), (1, .long x1), (3, .int x3)] rfl (Nat.le_of_ble_eq_true rfl) ?_
  intro X hXl C hR
  unfold f_X11_feed at h
  have J_77 : ∀ (σ : St), f_X11_feed_77 σ = some (r0, σ0) → V X G 5 0 0 σ 77 [(0, .ref (ga G 0))] [] := by
    intro σ h
    unfold f_X11_feed_77 at h
    refine V_aload_n C (dt_at dt_X11_feed_1 1 rfl) 0 rfl rfl ?_
    refine g_X11_12_0 C (dt_at dt_X11_feed_1 2 rfl) ?_
    refine g_X11_186_1 C (dt_at dt_X11_feed_1 3 rfl) ?_
    refine g_X11_189_52 C (dt_at dt_X11_feed_1 4 rfl) ?_
    obtain ⟨e1_, e2_⟩ := pin2 h
    subst e1_; subst e2_
    exact V_iret C hR (dt_at dt_X11_feed_1 5 rfl)
  have J_43 : ∀ (x4 : Int32) (σ : St), f_X11_feed_43 x1 x3 x4 σ = some (r0, σ0) → V X G 5 0 0 σ 43 [(0, .ref (ga G 0)), (1, .long x1), (3, .int x3), (4, .int x4)] [] := by
    intro x4 σ h
    refine it_v (P := fun z : Int32 × St => V X G 5 0 0 z.2 43 [(0, .ref (ga G 0)), (1, .long x1), (3, .int x3), (4, .int z.1)] []) ?_ (x4, σ) h
    clear h
    intro z w_43 h ih_43 ex_43
    obtain ⟨x4, σ⟩ := z
    have h : b_X11_feed_43 x1 x3 x4 σ = some w_43 := h
    show V X G 5 0 0 σ 43 [(0, .ref (ga G 0)), (1, .long x1), (3, .int x3), (4, .int x4)] []
    unfold b_X11_feed_43 at h
    refine V_iload C (dt_at dt_X11_feed_0 24 rfl) 3 rfl ?_
    refine V_iload_n C (dt_at dt_X11_feed_0 25 rfl) 2 rfl rfl ?_
    refine V_icmp_ge C 77 (dt_at dt_X11_feed_0 26 rfl) (by decide) (fun q10 => ?_) (fun q10 => ?_)
    · have h := ite_f q10 h
      refine V_sub [0] (lv' := [(0, .ref (ga G 0))]) rfl ?_
      obtain ⟨t11, h, e_43⟩ := map_s h
      have e_43 := ex_43 _ e_43
      rw [e_43] at h
      exact J_77 σ h
    · have h := ite_t q10 h
      refine V_aload_n C (dt_at dt_X11_feed_0 27 rfl) 0 rfl rfl ?_
      refine g_X11_12_0 C (dt_at dt_X11_feed_0 28 rfl) ?_
      refine g_X11_186_1 C (dt_at dt_X11_feed_0 29 rfl) ?_
      refine V_lload_n C (dt_at dt_X11_feed_0 30 rfl) 1 rfl rfl ?_
      refine V_bipush C 8 (dt_at dt_X11_feed_0 31 rfl) (by decide) ?_
      refine V_iload C (dt_at dt_X11_feed_0 32 rfl) 3 rfl ?_
      refine V_imul C (dt_at dt_X11_feed_0 33 rfl) ?_
      refine V_lushr C (dt_at dt_X11_feed_0 34 rfl) ?_
      refine V_l2i C (dt_at dt_X11_feed_0 35 rfl) ?_
      refine V_sipush C 255 (dt_at dt_X11_feed_0 36 rfl) (by decide) ?_
      refine V_iand C (dt_at dt_X11_feed_0 37 rfl) ?_
      obtain ⟨σ14, e13, h⟩ := bd_s h
      refine cv_X7_add C ww_295 52 ((((x1).toUInt64 >>> (((8 * x4) : Int32).toInt64.toUInt64 &&& Int64.toUInt64 63)).toInt64).toInt32 &&& 255) e13 (Nat.le_of_ble_eq_true rfl) (Nat.le_of_ble_eq_true rfl) z0 (dt_at dt_X11_feed_0 38 rfl) ?_
      refine V_iinc C (x4 + 1) 3 [1, 2, 3, 0] (lv' := [(0, .ref (ga G 0)), (1, .long x1), (3, .int x3), (4, .int (x4 + 1))]) (dt_at dt_X11_feed_0 39 rfl) rfl (by rfl) (by decide) rfl ?_
      refine V_goto C 43 (dt_at dt_X11_feed_1 0 rfl) (by decide) ?_
      exact ih_43 ((x4 + 1), σ14) (Option.some.inj h).symm
  have J_11 : ∀ (σ : St), f_X11_feed_11 σ = some (r0, σ0) → V X G 5 0 0 σ 11 [(0, .ref (ga G 0))] [] := by
    intro σ h
    unfold f_X11_feed_11 at h
    refine V_aload_n C (dt_at dt_X11_feed_0 6 rfl) 0 rfl rfl ?_
    refine V_iconst C 1 (dt_at dt_X11_feed_0 7 rfl) (by decide) ?_
    obtain ⟨r7, σ9, e8, h⟩ := bd2_s h
    refine cv_X11_error C ww_193 1 e8 (Nat.le_of_ble_eq_true rfl) (Nat.le_of_ble_eq_true rfl) z0 (dt_at dt_X11_feed_0 8 rfl) ?_
    obtain ⟨e1_, e2_⟩ := pin2 h
    subst e1_; subst e2_
    exact V_iret C hR (dt_at dt_X11_feed_0 9 rfl)
  refine V_iload_n C (dt_at dt_X11_feed_0 0 rfl) 2 rfl rfl ?_
  refine V_iconst C 1 (dt_at dt_X11_feed_0 1 rfl) (by decide) ?_
  refine V_icmp_lt C 11 (dt_at dt_X11_feed_0 2 rfl) (by decide) (fun q1 => ?_) (fun q1 => ?_)
  · have h := ite_t q1 h
    refine V_sub [0] (lv' := [(0, .ref (ga G 0))]) rfl ?_
    exact J_11 σ h
  · have h := ite_f q1 h
    refine V_iload_n C (dt_at dt_X11_feed_0 3 rfl) 2 rfl rfl ?_
    refine V_bipush C 8 (dt_at dt_X11_feed_0 4 rfl) (by decide) ?_
    refine V_icmp_le C 17 (dt_at dt_X11_feed_0 5 rfl) (by decide) (fun q2 => ?_) (fun q2 => ?_)
    · have h := ite_f q2 h
      refine V_aload_n C (dt_at dt_X11_feed_0 10 rfl) 0 rfl rfl ?_
      refine g_X11_12_0 C (dt_at dt_X11_feed_0 11 rfl) ?_
      refine g_X11_186_1 C (dt_at dt_X11_feed_0 12 rfl) ?_
      refine g_X11_189_52 C (dt_at dt_X11_feed_0 13 rfl) ?_
      refine V_iload_n C (dt_at dt_X11_feed_0 14 rfl) 2 rfl rfl ?_
      refine V_iadd C (dt_at dt_X11_feed_0 15 rfl) ?_
      refine V_bipush C 50 (dt_at dt_X11_feed_0 16 rfl) (by decide) ?_
      refine V_icmp_le C 40 (dt_at dt_X11_feed_0 17 rfl) (by decide) (fun q3 => ?_) (fun q3 => ?_)
      · have h := ite_f q3 h
        refine V_iconst C 0 (dt_at dt_X11_feed_0 22 rfl) (by decide) ?_
        refine V_istore C [1, 2, 3, 0] (lv' := [(0, .ref (ga G 0)), (1, .long x1), (3, .int x3), (4, .int 0)]) (dt_at dt_X11_feed_0 23 rfl) (by decide) rfl ?_
        exact J_43 0 σ h
      · have h := ite_t q3 h
        refine V_aload_n C (dt_at dt_X11_feed_0 18 rfl) 0 rfl rfl ?_
        refine V_iconst C 4 (dt_at dt_X11_feed_0 19 rfl) (by decide) ?_
        obtain ⟨r4, σ6, e5, h⟩ := bd2_s h
        refine cv_X11_error C ww_193 4 e5 (Nat.le_of_ble_eq_true rfl) (Nat.le_of_ble_eq_true rfl) z0 (dt_at dt_X11_feed_0 20 rfl) ?_
        obtain ⟨e1_, e2_⟩ := pin2 h
        subst e1_; subst e2_
        exact V_iret C hR (dt_at dt_X11_feed_0 21 rfl)
    · have h := ite_t q2 h
      refine V_sub [0] (lv' := [(0, .ref (ga G 0))]) rfl ?_
      exact J_11 σ h
theorem cv_X11_feed (C : Ck X G cc own nL d) {idx : Nat} (hlk : Cond.methodLink own idx yX11_feed ∈ gtb) (x1 : Int64) (x3 : Int32) {r0 : Int32} {σ0 : St} (e : f_X11_feed x1 x3 σ = some (r0, σ0)) (hdd : 3 ≤ d) (hroom : (rest.map fun v => v.category).sum ≤ 8) (hcs : cells ≤ (xR X).cells ∧ slots ≤ (xR X).slots) (hd : decode cc pc = .ok (.invokevirtual idx, 3)) (k : V X G nL cells slots σ0 (pc + 3) lv (.int r0 :: rest)) : V X G nL cells slots σ pc lv (.int x3 :: .long x1 :: .ref (ga G 0) :: rest) := V_callV C (As := [.long x1, .int x3]) (c_X11_feed X.2.1 G x1 x3 σ r0 σ0 e) cal_X11_feed ww_297 ww_298 hlk rfl hdd (lt110 rfl) rfl rfl rfl hroom hcs hd k
theorem dt_X11_shiftError_0 : dtab cX11_shiftError [(0, .aload_n 0, 1), (1, .getfield 12, 3), (4, .iload_n 1, 1), (5, .invokevirtual 139, 3), (8, .ifCond .ne 5, 3), (11, .iconst 1, 1), (12, .ireturn, 1), (13, .aload_n 0, 1), (14, .getfield 12, 3), (17, .getfield 145, 3), (20, .iload_n 1, 1), (21, .iaload, 1), (22, .i2l, 1), (23, .iload_n 2, 1), (24, .i2l, 1), (25, .ladd, 1), (26, .lstore_n 3, 1), (27, .aload_n 0, 1), (28, .getfield 12, 3), (31, .getfield 148, 3), (34, .iload_n 1, 1), (35, .iaload, 1), (36, .i2l, 1), (37, .iload_n 2, 1), (38, .i2l, 1), (39, .ladd, 1), (40, .lstore 5, 2), (42, .lload_n 3, 1), (43, .lconst 0, 1), (44, .lcmp, 1), (45, .ifCond .lt 17, 3), (48, .lload 5, 2), (50, .aload_n 0, 1), (51, .getfield 12, 3), (54, .getfield 76, 3), (57, .i2l, 1), (58, .lcmp, 1), (59, .ifCond .lt 5, 3), (62, .iconst 1, 1), (63, .ireturn, 1)] = true := by decide +kernel
theorem dt_X11_shiftError_1 : dtab cX11_shiftError [(64, .aload_n 0, 1), (65, .getfield 12, 3), (68, .aload_n 0, 1), (69, .getfield 12, 3), (72, .getfield 142, 3), (75, .iload_n 1, 1), (76, .iaload, 1), (77, .lload_n 3, 1), (78, .l2i, 1), (79, .lload 5, 2), (81, .l2i, 1), (82, .iload_n 1, 1), (83, .invokevirtual 128, 3), (86, .ifCond .eq 7, 3), (89, .iconst 3, 1), (90, .goto 4, 3), (93, .iconst 0, 1), (94, .ireturn, 1)] = true := by decide +kernel
theorem cal_X11_shiftError : Cal yX11_shiftError cX11_shiftError 7 (some .int) 2 := ⟨ww_299, ww_100, ⟨by decide, by decide, by decide⟩, by decide⟩
set_option maxHeartbeats 4000000 in
set_option maxRecDepth 100000 in
theorem c_X11_shiftError (l : Launch) (G : Gx) (x1 : Int32) (x2 : Int32) (σ : St) (r0 : Int32) (h : f_X11_shiftError x1 x2 σ = some r0) : MI l G yX11_shiftError cX11_shiftError 7 (some .int) 3 [.ref (ga G 0), .int x1, .int x2] σ (some (.int r0)) σ := by
  refine MI_of RX11 rfl (by decide) [(0, .ref (ga G 0)), (1, .int x1), (2, .int x2)] rfl (Nat.le_of_ble_eq_true rfl) ?_
  intro X hXl C hR
  unfold f_X11_shiftError at h
  refine V_aload_n C (dt_at dt_X11_shiftError_0 0 rfl) 0 rfl rfl ?_
  refine g_X11_12_0 C (dt_at dt_X11_shiftError_0 1 rfl) ?_
  refine V_iload_n C (dt_at dt_X11_shiftError_0 2 rfl) 1 rfl rfl ?_
  obtain ⟨r1, e2, h⟩ := bd_s h
  refine cv_X4_hasEntry C ww_287 x1 e2 (Nat.le_of_ble_eq_true rfl) (Nat.le_of_ble_eq_true rfl) z0 (dt_at dt_X11_shiftError_0 3 rfl) ?_
  refine V_if_ne C 13 (dt_at dt_X11_shiftError_0 4 rfl) (by decide) (fun q4 => ?_) (fun q4 => ?_)
  · have h := ite_f q4 h
    refine V_aload_n C (dt_at dt_X11_shiftError_0 7 rfl) 0 rfl rfl ?_
    refine g_X11_12_0 C (dt_at dt_X11_shiftError_0 8 rfl) ?_
    refine g_X11_145_1 C (dt_at dt_X11_shiftError_0 9 rfl) ?_
    refine V_iload_n C (dt_at dt_X11_shiftError_0 10 rfl) 1 rfl rfl ?_
    obtain ⟨h5, h⟩ := chk_s h
    refine al_13 C h5 (dt_at dt_X11_shiftError_0 11 rfl) ?_
    refine V_i2l C (dt_at dt_X11_shiftError_0 12 rfl) ?_
    refine V_iload_n C (dt_at dt_X11_shiftError_0 13 rfl) 2 rfl rfl ?_
    refine V_i2l C (dt_at dt_X11_shiftError_0 14 rfl) ?_
    refine V_ladd C (dt_at dt_X11_shiftError_0 15 rfl) ?_
    refine V_lstore_n C [1, 2, 3, 0] (lv' := [(0, .ref (ga G 0)), (1, .int x1), (2, .int x2), (3, .long ((rd σ 13 x1).toInt64 + x2.toInt64))]) (dt_at dt_X11_shiftError_0 16 rfl) rfl (by decide) rfl ?_
    refine V_aload_n C (dt_at dt_X11_shiftError_0 17 rfl) 0 rfl rfl ?_
    refine g_X11_12_0 C (dt_at dt_X11_shiftError_0 18 rfl) ?_
    refine g_X11_148_1 C (dt_at dt_X11_shiftError_0 19 rfl) ?_
    refine V_iload_n C (dt_at dt_X11_shiftError_0 20 rfl) 1 rfl rfl ?_
    refine al_14 C h5 (dt_at dt_X11_shiftError_0 21 rfl) ?_
    refine V_i2l C (dt_at dt_X11_shiftError_0 22 rfl) ?_
    refine V_iload_n C (dt_at dt_X11_shiftError_0 23 rfl) 2 rfl rfl ?_
    refine V_i2l C (dt_at dt_X11_shiftError_0 24 rfl) ?_
    refine V_ladd C (dt_at dt_X11_shiftError_0 25 rfl) ?_
    refine V_lstore C [1, 2, 3, 4, 0] (lv' := [(0, .ref (ga G 0)), (1, .int x1), (2, .int x2), (3, .long ((rd σ 13 x1).toInt64 + x2.toInt64)), (5, .long ((rd σ 14 x1).toInt64 + x2.toInt64))]) (dt_at dt_X11_shiftError_0 26 rfl) (by decide) rfl ?_
    refine V_lload_n C (dt_at dt_X11_shiftError_0 27 rfl) 3 rfl rfl ?_
    refine V_lconst C 0 (dt_at dt_X11_shiftError_0 28 rfl) (by decide) ?_
    refine V_lcmp C (dt_at dt_X11_shiftError_0 29 rfl) ?_
    refine V_if_lt C 62 (dt_at dt_X11_shiftError_0 30 rfl) (by decide) (fun q6 => ?_) (fun q6 => ?_)
    · have h := ite_t q6 h
      refine V_iconst C 1 (dt_at dt_X11_shiftError_0 38 rfl) (by decide) ?_
      have e1_ := Option.some.inj h
      subst e1_
      exact V_iret C hR (dt_at dt_X11_shiftError_0 39 rfl)
    · have h := ite_f q6 h
      refine V_lload C (dt_at dt_X11_shiftError_0 31 rfl) 4 rfl ?_
      refine V_aload_n C (dt_at dt_X11_shiftError_0 32 rfl) 0 rfl rfl ?_
      refine g_X11_12_0 C (dt_at dt_X11_shiftError_0 33 rfl) ?_
      refine g_X11_76_1 C (dt_at dt_X11_shiftError_0 34 rfl) ?_
      refine V_i2l C (dt_at dt_X11_shiftError_0 35 rfl) ?_
      refine V_lcmp C (dt_at dt_X11_shiftError_0 36 rfl) ?_
      refine V_if_lt C 64 (dt_at dt_X11_shiftError_0 37 rfl) (by decide) (fun q7 => ?_) (fun q7 => ?_)
      · have h := ite_t q7 h
        refine V_aload_n C (dt_at dt_X11_shiftError_1 0 rfl) 0 rfl rfl ?_
        refine g_X11_12_0 C (dt_at dt_X11_shiftError_1 1 rfl) ?_
        refine V_aload_n C (dt_at dt_X11_shiftError_1 2 rfl) 0 rfl rfl ?_
        refine g_X11_12_0 C (dt_at dt_X11_shiftError_1 3 rfl) ?_
        refine g_X11_142_1 C (dt_at dt_X11_shiftError_1 4 rfl) ?_
        refine V_iload_n C (dt_at dt_X11_shiftError_1 5 rfl) 1 rfl rfl ?_
        refine al_12 C h5 (dt_at dt_X11_shiftError_1 6 rfl) ?_
        refine V_lload_n C (dt_at dt_X11_shiftError_1 7 rfl) 3 rfl rfl ?_
        refine V_l2i C (dt_at dt_X11_shiftError_1 8 rfl) ?_
        refine V_lload C (dt_at dt_X11_shiftError_1 9 rfl) 4 rfl ?_
        refine V_l2i C (dt_at dt_X11_shiftError_1 10 rfl) ?_
        refine V_iload_n C (dt_at dt_X11_shiftError_1 11 rfl) 1 rfl rfl ?_
        obtain ⟨r8, e9, h⟩ := bd_s h
        refine cv_X4_isTaken C ww_279 (rd σ 12 x1) (((rd σ 13 x1).toInt64 + x2.toInt64).toInt32) (((rd σ 14 x1).toInt64 + x2.toInt64).toInt32) x1 e9 (Nat.le_of_ble_eq_true rfl) (Nat.le_of_ble_eq_true rfl) z0 (dt_at dt_X11_shiftError_1 12 rfl) ?_
        refine V_if_eq C 93 (dt_at dt_X11_shiftError_1 13 rfl) (by decide) (fun q11 => ?_) (fun q11 => ?_)
        · have h := ite_t q11 h
          refine V_iconst C 0 (dt_at dt_X11_shiftError_1 16 rfl) (by decide) ?_
          have e1_ := Option.some.inj h
          subst e1_
          exact V_iret C hR (dt_at dt_X11_shiftError_1 17 rfl)
        · have h := ite_f q11 h
          refine V_iconst C 3 (dt_at dt_X11_shiftError_1 14 rfl) (by decide) ?_
          refine V_goto C 94 (dt_at dt_X11_shiftError_1 15 rfl) (by decide) ?_
          have e1_ := Option.some.inj h
          subst e1_
          exact V_iret C hR (dt_at dt_X11_shiftError_1 17 rfl)
      · have h := ite_f q7 h
        refine V_iconst C 1 (dt_at dt_X11_shiftError_0 38 rfl) (by decide) ?_
        have e1_ := Option.some.inj h
        subst e1_
        exact V_iret C hR (dt_at dt_X11_shiftError_0 39 rfl)
  · have h := ite_t q4 h
    refine V_iconst C 1 (dt_at dt_X11_shiftError_0 5 rfl) (by decide) ?_
    have e1_ := Option.some.inj h
    subst e1_
    exact V_iret C hR (dt_at dt_X11_shiftError_0 6 rfl)
theorem cv_X11_shiftError (C : Ck X G cc own nL d) {idx : Nat} (hlk : Cond.methodLink own idx yX11_shiftError ∈ gtb) (x1 : Int32) (x2 : Int32) {r0 : Int32} (e : f_X11_shiftError x1 x2 σ = some r0) (hdd : 4 ≤ d) (hroom : (rest.map fun v => v.category).sum ≤ 8) (hcs : cells ≤ (xR X).cells ∧ slots ≤ (xR X).slots) (hd : decode cc pc = .ok (.invokevirtual idx, 3)) (k : V X G nL cells slots σ (pc + 3) lv (.int r0 :: rest)) : V X G nL cells slots σ pc lv (.int x2 :: .int x1 :: .ref (ga G 0) :: rest) := V_callV C (As := [.int x1, .int x2]) (c_X11_shiftError X.2.1 G x1 x2 σ r0 e) cal_X11_shiftError ww_300 ww_301 hlk rfl hdd (lt110 rfl) rfl rfl rfl hroom hcs hd k
end WK
