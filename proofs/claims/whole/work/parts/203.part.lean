section WK
variable {X : Xx} {G : Gx} {cc : ByteArray} {own : String} {nL d cells slots pc : Nat} {σ : St} {lv : List (Nat × Value)} {rest : List Value}
theorem dt_X11_part_0 : dtab cX11_part [(0, .iload_n 1, 1), (1, .bipush 6, 2), (3, .invokestatic 79, 3), (6, .ifCond .eq 13, 3), (9, .iload_n 2, 1), (10, .sipush 10000, 3), (13, .invokestatic 79, 3), (16, .ifCond .ne 9, 3), (19, .aload_n 0, 1), (20, .iconst 1, 1), (21, .invokevirtual 68, 3), (24, .ireturn, 1), (25, .aload_n 0, 1), (26, .getfield 12, 3), (29, .getfield 83, 3), (32, .bipush 10, 2), (34, .if_icmp .lt 9, 3), (37, .aload_n 0, 1), (38, .iconst 4, 1), (39, .invokevirtual 68, 3), (42, .ireturn, 1), (43, .aload_n 0, 1), (44, .getfield 12, 3), (47, .aload_n 0, 1), (48, .iload_n 1, 1), (49, .iload_n 2, 1), (50, .invokevirtual 86, 3), (53, .invokevirtual 90, 3), (56, .ireturn, 1)] = true := by decide +kernel
theorem cal_X11_part : Cal yX11_part cX11_part 3 (some .int) 2 := ⟨ww_1194, ww_100, ⟨by decide, by decide, by decide⟩, by decide⟩
set_option maxHeartbeats 4000000 in
set_option maxRecDepth 100000 in
theorem c_X11_part (l : Launch) (G : Gx) (x1 : Int32) (x2 : Int32) (σ : St) (r0 : Int32) (σ0 : St) (h : f_X11_part x1 x2 σ = some (r0, σ0)) : Met l yX11_part (.code yX11_part cX11_part 3 (some .int) :: gtb) (rmD 7 1 5) (va_Pc [.ref (ga G 0), .int x1, .int x2] (Wp G σ)) (fun _ st oc t => oc = .returned (some (.int r0)) ∧ ∃ G2, Gsim G G2 ∧ Wq G2 σ0 st t) 1 5 (gA G) := by
  refine Met_of RX11 rfl (by decide) [(0, .ref (ga G 0)), (1, .int x1), (2, .int x2)] rfl (Nat.le_of_ble_eq_true rfl) ?_
  intro X hXl C hr hQ hRm
  unfold f_X11_part at h
  have hcs : 0 + 1 ≤ (xR X).cells ∧ 0 + 5 ≤ (xR X).slots := by rw [hRm]; exact ⟨Nat.le_refl _, Nat.le_refl _⟩
  have J19 : f_X11_error 1 σ = some (r0, σ0) → V X G 3 0 0 σ 19 [(0, .ref (ga G 0)), (1, .int x1), (2, .int x2)] [] := by
    intro h
    refine V_aload_n C (dt_at dt_X11_part_0 8 rfl) 0 rfl rfl ?_
    refine V_iconst C 1 (dt_at dt_X11_part_0 9 rfl) (by decide) ?_
    refine cv_X11_error C ww_193 1 h (Nat.le_of_ble_eq_true rfl) (Nat.le_of_ble_eq_true rfl) z0 (dt_at dt_X11_part_0 10 rfl) ?_
    exact fun H locs ls hH hl => by rw [hQ]; exact W.widen (k := 1) (n := 5) (Nat.zero_le _) (Nat.zero_le _) (W.iret C.1 C.2.1 hr (fun t ht _ => ⟨rfl, G, ⟨rfl, rfl, rfl, fun _ _ => rfl⟩, by rw [ht]; exact hH.1, hH.2.1, hH.2.2.F ht⟩) hH.2.2.2.2 (dt_at dt_X11_part_0 11 rfl) C.2.2.2.2.2.2.2.1)
  refine V_iload_n C (dt_at dt_X11_part_0 0 rfl) 1 rfl rfl ?_
  refine V_bipush C 6 (dt_at dt_X11_part_0 1 rfl) (by decide) ?_
  obtain ⟨r1, e1, h⟩ := bd_s h
  refine cv_X11_isWithin C ww_186 x1 6 e1 (Nat.le_of_ble_eq_true rfl) (Nat.le_of_ble_eq_true rfl) z0 (dt_at dt_X11_part_0 2 rfl) ?_
  refine V_if_eq C 19 (dt_at dt_X11_part_0 3 rfl) (by decide) (fun q1 => ?_) (fun q1 => ?_)
  · exact J19 (ite_t q1 h)
  · have h := ite_f q1 h
    refine V_iload_n C (dt_at dt_X11_part_0 4 rfl) 2 rfl rfl ?_
    refine V_sipush C 10000 (dt_at dt_X11_part_0 5 rfl) (by decide) ?_
    obtain ⟨r2, e2, h⟩ := bd_s h
    refine cv_X11_isWithin C ww_186 x2 10000 e2 (Nat.le_of_ble_eq_true rfl) (Nat.le_of_ble_eq_true rfl) z0 (dt_at dt_X11_part_0 6 rfl) ?_
    refine V_if_ne C 25 (dt_at dt_X11_part_0 7 rfl) (by decide) (fun q2 => ?_) (fun q2 => ?_)
    · have h := ite_f q2 h
      refine V_aload_n C (dt_at dt_X11_part_0 12 rfl) 0 rfl rfl ?_
      refine g_X11_12_0 C (dt_at dt_X11_part_0 13 rfl) ?_
      refine g_X11_83_1 C (dt_at dt_X11_part_0 14 rfl) ?_
      refine V_bipush C 10 (dt_at dt_X11_part_0 15 rfl) (by decide) ?_
      refine V_icmp_lt C 43 (dt_at dt_X11_part_0 16 rfl) (by decide) (fun q3 => ?_) (fun q3 => ?_)
      · have h := ite_t q3 h
        obtain ⟨σ1, e3, h⟩ := bd_s h
        refine V_aload_n C (dt_at dt_X11_part_0 21 rfl) 0 rfl rfl ?_
        refine g_X11_12_0 C (dt_at dt_X11_part_0 22 rfl) ?_
        refine V_aload_n C (dt_at dt_X11_part_0 23 rfl) 0 rfl rfl ?_
        refine V_iload_n C (dt_at dt_X11_part_0 24 rfl) 1 rfl rfl ?_
        refine V_iload_n C (dt_at dt_X11_part_0 25 rfl) 2 rfl rfl ?_
        refine V_sub [] (lv' := []) rfl ?_
        intro H locs ls hH hl
        have hcb := hR_v C (d1 := 5) (maxL := 4) (Nat.le_of_ble_eq_true rfl) (by decide)
        refine V_ranG (a := #[]) (K := 110 + σ.1) (σ0 := σ1) (rest := [.ref (ga G 1)]) ?_ hH hl (va_runV (As := [.int x1, .int x2]) (C := RX11) (b := ga G 0) (bytes := cX11_newRole) (maxL := 4) (ret := (some (.object "FivePlayers$Role"))) (n := 2) ⟨C.1, C.2.1, C.2.2.1, C.2.2.2.1, C.2.2.2.2.1⟩ (c_X11_newRole X.2.1 G x1 x2 σ σ1 e3) ⟨callB_of 2 C.2.2.2.2.1 (gtb_code cal_X11_newRole.1) rfl rfl rfl (C.2.2.2.2.1 _ cal_X11_newRole.2.1) (C.2.2.2.2.1 _ ww_1197) cal_X11_newRole.2.2.1 hcb, C.2.2.2.2.1 _ ww_1195, C.2.2.2.2.1 _ ww_1196⟩ ⟨Wp_blind, va_recv C.2.2.2.2.2.1.1 hH.1 (ci := 11) (q0 := 0) rfl (wsl_at (lt110 rfl)), Wp_pre C hH⟩ rfl rfl hl.1 rfl (lv_room (Nat.le_of_ble_eq_true rfl)) (dt_at dt_X11_part_0 26 rfl) hcs)
        intro q
        generalize hG : gset G (110 + σ.1) q = G2
        have e0 : q = ga G2 (110 + σ.1) := by rw [← hG]; exact gset_self.symm
        have e1 : ga G 1 = ga G2 1 := by rw [← hG]; exact (gset_ne (by omega)).symm
        have C2 : Ck X G2 cX11_part RX11 3 7 := by rw [← hG]; exact C
        have hsim : Gsim G G2 := by
          rw [← hG]
          exact ⟨rfl, rfl, rfl, fun z hz => gset_ne (by omega)⟩
        rw [e0, e1]
        refine cv_X4_addPart C2 ww_1198 (110 + σ.1) h (Nat.le_of_ble_eq_true rfl) (Nat.le_of_ble_eq_true rfl) hcs (dt_at dt_X11_part_0 27 rfl) ?_
        intro H2 locs2 ls2 hH2 hl2
        rw [hQ]
        exact W.iret C.1 C.2.1 hr (fun t ht _ => ⟨rfl, G2, hsim, by rw [ht]; exact hH2.1, hH2.2.1, hH2.2.2.F ht⟩) (by have hF := hH2.2.2.2.2; rw [← hG] at hF; exact hF) (dt_at dt_X11_part_0 28 rfl) C.2.2.2.2.2.2.2.1
      · have h := ite_f q3 h
        refine V_aload_n C (dt_at dt_X11_part_0 17 rfl) 0 rfl rfl ?_
        refine V_iconst C 4 (dt_at dt_X11_part_0 18 rfl) (by decide) ?_
        refine cv_X11_error C ww_193 4 h (Nat.le_of_ble_eq_true rfl) (Nat.le_of_ble_eq_true rfl) z0 (dt_at dt_X11_part_0 19 rfl) ?_
        exact fun H locs ls hH hl => by rw [hQ]; exact W.widen (k := 1) (n := 5) (Nat.zero_le _) (Nat.zero_le _) (W.iret C.1 C.2.1 hr (fun t ht _ => ⟨rfl, G, ⟨rfl, rfl, rfl, fun _ _ => rfl⟩, by rw [ht]; exact hH.1, hH.2.1, hH.2.2.F ht⟩) hH.2.2.2.2 (dt_at dt_X11_part_0 20 rfl) C.2.2.2.2.2.2.2.1)
    · have h := ite_t q2 h
      exact J19 h
end WK
