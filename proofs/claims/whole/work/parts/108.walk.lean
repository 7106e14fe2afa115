section WK
variable {X : Xx} {G : Gx} {cc : ByteArray} {own : String} {nL d cells slots pc : Nat} {σ : St} {lv : List (Nat × Value)} {rest : List Value}
theorem csu_X0_17 (C : Ck X G cc RX0 nL d) (c0 : Nat) (x1 : Int32) {r0 : Int32} {σ0 : St} (hr : isRole σ c0 = true) (e : f_X9_walk c0 x1 σ = some (r0, σ0)) (hdd : 6 ≤ d) (hroom : (rest.map fun v => v.category).sum ≤ 8) (hcs : cells ≤ (xR X).cells ∧ slots ≤ (xR X).slots) (hd : decode cc pc = .ok (.invokespecial 17, 3)) (k : V X G nL cells slots σ0 (pc + 3) lv (.int r0 :: rest)) : V X G nL cells slots σ pc lv (.ref (ga G 74) :: .int x1 :: .ref (ga G c0) :: rest) := by
  have h := of_decide_eq_true hr
  have hK : c0 < 110 + σ.1 := h.2.1
  rcases h.2.2 with q | q | q | q | q | q
  · exact V_callSU C (Cn := RX0) (x := yX9_walk) (As := [.int x1, .ref (ga G 74)]) (K := c0) (c_X9_walk X.2.1 G c0 x1 σ r0 σ0 e) cal_X9_walk ww_897 ww_899 ⟨rfl, rfl⟩ ww_896 ww_861 (Or.inl rfl) (by decide) rfl (Nat.le_trans (Nat.le_of_ble_eq_true rfl) hdd) hK (role_lay h.1 q) (T := TX0) (N := 5) rfl rfl hroom hcs hd k
  · exact V_callSU C (Cn := RX1) (x := yX9_walk) (As := [.int x1, .ref (ga G 74)]) (K := c0) (c_X9_walk X.2.1 G c0 x1 σ r0 σ0 e) cal_X9_walk ww_897 ww_899 ⟨rfl, rfl⟩ ww_896 ww_861 (Or.inl rfl) (by decide) rfl (Nat.le_trans (Nat.le_of_ble_eq_true rfl) hdd) hK (role_lay h.1 q) (T := TX1) (N := 5) rfl rfl hroom hcs hd k
  · exact V_callSU C (Cn := RX2) (x := yX9_walk) (As := [.int x1, .ref (ga G 74)]) (K := c0) (c_X9_walk X.2.1 G c0 x1 σ r0 σ0 e) cal_X9_walk ww_897 ww_899 ⟨rfl, rfl⟩ ww_896 ww_861 (Or.inl rfl) (by decide) rfl (Nat.le_trans (Nat.le_of_ble_eq_true rfl) hdd) hK (role_lay h.1 q) (T := TX2) (N := 5) rfl rfl hroom hcs hd k
  · exact V_callSU C (Cn := RX3) (x := yX9_walk) (As := [.int x1, .ref (ga G 74)]) (K := c0) (c_X9_walk X.2.1 G c0 x1 σ r0 σ0 e) cal_X9_walk ww_897 ww_899 ⟨rfl, rfl⟩ ww_896 ww_861 (Or.inl rfl) (by decide) rfl (Nat.le_trans (Nat.le_of_ble_eq_true rfl) hdd) hK (role_lay h.1 q) (T := TX3) (N := 5) rfl rfl hroom hcs hd k
  · exact V_callSU C (Cn := RX6) (x := yX9_walk) (As := [.int x1, .ref (ga G 74)]) (K := c0) (c_X9_walk X.2.1 G c0 x1 σ r0 σ0 e) cal_X9_walk ww_897 ww_899 ⟨rfl, rfl⟩ ww_896 ww_861 (Or.inl rfl) (by decide) rfl (Nat.le_trans (Nat.le_of_ble_eq_true rfl) hdd) hK (role_lay h.1 q) (T := TX6) (N := 5) rfl rfl hroom hcs hd k
  · exact V_callSU C (Cn := RX9) (x := yX9_walk) (As := [.int x1, .ref (ga G 74)]) (K := c0) (c_X9_walk X.2.1 G c0 x1 σ r0 σ0 e) cal_X9_walk ww_897 ww_899 ⟨rfl, rfl⟩ ww_896 ww_861 (Or.inl rfl) (by decide) rfl (Nat.le_trans (Nat.le_of_ble_eq_true rfl) hdd) hK (role_lay h.1 q) (T := TX9) (N := 5) rfl rfl hroom hcs hd k
theorem cvr_X0_20 (C : Ck X G cc RX0 nL d) (c0 : Nat) (x1 : Int32) {r0 : Int32} {σ0 : St} (hr : isRole σ c0 = true) (e : fv_X0_speak c0 x1 σ = some (r0, σ0)) (hdd : 4 ≤ d) (hroom : (rest.map fun v => v.category).sum ≤ 8) (hcs : cells ≤ (xR X).cells ∧ slots ≤ (xR X).slots) (hd : decode cc pc = .ok (.invokevirtual 20, 3)) (k : V X G nL cells slots σ0 (pc + 3) lv (.int r0 :: rest)) : V X G nL cells slots σ pc lv (.ref (ga G 74) :: .int x1 :: .ref (ga G c0) :: rest) := by
  have h := of_decide_eq_true hr
  have hK : c0 < 110 + σ.1 := h.2.1
  rcases h.2.2 with q | q | q | q | q | q
  · have e : f_X0_speak c0 x1 σ = some (r0, σ0) := by
      unfold fv_X0_speak at e
      simpa [q] using e
    exact V_callV C (Cn := RX0) (As := [.int x1, .ref (ga G 74)]) (K := c0) (c_X0_speak X.2.1 G c0 x1 σ r0 σ0 e) cal_X0_speak ww_873 ww_901 ww_900 rfl (Nat.le_trans (Nat.le_of_ble_eq_true rfl) hdd) hK (role_lay h.1 q) (T := TX0) (N := 5) rfl rfl hroom hcs hd k
  · exact absurd e (by unfold fv_X0_speak; simp [q])
  · exact absurd e (by unfold fv_X0_speak; simp [q])
  · exact absurd e (by unfold fv_X0_speak; simp [q])
  · exact absurd e (by unfold fv_X0_speak; simp [q])
  · exact absurd e (by unfold fv_X0_speak; simp [q])
theorem dt_X0_walk_0 : dtab cX0_walk [(0, .aload_n 2, 1), (1, .bipush 61, 2), (3, .invokevirtual 7, 3), (6, .aload_n 0, 1), (7, .iload_n 1, 1), (8, .aload_n 2, 1), (9, .invokespecial 17, 3), (12, .aload_n 0, 1), (13, .iconst 1, 1), (14, .aload_n 2, 1), (15, .invokevirtual 20, 3), (18, .iadd, 1), (19, .ireturn, 1)] = true := by decide +kernel
theorem cal_X0_walk : Cal yX0_walk cX0_walk 3 (some .int) 2 := ⟨ww_898, ww_857, ⟨by decide, by decide, by decide⟩, by decide⟩
set_option maxHeartbeats 4000000 in
set_option maxRecDepth 100000 in
theorem c_X0_walk (l : Launch) (G : Gx) (c0 : Nat) (x1 : Int32) (σ : St) (r0 : Int32) (σ0 : St) (h : f_X0_walk c0 x1 σ = some (r0, σ0)) : MI l G yX0_walk cX0_walk 3 (some .int) 6 [.ref (ga G c0), .int x1, .ref (ga G 74)] σ (some (.int r0)) σ0 := by
  refine MI_of RX0 rfl (by decide) [(0, .ref (ga G c0)), (1, .int x1), (2, .ref (ga G 74))] rfl (Nat.le_of_ble_eq_true rfl) ?_
  intro X hXl C hR
  unfold f_X0_walk at h
  refine V_aload_n C (dt_at dt_X0_walk_0 0 rfl) 2 rfl rfl ?_
  refine V_bipush C 61 (dt_at dt_X0_walk_0 1 rfl) (by decide) ?_
  obtain ⟨σ3, e2, h⟩ := bd_s h
  refine cv_X7_add C ww_855 74 61 e2 (Nat.le_of_ble_eq_true rfl) (Nat.le_of_ble_eq_true rfl) z0 (dt_at dt_X0_walk_0 2 rfl) ?_
  refine V_aload_n C (dt_at dt_X0_walk_0 3 rfl) 0 rfl rfl ?_
  refine V_iload_n C (dt_at dt_X0_walk_0 4 rfl) 1 rfl rfl ?_
  refine V_aload_n C (dt_at dt_X0_walk_0 5 rfl) 2 rfl rfl ?_
  obtain ⟨h4, h⟩ := chk_s h
  obtain ⟨r5, σ7, e6, h⟩ := bd2_s h
  refine csu_X0_17 C c0 x1 h4 e6 (Nat.le_of_ble_eq_true rfl) (Nat.le_of_ble_eq_true rfl) z0 (dt_at dt_X0_walk_0 6 rfl) ?_
  refine V_aload_n C (dt_at dt_X0_walk_0 7 rfl) 0 rfl rfl ?_
  refine V_iconst C 1 (dt_at dt_X0_walk_0 8 rfl) (by decide) ?_
  refine V_aload_n C (dt_at dt_X0_walk_0 9 rfl) 2 rfl rfl ?_
  obtain ⟨h8, h⟩ := chk_s h
  obtain ⟨r9, σ11, e10, h⟩ := bd2_s h
  refine cvr_X0_20 C c0 1 h8 e10 (Nat.le_of_ble_eq_true rfl) (Nat.le_of_ble_eq_true rfl) z0 (dt_at dt_X0_walk_0 10 rfl) ?_
  refine V_iadd C (dt_at dt_X0_walk_0 11 rfl) ?_
  obtain ⟨e1_, e2_⟩ := pin2 h
  subst e1_; subst e2_
  exact V_iret C hR (dt_at dt_X0_walk_0 12 rfl)
theorem cvr_X6_47 (C : Ck X G cc RX6 nL d) (c0 : Nat) (x1 : Int32) {r0 : Int32} {σ0 : St} (hr : isRole σ c0 = true) (e : fv_X6_walk c0 x1 σ = some (r0, σ0)) (hdd : 7 ≤ d) (hroom : (rest.map fun v => v.category).sum ≤ 8) (hcs : cells ≤ (xR X).cells ∧ slots ≤ (xR X).slots) (hd : decode cc pc = .ok (.invokevirtual 47, 3)) (k : V X G nL cells slots σ0 (pc + 3) lv (.int r0 :: rest)) : V X G nL cells slots σ pc lv (.ref (ga G 74) :: .int x1 :: .ref (ga G c0) :: rest) := by
  have h := of_decide_eq_true hr
  have hK : c0 < 110 + σ.1 := h.2.1
  rcases h.2.2 with q | q | q | q | q | q
  · have e : f_X0_walk c0 x1 σ = some (r0, σ0) := by
      unfold fv_X6_walk at e
      simpa [q] using e
    exact V_callU C (Cn := RX0) (owner := RX6) (x := yX6_walk) (As := [.int x1, .ref (ga G 74)]) (K := c0) (c_X0_walk X.2.1 G c0 x1 σ r0 σ0 e) cal_X0_walk ww_904 ww_905 ww_903 ww_885 ww_886 ww_871 ⟨by decide, by decide, by decide⟩ rfl (Nat.le_trans (Nat.le_of_ble_eq_true rfl) hdd) hK (role_lay h.1 q) (T := TX0) (N := 5) rfl rfl hroom hcs hd k
  · have e : f_X6_walk c0 x1 σ = some (r0, σ0) := by
      unfold fv_X6_walk at e
      simpa [q] using e
    exact V_callU C (Cn := RX1) (owner := RX6) (x := yX6_walk) (As := [.int x1, .ref (ga G 74)]) (K := c0) (c_X6_walk X.2.1 G c0 x1 σ r0 σ0 e) cal_X6_walk ww_886 ww_906 ww_903 ww_885 ww_886 ww_871 ⟨by decide, by decide, by decide⟩ rfl (Nat.le_trans (Nat.le_of_ble_eq_true rfl) hdd) hK (role_lay h.1 q) (T := TX1) (N := 5) rfl rfl hroom hcs hd k
  · have e : f_X6_walk c0 x1 σ = some (r0, σ0) := by
      unfold fv_X6_walk at e
      simpa [q] using e
    exact V_callU C (Cn := RX2) (owner := RX6) (x := yX6_walk) (As := [.int x1, .ref (ga G 74)]) (K := c0) (c_X6_walk X.2.1 G c0 x1 σ r0 σ0 e) cal_X6_walk ww_886 ww_907 ww_903 ww_885 ww_886 ww_871 ⟨by decide, by decide, by decide⟩ rfl (Nat.le_trans (Nat.le_of_ble_eq_true rfl) hdd) hK (role_lay h.1 q) (T := TX2) (N := 5) rfl rfl hroom hcs hd k
  · have e : f_X3_walk c0 x1 σ = some (r0, σ0) := by
      unfold fv_X6_walk at e
      simpa [q] using e
    exact V_callU C (Cn := RX3) (owner := RX6) (x := yX6_walk) (As := [.int x1, .ref (ga G 74)]) (K := c0) (c_X3_walk X.2.1 G c0 x1 σ r0 σ0 e) cal_X3_walk ww_908 ww_909 ww_903 ww_885 ww_886 ww_871 ⟨by decide, by decide, by decide⟩ rfl (Nat.le_trans (Nat.le_of_ble_eq_true rfl) hdd) hK (role_lay h.1 q) (T := TX3) (N := 5) rfl rfl hroom hcs hd k
  · have e : f_X6_walk c0 x1 σ = some (r0, σ0) := by
      unfold fv_X6_walk at e
      simpa [q] using e
    exact V_callU C (Cn := RX6) (owner := RX6) (x := yX6_walk) (As := [.int x1, .ref (ga G 74)]) (K := c0) (c_X6_walk X.2.1 G c0 x1 σ r0 σ0 e) cal_X6_walk ww_886 ww_910 ww_903 ww_885 ww_886 ww_871 ⟨by decide, by decide, by decide⟩ rfl (Nat.le_trans (Nat.le_of_ble_eq_true rfl) hdd) hK (role_lay h.1 q) (T := TX6) (N := 5) rfl rfl hroom hcs hd k
  · have e : f_X9_walk c0 x1 σ = some (r0, σ0) := by
      unfold fv_X6_walk at e
      simpa [q] using e
    exact V_callU C (Cn := RX9) (owner := RX6) (x := yX6_walk) (As := [.int x1, .ref (ga G 74)]) (K := c0) (c_X9_walk X.2.1 G c0 x1 σ r0 σ0 e) cal_X9_walk ww_897 ww_911 ww_903 ww_885 ww_886 ww_871 ⟨by decide, by decide, by decide⟩ rfl (Nat.le_trans (Nat.le_of_ble_eq_true rfl) hdd) hK (role_lay h.1 q) (T := TX9) (N := 5) rfl rfl hroom hcs hd k
theorem cvr_X6_50 (C : Ck X G cc RX6 nL d) (c0 : Nat) (x1 : Int32) {r0 : Int32} {σ0 : St} (hr : isRole σ c0 = true) (e : fv_X6_die c0 x1 σ = some (r0, σ0)) (hdd : 4 ≤ d) (hroom : (rest.map fun v => v.category).sum ≤ 8) (hcs : cells ≤ (xR X).cells ∧ slots ≤ (xR X).slots) (hd : decode cc pc = .ok (.invokevirtual 50, 3)) (k : V X G nL cells slots σ0 (pc + 3) lv (.int r0 :: rest)) : V X G nL cells slots σ pc lv (.ref (ga G 74) :: .int x1 :: .ref (ga G c0) :: rest) := by
  have h := of_decide_eq_true hr
  have hK : c0 < 110 + σ.1 := h.2.1
  rcases h.2.2 with q | q | q | q | q | q
  · have e : f_X6_die c0 x1 σ = some (r0, σ0) := by
      unfold fv_X6_die at e
      simpa [q] using e
    exact V_callU C (Cn := RX0) (owner := RX6) (x := yX6_die) (As := [.int x1, .ref (ga G 74)]) (K := c0) (c_X6_die X.2.1 G c0 x1 σ r0 σ0 e) cal_X6_die ww_869 ww_914 ww_912 ww_913 ww_869 ww_863 ⟨by decide, by decide, by decide⟩ rfl (Nat.le_trans (Nat.le_of_ble_eq_true rfl) hdd) hK (role_lay h.1 q) (T := TX0) (N := 5) rfl rfl hroom hcs hd k
  · have e : f_X6_die c0 x1 σ = some (r0, σ0) := by
      unfold fv_X6_die at e
      simpa [q] using e
    exact V_callU C (Cn := RX1) (owner := RX6) (x := yX6_die) (As := [.int x1, .ref (ga G 74)]) (K := c0) (c_X6_die X.2.1 G c0 x1 σ r0 σ0 e) cal_X6_die ww_869 ww_915 ww_912 ww_913 ww_869 ww_863 ⟨by decide, by decide, by decide⟩ rfl (Nat.le_trans (Nat.le_of_ble_eq_true rfl) hdd) hK (role_lay h.1 q) (T := TX1) (N := 5) rfl rfl hroom hcs hd k
  · have e : f_X6_die c0 x1 σ = some (r0, σ0) := by
      unfold fv_X6_die at e
      simpa [q] using e
    exact V_callU C (Cn := RX2) (owner := RX6) (x := yX6_die) (As := [.int x1, .ref (ga G 74)]) (K := c0) (c_X6_die X.2.1 G c0 x1 σ r0 σ0 e) cal_X6_die ww_869 ww_916 ww_912 ww_913 ww_869 ww_863 ⟨by decide, by decide, by decide⟩ rfl (Nat.le_trans (Nat.le_of_ble_eq_true rfl) hdd) hK (role_lay h.1 q) (T := TX2) (N := 5) rfl rfl hroom hcs hd k
  · have e : f_X3_die c0 x1 σ = some (r0, σ0) := by
      unfold fv_X6_die at e
      simpa [q] using e
    exact V_callU C (Cn := RX3) (owner := RX6) (x := yX6_die) (As := [.int x1, .ref (ga G 74)]) (K := c0) (c_X3_die X.2.1 G c0 x1 σ r0 σ0 e) cal_X3_die ww_889 ww_917 ww_912 ww_913 ww_869 ww_863 ⟨by decide, by decide, by decide⟩ rfl (Nat.le_trans (Nat.le_of_ble_eq_true rfl) hdd) hK (role_lay h.1 q) (T := TX3) (N := 5) rfl rfl hroom hcs hd k
  · have e : f_X6_die c0 x1 σ = some (r0, σ0) := by
      unfold fv_X6_die at e
      simpa [q] using e
    exact V_callU C (Cn := RX6) (owner := RX6) (x := yX6_die) (As := [.int x1, .ref (ga G 74)]) (K := c0) (c_X6_die X.2.1 G c0 x1 σ r0 σ0 e) cal_X6_die ww_869 ww_918 ww_912 ww_913 ww_869 ww_863 ⟨by decide, by decide, by decide⟩ rfl (Nat.le_trans (Nat.le_of_ble_eq_true rfl) hdd) hK (role_lay h.1 q) (T := TX6) (N := 5) rfl rfl hroom hcs hd k
  · have e : f_X6_die c0 x1 σ = some (r0, σ0) := by
      unfold fv_X6_die at e
      simpa [q] using e
    exact V_callU C (Cn := RX9) (owner := RX6) (x := yX6_die) (As := [.int x1, .ref (ga G 74)]) (K := c0) (c_X6_die X.2.1 G c0 x1 σ r0 σ0 e) cal_X6_die ww_869 ww_919 ww_912 ww_913 ww_869 ww_863 ⟨by decide, by decide, by decide⟩ rfl (Nat.le_trans (Nat.le_of_ble_eq_true rfl) hdd) hK (role_lay h.1 q) (T := TX9) (N := 5) rfl rfl hroom hcs hd k
theorem dt_X6_bow_0 : dtab cX6_bow [(0, .aload_n 2, 1), (1, .bipush 13, 2), (3, .invokevirtual 37, 3), (6, .aload_n 0, 1), (7, .iload_n 1, 1), (8, .aload_n 2, 1), (9, .invokevirtual 47, 3), (12, .aload_n 0, 1), (13, .iload_n 1, 1), (14, .aload_n 2, 1), (15, .invokevirtual 50, 3), (18, .ixor, 1), (19, .ireturn, 1)] = true := by decide +kernel
theorem cal_X6_bow : Cal yX6_bow cX6_bow 3 (some .int) 2 := ⟨ww_902, ww_844, ⟨by decide, by decide, by decide⟩, by decide⟩
set_option maxHeartbeats 4000000 in
set_option maxRecDepth 100000 in
theorem c_X6_bow (l : Launch) (G : Gx) (c0 : Nat) (x1 : Int32) (σ : St) (r0 : Int32) (σ0 : St) (h : f_X6_bow c0 x1 σ = some (r0, σ0)) : MI l G yX6_bow cX6_bow 3 (some .int) 7 [.ref (ga G c0), .int x1, .ref (ga G 74)] σ (some (.int r0)) σ0 := by
  refine MI_of RX6 rfl (by decide) [(0, .ref (ga G c0)), (1, .int x1), (2, .ref (ga G 74))] rfl (Nat.le_of_ble_eq_true rfl) ?_
  intro X hXl C hR
  unfold f_X6_bow at h
  refine V_aload_n C (dt_at dt_X6_bow_0 0 rfl) 2 rfl rfl ?_
  refine V_bipush C 13 (dt_at dt_X6_bow_0 1 rfl) (by decide) ?_
  obtain ⟨σ3, e2, h⟩ := bd_s h
  refine cv_X7_add C ww_845 74 13 e2 (Nat.le_of_ble_eq_true rfl) (Nat.le_of_ble_eq_true rfl) z0 (dt_at dt_X6_bow_0 2 rfl) ?_
  refine V_aload_n C (dt_at dt_X6_bow_0 3 rfl) 0 rfl rfl ?_
  refine V_iload_n C (dt_at dt_X6_bow_0 4 rfl) 1 rfl rfl ?_
  refine V_aload_n C (dt_at dt_X6_bow_0 5 rfl) 2 rfl rfl ?_
  obtain ⟨h4, h⟩ := chk_s h
  obtain ⟨r5, σ7, e6, h⟩ := bd2_s h
  refine cvr_X6_47 C c0 x1 h4 e6 (Nat.le_of_ble_eq_true rfl) (Nat.le_of_ble_eq_true rfl) z0 (dt_at dt_X6_bow_0 6 rfl) ?_
  refine V_aload_n C (dt_at dt_X6_bow_0 7 rfl) 0 rfl rfl ?_
  refine V_iload_n C (dt_at dt_X6_bow_0 8 rfl) 1 rfl rfl ?_
  refine V_aload_n C (dt_at dt_X6_bow_0 9 rfl) 2 rfl rfl ?_
  obtain ⟨h8, h⟩ := chk_s h
  obtain ⟨r9, σ11, e10, h⟩ := bd2_s h
  refine cvr_X6_50 C c0 x1 h8 e10 (Nat.le_of_ble_eq_true rfl) (Nat.le_of_ble_eq_true rfl) z0 (dt_at dt_X6_bow_0 10 rfl) ?_
  refine V_ixor C (dt_at dt_X6_bow_0 11 rfl) ?_
  obtain ⟨e1_, e2_⟩ := pin2 h
  subst e1_; subst e2_
  exact V_iret C hR (dt_at dt_X6_bow_0 12 rfl)
theorem csu_X2_17 (C : Ck X G cc RX2 nL d) (c0 : Nat) (x1 : Int32) {r0 : Int32} {σ0 : St} (hr : isRole σ c0 = true) (e : f_X6_bow c0 x1 σ = some (r0, σ0)) (hdd : 8 ≤ d) (hroom : (rest.map fun v => v.category).sum ≤ 8) (hcs : cells ≤ (xR X).cells ∧ slots ≤ (xR X).slots) (hd : decode cc pc = .ok (.invokespecial 17, 3)) (k : V X G nL cells slots σ0 (pc + 3) lv (.int r0 :: rest)) : V X G nL cells slots σ pc lv (.ref (ga G 74) :: .int x1 :: .ref (ga G c0) :: rest) := by
  have h := of_decide_eq_true hr
  have hK : c0 < 110 + σ.1 := h.2.1
  rcases h.2.2 with q | q | q | q | q | q
  · exact V_callSU C (Cn := RX0) (x := yX6_bow) (As := [.int x1, .ref (ga G 74)]) (K := c0) (c_X6_bow X.2.1 G c0 x1 σ r0 σ0 e) cal_X6_bow ww_923 ww_921 ⟨rfl, rfl⟩ ww_922 ww_854 (Or.inl rfl) (by decide) rfl (Nat.le_trans (Nat.le_of_ble_eq_true rfl) hdd) hK (role_lay h.1 q) (T := TX0) (N := 5) rfl rfl hroom hcs hd k
  · exact V_callSU C (Cn := RX1) (x := yX6_bow) (As := [.int x1, .ref (ga G 74)]) (K := c0) (c_X6_bow X.2.1 G c0 x1 σ r0 σ0 e) cal_X6_bow ww_923 ww_921 ⟨rfl, rfl⟩ ww_922 ww_854 (Or.inl rfl) (by decide) rfl (Nat.le_trans (Nat.le_of_ble_eq_true rfl) hdd) hK (role_lay h.1 q) (T := TX1) (N := 5) rfl rfl hroom hcs hd k
  · exact V_callSU C (Cn := RX2) (x := yX6_bow) (As := [.int x1, .ref (ga G 74)]) (K := c0) (c_X6_bow X.2.1 G c0 x1 σ r0 σ0 e) cal_X6_bow ww_923 ww_921 ⟨rfl, rfl⟩ ww_922 ww_854 (Or.inl rfl) (by decide) rfl (Nat.le_trans (Nat.le_of_ble_eq_true rfl) hdd) hK (role_lay h.1 q) (T := TX2) (N := 5) rfl rfl hroom hcs hd k
  · exact V_callSU C (Cn := RX3) (x := yX6_bow) (As := [.int x1, .ref (ga G 74)]) (K := c0) (c_X6_bow X.2.1 G c0 x1 σ r0 σ0 e) cal_X6_bow ww_923 ww_921 ⟨rfl, rfl⟩ ww_922 ww_854 (Or.inl rfl) (by decide) rfl (Nat.le_trans (Nat.le_of_ble_eq_true rfl) hdd) hK (role_lay h.1 q) (T := TX3) (N := 5) rfl rfl hroom hcs hd k
  · exact V_callSU C (Cn := RX6) (x := yX6_bow) (As := [.int x1, .ref (ga G 74)]) (K := c0) (c_X6_bow X.2.1 G c0 x1 σ r0 σ0 e) cal_X6_bow ww_923 ww_921 ⟨rfl, rfl⟩ ww_922 ww_854 (Or.inl rfl) (by decide) rfl (Nat.le_trans (Nat.le_of_ble_eq_true rfl) hdd) hK (role_lay h.1 q) (T := TX6) (N := 5) rfl rfl hroom hcs hd k
  · exact V_callSU C (Cn := RX9) (x := yX6_bow) (As := [.int x1, .ref (ga G 74)]) (K := c0) (c_X6_bow X.2.1 G c0 x1 σ r0 σ0 e) cal_X6_bow ww_923 ww_921 ⟨rfl, rfl⟩ ww_922 ww_854 (Or.inl rfl) (by decide) rfl (Nat.le_trans (Nat.le_of_ble_eq_true rfl) hdd) hK (role_lay h.1 q) (T := TX9) (N := 5) rfl rfl hroom hcs hd k
theorem dt_X2_bow_0 : dtab cX2_bow [(0, .aload_n 2, 1), (1, .bipush 31, 2), (3, .invokevirtual 7, 3), (6, .aload_n 0, 1), (7, .iload_n 1, 1), (8, .iconst 1, 1), (9, .iadd, 1), (10, .aload_n 2, 1), (11, .invokespecial 17, 3), (14, .ireturn, 1)] = true := by decide +kernel
theorem cal_X2_bow : Cal yX2_bow cX2_bow 3 (some .int) 2 := ⟨ww_920, ww_850, ⟨by decide, by decide, by decide⟩, by decide⟩
set_option maxHeartbeats 4000000 in
set_option maxRecDepth 100000 in
theorem c_X2_bow (l : Launch) (G : Gx) (c0 : Nat) (x1 : Int32) (σ : St) (r0 : Int32) (σ0 : St) (h : f_X2_bow c0 x1 σ = some (r0, σ0)) : MI l G yX2_bow cX2_bow 3 (some .int) 8 [.ref (ga G c0), .int x1, .ref (ga G 74)] σ (some (.int r0)) σ0 := by
  refine MI_of RX2 rfl (by decide) [(0, .ref (ga G c0)), (1, .int x1), (2, .ref (ga G 74))] rfl (Nat.le_of_ble_eq_true rfl) ?_
  intro X hXl C hR
  unfold f_X2_bow at h
  refine V_aload_n C (dt_at dt_X2_bow_0 0 rfl) 2 rfl rfl ?_
  refine V_bipush C 31 (dt_at dt_X2_bow_0 1 rfl) (by decide) ?_
  obtain ⟨σ3, e2, h⟩ := bd_s h
  refine cv_X7_add C ww_848 74 31 e2 (Nat.le_of_ble_eq_true rfl) (Nat.le_of_ble_eq_true rfl) z0 (dt_at dt_X2_bow_0 2 rfl) ?_
  refine V_aload_n C (dt_at dt_X2_bow_0 3 rfl) 0 rfl rfl ?_
  refine V_iload_n C (dt_at dt_X2_bow_0 4 rfl) 1 rfl rfl ?_
  refine V_iconst C 1 (dt_at dt_X2_bow_0 5 rfl) (by decide) ?_
  refine V_iadd C (dt_at dt_X2_bow_0 6 rfl) ?_
  refine V_aload_n C (dt_at dt_X2_bow_0 7 rfl) 2 rfl rfl ?_
  obtain ⟨h4, h⟩ := chk_s h
  obtain ⟨r5, σ7, e6, h⟩ := bd2_s h
  refine csu_X2_17 C c0 (x1 + 1) h4 e6 (Nat.le_of_ble_eq_true rfl) (Nat.le_of_ble_eq_true rfl) z0 (dt_at dt_X2_bow_0 8 rfl) ?_
  obtain ⟨e1_, e2_⟩ := pin2 h
  subst e1_; subst e2_
  exact V_iret C hR (dt_at dt_X2_bow_0 9 rfl)
theorem cvr_X1_13 (C : Ck X G cc RX1 nL d) (c0 : Nat) (x1 : Int32) {r0 : Int32} {σ0 : St} (hr : isRole σ c0 = true) (e : fv_X1_die c0 x1 σ = some (r0, σ0)) (hdd : 3 ≤ d) (hroom : (rest.map fun v => v.category).sum ≤ 8) (hcs : cells ≤ (xR X).cells ∧ slots ≤ (xR X).slots) (hd : decode cc pc = .ok (.invokevirtual 13, 3)) (k : V X G nL cells slots σ0 (pc + 3) lv (.int r0 :: rest)) : V X G nL cells slots σ pc lv (.ref (ga G 74) :: .int x1 :: .ref (ga G c0) :: rest) := by
  have h := of_decide_eq_true hr
  have hK : c0 < 110 + σ.1 := h.2.1
  rcases h.2.2 with q | q | q | q | q | q
  · exact absurd e (by unfold fv_X1_die; simp [q])
  · have e : f_X6_die c0 x1 σ = some (r0, σ0) := by
      unfold fv_X1_die at e
      simpa [q] using e
    exact V_callU C (Cn := RX1) (owner := RX6) (x := ⟨RX1, "die", "(ILFivePlayers$Row;)I"⟩) (As := [.int x1, .ref (ga G 74)]) (K := c0) (c_X6_die X.2.1 G c0 x1 σ r0 σ0 e) cal_X6_die ww_869 ww_929 ww_927 ww_928 ww_869 ww_863 ⟨by decide, by decide, by decide⟩ rfl (Nat.le_trans (Nat.le_of_ble_eq_true rfl) hdd) hK (role_lay h.1 q) (T := TX1) (N := 5) rfl rfl hroom hcs hd k
  · exact absurd e (by unfold fv_X1_die; simp [q])
  · exact absurd e (by unfold fv_X1_die; simp [q])
  · exact absurd e (by unfold fv_X1_die; simp [q])
  · exact absurd e (by unfold fv_X1_die; simp [q])
theorem csu_X1_19 (C : Ck X G cc RX1 nL d) (c0 : Nat) (x1 : Int32) {r0 : Int32} {σ0 : St} (hr : isRole σ c0 = true) (e : f_X2_bow c0 x1 σ = some (r0, σ0)) (hdd : 9 ≤ d) (hroom : (rest.map fun v => v.category).sum ≤ 8) (hcs : cells ≤ (xR X).cells ∧ slots ≤ (xR X).slots) (hd : decode cc pc = .ok (.invokespecial 19, 3)) (k : V X G nL cells slots σ0 (pc + 3) lv (.int r0 :: rest)) : V X G nL cells slots σ pc lv (.ref (ga G 74) :: .int x1 :: .ref (ga G c0) :: rest) := by
  have h := of_decide_eq_true hr
  have hK : c0 < 110 + σ.1 := h.2.1
  rcases h.2.2 with q | q | q | q | q | q
  · exact V_callSU C (Cn := RX0) (x := yX2_bow) (As := [.int x1, .ref (ga G 74)]) (K := c0) (c_X2_bow X.2.1 G c0 x1 σ r0 σ0 e) cal_X2_bow ww_932 ww_930 ⟨rfl, rfl⟩ ww_931 ww_933 (Or.inl rfl) (by decide) rfl (Nat.le_trans (Nat.le_of_ble_eq_true rfl) hdd) hK (role_lay h.1 q) (T := TX0) (N := 5) rfl rfl hroom hcs hd k
  · exact V_callSU C (Cn := RX1) (x := yX2_bow) (As := [.int x1, .ref (ga G 74)]) (K := c0) (c_X2_bow X.2.1 G c0 x1 σ r0 σ0 e) cal_X2_bow ww_932 ww_930 ⟨rfl, rfl⟩ ww_931 ww_933 (Or.inl rfl) (by decide) rfl (Nat.le_trans (Nat.le_of_ble_eq_true rfl) hdd) hK (role_lay h.1 q) (T := TX1) (N := 5) rfl rfl hroom hcs hd k
  · exact V_callSU C (Cn := RX2) (x := yX2_bow) (As := [.int x1, .ref (ga G 74)]) (K := c0) (c_X2_bow X.2.1 G c0 x1 σ r0 σ0 e) cal_X2_bow ww_932 ww_930 ⟨rfl, rfl⟩ ww_931 ww_933 (Or.inl rfl) (by decide) rfl (Nat.le_trans (Nat.le_of_ble_eq_true rfl) hdd) hK (role_lay h.1 q) (T := TX2) (N := 5) rfl rfl hroom hcs hd k
  · exact V_callSU C (Cn := RX3) (x := yX2_bow) (As := [.int x1, .ref (ga G 74)]) (K := c0) (c_X2_bow X.2.1 G c0 x1 σ r0 σ0 e) cal_X2_bow ww_932 ww_930 ⟨rfl, rfl⟩ ww_931 ww_933 (Or.inl rfl) (by decide) rfl (Nat.le_trans (Nat.le_of_ble_eq_true rfl) hdd) hK (role_lay h.1 q) (T := TX3) (N := 5) rfl rfl hroom hcs hd k
  · exact V_callSU C (Cn := RX6) (x := yX2_bow) (As := [.int x1, .ref (ga G 74)]) (K := c0) (c_X2_bow X.2.1 G c0 x1 σ r0 σ0 e) cal_X2_bow ww_932 ww_930 ⟨rfl, rfl⟩ ww_931 ww_933 (Or.inl rfl) (by decide) rfl (Nat.le_trans (Nat.le_of_ble_eq_true rfl) hdd) hK (role_lay h.1 q) (T := TX6) (N := 5) rfl rfl hroom hcs hd k
  · exact V_callSU C (Cn := RX9) (x := yX2_bow) (As := [.int x1, .ref (ga G 74)]) (K := c0) (c_X2_bow X.2.1 G c0 x1 σ r0 σ0 e) cal_X2_bow ww_932 ww_930 ⟨rfl, rfl⟩ ww_931 ww_933 (Or.inl rfl) (by decide) rfl (Nat.le_trans (Nat.le_of_ble_eq_true rfl) hdd) hK (role_lay h.1 q) (T := TX9) (N := 5) rfl rfl hroom hcs hd k
theorem dt_X1_bow_0 : dtab cX1_bow [(0, .aload_n 2, 1), (1, .bipush 50, 2), (3, .invokevirtual 7, 3), (6, .aload_n 0, 1), (7, .iload_n 1, 1), (8, .aload_n 2, 1), (9, .invokevirtual 13, 3), (12, .aload_n 0, 1), (13, .iload_n 1, 1), (14, .aload_n 2, 1), (15, .invokespecial 19, 3), (18, .isub, 1), (19, .ireturn, 1)] = true := by decide +kernel
theorem cal_X1_bow : Cal yX1_bow cX1_bow 3 (some .int) 2 := ⟨ww_925, ww_926, ⟨by decide, by decide, by decide⟩, by decide⟩
set_option maxHeartbeats 4000000 in
set_option maxRecDepth 100000 in
theorem c_X1_bow (l : Launch) (G : Gx) (c0 : Nat) (x1 : Int32) (σ : St) (r0 : Int32) (σ0 : St) (h : f_X1_bow c0 x1 σ = some (r0, σ0)) : MI l G yX1_bow cX1_bow 3 (some .int) 9 [.ref (ga G c0), .int x1, .ref (ga G 74)] σ (some (.int r0)) σ0 := by
  refine MI_of RX1 rfl (by decide) [(0, .ref (ga G c0)), (1, .int x1), (2, .ref (ga G 74))] rfl (Nat.le_of_ble_eq_true rfl) ?_
  intro X hXl C hR
  unfold f_X1_bow at h
  refine V_aload_n C (dt_at dt_X1_bow_0 0 rfl) 2 rfl rfl ?_
  refine V_bipush C 50 (dt_at dt_X1_bow_0 1 rfl) (by decide) ?_
  obtain ⟨σ3, e2, h⟩ := bd_s h
  refine cv_X7_add C ww_924 74 50 e2 (Nat.le_of_ble_eq_true rfl) (Nat.le_of_ble_eq_true rfl) z0 (dt_at dt_X1_bow_0 2 rfl) ?_
  refine V_aload_n C (dt_at dt_X1_bow_0 3 rfl) 0 rfl rfl ?_
  refine V_iload_n C (dt_at dt_X1_bow_0 4 rfl) 1 rfl rfl ?_
  refine V_aload_n C (dt_at dt_X1_bow_0 5 rfl) 2 rfl rfl ?_
  obtain ⟨h4, h⟩ := chk_s h
  obtain ⟨r5, σ7, e6, h⟩ := bd2_s h
  refine cvr_X1_13 C c0 x1 h4 e6 (Nat.le_of_ble_eq_true rfl) (Nat.le_of_ble_eq_true rfl) z0 (dt_at dt_X1_bow_0 6 rfl) ?_
  refine V_aload_n C (dt_at dt_X1_bow_0 7 rfl) 0 rfl rfl ?_
  refine V_iload_n C (dt_at dt_X1_bow_0 8 rfl) 1 rfl rfl ?_
  refine V_aload_n C (dt_at dt_X1_bow_0 9 rfl) 2 rfl rfl ?_
  obtain ⟨h8, h⟩ := chk_s h
  obtain ⟨r9, σ11, e10, h⟩ := bd2_s h
  refine csu_X1_19 C c0 x1 h8 e10 (Nat.le_of_ble_eq_true rfl) (Nat.le_of_ble_eq_true rfl) z0 (dt_at dt_X1_bow_0 10 rfl) ?_
  refine V_isub C (dt_at dt_X1_bow_0 11 rfl) ?_
  obtain ⟨e1_, e2_⟩ := pin2 h
  subst e1_; subst e2_
  exact V_iret C hR (dt_at dt_X1_bow_0 12 rfl)
theorem cvr_X11_309 (C : Ck X G cc RX11 nL d) (c0 : Nat) (x1 : Int32) {r0 : Int32} {σ0 : St} (hr : isRole σ c0 = true) (e : fv_X6_speak c0 x1 σ = some (r0, σ0)) (hdd : 4 ≤ d) (hroom : (rest.map fun v => v.category).sum ≤ 8) (hcs : cells ≤ (xR X).cells ∧ slots ≤ (xR X).slots) (hd : decode cc pc = .ok (.invokevirtual 309, 3)) (k : V X G nL cells slots σ0 (pc + 3) lv (.int r0 :: rest)) : V X G nL cells slots σ pc lv (.ref (ga G 74) :: .int x1 :: .ref (ga G c0) :: rest) := by
  have h := of_decide_eq_true hr
  have hK : c0 < 110 + σ.1 := h.2.1
  rcases h.2.2 with q | q | q | q | q | q
  · have e : f_X0_speak c0 x1 σ = some (r0, σ0) := by
      unfold fv_X6_speak at e
      simpa [q] using e
    exact V_callU C (Cn := RX0) (owner := RX6) (x := yX6_speak) (As := [.int x1, .ref (ga G 74)]) (K := c0) (c_X0_speak X.2.1 G c0 x1 σ r0 σ0 e) cal_X0_speak ww_873 ww_874 ww_937 ww_852 ww_853 ww_847 ⟨by decide, by decide, by decide⟩ rfl (Nat.le_trans (Nat.le_of_ble_eq_true rfl) hdd) hK (role_lay h.1 q) (T := TX0) (N := 5) rfl rfl hroom hcs hd k
  · have e : f_X2_speak c0 x1 σ = some (r0, σ0) := by
      unfold fv_X6_speak at e
      simpa [q] using e
    exact V_callU C (Cn := RX1) (owner := RX6) (x := yX6_speak) (As := [.int x1, .ref (ga G 74)]) (K := c0) (c_X2_speak X.2.1 G c0 x1 σ r0 σ0 e) cal_X2_speak ww_875 ww_876 ww_937 ww_852 ww_853 ww_847 ⟨by decide, by decide, by decide⟩ rfl (Nat.le_trans (Nat.le_of_ble_eq_true rfl) hdd) hK (role_lay h.1 q) (T := TX1) (N := 5) rfl rfl hroom hcs hd k
  · have e : f_X2_speak c0 x1 σ = some (r0, σ0) := by
      unfold fv_X6_speak at e
      simpa [q] using e
    exact V_callU C (Cn := RX2) (owner := RX6) (x := yX6_speak) (As := [.int x1, .ref (ga G 74)]) (K := c0) (c_X2_speak X.2.1 G c0 x1 σ r0 σ0 e) cal_X2_speak ww_875 ww_877 ww_937 ww_852 ww_853 ww_847 ⟨by decide, by decide, by decide⟩ rfl (Nat.le_trans (Nat.le_of_ble_eq_true rfl) hdd) hK (role_lay h.1 q) (T := TX2) (N := 5) rfl rfl hroom hcs hd k
  · have e : f_X6_speak c0 x1 σ = some (r0, σ0) := by
      unfold fv_X6_speak at e
      simpa [q] using e
    exact V_callU C (Cn := RX3) (owner := RX6) (x := yX6_speak) (As := [.int x1, .ref (ga G 74)]) (K := c0) (c_X6_speak X.2.1 G c0 x1 σ r0 σ0 e) cal_X6_speak ww_853 ww_878 ww_937 ww_852 ww_853 ww_847 ⟨by decide, by decide, by decide⟩ rfl (Nat.le_trans (Nat.le_of_ble_eq_true rfl) hdd) hK (role_lay h.1 q) (T := TX3) (N := 5) rfl rfl hroom hcs hd k
  · have e : f_X6_speak c0 x1 σ = some (r0, σ0) := by
      unfold fv_X6_speak at e
      simpa [q] using e
    exact V_callU C (Cn := RX6) (owner := RX6) (x := yX6_speak) (As := [.int x1, .ref (ga G 74)]) (K := c0) (c_X6_speak X.2.1 G c0 x1 σ r0 σ0 e) cal_X6_speak ww_853 ww_879 ww_937 ww_852 ww_853 ww_847 ⟨by decide, by decide, by decide⟩ rfl (Nat.le_trans (Nat.le_of_ble_eq_true rfl) hdd) hK (role_lay h.1 q) (T := TX6) (N := 5) rfl rfl hroom hcs hd k
  · have e : f_X6_speak c0 x1 σ = some (r0, σ0) := by
      unfold fv_X6_speak at e
      simpa [q] using e
    exact V_callU C (Cn := RX9) (owner := RX6) (x := yX6_speak) (As := [.int x1, .ref (ga G 74)]) (K := c0) (c_X6_speak X.2.1 G c0 x1 σ r0 σ0 e) cal_X6_speak ww_853 ww_880 ww_937 ww_852 ww_853 ww_847 ⟨by decide, by decide, by decide⟩ rfl (Nat.le_trans (Nat.le_of_ble_eq_true rfl) hdd) hK (role_lay h.1 q) (T := TX9) (N := 5) rfl rfl hroom hcs hd k
theorem cvr_X11_313 (C : Ck X G cc RX11 nL d) (c0 : Nat) (x1 : Int32) {r0 : Int32} {σ0 : St} (hr : isRole σ c0 = true) (e : fv_X6_walk c0 x1 σ = some (r0, σ0)) (hdd : 7 ≤ d) (hroom : (rest.map fun v => v.category).sum ≤ 8) (hcs : cells ≤ (xR X).cells ∧ slots ≤ (xR X).slots) (hd : decode cc pc = .ok (.invokevirtual 313, 3)) (k : V X G nL cells slots σ0 (pc + 3) lv (.int r0 :: rest)) : V X G nL cells slots σ pc lv (.ref (ga G 74) :: .int x1 :: .ref (ga G c0) :: rest) := by
  have h := of_decide_eq_true hr
  have hK : c0 < 110 + σ.1 := h.2.1
  rcases h.2.2 with q | q | q | q | q | q
  · have e : f_X0_walk c0 x1 σ = some (r0, σ0) := by
      unfold fv_X6_walk at e
      simpa [q] using e
    exact V_callU C (Cn := RX0) (owner := RX6) (x := yX6_walk) (As := [.int x1, .ref (ga G 74)]) (K := c0) (c_X0_walk X.2.1 G c0 x1 σ r0 σ0 e) cal_X0_walk ww_904 ww_905 ww_938 ww_885 ww_886 ww_871 ⟨by decide, by decide, by decide⟩ rfl (Nat.le_trans (Nat.le_of_ble_eq_true rfl) hdd) hK (role_lay h.1 q) (T := TX0) (N := 5) rfl rfl hroom hcs hd k
  · have e : f_X6_walk c0 x1 σ = some (r0, σ0) := by
      unfold fv_X6_walk at e
      simpa [q] using e
    exact V_callU C (Cn := RX1) (owner := RX6) (x := yX6_walk) (As := [.int x1, .ref (ga G 74)]) (K := c0) (c_X6_walk X.2.1 G c0 x1 σ r0 σ0 e) cal_X6_walk ww_886 ww_906 ww_938 ww_885 ww_886 ww_871 ⟨by decide, by decide, by decide⟩ rfl (Nat.le_trans (Nat.le_of_ble_eq_true rfl) hdd) hK (role_lay h.1 q) (T := TX1) (N := 5) rfl rfl hroom hcs hd k
  · have e : f_X6_walk c0 x1 σ = some (r0, σ0) := by
      unfold fv_X6_walk at e
      simpa [q] using e
    exact V_callU C (Cn := RX2) (owner := RX6) (x := yX6_walk) (As := [.int x1, .ref (ga G 74)]) (K := c0) (c_X6_walk X.2.1 G c0 x1 σ r0 σ0 e) cal_X6_walk ww_886 ww_907 ww_938 ww_885 ww_886 ww_871 ⟨by decide, by decide, by decide⟩ rfl (Nat.le_trans (Nat.le_of_ble_eq_true rfl) hdd) hK (role_lay h.1 q) (T := TX2) (N := 5) rfl rfl hroom hcs hd k
  · have e : f_X3_walk c0 x1 σ = some (r0, σ0) := by
      unfold fv_X6_walk at e
      simpa [q] using e
    exact V_callU C (Cn := RX3) (owner := RX6) (x := yX6_walk) (As := [.int x1, .ref (ga G 74)]) (K := c0) (c_X3_walk X.2.1 G c0 x1 σ r0 σ0 e) cal_X3_walk ww_908 ww_909 ww_938 ww_885 ww_886 ww_871 ⟨by decide, by decide, by decide⟩ rfl (Nat.le_trans (Nat.le_of_ble_eq_true rfl) hdd) hK (role_lay h.1 q) (T := TX3) (N := 5) rfl rfl hroom hcs hd k
  · have e : f_X6_walk c0 x1 σ = some (r0, σ0) := by
      unfold fv_X6_walk at e
      simpa [q] using e
    exact V_callU C (Cn := RX6) (owner := RX6) (x := yX6_walk) (As := [.int x1, .ref (ga G 74)]) (K := c0) (c_X6_walk X.2.1 G c0 x1 σ r0 σ0 e) cal_X6_walk ww_886 ww_910 ww_938 ww_885 ww_886 ww_871 ⟨by decide, by decide, by decide⟩ rfl (Nat.le_trans (Nat.le_of_ble_eq_true rfl) hdd) hK (role_lay h.1 q) (T := TX6) (N := 5) rfl rfl hroom hcs hd k
  · have e : f_X9_walk c0 x1 σ = some (r0, σ0) := by
      unfold fv_X6_walk at e
      simpa [q] using e
    exact V_callU C (Cn := RX9) (owner := RX6) (x := yX6_walk) (As := [.int x1, .ref (ga G 74)]) (K := c0) (c_X9_walk X.2.1 G c0 x1 σ r0 σ0 e) cal_X9_walk ww_897 ww_911 ww_938 ww_885 ww_886 ww_871 ⟨by decide, by decide, by decide⟩ rfl (Nat.le_trans (Nat.le_of_ble_eq_true rfl) hdd) hK (role_lay h.1 q) (T := TX9) (N := 5) rfl rfl hroom hcs hd k
theorem cvr_X11_316 (C : Ck X G cc RX11 nL d) (c0 : Nat) (x1 : Int32) {r0 : Int32} {σ0 : St} (hr : isRole σ c0 = true) (e : fv_X6_die c0 x1 σ = some (r0, σ0)) (hdd : 4 ≤ d) (hroom : (rest.map fun v => v.category).sum ≤ 8) (hcs : cells ≤ (xR X).cells ∧ slots ≤ (xR X).slots) (hd : decode cc pc = .ok (.invokevirtual 316, 3)) (k : V X G nL cells slots σ0 (pc + 3) lv (.int r0 :: rest)) : V X G nL cells slots σ pc lv (.ref (ga G 74) :: .int x1 :: .ref (ga G c0) :: rest) := by
  have h := of_decide_eq_true hr
  have hK : c0 < 110 + σ.1 := h.2.1
  rcases h.2.2 with q | q | q | q | q | q
  · have e : f_X6_die c0 x1 σ = some (r0, σ0) := by
      unfold fv_X6_die at e
      simpa [q] using e
    exact V_callU C (Cn := RX0) (owner := RX6) (x := yX6_die) (As := [.int x1, .ref (ga G 74)]) (K := c0) (c_X6_die X.2.1 G c0 x1 σ r0 σ0 e) cal_X6_die ww_869 ww_914 ww_939 ww_913 ww_869 ww_863 ⟨by decide, by decide, by decide⟩ rfl (Nat.le_trans (Nat.le_of_ble_eq_true rfl) hdd) hK (role_lay h.1 q) (T := TX0) (N := 5) rfl rfl hroom hcs hd k
  · have e : f_X6_die c0 x1 σ = some (r0, σ0) := by
      unfold fv_X6_die at e
      simpa [q] using e
    exact V_callU C (Cn := RX1) (owner := RX6) (x := yX6_die) (As := [.int x1, .ref (ga G 74)]) (K := c0) (c_X6_die X.2.1 G c0 x1 σ r0 σ0 e) cal_X6_die ww_869 ww_915 ww_939 ww_913 ww_869 ww_863 ⟨by decide, by decide, by decide⟩ rfl (Nat.le_trans (Nat.le_of_ble_eq_true rfl) hdd) hK (role_lay h.1 q) (T := TX1) (N := 5) rfl rfl hroom hcs hd k
  · have e : f_X6_die c0 x1 σ = some (r0, σ0) := by
      unfold fv_X6_die at e
      simpa [q] using e
    exact V_callU C (Cn := RX2) (owner := RX6) (x := yX6_die) (As := [.int x1, .ref (ga G 74)]) (K := c0) (c_X6_die X.2.1 G c0 x1 σ r0 σ0 e) cal_X6_die ww_869 ww_916 ww_939 ww_913 ww_869 ww_863 ⟨by decide, by decide, by decide⟩ rfl (Nat.le_trans (Nat.le_of_ble_eq_true rfl) hdd) hK (role_lay h.1 q) (T := TX2) (N := 5) rfl rfl hroom hcs hd k
  · have e : f_X3_die c0 x1 σ = some (r0, σ0) := by
      unfold fv_X6_die at e
      simpa [q] using e
    exact V_callU C (Cn := RX3) (owner := RX6) (x := yX6_die) (As := [.int x1, .ref (ga G 74)]) (K := c0) (c_X3_die X.2.1 G c0 x1 σ r0 σ0 e) cal_X3_die ww_889 ww_917 ww_939 ww_913 ww_869 ww_863 ⟨by decide, by decide, by decide⟩ rfl (Nat.le_trans (Nat.le_of_ble_eq_true rfl) hdd) hK (role_lay h.1 q) (T := TX3) (N := 5) rfl rfl hroom hcs hd k
  · have e : f_X6_die c0 x1 σ = some (r0, σ0) := by
      unfold fv_X6_die at e
      simpa [q] using e
    exact V_callU C (Cn := RX6) (owner := RX6) (x := yX6_die) (As := [.int x1, .ref (ga G 74)]) (K := c0) (c_X6_die X.2.1 G c0 x1 σ r0 σ0 e) cal_X6_die ww_869 ww_918 ww_939 ww_913 ww_869 ww_863 ⟨by decide, by decide, by decide⟩ rfl (Nat.le_trans (Nat.le_of_ble_eq_true rfl) hdd) hK (role_lay h.1 q) (T := TX6) (N := 5) rfl rfl hroom hcs hd k
  · have e : f_X6_die c0 x1 σ = some (r0, σ0) := by
      unfold fv_X6_die at e
      simpa [q] using e
    exact V_callU C (Cn := RX9) (owner := RX6) (x := yX6_die) (As := [.int x1, .ref (ga G 74)]) (K := c0) (c_X6_die X.2.1 G c0 x1 σ r0 σ0 e) cal_X6_die ww_869 ww_919 ww_939 ww_913 ww_869 ww_863 ⟨by decide, by decide, by decide⟩ rfl (Nat.le_trans (Nat.le_of_ble_eq_true rfl) hdd) hK (role_lay h.1 q) (T := TX9) (N := 5) rfl rfl hroom hcs hd k
theorem cvr_X11_319 (C : Ck X G cc RX11 nL d) (c0 : Nat) (x1 : Int32) {r0 : Int32} {σ0 : St} (hr : isRole σ c0 = true) (e : fv_X6_bow c0 x1 σ = some (r0, σ0)) (hdd : 10 ≤ d) (hroom : (rest.map fun v => v.category).sum ≤ 8) (hcs : cells ≤ (xR X).cells ∧ slots ≤ (xR X).slots) (hd : decode cc pc = .ok (.invokevirtual 319, 3)) (k : V X G nL cells slots σ0 (pc + 3) lv (.int r0 :: rest)) : V X G nL cells slots σ pc lv (.ref (ga G 74) :: .int x1 :: .ref (ga G c0) :: rest) := by
  have h := of_decide_eq_true hr
  have hK : c0 < 110 + σ.1 := h.2.1
  rcases h.2.2 with q | q | q | q | q | q
  · have e : f_X6_bow c0 x1 σ = some (r0, σ0) := by
      unfold fv_X6_bow at e
      simpa [q] using e
    exact V_callU C (Cn := RX0) (owner := RX6) (x := yX6_bow) (As := [.int x1, .ref (ga G 74)]) (K := c0) (c_X6_bow X.2.1 G c0 x1 σ r0 σ0 e) cal_X6_bow ww_923 ww_941 ww_940 ww_922 ww_923 ww_902 ⟨by decide, by decide, by decide⟩ rfl (Nat.le_trans (Nat.le_of_ble_eq_true rfl) hdd) hK (role_lay h.1 q) (T := TX0) (N := 5) rfl rfl hroom hcs hd k
  · have e : f_X1_bow c0 x1 σ = some (r0, σ0) := by
      unfold fv_X6_bow at e
      simpa [q] using e
    exact V_callU C (Cn := RX1) (owner := RX6) (x := yX6_bow) (As := [.int x1, .ref (ga G 74)]) (K := c0) (c_X1_bow X.2.1 G c0 x1 σ r0 σ0 e) cal_X1_bow ww_942 ww_943 ww_940 ww_922 ww_923 ww_902 ⟨by decide, by decide, by decide⟩ rfl (Nat.le_trans (Nat.le_of_ble_eq_true rfl) hdd) hK (role_lay h.1 q) (T := TX1) (N := 5) rfl rfl hroom hcs hd k
  · have e : f_X2_bow c0 x1 σ = some (r0, σ0) := by
      unfold fv_X6_bow at e
      simpa [q] using e
    exact V_callU C (Cn := RX2) (owner := RX6) (x := yX6_bow) (As := [.int x1, .ref (ga G 74)]) (K := c0) (c_X2_bow X.2.1 G c0 x1 σ r0 σ0 e) cal_X2_bow ww_932 ww_944 ww_940 ww_922 ww_923 ww_902 ⟨by decide, by decide, by decide⟩ rfl (Nat.le_trans (Nat.le_of_ble_eq_true rfl) hdd) hK (role_lay h.1 q) (T := TX2) (N := 5) rfl rfl hroom hcs hd k
  · have e : f_X6_bow c0 x1 σ = some (r0, σ0) := by
      unfold fv_X6_bow at e
      simpa [q] using e
    exact V_callU C (Cn := RX3) (owner := RX6) (x := yX6_bow) (As := [.int x1, .ref (ga G 74)]) (K := c0) (c_X6_bow X.2.1 G c0 x1 σ r0 σ0 e) cal_X6_bow ww_923 ww_945 ww_940 ww_922 ww_923 ww_902 ⟨by decide, by decide, by decide⟩ rfl (Nat.le_trans (Nat.le_of_ble_eq_true rfl) hdd) hK (role_lay h.1 q) (T := TX3) (N := 5) rfl rfl hroom hcs hd k
  · have e : f_X6_bow c0 x1 σ = some (r0, σ0) := by
      unfold fv_X6_bow at e
      simpa [q] using e
    exact V_callU C (Cn := RX6) (owner := RX6) (x := yX6_bow) (As := [.int x1, .ref (ga G 74)]) (K := c0) (c_X6_bow X.2.1 G c0 x1 σ r0 σ0 e) cal_X6_bow ww_923 ww_946 ww_940 ww_922 ww_923 ww_902 ⟨by decide, by decide, by decide⟩ rfl (Nat.le_trans (Nat.le_of_ble_eq_true rfl) hdd) hK (role_lay h.1 q) (T := TX6) (N := 5) rfl rfl hroom hcs hd k
  · have e : f_X6_bow c0 x1 σ = some (r0, σ0) := by
      unfold fv_X6_bow at e
      simpa [q] using e
    exact V_callU C (Cn := RX9) (owner := RX6) (x := yX6_bow) (As := [.int x1, .ref (ga G 74)]) (K := c0) (c_X6_bow X.2.1 G c0 x1 σ r0 σ0 e) cal_X6_bow ww_923 ww_947 ww_940 ww_922 ww_923 ww_902 ⟨by decide, by decide, by decide⟩ rfl (Nat.le_trans (Nat.le_of_ble_eq_true rfl) hdd) hK (role_lay h.1 q) (T := TX9) (N := 5) rfl rfl hroom hcs hd k
theorem dt_X11_voice_0 : dtab cX11_voice [(0, .aload_n 0, 1), (1, .getfield 12, 3), (4, .iload_n 1, 1), (5, .invokevirtual 94, 3), (8, .ifCond .eq 11, 3), (11, .iload_n 2, 1), (12, .iconst 4, 1), (13, .invokestatic 79, 3), (16, .ifCond .ne 9, 3), (19, .aload_n 0, 1), (20, .iconst 1, 1), (21, .invokevirtual 68, 3), (24, .ireturn, 1), (25, .aload_n 0, 1), (26, .getfield 12, 3), (29, .getfield 98, 3), (32, .iload_n 1, 1), (33, .aaload, 1), (34, .astore 4, 2), (36, .aload_n 0, 1), (37, .getfield 49, 3), (40, .iconst 0, 1), (41, .putfield 189, 3), (44, .iload_n 2, 1), (45, .tableswitch 60 0 2 #[27, 38, 49], 27), (72, .aload 4, 2), (74, .iload_n 3, 1), (75, .aload_n 0, 1), (76, .getfield 49, 3), (79, .invokevirtual 309, 3), (82, .ireturn, 1), (83, .aload 4, 2), (85, .iload_n 3, 1), (86, .aload_n 0, 1), (87, .getfield 49, 3), (90, .invokevirtual 313, 3), (93, .ireturn, 1), (94, .aload 4, 2), (96, .iload_n 3, 1), (97, .aload_n 0, 1)] = true := by decide +kernel
theorem dt_X11_voice_1 : dtab cX11_voice [(98, .getfield 49, 3), (101, .invokevirtual 316, 3), (104, .ireturn, 1), (105, .aload 4, 2), (107, .iload_n 3, 1), (108, .aload_n 0, 1), (109, .getfield 49, 3), (112, .invokevirtual 319, 3), (115, .ireturn, 1)] = true := by decide +kernel
theorem cal_X11_voice : Cal yX11_voice cX11_voice 5 (some .int) 3 := ⟨ww_934, ww_100, ⟨by decide, by decide, by decide⟩, by decide⟩
set_option maxHeartbeats 4000000 in
set_option maxRecDepth 100000 in
theorem c_X11_voice (l : Launch) (G : Gx) (x1 : Int32) (x2 : Int32) (x3 : Int32) (σ : St) (r0 : Int32) (σ0 : St) (h : f_X11_voice x1 x2 x3 σ = some (r0, σ0)) : MI l G yX11_voice cX11_voice 5 (some .int) 10 [.ref (ga G 0), .int x1, .int x2, .int x3] σ (some (.int r0)) σ0 := by
  refine MI_of RX11 rfl (by decide) [(0, .ref (ga G 0)), (1, .int x1), (2, .int x2), (3, .int x3)] rfl (Nat.le_of_ble_eq_true rfl) ?_
  intro X hXl C hR
  unfold f_X11_voice at h
  have J_19 : ∀ (σ : St), f_X11_voice_19 σ = some (r0, σ0) → V X G 5 0 0 σ 19 [(0, .ref (ga G 0))] [] := by
    intro σ h
    unfold f_X11_voice_19 at h
    refine V_aload_n C (dt_at dt_X11_voice_0 9 rfl) 0 rfl rfl ?_
    refine V_iconst C 1 (dt_at dt_X11_voice_0 10 rfl) (by decide) ?_
    obtain ⟨r31, σ33, e32, h⟩ := bd2_s h
    refine cv_X11_error C ww_193 1 e32 (Nat.le_of_ble_eq_true rfl) (Nat.le_of_ble_eq_true rfl) z0 (dt_at dt_X11_voice_0 11 rfl) ?_
    obtain ⟨e1_, e2_⟩ := pin2 h
    subst e1_; subst e2_
    exact V_iret C hR (dt_at dt_X11_voice_0 12 rfl)
  refine V_aload_n C (dt_at dt_X11_voice_0 0 rfl) 0 rfl rfl ?_
  refine g_X11_12_0 C (dt_at dt_X11_voice_0 1 rfl) ?_
  refine V_iload_n C (dt_at dt_X11_voice_0 2 rfl) 1 rfl rfl ?_
  obtain ⟨r1, e2, h⟩ := bd_s h
  refine cv_X4_hasPart C ww_215 x1 e2 (Nat.le_of_ble_eq_true rfl) (Nat.le_of_ble_eq_true rfl) z0 (dt_at dt_X11_voice_0 3 rfl) ?_
  refine V_if_eq C 19 (dt_at dt_X11_voice_0 4 rfl) (by decide) (fun q4 => ?_) (fun q4 => ?_)
  · have h := ite_t q4 h
    refine V_sub [0] (lv' := [(0, .ref (ga G 0))]) rfl ?_
    exact J_19 σ h
  · have h := ite_f q4 h
    refine V_iload_n C (dt_at dt_X11_voice_0 5 rfl) 2 rfl rfl ?_
    refine V_iconst C 4 (dt_at dt_X11_voice_0 6 rfl) (by decide) ?_
    obtain ⟨r5, e6, h⟩ := bd_s h
    refine cv_X11_isWithin C ww_186 x2 4 e6 (Nat.le_of_ble_eq_true rfl) (Nat.le_of_ble_eq_true rfl) z0 (dt_at dt_X11_voice_0 7 rfl) ?_
    refine V_if_ne C 25 (dt_at dt_X11_voice_0 8 rfl) (by decide) (fun q8 => ?_) (fun q8 => ?_)
    · have h := ite_f q8 h
      refine V_aload_n C (dt_at dt_X11_voice_0 13 rfl) 0 rfl rfl ?_
      refine g_X11_12_0 C (dt_at dt_X11_voice_0 14 rfl) ?_
      refine g_X11_98_1 C (dt_at dt_X11_voice_0 15 rfl) ?_
      refine V_iload_n C (dt_at dt_X11_voice_0 16 rfl) 1 rfl rfl ?_
      obtain ⟨h9, h⟩ := chk_s h
      obtain ⟨h10, h⟩ := chk_s h
      refine V_aaR10 C h9 h10 (dt_at dt_X11_voice_0 17 rfl) ?_
      refine V_astore C [1, 2, 3, 4, 0] (lv' := [(0, .ref (ga G 0)), (1, .int x1), (2, .int x2), (3, .int x3), (4, .ref (ga G ((rd σ 10 x1).toNatClampNeg)))]) (dt_at dt_X11_voice_0 18 rfl) (by decide) rfl ?_
      refine V_aload_n C (dt_at dt_X11_voice_0 19 rfl) 0 rfl rfl ?_
      refine g_X11_49_0 C (dt_at dt_X11_voice_0 20 rfl) ?_
      refine V_iconst C 0 (dt_at dt_X11_voice_0 21 rfl) (by decide) ?_
      obtain ⟨σ11, eσ11, h⟩ := nm_s h
      refine V_st eσ11 ?_ (fun k => p_X11_189_74 C (dt_at dt_X11_voice_0 22 rfl) k)
      refine V_iload_n C (dt_at dt_X11_voice_0 23 rfl) 2 rfl rfl ?_
      by_cases q12 : x2 = 0
      · have h := ite_t q12 h
        refine V_tin C 0 72 (dt_at dt_X11_voice_0 24 rfl) ⟨by rw [q12] <;> rfl, by decide⟩ rfl (by decide) ?_
        refine V_aload C (dt_at dt_X11_voice_0 25 rfl) 4 rfl ?_
        refine V_iload_n C (dt_at dt_X11_voice_0 26 rfl) 3 rfl rfl ?_
        refine V_aload_n C (dt_at dt_X11_voice_0 27 rfl) 0 rfl rfl ?_
        refine g_X11_49_0 C (dt_at dt_X11_voice_0 28 rfl) ?_
        obtain ⟨h13, h⟩ := chk_s h
        obtain ⟨r14, σ16, e15, h⟩ := bd2_s h
        refine cvr_X11_309 C ((rd σ 10 x1).toNatClampNeg) x3 h13 e15 (Nat.le_of_ble_eq_true rfl) (Nat.le_of_ble_eq_true rfl) z0 (dt_at dt_X11_voice_0 29 rfl) ?_
        obtain ⟨e1_, e2_⟩ := pin2 h
        subst e1_; subst e2_
        exact V_iret C hR (dt_at dt_X11_voice_0 30 rfl)
      replace h := ite_f q12 h
      by_cases q17 : x2 = 1
      · have h := ite_t q17 h
        refine V_tin C 1 83 (dt_at dt_X11_voice_0 24 rfl) ⟨by rw [q17] <;> rfl, by decide⟩ rfl (by decide) ?_
        refine V_aload C (dt_at dt_X11_voice_0 31 rfl) 4 rfl ?_
        refine V_iload_n C (dt_at dt_X11_voice_0 32 rfl) 3 rfl rfl ?_
        refine V_aload_n C (dt_at dt_X11_voice_0 33 rfl) 0 rfl rfl ?_
        refine g_X11_49_0 C (dt_at dt_X11_voice_0 34 rfl) ?_
        obtain ⟨h18, h⟩ := chk_s h
        obtain ⟨r19, σ21, e20, h⟩ := bd2_s h
        refine cvr_X11_313 C ((rd σ 10 x1).toNatClampNeg) x3 h18 e20 (Nat.le_of_ble_eq_true rfl) (Nat.le_of_ble_eq_true rfl) z0 (dt_at dt_X11_voice_0 35 rfl) ?_
        obtain ⟨e1_, e2_⟩ := pin2 h
        subst e1_; subst e2_
        exact V_iret C hR (dt_at dt_X11_voice_0 36 rfl)
      replace h := ite_f q17 h
      by_cases q22 : x2 = 2
      · have h := ite_t q22 h
        refine V_tin C 2 94 (dt_at dt_X11_voice_0 24 rfl) ⟨by rw [q22] <;> rfl, by decide⟩ rfl (by decide) ?_
        refine V_aload C (dt_at dt_X11_voice_0 37 rfl) 4 rfl ?_
        refine V_iload_n C (dt_at dt_X11_voice_0 38 rfl) 3 rfl rfl ?_
        refine V_aload_n C (dt_at dt_X11_voice_0 39 rfl) 0 rfl rfl ?_
        refine g_X11_49_0 C (dt_at dt_X11_voice_1 0 rfl) ?_
        obtain ⟨h23, h⟩ := chk_s h
        obtain ⟨r24, σ26, e25, h⟩ := bd2_s h
        refine cvr_X11_316 C ((rd σ 10 x1).toNatClampNeg) x3 h23 e25 (Nat.le_of_ble_eq_true rfl) (Nat.le_of_ble_eq_true rfl) z0 (dt_at dt_X11_voice_1 1 rfl) ?_
        obtain ⟨e1_, e2_⟩ := pin2 h
        subst e1_; subst e2_
        exact V_iret C hR (dt_at dt_X11_voice_1 2 rfl)
      replace h := ite_f q22 h
      refine V_tout C 105 (dt_at dt_X11_voice_0 24 rfl) (by have q12t := lv_neT q12 (a := 0) rfl; have q17t := lv_neT q17 (a := 1) rfl; have q22t := lv_neT q22 (a := 2) rfl; omega) (by decide) ?_
      refine V_aload C (dt_at dt_X11_voice_1 3 rfl) 4 rfl ?_
      refine V_iload_n C (dt_at dt_X11_voice_1 4 rfl) 3 rfl rfl ?_
      refine V_aload_n C (dt_at dt_X11_voice_1 5 rfl) 0 rfl rfl ?_
      refine g_X11_49_0 C (dt_at dt_X11_voice_1 6 rfl) ?_
      obtain ⟨h27, h⟩ := chk_s h
      obtain ⟨r28, σ30, e29, h⟩ := bd2_s h
      refine cvr_X11_319 C ((rd σ 10 x1).toNatClampNeg) x3 h27 e29 (Nat.le_of_ble_eq_true rfl) (Nat.le_of_ble_eq_true rfl) z0 (dt_at dt_X11_voice_1 7 rfl) ?_
      obtain ⟨e1_, e2_⟩ := pin2 h
      subst e1_; subst e2_
      exact V_iret C hR (dt_at dt_X11_voice_1 8 rfl)
    · have h := ite_t q8 h
      refine V_sub [0] (lv' := [(0, .ref (ga G 0))]) rfl ?_
      exact J_19 σ h
theorem cv_X11_voice (C : Ck X G cc own nL d) {idx : Nat} (hlk : Cond.methodLink own idx yX11_voice ∈ gtb) (x1 : Int32) (x2 : Int32) (x3 : Int32) {r0 : Int32} {σ0 : St} (e : f_X11_voice x1 x2 x3 σ = some (r0, σ0)) (hdd : 11 ≤ d) (hroom : (rest.map fun v => v.category).sum ≤ 8) (hcs : cells ≤ (xR X).cells ∧ slots ≤ (xR X).slots) (hd : decode cc pc = .ok (.invokevirtual idx, 3)) (k : V X G nL cells slots σ0 (pc + 3) lv (.int r0 :: rest)) : V X G nL cells slots σ pc lv (.int x3 :: .int x2 :: .int x1 :: .ref (ga G 0) :: rest) := V_callV C (As := [.int x1, .int x2, .int x3]) (c_X11_voice X.2.1 G x1 x2 x3 σ r0 σ0 e) cal_X11_voice ww_935 ww_936 hlk rfl hdd (lt110 rfl) rfl rfl rfl hroom hcs hd k
theorem cvr_X10_126 (C : Ck X G cc RX10 nL d) (c0 : Nat) (x1 : Int32) {r0 : Int32} (hr : isRole σ c0 = true) (e : f_X6_isOf c0 x1 σ = some r0) (hdd : 2 ≤ d) (hroom : (rest.map fun v => v.category).sum ≤ 8) (hcs : cells ≤ (xR X).cells ∧ slots ≤ (xR X).slots) (hd : decode cc pc = .ok (.invokevirtual 126, 3)) (k : V X G nL cells slots σ (pc + 3) lv (.int r0 :: rest)) : V X G nL cells slots σ pc lv (.int x1 :: .ref (ga G c0) :: rest) := by
  have h := of_decide_eq_true hr
  have hK : c0 < 110 + σ.1 := h.2.1
  rcases h.2.2 with q | q | q | q | q | q
  · exact V_callU C (Cn := RX0) (owner := RX6) (x := yX6_isOf) (As := [.int x1]) (K := c0) (c_X6_isOf X.2.1 G c0 x1 σ r0 e) cal_X6_isOf ww_954 ww_955 ww_952 ww_953 ww_954 ww_843 ⟨by decide, by decide, by decide⟩ rfl (Nat.le_trans (Nat.le_of_ble_eq_true rfl) hdd) hK (role_lay h.1 q) (T := TX0) (N := 5) rfl rfl hroom hcs hd k
  · exact V_callU C (Cn := RX1) (owner := RX6) (x := yX6_isOf) (As := [.int x1]) (K := c0) (c_X6_isOf X.2.1 G c0 x1 σ r0 e) cal_X6_isOf ww_954 ww_956 ww_952 ww_953 ww_954 ww_843 ⟨by decide, by decide, by decide⟩ rfl (Nat.le_trans (Nat.le_of_ble_eq_true rfl) hdd) hK (role_lay h.1 q) (T := TX1) (N := 5) rfl rfl hroom hcs hd k
  · exact V_callU C (Cn := RX2) (owner := RX6) (x := yX6_isOf) (As := [.int x1]) (K := c0) (c_X6_isOf X.2.1 G c0 x1 σ r0 e) cal_X6_isOf ww_954 ww_957 ww_952 ww_953 ww_954 ww_843 ⟨by decide, by decide, by decide⟩ rfl (Nat.le_trans (Nat.le_of_ble_eq_true rfl) hdd) hK (role_lay h.1 q) (T := TX2) (N := 5) rfl rfl hroom hcs hd k
  · exact V_callU C (Cn := RX3) (owner := RX6) (x := yX6_isOf) (As := [.int x1]) (K := c0) (c_X6_isOf X.2.1 G c0 x1 σ r0 e) cal_X6_isOf ww_954 ww_958 ww_952 ww_953 ww_954 ww_843 ⟨by decide, by decide, by decide⟩ rfl (Nat.le_trans (Nat.le_of_ble_eq_true rfl) hdd) hK (role_lay h.1 q) (T := TX3) (N := 5) rfl rfl hroom hcs hd k
  · exact V_callU C (Cn := RX6) (owner := RX6) (x := yX6_isOf) (As := [.int x1]) (K := c0) (c_X6_isOf X.2.1 G c0 x1 σ r0 e) cal_X6_isOf ww_954 ww_959 ww_952 ww_953 ww_954 ww_843 ⟨by decide, by decide, by decide⟩ rfl (Nat.le_trans (Nat.le_of_ble_eq_true rfl) hdd) hK (role_lay h.1 q) (T := TX6) (N := 5) rfl rfl hroom hcs hd k
  · exact V_callU C (Cn := RX9) (owner := RX6) (x := yX6_isOf) (As := [.int x1]) (K := c0) (c_X6_isOf X.2.1 G c0 x1 σ r0 e) cal_X6_isOf ww_954 ww_960 ww_952 ww_953 ww_954 ww_843 ⟨by decide, by decide, by decide⟩ rfl (Nat.le_trans (Nat.le_of_ble_eq_true rfl) hdd) hK (role_lay h.1 q) (T := TX9) (N := 5) rfl rfl hroom hcs hd k
theorem dt_X10_areApart_0 : dtab cX10_areApart [(0, .aload_n 0, 1), (1, .iload_n 1, 1), (2, .invokevirtual 116, 3), (5, .ifCond .eq 19, 3), (8, .aload_n 0, 1), (9, .getfield 31, 3), (12, .getfield 49, 3), (15, .iload_n 2, 1), (16, .aaload, 1), (17, .iconst 1, 1), (18, .invokevirtual 126, 3), (21, .ifCond .eq 27, 3), (24, .aload_n 0, 1), (25, .iload_n 2, 1), (26, .invokevirtual 116, 3), (29, .ifCond .eq 23, 3), (32, .aload_n 0, 1), (33, .getfield 31, 3), (36, .getfield 49, 3), (39, .iload_n 1, 1), (40, .aaload, 1), (41, .iconst 1, 1), (42, .invokevirtual 126, 3), (45, .ifCond .ne 7, 3), (48, .iconst 1, 1), (49, .goto 4, 3), (52, .iconst 0, 1), (53, .ireturn, 1)] = true := by decide +kernel
theorem cal_X10_areApart : Cal yX10_areApart cX10_areApart 3 (some .boolean) 2 := ⟨ww_949, ww_24, ⟨by decide, by decide, by decide⟩, by decide⟩
set_option maxHeartbeats 4000000 in
set_option maxRecDepth 100000 in
theorem c_X10_areApart (l : Launch) (G : Gx) (x1 : Int32) (x2 : Int32) (σ : St) (r0 : Int32) (h : f_X10_areApart x1 x2 σ = some r0) : MI l G yX10_areApart cX10_areApart 3 (some .boolean) 2 [.ref (ga G 3), .int x1, .int x2] σ (some (.int r0)) σ := by
  refine MI_of RX10 rfl (by decide) [(0, .ref (ga G 3)), (1, .int x1), (2, .int x2)] rfl (Nat.le_of_ble_eq_true rfl) ?_
  intro X hXl C hR
  unfold f_X10_areApart at h
  have J_48 : f_X10_areApart_48 σ = some r0 → V X G 3 0 0 σ 48 [] [] := by
    intro  h
    unfold f_X10_areApart_48 at h
    refine V_iconst C 1 (dt_at dt_X10_areApart_0 24 rfl) (by decide) ?_
    refine V_goto C 53 (dt_at dt_X10_areApart_0 25 rfl) (by decide) ?_
    have e1_ := Option.some.inj h
    subst e1_
    exact V_zret C rfl hR (dt_at dt_X10_areApart_0 27 rfl)
  have J_24 : f_X10_areApart_24 x1 x2 σ = some r0 → V X G 3 0 0 σ 24 [(0, .ref (ga G 3)), (1, .int x1), (2, .int x2)] [] := by
    intro  h
    unfold f_X10_areApart_24 at h
    refine V_aload_n C (dt_at dt_X10_areApart_0 12 rfl) 0 rfl rfl ?_
    refine V_iload_n C (dt_at dt_X10_areApart_0 13 rfl) 2 rfl rfl ?_
    obtain ⟨r11, e12, h⟩ := bd_s h
    refine cv_X10_isOff C ww_948 x2 e12 (Nat.le_of_ble_eq_true rfl) (Nat.le_of_ble_eq_true rfl) z0 (dt_at dt_X10_areApart_0 14 rfl) ?_
    refine V_if_eq C 52 (dt_at dt_X10_areApart_0 15 rfl) (by decide) (fun q14 => ?_) (fun q14 => ?_)
    · have h := ite_t q14 h
      refine V_iconst C 0 (dt_at dt_X10_areApart_0 26 rfl) (by decide) ?_
      have e1_ := Option.some.inj h
      subst e1_
      exact V_zret C rfl hR (dt_at dt_X10_areApart_0 27 rfl)
    · have h := ite_f q14 h
      refine V_aload_n C (dt_at dt_X10_areApart_0 16 rfl) 0 rfl rfl ?_
      refine g_X10_31_3 C (dt_at dt_X10_areApart_0 17 rfl) ?_
      refine g_X10_49_1 C (dt_at dt_X10_areApart_0 18 rfl) ?_
      refine V_iload_n C (dt_at dt_X10_areApart_0 19 rfl) 1 rfl rfl ?_
      obtain ⟨h15, h⟩ := chk_s h
      obtain ⟨h16, h⟩ := chk_s h
      refine V_aaR10 C h15 h16 (dt_at dt_X10_areApart_0 20 rfl) ?_
      refine V_iconst C 1 (dt_at dt_X10_areApart_0 21 rfl) (by decide) ?_
      obtain ⟨r17, e18, h⟩ := bd_s h
      refine cvr_X10_126 C ((rd σ 10 x1).toNatClampNeg) 1 h16 e18 (Nat.le_of_ble_eq_true rfl) (Nat.le_of_ble_eq_true rfl) z0 (dt_at dt_X10_areApart_0 22 rfl) ?_
      refine V_if_ne C 52 (dt_at dt_X10_areApart_0 23 rfl) (by decide) (fun q20 => ?_) (fun q20 => ?_)
      · have h := ite_f q20 h
        refine V_iconst C 0 (dt_at dt_X10_areApart_0 26 rfl) (by decide) ?_
        have e1_ := Option.some.inj h
        subst e1_
        exact V_zret C rfl hR (dt_at dt_X10_areApart_0 27 rfl)
      · have h := ite_t q20 h
        refine V_sub [] (lv' := []) rfl ?_
        exact J_48  h
  refine V_aload_n C (dt_at dt_X10_areApart_0 0 rfl) 0 rfl rfl ?_
  refine V_iload_n C (dt_at dt_X10_areApart_0 1 rfl) 1 rfl rfl ?_
  obtain ⟨r1, e2, h⟩ := bd_s h
  refine cv_X10_isOff C ww_948 x1 e2 (Nat.le_of_ble_eq_true rfl) (Nat.le_of_ble_eq_true rfl) z0 (dt_at dt_X10_areApart_0 2 rfl) ?_
  refine V_if_eq C 24 (dt_at dt_X10_areApart_0 3 rfl) (by decide) (fun q4 => ?_) (fun q4 => ?_)
  · have h := ite_t q4 h
    exact J_24  h
  · have h := ite_f q4 h
    refine V_aload_n C (dt_at dt_X10_areApart_0 4 rfl) 0 rfl rfl ?_
    refine g_X10_31_3 C (dt_at dt_X10_areApart_0 5 rfl) ?_
    refine g_X10_49_1 C (dt_at dt_X10_areApart_0 6 rfl) ?_
    refine V_iload_n C (dt_at dt_X10_areApart_0 7 rfl) 2 rfl rfl ?_
    obtain ⟨h5, h⟩ := chk_s h
    obtain ⟨h6, h⟩ := chk_s h
    refine V_aaR10 C h5 h6 (dt_at dt_X10_areApart_0 8 rfl) ?_
    refine V_iconst C 1 (dt_at dt_X10_areApart_0 9 rfl) (by decide) ?_
    obtain ⟨r7, e8, h⟩ := bd_s h
    refine cvr_X10_126 C ((rd σ 10 x2).toNatClampNeg) 1 h6 e8 (Nat.le_of_ble_eq_true rfl) (Nat.le_of_ble_eq_true rfl) z0 (dt_at dt_X10_areApart_0 10 rfl) ?_
    refine V_if_eq C 48 (dt_at dt_X10_areApart_0 11 rfl) (by decide) (fun q10 => ?_) (fun q10 => ?_)
    · have h := ite_t q10 h
      refine V_sub [] (lv' := []) rfl ?_
      exact J_48  h
    · have h := ite_f q10 h
      exact J_24  h
theorem cv_X10_areApart (C : Ck X G cc own nL d) {idx : Nat} (hlk : Cond.methodLink own idx yX10_areApart ∈ gtb) (x1 : Int32) (x2 : Int32) {r0 : Int32} (e : f_X10_areApart x1 x2 σ = some r0) (hdd : 3 ≤ d) (hroom : (rest.map fun v => v.category).sum ≤ 8) (hcs : cells ≤ (xR X).cells ∧ slots ≤ (xR X).slots) (hd : decode cc pc = .ok (.invokevirtual idx, 3)) (k : V X G nL cells slots σ (pc + 3) lv (.int r0 :: rest)) : V X G nL cells slots σ pc lv (.int x2 :: .int x1 :: .ref (ga G 3) :: rest) := V_callV C (As := [.int x1, .int x2]) (c_X10_areApart X.2.1 G x1 x2 σ r0 e) cal_X10_areApart ww_950 ww_951 hlk rfl hdd (lt110 rfl) rfl rfl rfl hroom hcs hd k
theorem dt_X10_howBarred_0 : dtab cX10_howBarred [(0, .aload_n 0, 1), (1, .iload_n 1, 1), (2, .iload_n 2, 1), (3, .invokevirtual 109, 3), (6, .ifCond .eq 5, 3), (9, .iconst 0, 1), (10, .ireturn, 1), (11, .aload_n 0, 1), (12, .aload_n 0, 1), (13, .iload_n 1, 1), (14, .iload_n 2, 1), (15, .invokevirtual 113, 3), (18, .putfield 28, 3), (21, .aload_n 0, 1), (22, .getfield 28, 3), (25, .iconst (-1), 1), (26, .if_icmp .eq 5, 3), (29, .iconst 2, 1), (30, .ireturn, 1), (31, .aload_n 0, 1), (32, .iload_n 1, 1), (33, .invokevirtual 116, 3), (36, .ifCond .ne 11, 3), (39, .aload_n 0, 1), (40, .iload_n 2, 1), (41, .invokevirtual 116, 3), (44, .ifCond .eq 5, 3), (47, .iconst 0, 1), (48, .ireturn, 1), (49, .aload_n 0, 1), (50, .aload_n 0, 1), (51, .iload_n 1, 1), (52, .iload_n 2, 1), (53, .invokevirtual 120, 3), (56, .aload_n 0, 1), (57, .iload_n 2, 1), (58, .iload_n 1, 1), (59, .invokevirtual 120, 3), (62, .invokestatic 123, 3), (65, .putfield 28, 3)] = true := by decide +kernel
theorem dt_X10_howBarred_1 : dtab cX10_howBarred [(68, .aload_n 0, 1), (69, .getfield 28, 3), (72, .iconst (-1), 1), (73, .if_icmp .eq 7, 3), (76, .iconst 3, 1), (77, .goto 4, 3), (80, .iconst 0, 1), (81, .ireturn, 1)] = true := by decide +kernel
theorem cal_X10_howBarred : Cal yX10_howBarred cX10_howBarred 3 (some .int) 2 := ⟨ww_965, ww_24, ⟨by decide, by decide, by decide⟩, by decide⟩
set_option maxHeartbeats 4000000 in
set_option maxRecDepth 100000 in
theorem c_X10_howBarred (l : Launch) (G : Gx) (x1 : Int32) (x2 : Int32) (σ : St) (r0 : Int32) (σ0 : St) (h : f_X10_howBarred x1 x2 σ = some (r0, σ0)) : MI l G yX10_howBarred cX10_howBarred 3 (some .int) 5 [.ref (ga G 3), .int x1, .int x2] σ (some (.int r0)) σ0 := by
  refine MI_of RX10 rfl (by decide) [(0, .ref (ga G 3)), (1, .int x1), (2, .int x2)] rfl (Nat.le_of_ble_eq_true rfl) ?_
  intro X hXl C hR
  unfold f_X10_howBarred at h
  refine V_aload_n C (dt_at dt_X10_howBarred_0 0 rfl) 0 rfl rfl ?_
  refine V_iload_n C (dt_at dt_X10_howBarred_0 1 rfl) 1 rfl rfl ?_
  refine V_iload_n C (dt_at dt_X10_howBarred_0 2 rfl) 2 rfl rfl ?_
  obtain ⟨r1, e2, h⟩ := bd_s h
  refine cv_X10_areApart C ww_961 x1 x2 e2 (Nat.le_of_ble_eq_true rfl) (Nat.le_of_ble_eq_true rfl) z0 (dt_at dt_X10_howBarred_0 3 rfl) ?_
  refine V_if_eq C 11 (dt_at dt_X10_howBarred_0 4 rfl) (by decide) (fun q4 => ?_) (fun q4 => ?_)
  · have h := ite_t q4 h
    refine V_aload_n C (dt_at dt_X10_howBarred_0 7 rfl) 0 rfl rfl ?_
    refine V_aload_n C (dt_at dt_X10_howBarred_0 8 rfl) 0 rfl rfl ?_
    refine V_iload_n C (dt_at dt_X10_howBarred_0 9 rfl) 1 rfl rfl ?_
    refine V_iload_n C (dt_at dt_X10_howBarred_0 10 rfl) 2 rfl rfl ?_
    obtain ⟨r5, e6, h⟩ := bd_s h
    refine cv_X10_meetingLine C ww_962 x1 x2 e6 (Nat.le_of_ble_eq_true rfl) (Nat.le_of_ble_eq_true rfl) z0 (dt_at dt_X10_howBarred_0 11 rfl) ?_
    obtain ⟨σ8, eσ8, h⟩ := nm_s h
    refine V_st eσ8 ?_ (fun k => p_X10_28_3 C (dt_at dt_X10_howBarred_0 12 rfl) k)
    refine V_aload_n C (dt_at dt_X10_howBarred_0 13 rfl) 0 rfl rfl ?_
    refine g_X10_28_3 C (dt_at dt_X10_howBarred_0 14 rfl) ?_
    refine V_iconst C (-1) (dt_at dt_X10_howBarred_0 15 rfl) (by decide) ?_
    refine V_icmp_eq C 31 (dt_at dt_X10_howBarred_0 16 rfl) (by decide) (fun q9 => ?_) (fun q9 => ?_)
    · have h := ite_t q9 h
      refine V_aload_n C (dt_at dt_X10_howBarred_0 19 rfl) 0 rfl rfl ?_
      refine V_iload_n C (dt_at dt_X10_howBarred_0 20 rfl) 1 rfl rfl ?_
      obtain ⟨r10, e11, h⟩ := bd_s h
      refine cv_X10_isOff C ww_948 x1 e11 (Nat.le_of_ble_eq_true rfl) (Nat.le_of_ble_eq_true rfl) z0 (dt_at dt_X10_howBarred_0 21 rfl) ?_
      refine V_if_ne C 47 (dt_at dt_X10_howBarred_0 22 rfl) (by decide) (fun q13 => ?_) (fun q13 => ?_)
      · have h := ite_f q13 h
        refine V_iconst C 0 (dt_at dt_X10_howBarred_0 27 rfl) (by decide) ?_
        obtain ⟨e1_, e2_⟩ := pin2 h
        subst e1_; subst e2_
        exact V_iret C hR (dt_at dt_X10_howBarred_0 28 rfl)
      · have h := ite_t q13 h
        refine V_aload_n C (dt_at dt_X10_howBarred_0 23 rfl) 0 rfl rfl ?_
        refine V_iload_n C (dt_at dt_X10_howBarred_0 24 rfl) 2 rfl rfl ?_
        obtain ⟨r14, e15, h⟩ := bd_s h
        refine cv_X10_isOff C ww_948 x2 e15 (Nat.le_of_ble_eq_true rfl) (Nat.le_of_ble_eq_true rfl) z0 (dt_at dt_X10_howBarred_0 25 rfl) ?_
        refine V_if_eq C 49 (dt_at dt_X10_howBarred_0 26 rfl) (by decide) (fun q17 => ?_) (fun q17 => ?_)
        · have h := ite_t q17 h
          refine V_aload_n C (dt_at dt_X10_howBarred_0 29 rfl) 0 rfl rfl ?_
          refine V_aload_n C (dt_at dt_X10_howBarred_0 30 rfl) 0 rfl rfl ?_
          refine V_iload_n C (dt_at dt_X10_howBarred_0 31 rfl) 1 rfl rfl ?_
          refine V_iload_n C (dt_at dt_X10_howBarred_0 32 rfl) 2 rfl rfl ?_
          obtain ⟨r18, σ20, e19, h⟩ := bd2_s h
          refine cv_X10_nearLine C ww_964 x1 x2 e19 (Nat.le_of_ble_eq_true rfl) (Nat.le_of_ble_eq_true rfl) z0 (dt_at dt_X10_howBarred_0 33 rfl) ?_
          refine V_aload_n C (dt_at dt_X10_howBarred_0 34 rfl) 0 rfl rfl ?_
          refine V_iload_n C (dt_at dt_X10_howBarred_0 35 rfl) 2 rfl rfl ?_
          refine V_iload_n C (dt_at dt_X10_howBarred_0 36 rfl) 1 rfl rfl ?_
          obtain ⟨r21, σ23, e22, h⟩ := bd2_s h
          refine cv_X10_nearLine C ww_964 x2 x1 e22 (Nat.le_of_ble_eq_true rfl) (Nat.le_of_ble_eq_true rfl) z0 (dt_at dt_X10_howBarred_0 37 rfl) ?_
          obtain ⟨r24, e25, h⟩ := bd_s h
          refine cv_X10_earlier C ww_70 r18 r21 e25 (Nat.le_of_ble_eq_true rfl) (Nat.le_of_ble_eq_true rfl) z0 (dt_at dt_X10_howBarred_0 38 rfl) ?_
          obtain ⟨σ27, eσ27, h⟩ := nm_s h
          refine V_st eσ27 ?_ (fun k => p_X10_28_3 C (dt_at dt_X10_howBarred_0 39 rfl) k)
          refine V_aload_n C (dt_at dt_X10_howBarred_1 0 rfl) 0 rfl rfl ?_
          refine g_X10_28_3 C (dt_at dt_X10_howBarred_1 1 rfl) ?_
          refine V_iconst C (-1) (dt_at dt_X10_howBarred_1 2 rfl) (by decide) ?_
          refine V_icmp_eq C 80 (dt_at dt_X10_howBarred_1 3 rfl) (by decide) (fun q28 => ?_) (fun q28 => ?_)
          · have h := ite_t q28 h
            refine V_iconst C 0 (dt_at dt_X10_howBarred_1 6 rfl) (by decide) ?_
            obtain ⟨e1_, e2_⟩ := pin2 h
            subst e1_; subst e2_
            exact V_iret C hR (dt_at dt_X10_howBarred_1 7 rfl)
          · have h := ite_f q28 h
            refine V_iconst C 3 (dt_at dt_X10_howBarred_1 4 rfl) (by decide) ?_
            refine V_goto C 81 (dt_at dt_X10_howBarred_1 5 rfl) (by decide) ?_
            obtain ⟨e1_, e2_⟩ := pin2 h
            subst e1_; subst e2_
            exact V_iret C hR (dt_at dt_X10_howBarred_1 7 rfl)
        · have h := ite_f q17 h
          refine V_iconst C 0 (dt_at dt_X10_howBarred_0 27 rfl) (by decide) ?_
          obtain ⟨e1_, e2_⟩ := pin2 h
          subst e1_; subst e2_
          exact V_iret C hR (dt_at dt_X10_howBarred_0 28 rfl)
    · have h := ite_f q9 h
      refine V_iconst C 2 (dt_at dt_X10_howBarred_0 17 rfl) (by decide) ?_
      obtain ⟨e1_, e2_⟩ := pin2 h
      subst e1_; subst e2_
      exact V_iret C hR (dt_at dt_X10_howBarred_0 18 rfl)
  · have h := ite_f q4 h
    refine V_iconst C 0 (dt_at dt_X10_howBarred_0 5 rfl) (by decide) ?_
    obtain ⟨e1_, e2_⟩ := pin2 h
    subst e1_; subst e2_
    exact V_iret C hR (dt_at dt_X10_howBarred_0 6 rfl)
theorem cv_X10_howBarred (C : Ck X G cc own nL d) {idx : Nat} (hlk : Cond.methodLink own idx yX10_howBarred ∈ gtb) (x1 : Int32) (x2 : Int32) {r0 : Int32} {σ0 : St} (e : f_X10_howBarred x1 x2 σ = some (r0, σ0)) (hdd : 6 ≤ d) (hroom : (rest.map fun v => v.category).sum ≤ 8) (hcs : cells ≤ (xR X).cells ∧ slots ≤ (xR X).slots) (hd : decode cc pc = .ok (.invokevirtual idx, 3)) (k : V X G nL cells slots σ0 (pc + 3) lv (.int r0 :: rest)) : V X G nL cells slots σ pc lv (.int x2 :: .int x1 :: .ref (ga G 3) :: rest) := V_callV C (As := [.int x1, .int x2]) (c_X10_howBarred X.2.1 G x1 x2 σ r0 σ0 e) cal_X10_howBarred ww_966 ww_967 hlk rfl hdd (lt110 rfl) rfl rfl rfl hroom hcs hd k
theorem dt_X10_findBarAbove_0 : dtab cX10_findBarAbove [(0, .iload_n 1, 1), (1, .iconst 1, 1), (2, .iadd, 1), (3, .istore_n 3, 1), (4, .iload_n 3, 1), (5, .aload_n 0, 1), (6, .getfield 31, 3), (9, .getfield 159, 3), (12, .if_icmp .ge 43, 3), (15, .aload_n 0, 1), (16, .getfield 31, 3), (19, .getfield 165, 3), (22, .iload_n 3, 1), (23, .iaload, 1), (24, .iload_n 2, 1), (25, .if_icmp .ne 24, 3), (28, .aload_n 0, 1), (29, .iload_n 3, 1), (30, .putfield 25, 3), (33, .aload_n 0, 1), (34, .iload_n 1, 1), (35, .iload_n 3, 1), (36, .invokevirtual 162, 3), (39, .istore 4, 2), (41, .iload 4, 2), (43, .ifCond .eq 6, 3), (46, .iload 4, 2), (48, .ireturn, 1), (49, .iinc 3 1, 3), (52, .goto (-48), 3), (55, .iconst 0, 1), (56, .ireturn, 1)] = true := by decide +kernel
theorem cal_X10_findBarAbove : Cal yX10_findBarAbove cX10_findBarAbove 5 (some .int) 2 := ⟨ww_972, ww_24, ⟨by decide, by decide, by decide⟩, by decide⟩
set_option maxHeartbeats 4000000 in
set_option maxRecDepth 100000 in
theorem c_X10_findBarAbove (l : Launch) (G : Gx) (x1 : Int32) (x2 : Int32) (σ : St) (r0 : Int32) (σ0 : St) (h : f_X10_findBarAbove x1 x2 σ = some (r0, σ0)) : MI l G yX10_findBarAbove cX10_findBarAbove 5 (some .int) 6 [.ref (ga G 3), .int x1, .int x2] σ (some (.int r0)) σ0 := by
  refine MI_of RX10 rfl (by decide) [(0, .ref (ga G 3)), (1, .int x1), (2, .int x2)] rfl (Nat.le_of_ble_eq_true rfl) ?_
  intro X hXl C hR
  unfold f_X10_findBarAbove at h
  have J_4 : ∀ (x3 : Int32) (σ : St), f_X10_findBarAbove_4 x1 x2 x3 σ = some (r0, σ0) → V X G 5 0 0 σ 4 [(0, .ref (ga G 3)), (1, .int x1), (2, .int x2), (3, .int x3)] [] := by
    intro x3 σ h
    refine it_v (P := fun z : Int32 × St => V X G 5 0 0 z.2 4 [(0, .ref (ga G 3)), (1, .int x1), (2, .int x2), (3, .int z.1)] []) ?_ (x3, σ) h
    clear h
    intro z w_4 h ih_4 ex_4
    obtain ⟨x3, σ⟩ := z
    have h : b_X10_findBarAbove_4 x1 x2 x3 σ = some w_4 := h
    show V X G 5 0 0 σ 4 [(0, .ref (ga G 3)), (1, .int x1), (2, .int x2), (3, .int x3)] []
    unfold b_X10_findBarAbove_4 at h
    have J_49 : ∀ (x3 : Int32) (σ : St), f_X10_findBarAbove_49 x1 x2 x3 σ = some w_4 → V X G 5 0 0 σ 49 [(0, .ref (ga G 3)), (1, .int x1), (2, .int x2), (3, .int x3)] [] := by
      intro x3 σ h
      unfold f_X10_findBarAbove_49 at h
      refine V_iinc C (x3 + 1) 3 [1, 2, 3, 0] (lv' := [(0, .ref (ga G 3)), (1, .int x1), (2, .int x2), (3, .int (x3 + 1))]) (dt_at dt_X10_findBarAbove_0 28 rfl) rfl (by rfl) (by decide) rfl ?_
      refine V_goto C 4 (dt_at dt_X10_findBarAbove_0 29 rfl) (by decide) ?_
      exact ih_4 ((x3 + 1), σ) (Option.some.inj h).symm
    refine V_iload_n C (dt_at dt_X10_findBarAbove_0 4 rfl) 3 rfl rfl ?_
    refine V_aload_n C (dt_at dt_X10_findBarAbove_0 5 rfl) 0 rfl rfl ?_
    refine g_X10_31_3 C (dt_at dt_X10_findBarAbove_0 6 rfl) ?_
    refine g_X10_159_1 C (dt_at dt_X10_findBarAbove_0 7 rfl) ?_
    refine V_icmp_ge C 55 (dt_at dt_X10_findBarAbove_0 8 rfl) (by decide) (fun q1 => ?_) (fun q1 => ?_)
    · have h := ite_f q1 h
      refine V_iconst C 0 (dt_at dt_X10_findBarAbove_0 30 rfl) (by decide) ?_
      have e_4 := ex_4 _ (Option.some.inj h).symm
      obtain ⟨e1_, e2_⟩ := Prod.mk.inj e_4
      subst e1_; subst e2_
      exact V_iret C hR (dt_at dt_X10_findBarAbove_0 31 rfl)
    · have h := ite_t q1 h
      refine V_aload_n C (dt_at dt_X10_findBarAbove_0 9 rfl) 0 rfl rfl ?_
      refine g_X10_31_3 C (dt_at dt_X10_findBarAbove_0 10 rfl) ?_
      refine g_X10_165_1 C (dt_at dt_X10_findBarAbove_0 11 rfl) ?_
      refine V_iload_n C (dt_at dt_X10_findBarAbove_0 12 rfl) 3 rfl rfl ?_
      obtain ⟨h2, h⟩ := chk_s h
      refine al_11 C h2 (dt_at dt_X10_findBarAbove_0 13 rfl) ?_
      refine V_iload_n C (dt_at dt_X10_findBarAbove_0 14 rfl) 2 rfl rfl ?_
      refine V_icmp_ne C 49 (dt_at dt_X10_findBarAbove_0 15 rfl) (by decide) (fun q3 => ?_) (fun q3 => ?_)
      · have h := ite_f q3 h
        exact J_49 x3 σ h
      · have h := ite_t q3 h
        refine V_aload_n C (dt_at dt_X10_findBarAbove_0 16 rfl) 0 rfl rfl ?_
        refine V_iload_n C (dt_at dt_X10_findBarAbove_0 17 rfl) 3 rfl rfl ?_
        obtain ⟨σ4, eσ4, h⟩ := nm_s h
        refine V_st eσ4 ?_ (fun k => p_X10_25_3 C (dt_at dt_X10_findBarAbove_0 18 rfl) k)
        refine V_aload_n C (dt_at dt_X10_findBarAbove_0 19 rfl) 0 rfl rfl ?_
        refine V_iload_n C (dt_at dt_X10_findBarAbove_0 20 rfl) 1 rfl rfl ?_
        refine V_iload_n C (dt_at dt_X10_findBarAbove_0 21 rfl) 3 rfl rfl ?_
        obtain ⟨r5, σ7, e6, h⟩ := bd2_s h
        refine cv_X10_howBarred C ww_971 x1 x3 e6 (Nat.le_of_ble_eq_true rfl) (Nat.le_of_ble_eq_true rfl) z0 (dt_at dt_X10_findBarAbove_0 22 rfl) ?_
        refine V_istore C [1, 2, 3, 4, 0] (lv' := [(0, .ref (ga G 3)), (1, .int x1), (2, .int x2), (3, .int x3), (4, .int r5)]) (dt_at dt_X10_findBarAbove_0 23 rfl) (by decide) rfl ?_
        refine V_iload C (dt_at dt_X10_findBarAbove_0 24 rfl) 4 rfl ?_
        refine V_if_eq C 49 (dt_at dt_X10_findBarAbove_0 25 rfl) (by decide) (fun q8 => ?_) (fun q8 => ?_)
        · have h := ite_t q8 h
          refine V_sub [0, 1, 2, 3] (lv' := [(0, .ref (ga G 3)), (1, .int x1), (2, .int x2), (3, .int x3)]) rfl ?_
          exact J_49 x3 σ7 h
        · have h := ite_f q8 h
          refine V_iload C (dt_at dt_X10_findBarAbove_0 26 rfl) 4 rfl ?_
          have e_4 := ex_4 _ (Option.some.inj h).symm
          obtain ⟨e1_, e2_⟩ := Prod.mk.inj e_4
          subst e1_; subst e2_
          exact V_iret C hR (dt_at dt_X10_findBarAbove_0 27 rfl)
  refine V_iload_n C (dt_at dt_X10_findBarAbove_0 0 rfl) 1 rfl rfl ?_
  refine V_iconst C 1 (dt_at dt_X10_findBarAbove_0 1 rfl) (by decide) ?_
  refine V_iadd C (dt_at dt_X10_findBarAbove_0 2 rfl) ?_
  refine V_istore_n C [1, 2, 3, 0] (lv' := [(0, .ref (ga G 3)), (1, .int x1), (2, .int x2), (3, .int (x1 + 1))]) (dt_at dt_X10_findBarAbove_0 3 rfl) rfl (by decide) rfl ?_
  exact J_4 (x1 + 1) σ h
theorem cv_X10_findBarAbove (C : Ck X G cc own nL d) {idx : Nat} (hlk : Cond.methodLink own idx yX10_findBarAbove ∈ gtb) (x1 : Int32) (x2 : Int32) {r0 : Int32} {σ0 : St} (e : f_X10_findBarAbove x1 x2 σ = some (r0, σ0)) (hdd : 7 ≤ d) (hroom : (rest.map fun v => v.category).sum ≤ 8) (hcs : cells ≤ (xR X).cells ∧ slots ≤ (xR X).slots) (hd : decode cc pc = .ok (.invokevirtual idx, 3)) (k : V X G nL cells slots σ0 (pc + 3) lv (.int r0 :: rest)) : V X G nL cells slots σ pc lv (.int x2 :: .int x1 :: .ref (ga G 3) :: rest) := V_callV C (As := [.int x1, .int x2]) (c_X10_findBarAbove X.2.1 G x1 x2 σ r0 σ0 e) cal_X10_findBarAbove ww_973 ww_974 hlk rfl hdd (lt110 rfl) rfl rfl rfl hroom hcs hd k
theorem dt_X10_findBar_0 : dtab cX10_findBar [(0, .iconst 0, 1), (1, .istore_n 1, 1), (2, .iload_n 1, 1), (3, .aload_n 0, 1), (4, .getfield 31, 3), (7, .getfield 159, 3), (10, .if_icmp .ge 55, 3), (13, .aload_n 0, 1), (14, .getfield 31, 3), (17, .getfield 165, 3), (20, .iload_n 1, 1), (21, .iaload, 1), (22, .istore_n 2, 1), (23, .iload_n 2, 1), (24, .iconst (-1), 1), (25, .if_icmp .eq 34, 3), (28, .aload_n 0, 1), (29, .iload_n 1, 1), (30, .putfield 21, 3), (33, .aload_n 0, 1), (34, .iload_n 2, 1), (35, .iload_n 1, 1), (36, .invokevirtual 168, 3), (39, .ifCond .eq 12, 3), (42, .aload_n 0, 1), (43, .iload_n 1, 1), (44, .iload_n 2, 1), (45, .invokevirtual 171, 3), (48, .goto 4, 3), (51, .iconst 1, 1), (52, .istore_n 3, 1), (53, .iload_n 3, 1), (54, .ifCond .eq 5, 3), (57, .iload_n 3, 1), (58, .ireturn, 1), (59, .iinc 1 1, 3), (62, .goto (-60), 3), (65, .iconst 0, 1), (66, .ireturn, 1)] = true := by decide +kernel
theorem cal_X10_findBar : Cal yX10_findBar cX10_findBar 4 (some .int) 0 := ⟨ww_978, ww_24, ⟨by decide, by decide, by decide⟩, by decide⟩
set_option maxHeartbeats 4000000 in
set_option maxRecDepth 100000 in
theorem c_X10_findBar (l : Launch) (G : Gx) (σ : St) (r0 : Int32) (σ0 : St) (h : f_X10_findBar σ = some (r0, σ0)) : MI l G yX10_findBar cX10_findBar 4 (some .int) 7 [.ref (ga G 3)] σ (some (.int r0)) σ0 := by
  refine MI_of RX10 rfl (by decide) [(0, .ref (ga G 3))] rfl (Nat.le_of_ble_eq_true rfl) ?_
  intro X hXl C hR
  unfold f_X10_findBar at h
  have J_2 : ∀ (x1 : Int32) (σ : St), f_X10_findBar_2 x1 σ = some (r0, σ0) → V X G 4 0 0 σ 2 [(0, .ref (ga G 3)), (1, .int x1)] [] := by
    intro x1 σ h
    refine it_v (P := fun z : Int32 × St => V X G 4 0 0 z.2 2 [(0, .ref (ga G 3)), (1, .int z.1)] []) ?_ (x1, σ) h
    clear h
    intro z w_2 h ih_2 ex_2
    obtain ⟨x1, σ⟩ := z
    have h : b_X10_findBar_2 x1 σ = some w_2 := h
    show V X G 4 0 0 σ 2 [(0, .ref (ga G 3)), (1, .int x1)] []
    unfold b_X10_findBar_2 at h
    have J_59 : ∀ (x1 : Int32) (σ : St), f_X10_findBar_59 x1 σ = some w_2 → V X G 4 0 0 σ 59 [(0, .ref (ga G 3)), (1, .int x1)] [] := by
      intro x1 σ h
      unfold f_X10_findBar_59 at h
      refine V_iinc C (x1 + 1) 1 [1, 0] (lv' := [(0, .ref (ga G 3)), (1, .int (x1 + 1))]) (dt_at dt_X10_findBar_0 35 rfl) rfl (by rfl) (by decide) rfl ?_
      refine V_goto C 2 (dt_at dt_X10_findBar_0 36 rfl) (by decide) ?_
      exact ih_2 ((x1 + 1), σ) (Option.some.inj h).symm
    have J_52 : ∀ (x1 : Int32) (s0 : Int32) (σ : St), f_X10_findBar_52 x1 s0 σ = some w_2 → V X G 4 0 0 σ 52 [(0, .ref (ga G 3)), (1, .int x1)] [.int s0] := by
      intro x1 s0 σ h
      unfold f_X10_findBar_52 at h
      refine V_istore_n C [1, 2, 0] (lv' := [(0, .ref (ga G 3)), (1, .int x1), (3, .int s0)]) (dt_at dt_X10_findBar_0 30 rfl) rfl (by decide) rfl ?_
      refine V_iload_n C (dt_at dt_X10_findBar_0 31 rfl) 2 rfl rfl ?_
      refine V_if_eq C 59 (dt_at dt_X10_findBar_0 32 rfl) (by decide) (fun q12 => ?_) (fun q12 => ?_)
      · have h := ite_t q12 h
        refine V_sub [0, 1] (lv' := [(0, .ref (ga G 3)), (1, .int x1)]) rfl ?_
        exact J_59 x1 σ h
      · have h := ite_f q12 h
        refine V_iload_n C (dt_at dt_X10_findBar_0 33 rfl) 2 rfl rfl ?_
        have e_2 := ex_2 _ (Option.some.inj h).symm
        obtain ⟨e1_, e2_⟩ := Prod.mk.inj e_2
        subst e1_; subst e2_
        exact V_iret C hR (dt_at dt_X10_findBar_0 34 rfl)
    refine V_iload_n C (dt_at dt_X10_findBar_0 2 rfl) 1 rfl rfl ?_
    refine V_aload_n C (dt_at dt_X10_findBar_0 3 rfl) 0 rfl rfl ?_
    refine g_X10_31_3 C (dt_at dt_X10_findBar_0 4 rfl) ?_
    refine g_X10_159_1 C (dt_at dt_X10_findBar_0 5 rfl) ?_
    refine V_icmp_ge C 65 (dt_at dt_X10_findBar_0 6 rfl) (by decide) (fun q1 => ?_) (fun q1 => ?_)
    · have h := ite_f q1 h
      refine V_iconst C 0 (dt_at dt_X10_findBar_0 37 rfl) (by decide) ?_
      have e_2 := ex_2 _ (Option.some.inj h).symm
      obtain ⟨e1_, e2_⟩ := Prod.mk.inj e_2
      subst e1_; subst e2_
      exact V_iret C hR (dt_at dt_X10_findBar_0 38 rfl)
    · have h := ite_t q1 h
      refine V_aload_n C (dt_at dt_X10_findBar_0 7 rfl) 0 rfl rfl ?_
      refine g_X10_31_3 C (dt_at dt_X10_findBar_0 8 rfl) ?_
      refine g_X10_165_1 C (dt_at dt_X10_findBar_0 9 rfl) ?_
      refine V_iload_n C (dt_at dt_X10_findBar_0 10 rfl) 1 rfl rfl ?_
      obtain ⟨h2, h⟩ := chk_s h
      refine al_11 C h2 (dt_at dt_X10_findBar_0 11 rfl) ?_
      refine V_istore_n C [1, 2, 0] (lv' := [(0, .ref (ga G 3)), (1, .int x1), (2, .int (rd σ 11 x1))]) (dt_at dt_X10_findBar_0 12 rfl) rfl (by decide) rfl ?_
      refine V_iload_n C (dt_at dt_X10_findBar_0 13 rfl) 2 rfl rfl ?_
      refine V_iconst C (-1) (dt_at dt_X10_findBar_0 14 rfl) (by decide) ?_
      refine V_icmp_eq C 59 (dt_at dt_X10_findBar_0 15 rfl) (by decide) (fun q3 => ?_) (fun q3 => ?_)
      · have h := ite_t q3 h
        refine V_sub [0, 1] (lv' := [(0, .ref (ga G 3)), (1, .int x1)]) rfl ?_
        exact J_59 x1 σ h
      · have h := ite_f q3 h
        refine V_aload_n C (dt_at dt_X10_findBar_0 16 rfl) 0 rfl rfl ?_
        refine V_iload_n C (dt_at dt_X10_findBar_0 17 rfl) 1 rfl rfl ?_
        obtain ⟨σ4, eσ4, h⟩ := nm_s h
        refine V_st eσ4 ?_ (fun k => p_X10_21_3 C (dt_at dt_X10_findBar_0 18 rfl) k)
        refine V_aload_n C (dt_at dt_X10_findBar_0 19 rfl) 0 rfl rfl ?_
        refine V_iload_n C (dt_at dt_X10_findBar_0 20 rfl) 2 rfl rfl ?_
        refine V_iload_n C (dt_at dt_X10_findBar_0 21 rfl) 1 rfl rfl ?_
        obtain ⟨r5, σ7, e6, h⟩ := bd2_s h
        refine cv_X10_isAble C ww_976 (rd σ 11 x1) x1 e6 (Nat.le_of_ble_eq_true rfl) (Nat.le_of_ble_eq_true rfl) z0 (dt_at dt_X10_findBar_0 22 rfl) ?_
        refine V_if_eq C 51 (dt_at dt_X10_findBar_0 23 rfl) (by decide) (fun q8 => ?_) (fun q8 => ?_)
        · have h := ite_t q8 h
          refine V_iconst C 1 (dt_at dt_X10_findBar_0 29 rfl) (by decide) ?_
          refine V_sub [0, 1] (lv' := [(0, .ref (ga G 3)), (1, .int x1)]) rfl ?_
          exact J_52 x1 1 σ7 h
        · have h := ite_f q8 h
          refine V_aload_n C (dt_at dt_X10_findBar_0 24 rfl) 0 rfl rfl ?_
          refine V_iload_n C (dt_at dt_X10_findBar_0 25 rfl) 1 rfl rfl ?_
          refine V_iload_n C (dt_at dt_X10_findBar_0 26 rfl) 2 rfl rfl ?_
          obtain ⟨r9, σ11, e10, h⟩ := bd2_s h
          refine cv_X10_findBarAbove C ww_977 x1 (rd σ 11 x1) e10 (Nat.le_of_ble_eq_true rfl) (Nat.le_of_ble_eq_true rfl) z0 (dt_at dt_X10_findBar_0 27 rfl) ?_
          refine V_goto C 52 (dt_at dt_X10_findBar_0 28 rfl) (by decide) ?_
          refine V_sub [0, 1] (lv' := [(0, .ref (ga G 3)), (1, .int x1)]) rfl ?_
          exact J_52 x1 r9 σ11 h
  refine V_iconst C 0 (dt_at dt_X10_findBar_0 0 rfl) (by decide) ?_
  refine V_istore_n C [1, 0] (lv' := [(0, .ref (ga G 3)), (1, .int 0)]) (dt_at dt_X10_findBar_0 1 rfl) rfl (by decide) rfl ?_
  exact J_2 0 σ h
theorem cv_X10_findBar (C : Ck X G cc own nL d) {idx : Nat} (hlk : Cond.methodLink own idx yX10_findBar ∈ gtb) {r0 : Int32} {σ0 : St} (e : f_X10_findBar σ = some (r0, σ0)) (hdd : 8 ≤ d) (hroom : (rest.map fun v => v.category).sum ≤ 8) (hcs : cells ≤ (xR X).cells ∧ slots ≤ (xR X).slots) (hd : decode cc pc = .ok (.invokevirtual idx, 3)) (k : V X G nL cells slots σ0 (pc + 3) lv (.int r0 :: rest)) : V X G nL cells slots σ pc lv (.ref (ga G 3) :: rest) := V_callV C (As := []) (c_X10_findBar X.2.1 G  σ r0 σ0 e) cal_X10_findBar ww_979 ww_980 hlk rfl hdd (lt110 rfl) rfl rfl rfl hroom hcs hd k
theorem dt_X10_findBarred_0 : dtab cX10_findBarred [(0, .aload_n 0, 1), (1, .getfield 18, 3), (4, .iconst 0, 1), (5, .invokestatic 153, 3), (8, .iconst 0, 1), (9, .istore_n 1, 1), (10, .iload_n 1, 1), (11, .aload_n 0, 1), (12, .getfield 31, 3), (15, .getfield 159, 3), (18, .if_icmp .ge 63, 3), (21, .iload_n 1, 1), (22, .iconst 1, 1), (23, .iadd, 1), (24, .istore_n 2, 1), (25, .iload_n 2, 1), (26, .aload_n 0, 1), (27, .getfield 31, 3), (30, .getfield 159, 3), (33, .if_icmp .ge 42, 3), (36, .aload_n 0, 1), (37, .iload_n 1, 1), (38, .iload_n 2, 1), (39, .invokevirtual 162, 3), (42, .ifCond .eq 27, 3), (45, .aload_n 0, 1), (46, .getfield 18, 3), (49, .iload_n 1, 1), (50, .dup2, 1), (51, .iaload, 1), (52, .iconst 1, 1), (53, .iload_n 2, 1), (54, .ishl, 1), (55, .ior, 1), (56, .iastore, 1), (57, .aload_n 0, 1), (58, .getfield 18, 3), (61, .iload_n 2, 1), (62, .dup2, 1), (63, .iaload, 1)] = true := by decide +kernel
theorem dt_X10_findBarred_1 : dtab cX10_findBarred [(64, .iconst 1, 1), (65, .iload_n 1, 1), (66, .ishl, 1), (67, .ior, 1), (68, .iastore, 1), (69, .iinc 2 1, 3), (72, .goto (-47), 3), (75, .iinc 1 1, 3), (78, .goto (-68), 3), (81, .return_, 1)] = true := by decide +kernel
theorem cal_X10_findBarred : Cal yX10_findBarred cX10_findBarred 3 none 0 := ⟨ww_983, ww_24, ⟨by decide, by decide, by decide⟩, by decide⟩
set_option maxHeartbeats 4000000 in
set_option maxRecDepth 100000 in
theorem c_X10_findBarred (l : Launch) (G : Gx) (σ : St) (σ0 : St) (h : f_X10_findBarred σ = some σ0) : MI l G yX10_findBarred cX10_findBarred 3 none 6 [.ref (ga G 3)] σ none σ0 := by
  refine MI_of RX10 rfl (by decide) [(0, .ref (ga G 3))] rfl (Nat.le_of_ble_eq_true rfl) ?_
  intro X hXl C hR
  unfold f_X10_findBarred at h
  have J_10 : ∀ (x1 : Int32) (σ : St), f_X10_findBarred_10 x1 σ = some σ0 → V X G 3 0 0 σ 10 [(0, .ref (ga G 3)), (1, .int x1)] [] := by
    intro x1 σ h
    refine it_v (P := fun z : Int32 × St => V X G 3 0 0 z.2 10 [(0, .ref (ga G 3)), (1, .int z.1)] []) ?_ (x1, σ) h
    clear h
    intro z w_10 h ih_10 ex_10
    obtain ⟨x1, σ⟩ := z
    have h : b_X10_findBarred_10 x1 σ = some w_10 := h
    show V X G 3 0 0 σ 10 [(0, .ref (ga G 3)), (1, .int x1)] []
    unfold b_X10_findBarred_10 at h
    have J_75 : ∀ (x1 : Int32) (σ : St), f_X10_findBarred_75 x1 σ = some w_10 → V X G 3 0 0 σ 75 [(0, .ref (ga G 3)), (1, .int x1)] [] := by
      intro x1 σ h
      unfold f_X10_findBarred_75 at h
      refine V_iinc C (x1 + 1) 1 [1, 0] (lv' := [(0, .ref (ga G 3)), (1, .int (x1 + 1))]) (dt_at dt_X10_findBarred_1 7 rfl) rfl (by rfl) (by decide) rfl ?_
      refine V_goto C 10 (dt_at dt_X10_findBarred_1 8 rfl) (by decide) ?_
      exact ih_10 ((x1 + 1), σ) (Option.some.inj h).symm
    have J_25 : ∀ (x1 : Int32) (x2 : Int32) (σ : St), f_X10_findBarred_25 x1 x2 σ = some w_10 → V X G 3 0 0 σ 25 [(0, .ref (ga G 3)), (1, .int x1), (2, .int x2)] [] := by
      intro x1 x2 σ h
      refine it_v (P := fun z : Int32 × St => V X G 3 0 0 z.2 25 [(0, .ref (ga G 3)), (1, .int x1), (2, .int z.1)] []) ?_ (x2, σ) h
      clear h
      intro z w_25 h ih_25 ex_25
      obtain ⟨x2, σ⟩ := z
      have h : b_X10_findBarred_25 x1 x2 σ = some w_25 := h
      show V X G 3 0 0 σ 25 [(0, .ref (ga G 3)), (1, .int x1), (2, .int x2)] []
      unfold b_X10_findBarred_25 at h
      have J_69 : ∀ (x2 : Int32) (σ : St), f_X10_findBarred_69 x1 x2 σ = some w_25 → V X G 3 0 0 σ 69 [(0, .ref (ga G 3)), (1, .int x1), (2, .int x2)] [] := by
        intro x2 σ h
        unfold f_X10_findBarred_69 at h
        refine V_iinc C (x2 + 1) 2 [1, 2, 0] (lv' := [(0, .ref (ga G 3)), (1, .int x1), (2, .int (x2 + 1))]) (dt_at dt_X10_findBarred_1 5 rfl) rfl (by rfl) (by decide) rfl ?_
        refine V_goto C 25 (dt_at dt_X10_findBarred_1 6 rfl) (by decide) ?_
        exact ih_25 ((x2 + 1), σ) (Option.some.inj h).symm
      refine V_iload_n C (dt_at dt_X10_findBarred_0 15 rfl) 2 rfl rfl ?_
      refine V_aload_n C (dt_at dt_X10_findBarred_0 16 rfl) 0 rfl rfl ?_
      refine g_X10_31_3 C (dt_at dt_X10_findBarred_0 17 rfl) ?_
      refine g_X10_159_1 C (dt_at dt_X10_findBarred_0 18 rfl) ?_
      refine V_icmp_ge C 75 (dt_at dt_X10_findBarred_0 19 rfl) (by decide) (fun q5 => ?_) (fun q5 => ?_)
      · have h := ite_f q5 h
        refine V_sub [0, 1] (lv' := [(0, .ref (ga G 3)), (1, .int x1)]) rfl ?_
        obtain ⟨t6, h, e_25⟩ := map_s h
        have e_25 := ex_25 _ e_25
        rw [e_25] at h
        exact J_75 x1 σ h
      · have h := ite_t q5 h
        refine V_aload_n C (dt_at dt_X10_findBarred_0 20 rfl) 0 rfl rfl ?_
        refine V_iload_n C (dt_at dt_X10_findBarred_0 21 rfl) 1 rfl rfl ?_
        refine V_iload_n C (dt_at dt_X10_findBarred_0 22 rfl) 2 rfl rfl ?_
        obtain ⟨r7, σ9, e8, h⟩ := bd2_s h
        refine cv_X10_howBarred C ww_971 x1 x2 e8 (Nat.le_of_ble_eq_true rfl) (Nat.le_of_ble_eq_true rfl) z0 (dt_at dt_X10_findBarred_0 23 rfl) ?_
        refine V_if_eq C 69 (dt_at dt_X10_findBarred_0 24 rfl) (by decide) (fun q10 => ?_) (fun q10 => ?_)
        · have h := ite_t q10 h
          exact J_69 x2 σ9 h
        · have h := ite_f q10 h
          refine V_aload_n C (dt_at dt_X10_findBarred_0 25 rfl) 0 rfl rfl ?_
          refine g_X10_18_3 C (dt_at dt_X10_findBarred_0 26 rfl) ?_
          refine V_iload_n C (dt_at dt_X10_findBarred_0 27 rfl) 1 rfl rfl ?_
          refine V_dup2 C (dt_at dt_X10_findBarred_0 28 rfl) rfl rfl ?_
          obtain ⟨h11, h⟩ := chk_s h
          refine al_32 C h11 (dt_at dt_X10_findBarred_0 29 rfl) ?_
          refine V_iconst C 1 (dt_at dt_X10_findBarred_0 30 rfl) (by decide) ?_
          refine V_iload_n C (dt_at dt_X10_findBarred_0 31 rfl) 2 rfl rfl ?_
          refine V_ishl C (dt_at dt_X10_findBarred_0 32 rfl) ?_
          refine V_ior C (dt_at dt_X10_findBarred_0 33 rfl) ?_
          obtain ⟨σ12, eσ12, h⟩ := nm_s h
          refine V_st eσ12 ?_ (fun k => as_32 C h11 (dt_at dt_X10_findBarred_0 34 rfl) k)
          refine V_aload_n C (dt_at dt_X10_findBarred_0 35 rfl) 0 rfl rfl ?_
          refine g_X10_18_3 C (dt_at dt_X10_findBarred_0 36 rfl) ?_
          refine V_iload_n C (dt_at dt_X10_findBarred_0 37 rfl) 2 rfl rfl ?_
          refine V_dup2 C (dt_at dt_X10_findBarred_0 38 rfl) rfl rfl ?_
          obtain ⟨h13, h⟩ := chk_s h
          refine al_32 C h13 (dt_at dt_X10_findBarred_0 39 rfl) ?_
          refine V_iconst C 1 (dt_at dt_X10_findBarred_1 0 rfl) (by decide) ?_
          refine V_iload_n C (dt_at dt_X10_findBarred_1 1 rfl) 1 rfl rfl ?_
          refine V_ishl C (dt_at dt_X10_findBarred_1 2 rfl) ?_
          refine V_ior C (dt_at dt_X10_findBarred_1 3 rfl) ?_
          obtain ⟨σ14, eσ14, h⟩ := nm_s h
          refine V_st eσ14 ?_ (fun k => as_32 C h13 (dt_at dt_X10_findBarred_1 4 rfl) k)
          exact J_69 x2 σ14 h
    refine V_iload_n C (dt_at dt_X10_findBarred_0 6 rfl) 1 rfl rfl ?_
    refine V_aload_n C (dt_at dt_X10_findBarred_0 7 rfl) 0 rfl rfl ?_
    refine g_X10_31_3 C (dt_at dt_X10_findBarred_0 8 rfl) ?_
    refine g_X10_159_1 C (dt_at dt_X10_findBarred_0 9 rfl) ?_
    refine V_icmp_ge C 81 (dt_at dt_X10_findBarred_0 10 rfl) (by decide) (fun q4 => ?_) (fun q4 => ?_)
    · have h := ite_f q4 h
      have e_10 := ex_10 _ (Option.some.inj h).symm
      subst e_10
      exact V_vret C hR (dt_at dt_X10_findBarred_1 9 rfl)
    · have h := ite_t q4 h
      refine V_iload_n C (dt_at dt_X10_findBarred_0 11 rfl) 1 rfl rfl ?_
      refine V_iconst C 1 (dt_at dt_X10_findBarred_0 12 rfl) (by decide) ?_
      refine V_iadd C (dt_at dt_X10_findBarred_0 13 rfl) ?_
      refine V_istore_n C [1, 2, 0] (lv' := [(0, .ref (ga G 3)), (1, .int x1), (2, .int (x1 + 1))]) (dt_at dt_X10_findBarred_0 14 rfl) rfl (by decide) rfl ?_
      exact J_25 x1 (x1 + 1) σ h
  refine V_aload_n C (dt_at dt_X10_findBarred_0 0 rfl) 0 rfl rfl ?_
  refine g_X10_18_3 C (dt_at dt_X10_findBarred_0 1 rfl) ?_
  refine V_iconst C 0 (dt_at dt_X10_findBarred_0 2 rfl) (by decide) ?_
  obtain ⟨σ3, e2, h⟩ := bd_s h
  refine cv_J7_fill_53178 C ww_982 32 0 e2 (Nat.le_of_ble_eq_true rfl) (Nat.le_of_ble_eq_true rfl) z0 (dt_at dt_X10_findBarred_0 3 rfl) ?_
  refine V_iconst C 0 (dt_at dt_X10_findBarred_0 4 rfl) (by decide) ?_
  refine V_istore_n C [1, 0] (lv' := [(0, .ref (ga G 3)), (1, .int 0)]) (dt_at dt_X10_findBarred_0 5 rfl) rfl (by decide) rfl ?_
  exact J_10 0 σ3 h
theorem cv_X10_findBarred (C : Ck X G cc own nL d) {idx : Nat} (hlk : Cond.methodLink own idx yX10_findBarred ∈ gtb) {σ0 : St} (e : f_X10_findBarred σ = some σ0) (hdd : 7 ≤ d) (hroom : (rest.map fun v => v.category).sum ≤ 8) (hcs : cells ≤ (xR X).cells ∧ slots ≤ (xR X).slots) (hd : decode cc pc = .ok (.invokevirtual idx, 3)) (k : V X G nL cells slots σ0 (pc + 3) lv (rest)) : V X G nL cells slots σ pc lv (.ref (ga G 3) :: rest) := V_callV C (As := []) (c_X10_findBarred X.2.1 G  σ σ0 e) cal_X10_findBarred ww_984 ww_985 hlk rfl hdd (lt110 rfl) rfl rfl rfl hroom hcs hd k
theorem cvr_X11_102 (C : Ck X G cc RX11 nL d) (c0 : Nat) (x1 : Int32) {r0 : Int32} (hr : isRole σ c0 = true) (e : f_X6_isOf c0 x1 σ = some r0) (hdd : 2 ≤ d) (hroom : (rest.map fun v => v.category).sum ≤ 8) (hcs : cells ≤ (xR X).cells ∧ slots ≤ (xR X).slots) (hd : decode cc pc = .ok (.invokevirtual 102, 3)) (k : V X G nL cells slots σ (pc + 3) lv (.int r0 :: rest)) : V X G nL cells slots σ pc lv (.int x1 :: .ref (ga G c0) :: rest) := by
  have h := of_decide_eq_true hr
  have hK : c0 < 110 + σ.1 := h.2.1
  rcases h.2.2 with q | q | q | q | q | q
  · exact V_callU C (Cn := RX0) (owner := RX6) (x := yX6_isOf) (As := [.int x1]) (K := c0) (c_X6_isOf X.2.1 G c0 x1 σ r0 e) cal_X6_isOf ww_954 ww_955 ww_989 ww_953 ww_954 ww_843 ⟨by decide, by decide, by decide⟩ rfl (Nat.le_trans (Nat.le_of_ble_eq_true rfl) hdd) hK (role_lay h.1 q) (T := TX0) (N := 5) rfl rfl hroom hcs hd k
  · exact V_callU C (Cn := RX1) (owner := RX6) (x := yX6_isOf) (As := [.int x1]) (K := c0) (c_X6_isOf X.2.1 G c0 x1 σ r0 e) cal_X6_isOf ww_954 ww_956 ww_989 ww_953 ww_954 ww_843 ⟨by decide, by decide, by decide⟩ rfl (Nat.le_trans (Nat.le_of_ble_eq_true rfl) hdd) hK (role_lay h.1 q) (T := TX1) (N := 5) rfl rfl hroom hcs hd k
  · exact V_callU C (Cn := RX2) (owner := RX6) (x := yX6_isOf) (As := [.int x1]) (K := c0) (c_X6_isOf X.2.1 G c0 x1 σ r0 e) cal_X6_isOf ww_954 ww_957 ww_989 ww_953 ww_954 ww_843 ⟨by decide, by decide, by decide⟩ rfl (Nat.le_trans (Nat.le_of_ble_eq_true rfl) hdd) hK (role_lay h.1 q) (T := TX2) (N := 5) rfl rfl hroom hcs hd k
  · exact V_callU C (Cn := RX3) (owner := RX6) (x := yX6_isOf) (As := [.int x1]) (K := c0) (c_X6_isOf X.2.1 G c0 x1 σ r0 e) cal_X6_isOf ww_954 ww_958 ww_989 ww_953 ww_954 ww_843 ⟨by decide, by decide, by decide⟩ rfl (Nat.le_trans (Nat.le_of_ble_eq_true rfl) hdd) hK (role_lay h.1 q) (T := TX3) (N := 5) rfl rfl hroom hcs hd k
  · exact V_callU C (Cn := RX6) (owner := RX6) (x := yX6_isOf) (As := [.int x1]) (K := c0) (c_X6_isOf X.2.1 G c0 x1 σ r0 e) cal_X6_isOf ww_954 ww_959 ww_989 ww_953 ww_954 ww_843 ⟨by decide, by decide, by decide⟩ rfl (Nat.le_trans (Nat.le_of_ble_eq_true rfl) hdd) hK (role_lay h.1 q) (T := TX6) (N := 5) rfl rfl hroom hcs hd k
  · exact V_callU C (Cn := RX9) (owner := RX6) (x := yX6_isOf) (As := [.int x1]) (K := c0) (c_X6_isOf X.2.1 G c0 x1 σ r0 e) cal_X6_isOf ww_954 ww_960 ww_989 ww_953 ww_954 ww_843 ⟨by decide, by decide, by decide⟩ rfl (Nat.le_trans (Nat.le_of_ble_eq_true rfl) hdd) hK (role_lay h.1 q) (T := TX9) (N := 5) rfl rfl hroom hcs hd k
theorem dt_X11_as_0 : dtab cX11_as [(0, .aload_n 0, 1), (1, .getfield 12, 3), (4, .iload_n 1, 1), (5, .invokevirtual 94, 3), (8, .ifCond .eq 12, 3), (11, .iload_n 2, 1), (12, .bipush 6, 2), (14, .invokestatic 79, 3), (17, .ifCond .ne 9, 3), (20, .aload_n 0, 1), (21, .iconst 1, 1), (22, .invokevirtual 68, 3), (25, .ireturn, 1), (26, .aload_n 0, 1), (27, .getfield 12, 3), (30, .getfield 98, 3), (33, .iload_n 1, 1), (34, .aaload, 1), (35, .iload_n 2, 1), (36, .invokevirtual 102, 3), (39, .ifCond .ne 9, 3), (42, .aload_n 0, 1), (43, .iconst 5, 1), (44, .invokevirtual 68, 3), (47, .ireturn, 1), (48, .aload_n 0, 1), (49, .getfield 12, 3), (52, .iload_n 1, 1), (53, .invokevirtual 107, 3), (56, .ireturn, 1)] = true := by decide +kernel
theorem cal_X11_as : Cal yX11_as cX11_as 3 (some .int) 2 := ⟨ww_986, ww_100, ⟨by decide, by decide, by decide⟩, by decide⟩
set_option maxHeartbeats 4000000 in
set_option maxRecDepth 100000 in
theorem c_X11_as (l : Launch) (G : Gx) (x1 : Int32) (x2 : Int32) (σ : St) (r0 : Int32) (σ0 : St) (h : f_X11_as x1 x2 σ = some (r0, σ0)) : MI l G yX11_as cX11_as 3 (some .int) 3 [.ref (ga G 0), .int x1, .int x2] σ (some (.int r0)) σ0 := by
  refine MI_of RX11 rfl (by decide) [(0, .ref (ga G 0)), (1, .int x1), (2, .int x2)] rfl (Nat.le_of_ble_eq_true rfl) ?_
  intro X hXl C hR
  unfold f_X11_as at h
  have J_20 : ∀ (σ : St), f_X11_as_20 σ = some (r0, σ0) → V X G 3 0 0 σ 20 [(0, .ref (ga G 0))] [] := by
    intro σ h
    unfold f_X11_as_20 at h
    refine V_aload_n C (dt_at dt_X11_as_0 9 rfl) 0 rfl rfl ?_
    refine V_iconst C 1 (dt_at dt_X11_as_0 10 rfl) (by decide) ?_
    obtain ⟨r21, σ23, e22, h⟩ := bd2_s h
    refine cv_X11_error C ww_193 1 e22 (Nat.le_of_ble_eq_true rfl) (Nat.le_of_ble_eq_true rfl) z0 (dt_at dt_X11_as_0 11 rfl) ?_
    obtain ⟨e1_, e2_⟩ := pin2 h
    subst e1_; subst e2_
    exact V_iret C hR (dt_at dt_X11_as_0 12 rfl)
  refine V_aload_n C (dt_at dt_X11_as_0 0 rfl) 0 rfl rfl ?_
  refine g_X11_12_0 C (dt_at dt_X11_as_0 1 rfl) ?_
  refine V_iload_n C (dt_at dt_X11_as_0 2 rfl) 1 rfl rfl ?_
  obtain ⟨r1, e2, h⟩ := bd_s h
  refine cv_X4_hasPart C ww_215 x1 e2 (Nat.le_of_ble_eq_true rfl) (Nat.le_of_ble_eq_true rfl) z0 (dt_at dt_X11_as_0 3 rfl) ?_
  refine V_if_eq C 20 (dt_at dt_X11_as_0 4 rfl) (by decide) (fun q4 => ?_) (fun q4 => ?_)
  · have h := ite_t q4 h
    refine V_sub [0] (lv' := [(0, .ref (ga G 0))]) rfl ?_
    exact J_20 σ h
  · have h := ite_f q4 h
    refine V_iload_n C (dt_at dt_X11_as_0 5 rfl) 2 rfl rfl ?_
    refine V_bipush C 6 (dt_at dt_X11_as_0 6 rfl) (by decide) ?_
    obtain ⟨r5, e6, h⟩ := bd_s h
    refine cv_X11_isWithin C ww_186 x2 6 e6 (Nat.le_of_ble_eq_true rfl) (Nat.le_of_ble_eq_true rfl) z0 (dt_at dt_X11_as_0 7 rfl) ?_
    refine V_if_ne C 26 (dt_at dt_X11_as_0 8 rfl) (by decide) (fun q8 => ?_) (fun q8 => ?_)
    · have h := ite_f q8 h
      refine V_aload_n C (dt_at dt_X11_as_0 13 rfl) 0 rfl rfl ?_
      refine g_X11_12_0 C (dt_at dt_X11_as_0 14 rfl) ?_
      refine g_X11_98_1 C (dt_at dt_X11_as_0 15 rfl) ?_
      refine V_iload_n C (dt_at dt_X11_as_0 16 rfl) 1 rfl rfl ?_
      obtain ⟨h9, h⟩ := chk_s h
      obtain ⟨h10, h⟩ := chk_s h
      refine V_aaR10 C h9 h10 (dt_at dt_X11_as_0 17 rfl) ?_
      refine V_iload_n C (dt_at dt_X11_as_0 18 rfl) 2 rfl rfl ?_
      obtain ⟨r11, e12, h⟩ := bd_s h
      refine cvr_X11_102 C ((rd σ 10 x1).toNatClampNeg) x2 h10 e12 (Nat.le_of_ble_eq_true rfl) (Nat.le_of_ble_eq_true rfl) z0 (dt_at dt_X11_as_0 19 rfl) ?_
      refine V_if_ne C 48 (dt_at dt_X11_as_0 20 rfl) (by decide) (fun q14 => ?_) (fun q14 => ?_)
      · have h := ite_f q14 h
        refine V_aload_n C (dt_at dt_X11_as_0 25 rfl) 0 rfl rfl ?_
        refine g_X11_12_0 C (dt_at dt_X11_as_0 26 rfl) ?_
        refine V_iload_n C (dt_at dt_X11_as_0 27 rfl) 1 rfl rfl ?_
        obtain ⟨r15, e16, h⟩ := bd_s h
        refine cv_X4_weight C ww_365 x1 e16 (Nat.le_of_ble_eq_true rfl) (Nat.le_of_ble_eq_true rfl) z0 (dt_at dt_X11_as_0 28 rfl) ?_
        obtain ⟨e1_, e2_⟩ := pin2 h
        subst e1_; subst e2_
        exact V_iret C hR (dt_at dt_X11_as_0 29 rfl)
      · have h := ite_t q14 h
        refine V_aload_n C (dt_at dt_X11_as_0 21 rfl) 0 rfl rfl ?_
        refine V_iconst C 5 (dt_at dt_X11_as_0 22 rfl) (by decide) ?_
        obtain ⟨r18, σ20, e19, h⟩ := bd2_s h
        refine cv_X11_error C ww_193 5 e19 (Nat.le_of_ble_eq_true rfl) (Nat.le_of_ble_eq_true rfl) z0 (dt_at dt_X11_as_0 23 rfl) ?_
        obtain ⟨e1_, e2_⟩ := pin2 h
        subst e1_; subst e2_
        exact V_iret C hR (dt_at dt_X11_as_0 24 rfl)
    · have h := ite_t q8 h
      refine V_sub [0] (lv' := [(0, .ref (ga G 0))]) rfl ?_
      exact J_20 σ h
theorem cv_X11_as (C : Ck X G cc own nL d) {idx : Nat} (hlk : Cond.methodLink own idx yX11_as ∈ gtb) (x1 : Int32) (x2 : Int32) {r0 : Int32} {σ0 : St} (e : f_X11_as x1 x2 σ = some (r0, σ0)) (hdd : 4 ≤ d) (hroom : (rest.map fun v => v.category).sum ≤ 8) (hcs : cells ≤ (xR X).cells ∧ slots ≤ (xR X).slots) (hd : decode cc pc = .ok (.invokevirtual idx, 3)) (k : V X G nL cells slots σ0 (pc + 3) lv (.int r0 :: rest)) : V X G nL cells slots σ pc lv (.int x2 :: .int x1 :: .ref (ga G 0) :: rest) := V_callV C (As := [.int x1, .int x2]) (c_X11_as X.2.1 G x1 x2 σ r0 σ0 e) cal_X11_as ww_987 ww_988 hlk rfl hdd (lt110 rfl) rfl rfl rfl hroom hcs hd k
theorem dt_X11_bars_0 : dtab cX11_bars [(0, .iload_n 1, 1), (1, .iconst 4, 1), (2, .invokestatic 79, 3), (5, .ifCond .ne 9, 3), (8, .aload_n 0, 1), (9, .iconst 1, 1), (10, .invokevirtual 68, 3), (13, .ireturn, 1), (14, .aload_n 0, 1), (15, .getfield 21, 3), (18, .invokevirtual 248, 3), (21, .istore_n 2, 1), (22, .iload_n 1, 1), (23, .ifCond .ne 5, 3), (26, .iload_n 2, 1), (27, .ireturn, 1), (28, .iload_n 2, 1), (29, .ifCond .eq 13, 3), (32, .iload_n 2, 1), (33, .iconst 1, 1), (34, .if_icmp .ne 14, 3), (37, .iload_n 1, 1), (38, .iconst 1, 1), (39, .if_icmp .le 9, 3), (42, .aload_n 0, 1), (43, .iconst 2, 1), (44, .invokevirtual 68, 3), (47, .ireturn, 1), (48, .iload_n 1, 1), (49, .lookupswitch 43 #[(1, 27), (2, 35)], 27), (76, .aload_n 0, 1), (77, .getfield 21, 3), (80, .getfield 251, 3), (83, .ireturn, 1), (84, .aload_n 0, 1), (85, .getfield 21, 3), (88, .getfield 254, 3), (91, .ireturn, 1), (92, .aload_n 0, 1), (93, .getfield 21, 3)] = true := by decide +kernel
theorem dt_X11_bars_1 : dtab cX11_bars [(96, .getfield 222, 3), (99, .ireturn, 1)] = true := by decide +kernel
theorem cal_X11_bars : Cal yX11_bars cX11_bars 3 (some .int) 1 := ⟨ww_994, ww_100, ⟨by decide, by decide, by decide⟩, by decide⟩
set_option maxHeartbeats 4000000 in
set_option maxRecDepth 100000 in
theorem c_X11_bars (l : Launch) (G : Gx) (x1 : Int32) (σ : St) (r0 : Int32) (σ0 : St) (h : f_X11_bars x1 σ = some (r0, σ0)) : MI l G yX11_bars cX11_bars 3 (some .int) 8 [.ref (ga G 0), .int x1] σ (some (.int r0)) σ0 := by
  refine MI_of RX11 rfl (by decide) [(0, .ref (ga G 0)), (1, .int x1)] rfl (Nat.le_of_ble_eq_true rfl) ?_
  intro X hXl C hR
  unfold f_X11_bars at h
  have J_48 : ∀ (σ : St), f_X11_bars_48 x1 σ = some (r0, σ0) → V X G 3 0 0 σ 48 [(0, .ref (ga G 0)), (1, .int x1)] [] := by
    intro σ h
    unfold f_X11_bars_48 at h
    refine V_iload_n C (dt_at dt_X11_bars_0 28 rfl) 1 rfl rfl ?_
    by_cases q18 : x1 = 1
    · have h := ite_t q18 h
      refine V_lkp C 76 (dt_at dt_X11_bars_0 29 rfl) rfl (by rw [q18] <;> rfl) (by decide) ?_
      refine V_aload_n C (dt_at dt_X11_bars_0 30 rfl) 0 rfl rfl ?_
      refine g_X11_21_0 C (dt_at dt_X11_bars_0 31 rfl) ?_
      refine g_X11_251_3 C (dt_at dt_X11_bars_0 32 rfl) ?_
      obtain ⟨e1_, e2_⟩ := pin2 h
      subst e1_; subst e2_
      exact V_iret C hR (dt_at dt_X11_bars_0 33 rfl)
    replace h := ite_f q18 h
    by_cases q19 : x1 = 2
    · have h := ite_t q19 h
      refine V_lkp C 84 (dt_at dt_X11_bars_0 29 rfl) rfl (by rw [q19] <;> rfl) (by decide) ?_
      refine V_aload_n C (dt_at dt_X11_bars_0 34 rfl) 0 rfl rfl ?_
      refine g_X11_21_0 C (dt_at dt_X11_bars_0 35 rfl) ?_
      refine g_X11_254_3 C (dt_at dt_X11_bars_0 36 rfl) ?_
      obtain ⟨e1_, e2_⟩ := pin2 h
      subst e1_; subst e2_
      exact V_iret C hR (dt_at dt_X11_bars_0 37 rfl)
    replace h := ite_f q19 h
    refine V_lkp C (off := 43) 92 (dt_at dt_X11_bars_0 29 rfl) rfl ((lv_osw q18 (a := 1) rfl).trans ((lv_osw q19 (a := 2) rfl).trans (rfl))) (by decide) ?_
    refine V_aload_n C (dt_at dt_X11_bars_0 38 rfl) 0 rfl rfl ?_
    refine g_X11_21_0 C (dt_at dt_X11_bars_0 39 rfl) ?_
    refine g_X11_222_3 C (dt_at dt_X11_bars_1 0 rfl) ?_
    obtain ⟨e1_, e2_⟩ := pin2 h
    subst e1_; subst e2_
    exact V_iret C hR (dt_at dt_X11_bars_1 1 rfl)
  have J_42 : ∀ (σ : St), f_X11_bars_42 σ = some (r0, σ0) → V X G 3 0 0 σ 42 [(0, .ref (ga G 0))] [] := by
    intro σ h
    unfold f_X11_bars_42 at h
    refine V_aload_n C (dt_at dt_X11_bars_0 24 rfl) 0 rfl rfl ?_
    refine V_iconst C 2 (dt_at dt_X11_bars_0 25 rfl) (by decide) ?_
    obtain ⟨r15, σ17, e16, h⟩ := bd2_s h
    refine cv_X11_error C ww_193 2 e16 (Nat.le_of_ble_eq_true rfl) (Nat.le_of_ble_eq_true rfl) z0 (dt_at dt_X11_bars_0 26 rfl) ?_
    obtain ⟨e1_, e2_⟩ := pin2 h
    subst e1_; subst e2_
    exact V_iret C hR (dt_at dt_X11_bars_0 27 rfl)
  refine V_iload_n C (dt_at dt_X11_bars_0 0 rfl) 1 rfl rfl ?_
  refine V_iconst C 4 (dt_at dt_X11_bars_0 1 rfl) (by decide) ?_
  obtain ⟨r1, e2, h⟩ := bd_s h
  refine cv_X11_isWithin C ww_186 x1 4 e2 (Nat.le_of_ble_eq_true rfl) (Nat.le_of_ble_eq_true rfl) z0 (dt_at dt_X11_bars_0 2 rfl) ?_
  refine V_if_ne C 14 (dt_at dt_X11_bars_0 3 rfl) (by decide) (fun q4 => ?_) (fun q4 => ?_)
  · have h := ite_f q4 h
    refine V_aload_n C (dt_at dt_X11_bars_0 8 rfl) 0 rfl rfl ?_
    refine g_X11_21_0 C (dt_at dt_X11_bars_0 9 rfl) ?_
    obtain ⟨r5, σ7, e6, h⟩ := bd2_s h
    refine cv_X10_findBar C ww_990  e6 (Nat.le_of_ble_eq_true rfl) (Nat.le_of_ble_eq_true rfl) z0 (dt_at dt_X11_bars_0 10 rfl) ?_
    refine V_istore_n C [1, 2, 0] (lv' := [(0, .ref (ga G 0)), (1, .int x1), (2, .int r5)]) (dt_at dt_X11_bars_0 11 rfl) rfl (by decide) rfl ?_
    refine V_iload_n C (dt_at dt_X11_bars_0 12 rfl) 1 rfl rfl ?_
    refine V_if_ne C 28 (dt_at dt_X11_bars_0 13 rfl) (by decide) (fun q8 => ?_) (fun q8 => ?_)
    · have h := ite_f q8 h
      refine V_iload_n C (dt_at dt_X11_bars_0 16 rfl) 2 rfl rfl ?_
      refine V_if_eq C 42 (dt_at dt_X11_bars_0 17 rfl) (by decide) (fun q9 => ?_) (fun q9 => ?_)
      · have h := ite_t q9 h
        refine V_sub [0] (lv' := [(0, .ref (ga G 0))]) rfl ?_
        exact J_42 σ7 h
      · have h := ite_f q9 h
        refine V_iload_n C (dt_at dt_X11_bars_0 18 rfl) 2 rfl rfl ?_
        refine V_iconst C 1 (dt_at dt_X11_bars_0 19 rfl) (by decide) ?_
        refine V_icmp_ne C 48 (dt_at dt_X11_bars_0 20 rfl) (by decide) (fun q10 => ?_) (fun q10 => ?_)
        · have h := ite_f q10 h
          refine V_sub [0, 1] (lv' := [(0, .ref (ga G 0)), (1, .int x1)]) rfl ?_
          exact J_48 σ7 h
        · have h := ite_t q10 h
          refine V_iload_n C (dt_at dt_X11_bars_0 21 rfl) 1 rfl rfl ?_
          refine V_iconst C 1 (dt_at dt_X11_bars_0 22 rfl) (by decide) ?_
          refine V_icmp_le C 48 (dt_at dt_X11_bars_0 23 rfl) (by decide) (fun q11 => ?_) (fun q11 => ?_)
          · have h := ite_f q11 h
            refine V_sub [0, 1] (lv' := [(0, .ref (ga G 0)), (1, .int x1)]) rfl ?_
            exact J_48 σ7 h
          · have h := ite_t q11 h
            refine V_sub [0] (lv' := [(0, .ref (ga G 0))]) rfl ?_
            exact J_42 σ7 h
    · have h := ite_t q8 h
      refine V_iload_n C (dt_at dt_X11_bars_0 14 rfl) 2 rfl rfl ?_
      obtain ⟨e1_, e2_⟩ := pin2 h
      subst e1_; subst e2_
      exact V_iret C hR (dt_at dt_X11_bars_0 15 rfl)
  · have h := ite_t q4 h
    refine V_aload_n C (dt_at dt_X11_bars_0 4 rfl) 0 rfl rfl ?_
    refine V_iconst C 1 (dt_at dt_X11_bars_0 5 rfl) (by decide) ?_
    obtain ⟨r12, σ14, e13, h⟩ := bd2_s h
    refine cv_X11_error C ww_193 1 e13 (Nat.le_of_ble_eq_true rfl) (Nat.le_of_ble_eq_true rfl) z0 (dt_at dt_X11_bars_0 6 rfl) ?_
    obtain ⟨e1_, e2_⟩ := pin2 h
    subst e1_; subst e2_
    exact V_iret C hR (dt_at dt_X11_bars_0 7 rfl)
theorem cv_X11_bars (C : Ck X G cc own nL d) {idx : Nat} (hlk : Cond.methodLink own idx yX11_bars ∈ gtb) (x1 : Int32) {r0 : Int32} {σ0 : St} (e : f_X11_bars x1 σ = some (r0, σ0)) (hdd : 9 ≤ d) (hroom : (rest.map fun v => v.category).sum ≤ 8) (hcs : cells ≤ (xR X).cells ∧ slots ≤ (xR X).slots) (hd : decode cc pc = .ok (.invokevirtual idx, 3)) (k : V X G nL cells slots σ0 (pc + 3) lv (.int r0 :: rest)) : V X G nL cells slots σ pc lv (.int x1 :: .ref (ga G 0) :: rest) := V_callV C (As := [.int x1]) (c_X11_bars X.2.1 G x1 σ r0 σ0 e) cal_X11_bars ww_995 ww_996 hlk rfl hdd (lt110 rfl) rfl rfl rfl hroom hcs hd k
theorem dt_X11_two_0 : dtab cX11_two [(0, .aload_n 0, 1), (1, .iload_n 1, 1), (2, .iload_n 2, 1), (3, .invokevirtual 212, 3), (6, .ifCond .eq 11, 3), (9, .iload_n 3, 1), (10, .iconst 2, 1), (11, .invokestatic 79, 3), (14, .ifCond .ne 9, 3), (17, .aload_n 0, 1), (18, .iconst 1, 1), (19, .invokevirtual 68, 3), (22, .ireturn, 1), (23, .aload_n 0, 1), (24, .getfield 21, 3), (27, .iload_n 1, 1), (28, .iload_n 2, 1), (29, .invokevirtual 219, 3), (32, .istore 4, 2), (34, .iload_n 3, 1), (35, .ifCond .ne 6, 3), (38, .iload 4, 2), (40, .ireturn, 1), (41, .iload 4, 2), (43, .ifCond .ne 11, 3), (46, .aload_n 0, 1), (47, .iconst 2, 1), (48, .invokevirtual 68, 3), (51, .goto 10, 3), (54, .aload_n 0, 1), (55, .getfield 21, 3), (58, .getfield 222, 3), (61, .ireturn, 1)] = true := by decide +kernel
theorem cal_X11_two : Cal yX11_two cX11_two 5 (some .int) 3 := ⟨ww_998, ww_100, ⟨by decide, by decide, by decide⟩, by decide⟩
set_option maxHeartbeats 4000000 in
set_option maxRecDepth 100000 in
theorem c_X11_two (l : Launch) (G : Gx) (x1 : Int32) (x2 : Int32) (x3 : Int32) (σ : St) (r0 : Int32) (σ0 : St) (h : f_X11_two x1 x2 x3 σ = some (r0, σ0)) : MI l G yX11_two cX11_two 5 (some .int) 6 [.ref (ga G 0), .int x1, .int x2, .int x3] σ (some (.int r0)) σ0 := by
  refine MI_of RX11 rfl (by decide) [(0, .ref (ga G 0)), (1, .int x1), (2, .int x2), (3, .int x3)] rfl (Nat.le_of_ble_eq_true rfl) ?_
  intro X hXl C hR
  unfold f_X11_two at h
  have J_17 : ∀ (σ : St), f_X11_two_17 σ = some (r0, σ0) → V X G 5 0 0 σ 17 [(0, .ref (ga G 0))] [] := by
    intro σ h
    unfold f_X11_two_17 at h
    refine V_aload_n C (dt_at dt_X11_two_0 9 rfl) 0 rfl rfl ?_
    refine V_iconst C 1 (dt_at dt_X11_two_0 10 rfl) (by decide) ?_
    obtain ⟨r17, σ19, e18, h⟩ := bd2_s h
    refine cv_X11_error C ww_193 1 e18 (Nat.le_of_ble_eq_true rfl) (Nat.le_of_ble_eq_true rfl) z0 (dt_at dt_X11_two_0 11 rfl) ?_
    obtain ⟨e1_, e2_⟩ := pin2 h
    subst e1_; subst e2_
    exact V_iret C hR (dt_at dt_X11_two_0 12 rfl)
  refine V_aload_n C (dt_at dt_X11_two_0 0 rfl) 0 rfl rfl ?_
  refine V_iload_n C (dt_at dt_X11_two_0 1 rfl) 1 rfl rfl ?_
  refine V_iload_n C (dt_at dt_X11_two_0 2 rfl) 2 rfl rfl ?_
  obtain ⟨r1, e2, h⟩ := bd_s h
  refine cv_X11_isPair C ww_231 x1 x2 e2 (Nat.le_of_ble_eq_true rfl) (Nat.le_of_ble_eq_true rfl) z0 (dt_at dt_X11_two_0 3 rfl) ?_
  refine V_if_eq C 17 (dt_at dt_X11_two_0 4 rfl) (by decide) (fun q4 => ?_) (fun q4 => ?_)
  · have h := ite_t q4 h
    refine V_sub [0] (lv' := [(0, .ref (ga G 0))]) rfl ?_
    exact J_17 σ h
  · have h := ite_f q4 h
    refine V_iload_n C (dt_at dt_X11_two_0 5 rfl) 3 rfl rfl ?_
    refine V_iconst C 2 (dt_at dt_X11_two_0 6 rfl) (by decide) ?_
    obtain ⟨r5, e6, h⟩ := bd_s h
    refine cv_X11_isWithin C ww_186 x3 2 e6 (Nat.le_of_ble_eq_true rfl) (Nat.le_of_ble_eq_true rfl) z0 (dt_at dt_X11_two_0 7 rfl) ?_
    refine V_if_ne C 23 (dt_at dt_X11_two_0 8 rfl) (by decide) (fun q8 => ?_) (fun q8 => ?_)
    · have h := ite_f q8 h
      refine V_aload_n C (dt_at dt_X11_two_0 13 rfl) 0 rfl rfl ?_
      refine g_X11_21_0 C (dt_at dt_X11_two_0 14 rfl) ?_
      refine V_iload_n C (dt_at dt_X11_two_0 15 rfl) 1 rfl rfl ?_
      refine V_iload_n C (dt_at dt_X11_two_0 16 rfl) 2 rfl rfl ?_
      obtain ⟨r9, σ11, e10, h⟩ := bd2_s h
      refine cv_X10_howBarred C ww_997 x1 x2 e10 (Nat.le_of_ble_eq_true rfl) (Nat.le_of_ble_eq_true rfl) z0 (dt_at dt_X11_two_0 17 rfl) ?_
      refine V_istore C [1, 2, 3, 4, 0] (lv' := [(0, .ref (ga G 0)), (1, .int x1), (2, .int x2), (3, .int x3), (4, .int r9)]) (dt_at dt_X11_two_0 18 rfl) (by decide) rfl ?_
      refine V_iload_n C (dt_at dt_X11_two_0 19 rfl) 3 rfl rfl ?_
      refine V_if_ne C 41 (dt_at dt_X11_two_0 20 rfl) (by decide) (fun q12 => ?_) (fun q12 => ?_)
      · have h := ite_f q12 h
        refine V_iload C (dt_at dt_X11_two_0 23 rfl) 4 rfl ?_
        refine V_if_ne C 54 (dt_at dt_X11_two_0 24 rfl) (by decide) (fun q13 => ?_) (fun q13 => ?_)
        · have h := ite_f q13 h
          refine V_aload_n C (dt_at dt_X11_two_0 29 rfl) 0 rfl rfl ?_
          refine g_X11_21_0 C (dt_at dt_X11_two_0 30 rfl) ?_
          refine g_X11_222_3 C (dt_at dt_X11_two_0 31 rfl) ?_
          obtain ⟨e1_, e2_⟩ := pin2 h
          subst e1_; subst e2_
          exact V_iret C hR (dt_at dt_X11_two_0 32 rfl)
        · have h := ite_t q13 h
          refine V_aload_n C (dt_at dt_X11_two_0 25 rfl) 0 rfl rfl ?_
          refine V_iconst C 2 (dt_at dt_X11_two_0 26 rfl) (by decide) ?_
          obtain ⟨r14, σ16, e15, h⟩ := bd2_s h
          refine cv_X11_error C ww_193 2 e15 (Nat.le_of_ble_eq_true rfl) (Nat.le_of_ble_eq_true rfl) z0 (dt_at dt_X11_two_0 27 rfl) ?_
          refine V_goto C 61 (dt_at dt_X11_two_0 28 rfl) (by decide) ?_
          obtain ⟨e1_, e2_⟩ := pin2 h
          subst e1_; subst e2_
          exact V_iret C hR (dt_at dt_X11_two_0 32 rfl)
      · have h := ite_t q12 h
        refine V_iload C (dt_at dt_X11_two_0 21 rfl) 4 rfl ?_
        obtain ⟨e1_, e2_⟩ := pin2 h
        subst e1_; subst e2_
        exact V_iret C hR (dt_at dt_X11_two_0 22 rfl)
    · have h := ite_t q8 h
      refine V_sub [0] (lv' := [(0, .ref (ga G 0))]) rfl ?_
      exact J_17 σ h
theorem cv_X11_two (C : Ck X G cc own nL d) {idx : Nat} (hlk : Cond.methodLink own idx yX11_two ∈ gtb) (x1 : Int32) (x2 : Int32) (x3 : Int32) {r0 : Int32} {σ0 : St} (e : f_X11_two x1 x2 x3 σ = some (r0, σ0)) (hdd : 7 ≤ d) (hroom : (rest.map fun v => v.category).sum ≤ 8) (hcs : cells ≤ (xR X).cells ∧ slots ≤ (xR X).slots) (hd : decode cc pc = .ok (.invokevirtual idx, 3)) (k : V X G nL cells slots σ0 (pc + 3) lv (.int r0 :: rest)) : V X G nL cells slots σ pc lv (.int x3 :: .int x2 :: .int x1 :: .ref (ga G 0) :: rest) := V_callV C (As := [.int x1, .int x2, .int x3]) (c_X11_two X.2.1 G x1 x2 x3 σ r0 σ0 e) cal_X11_two ww_999 ww_1000 hlk rfl hdd (lt110 rfl) rfl rfl rfl hroom hcs hd k
theorem dt_X8_findBest_0 : dtab cX8_findBest [(0, .aload_n 0, 1), (1, .getfield 51, 3), (4, .invokevirtual 112, 3), (7, .istore_n 3, 1), (8, .aload_n 0, 1), (9, .iconst 0, 1), (10, .putfield 42, 3), (13, .aload_n 0, 1), (14, .iload_n 2, 1), (15, .iload_n 1, 1), (16, .invokevirtual 116, 3), (19, .aload_n 0, 1), (20, .getfield 21, 3), (23, .ifCond .ne 13, 3), (26, .iload_n 3, 1), (27, .ifCond .ne 7, 3), (30, .iconst 1, 1), (31, .goto 4, 3), (34, .iconst 0, 1), (35, .ireturn, 1), (36, .aload_n 0, 1), (37, .getfield 55, 3), (40, .invokevirtual 59, 3), (43, .aload_n 0, 1), (44, .getfield 21, 3), (47, .iconst 1, 1), (48, .isub, 1), (49, .istore 4, 2), (51, .aload_n 0, 1), (52, .aload_n 0, 1), (53, .getfield 18, 3), (56, .iload 4, 2), (58, .iaload, 1), (59, .invokevirtual 119, 3), (62, .aload_n 0, 1), (63, .getfield 30, 3), (66, .iconst 0, 1), (67, .aload_n 0, 1), (68, .getfield 33, 3), (71, .iload 4, 2)] = true := by decide +kernel
theorem dt_X8_findBest_1 : dtab cX8_findBest [(73, .aaload, 1), (74, .iconst 0, 1), (75, .iload_n 3, 1), (76, .iconst 1, 1), (77, .iadd, 1), (78, .invokestatic 123, 3), (81, .iload 4, 2), (83, .iconst 1, 1), (84, .isub, 1), (85, .istore 5, 2), (87, .iload 5, 2), (89, .ifCond .lt 28, 3), (92, .aload_n 0, 1), (93, .aload_n 0, 1), (94, .getfield 18, 3), (97, .iload 5, 2), (99, .iaload, 1), (100, .invokevirtual 119, 3), (103, .aload_n 0, 1), (104, .iload_n 1, 1), (105, .iload 5, 2), (107, .iload_n 3, 1), (108, .invokevirtual 129, 3), (111, .iinc 5 (-1), 3), (114, .goto (-27), 3), (117, .aload_n 0, 1), (118, .getfield 33, 3), (121, .iconst 0, 1), (122, .aaload, 1), (123, .iload_n 3, 1), (124, .iaload, 1), (125, .ldc 97, 2), (127, .if_icmp .lt 5, 3), (130, .iconst 0, 1), (131, .ireturn, 1), (132, .aload_n 0, 1), (133, .iload_n 1, 1), (134, .ifCond .ne 15, 3), (137, .aload_n 0, 1), (138, .getfield 33, 3)] = true := by decide +kernel
theorem dt_X8_findBest_2 : dtab cX8_findBest [(141, .iconst 0, 1), (142, .aaload, 1), (143, .iload_n 3, 1), (144, .iaload, 1), (145, .ineg, 1), (146, .goto 11, 3), (149, .aload_n 0, 1), (150, .getfield 33, 3), (153, .iconst 0, 1), (154, .aaload, 1), (155, .iload_n 3, 1), (156, .iaload, 1), (157, .putfield 42, 3), (160, .aload_n 0, 1), (161, .iload_n 1, 1), (162, .iload_n 3, 1), (163, .invokevirtual 133, 3), (166, .iconst 1, 1), (167, .ireturn, 1)] = true := by decide +kernel
theorem cal_X8_findBest : Cal yX8_findBest cX8_findBest 6 (some .boolean) 2 := ⟨ww_1007, ww_129, ⟨by decide, by decide, by decide⟩, by decide⟩
set_option maxHeartbeats 4000000 in
set_option maxRecDepth 100000 in
theorem c_X8_findBest (l : Launch) (G : Gx) (x1 : Int32) (x2 : Int32) (σ : St) (r0 : Int32) (σ0 : St) (h : f_X8_findBest x1 x2 σ = some (r0, σ0)) : MI l G yX8_findBest cX8_findBest 6 (some .boolean) 7 [.ref (ga G 4), .int x1, .int x2] σ (some (.int r0)) σ0 := by
  refine MI_of RX8 rfl (by decide) [(0, .ref (ga G 4)), (1, .int x1), (2, .int x2)] rfl (Nat.le_of_ble_eq_true rfl) ?_
  intro X hXl C hR
  unfold f_X8_findBest at h
  have J_157 : ∀ (x3 : Int32) (s0 : Int32) (σ : St), f_X8_findBest_157 x1 x3 s0 σ = some (r0, σ0) → V X G 6 0 0 σ 157 [(0, .ref (ga G 4)), (1, .int x1), (3, .int x3)] [.int s0, .ref (ga G 4)] := by
    intro x3 s0 σ h
    unfold f_X8_findBest_157 at h
    obtain ⟨σ32, eσ32, h⟩ := nm_s h
    refine V_st eσ32 ?_ (fun k => p_X8_42_4 C (dt_at dt_X8_findBest_2 12 rfl) k)
    refine V_aload_n C (dt_at dt_X8_findBest_2 13 rfl) 0 rfl rfl ?_
    refine V_iload_n C (dt_at dt_X8_findBest_2 14 rfl) 1 rfl rfl ?_
    refine V_iload_n C (dt_at dt_X8_findBest_2 15 rfl) 2 rfl rfl ?_
    obtain ⟨σ35, e34, h⟩ := bd_s h
    refine cv_X8_dealOut C ww_1006 x1 x3 e34 (Nat.le_of_ble_eq_true rfl) (Nat.le_of_ble_eq_true rfl) z0 (dt_at dt_X8_findBest_2 16 rfl) ?_
    refine V_iconst C 1 (dt_at dt_X8_findBest_2 17 rfl) (by decide) ?_
    obtain ⟨e1_, e2_⟩ := pin2 h
    subst e1_; subst e2_
    exact V_zret C rfl hR (dt_at dt_X8_findBest_2 18 rfl)
  have J_117 : ∀ (x3 : Int32) (σ : St), f_X8_findBest_117 x1 x3 σ = some (r0, σ0) → V X G 6 0 0 σ 117 [(0, .ref (ga G 4)), (1, .int x1), (3, .int x3)] [] := by
    intro x3 σ h
    unfold f_X8_findBest_117 at h
    refine V_aload_n C (dt_at dt_X8_findBest_1 25 rfl) 0 rfl rfl ?_
    refine g_X8_33_4 C (dt_at dt_X8_findBest_1 26 rfl) ?_
    refine V_iconst C 0 (dt_at dt_X8_findBest_1 27 rfl) (by decide) ?_
    refine V_aa38_0 C (dt_at dt_X8_findBest_1 28 rfl) ?_
    refine V_iload_n C (dt_at dt_X8_findBest_1 29 rfl) 2 rfl rfl ?_
    obtain ⟨h29, h⟩ := chk_s h
    refine al_46 C h29 (dt_at dt_X8_findBest_1 30 rfl) ?_
    refine V_ldc C 100000000 (dt_at dt_X8_findBest_1 31 rfl) ww_135 ?_
    refine V_icmp_lt C 132 (dt_at dt_X8_findBest_1 32 rfl) (by decide) (fun q30 => ?_) (fun q30 => ?_)
    · have h := ite_t q30 h
      refine V_aload_n C (dt_at dt_X8_findBest_1 35 rfl) 0 rfl rfl ?_
      refine V_iload_n C (dt_at dt_X8_findBest_1 36 rfl) 1 rfl rfl ?_
      refine V_if_ne C 149 (dt_at dt_X8_findBest_1 37 rfl) (by decide) (fun q31 => ?_) (fun q31 => ?_)
      · have h := ite_f q31 h
        refine V_aload_n C (dt_at dt_X8_findBest_2 6 rfl) 0 rfl rfl ?_
        refine g_X8_33_4 C (dt_at dt_X8_findBest_2 7 rfl) ?_
        refine V_iconst C 0 (dt_at dt_X8_findBest_2 8 rfl) (by decide) ?_
        refine V_aa38_0 C (dt_at dt_X8_findBest_2 9 rfl) ?_
        refine V_iload_n C (dt_at dt_X8_findBest_2 10 rfl) 2 rfl rfl ?_
        refine al_46 C h29 (dt_at dt_X8_findBest_2 11 rfl) ?_
        exact J_157 x3 (rd σ 46 x3) σ h
      · have h := ite_t q31 h
        refine V_aload_n C (dt_at dt_X8_findBest_1 38 rfl) 0 rfl rfl ?_
        refine g_X8_33_4 C (dt_at dt_X8_findBest_1 39 rfl) ?_
        refine V_iconst C 0 (dt_at dt_X8_findBest_2 0 rfl) (by decide) ?_
        refine V_aa38_0 C (dt_at dt_X8_findBest_2 1 rfl) ?_
        refine V_iload_n C (dt_at dt_X8_findBest_2 2 rfl) 2 rfl rfl ?_
        refine al_46 C h29 (dt_at dt_X8_findBest_2 3 rfl) ?_
        refine V_ineg C (dt_at dt_X8_findBest_2 4 rfl) ?_
        refine V_goto C 157 (dt_at dt_X8_findBest_2 5 rfl) (by decide) ?_
        exact J_157 x3 (-(rd σ 46 x3)) σ h
    · have h := ite_f q30 h
      refine V_iconst C 0 (dt_at dt_X8_findBest_1 33 rfl) (by decide) ?_
      obtain ⟨e1_, e2_⟩ := pin2 h
      subst e1_; subst e2_
      exact V_zret C rfl hR (dt_at dt_X8_findBest_1 34 rfl)
  have J_87 : ∀ (x3 : Int32) (x5 : Int32) (σ : St), f_X8_findBest_87 x1 x3 x5 σ = some (r0, σ0) → V X G 6 0 0 σ 87 [(0, .ref (ga G 4)), (1, .int x1), (3, .int x3), (5, .int x5)] [] := by
    intro x3 x5 σ h
    refine it_v (P := fun z : Int32 × St => V X G 6 0 0 z.2 87 [(0, .ref (ga G 4)), (1, .int x1), (3, .int x3), (5, .int z.1)] []) ?_ (x5, σ) h
    clear h
    intro z w_87 h ih_87 ex_87
    obtain ⟨x5, σ⟩ := z
    have h : b_X8_findBest_87 x1 x3 x5 σ = some w_87 := h
    show V X G 6 0 0 σ 87 [(0, .ref (ga G 4)), (1, .int x1), (3, .int x3), (5, .int x5)] []
    unfold b_X8_findBest_87 at h
    refine V_iload C (dt_at dt_X8_findBest_1 10 rfl) 3 rfl ?_
    refine V_if_lt C 117 (dt_at dt_X8_findBest_1 11 rfl) (by decide) (fun q20 => ?_) (fun q20 => ?_)
    · have h := ite_t q20 h
      refine V_sub [0, 1, 2] (lv' := [(0, .ref (ga G 4)), (1, .int x1), (3, .int x3)]) rfl ?_
      obtain ⟨t21, h, e_87⟩ := map_s h
      have e_87 := ex_87 _ e_87
      rw [e_87] at h
      exact J_117 x3 σ h
    · have h := ite_f q20 h
      refine V_aload_n C (dt_at dt_X8_findBest_1 12 rfl) 0 rfl rfl ?_
      refine V_aload_n C (dt_at dt_X8_findBest_1 13 rfl) 0 rfl rfl ?_
      refine g_X8_18_4 C (dt_at dt_X8_findBest_1 14 rfl) ?_
      refine V_iload C (dt_at dt_X8_findBest_1 15 rfl) 3 rfl ?_
      obtain ⟨h22, h⟩ := chk_s h
      refine al_35 C h22 (dt_at dt_X8_findBest_1 16 rfl) ?_
      obtain ⟨σ25, e24, h⟩ := bd_s h
      refine cv_X8_price C ww_169 (rd σ 35 x5) e24 (Nat.le_of_ble_eq_true rfl) (Nat.le_of_ble_eq_true rfl) z0 (dt_at dt_X8_findBest_1 17 rfl) ?_
      refine V_aload_n C (dt_at dt_X8_findBest_1 18 rfl) 0 rfl rfl ?_
      refine V_iload_n C (dt_at dt_X8_findBest_1 19 rfl) 1 rfl rfl ?_
      refine V_iload C (dt_at dt_X8_findBest_1 20 rfl) 3 rfl ?_
      refine V_iload_n C (dt_at dt_X8_findBest_1 21 rfl) 2 rfl rfl ?_
      obtain ⟨σ28, e27, h⟩ := bd_s h
      refine cv_X8_addToTeam C ww_1005 x1 x5 x3 e27 (Nat.le_of_ble_eq_true rfl) (Nat.le_of_ble_eq_true rfl) z0 (dt_at dt_X8_findBest_1 22 rfl) ?_
      refine V_iinc C (x5 + (-1)) 3 [1, 2, 3, 0] (lv' := [(0, .ref (ga G 4)), (1, .int x1), (3, .int x3), (5, .int (x5 + (-1)))]) (dt_at dt_X8_findBest_1 23 rfl) rfl (by rfl) (by decide) rfl ?_
      refine V_goto C 87 (dt_at dt_X8_findBest_1 24 rfl) (by decide) ?_
      exact ih_87 ((x5 + (-1)), σ28) (Option.some.inj h).symm
  refine V_aload_n C (dt_at dt_X8_findBest_0 0 rfl) 0 rfl rfl ?_
  refine g_X8_51_4 C (dt_at dt_X8_findBest_0 1 rfl) ?_
  obtain ⟨r1, e2, h⟩ := bd_s h
  refine cv_X4_allParts C ww_322  e2 (Nat.le_of_ble_eq_true rfl) (Nat.le_of_ble_eq_true rfl) z0 (dt_at dt_X8_findBest_0 2 rfl) ?_
  refine V_istore_n C [1, 2, 3, 0] (lv' := [(0, .ref (ga G 4)), (1, .int x1), (2, .int x2), (3, .int r1)]) (dt_at dt_X8_findBest_0 3 rfl) rfl (by decide) rfl ?_
  refine V_aload_n C (dt_at dt_X8_findBest_0 4 rfl) 0 rfl rfl ?_
  refine V_iconst C 0 (dt_at dt_X8_findBest_0 5 rfl) (by decide) ?_
  obtain ⟨σ4, eσ4, h⟩ := nm_s h
  refine V_st eσ4 ?_ (fun k => p_X8_42_4 C (dt_at dt_X8_findBest_0 6 rfl) k)
  refine V_aload_n C (dt_at dt_X8_findBest_0 7 rfl) 0 rfl rfl ?_
  refine V_iload_n C (dt_at dt_X8_findBest_0 8 rfl) 2 rfl rfl ?_
  refine V_iload_n C (dt_at dt_X8_findBest_0 9 rfl) 1 rfl rfl ?_
  obtain ⟨σ7, e6, h⟩ := bd_s h
  refine cv_X8_gather C ww_1002 x2 x1 e6 (Nat.le_of_ble_eq_true rfl) (Nat.le_of_ble_eq_true rfl) z0 (dt_at dt_X8_findBest_0 10 rfl) ?_
  refine V_aload_n C (dt_at dt_X8_findBest_0 11 rfl) 0 rfl rfl ?_
  refine g_X8_21_4 C (dt_at dt_X8_findBest_0 12 rfl) ?_
  refine V_if_ne C 36 (dt_at dt_X8_findBest_0 13 rfl) (by decide) (fun q8 => ?_) (fun q8 => ?_)
  · have h := ite_f q8 h
    refine V_aload_n C (dt_at dt_X8_findBest_0 20 rfl) 0 rfl rfl ?_
    refine g_X8_55_4 C (dt_at dt_X8_findBest_0 21 rfl) ?_
    obtain ⟨σ11, e10, h⟩ := bd_s h
    refine cv_X10_findBarred C ww_1003  e10 (Nat.le_of_ble_eq_true rfl) (Nat.le_of_ble_eq_true rfl) z0 (dt_at dt_X8_findBest_0 22 rfl) ?_
    refine V_aload_n C (dt_at dt_X8_findBest_0 23 rfl) 0 rfl rfl ?_
    refine g_X8_21_4 C (dt_at dt_X8_findBest_0 24 rfl) ?_
    refine V_iconst C 1 (dt_at dt_X8_findBest_0 25 rfl) (by decide) ?_
    refine V_isub C (dt_at dt_X8_findBest_0 26 rfl) ?_
    refine V_istore C [1, 2, 3, 4, 0] (lv' := [(0, .ref (ga G 4)), (1, .int x1), (2, .int x2), (3, .int r1), (4, .int ((fd σ11 4 5) - 1))]) (dt_at dt_X8_findBest_0 27 rfl) (by decide) rfl ?_
    refine V_aload_n C (dt_at dt_X8_findBest_0 28 rfl) 0 rfl rfl ?_
    refine V_aload_n C (dt_at dt_X8_findBest_0 29 rfl) 0 rfl rfl ?_
    refine g_X8_18_4 C (dt_at dt_X8_findBest_0 30 rfl) ?_
    refine V_iload C (dt_at dt_X8_findBest_0 31 rfl) 4 rfl ?_
    obtain ⟨h12, h⟩ := chk_s h
    refine al_35 C h12 (dt_at dt_X8_findBest_0 32 rfl) ?_
    obtain ⟨σ15, e14, h⟩ := bd_s h
    refine cv_X8_price C ww_169 (rd σ11 35 ((fd σ11 4 5) - 1)) e14 (Nat.le_of_ble_eq_true rfl) (Nat.le_of_ble_eq_true rfl) z0 (dt_at dt_X8_findBest_0 33 rfl) ?_
    refine V_aload_n C (dt_at dt_X8_findBest_0 34 rfl) 0 rfl rfl ?_
    refine g_X8_30_4 C (dt_at dt_X8_findBest_0 35 rfl) ?_
    refine V_iconst C 0 (dt_at dt_X8_findBest_0 36 rfl) (by decide) ?_
    refine V_aload_n C (dt_at dt_X8_findBest_0 37 rfl) 0 rfl rfl ?_
    refine g_X8_33_4 C (dt_at dt_X8_findBest_0 38 rfl) ?_
    refine V_iload C (dt_at dt_X8_findBest_0 39 rfl) 4 rfl ?_
    refine V_aa38 C h12 (dt_at dt_X8_findBest_1 0 rfl) ?_
    have h16 : isLeast (46 + ((fd σ11 4 5) - 1).toNatClampNeg) = true := ok_38 h12
    refine V_iconst C 0 (dt_at dt_X8_findBest_1 1 rfl) (by decide) ?_
    refine V_iload_n C (dt_at dt_X8_findBest_1 2 rfl) 3 rfl rfl ?_
    refine V_iconst C 1 (dt_at dt_X8_findBest_1 3 rfl) (by decide) ?_
    refine V_iadd C (dt_at dt_X8_findBest_1 4 rfl) ?_
    obtain ⟨h17, h⟩ := chk_s h
    obtain ⟨σ18, eσ18, h⟩ := nm_s h
    refine V_st eσ18 ?_ (fun k => V_copy C (K0 := 37) (K1 := (46 + ((fd σ11 4 5) - 1).toNatClampNeg)) ww_1004 w_copy (lt110 rfl) (isLeast_lt h16) rfl (fun f => (lay_least G h16 f _)) h17 (Nat.le_of_ble_eq_true rfl) (Nat.le_of_ble_eq_true rfl) (dt_at dt_X8_findBest_1 5 rfl) k)
    refine V_iload C (dt_at dt_X8_findBest_1 6 rfl) 4 rfl ?_
    refine V_iconst C 1 (dt_at dt_X8_findBest_1 7 rfl) (by decide) ?_
    refine V_isub C (dt_at dt_X8_findBest_1 8 rfl) ?_
    refine V_istore C [1, 2, 3, 4, 5, 0] (lv' := [(0, .ref (ga G 4)), (1, .int x1), (2, .int x2), (3, .int r1), (4, .int ((fd σ11 4 5) - 1)), (5, .int (((fd σ11 4 5) - 1) - 1))]) (dt_at dt_X8_findBest_1 9 rfl) (by decide) rfl ?_
    refine V_sub [0, 1, 3, 5] (lv' := [(0, .ref (ga G 4)), (1, .int x1), (3, .int r1), (5, .int (((fd σ11 4 5) - 1) - 1))]) rfl ?_
    exact J_87 r1 (((fd σ11 4 5) - 1) - 1) σ18 h
  · have h := ite_t q8 h
    refine V_iload_n C (dt_at dt_X8_findBest_0 14 rfl) 3 rfl rfl ?_
    refine V_if_ne C 34 (dt_at dt_X8_findBest_0 15 rfl) (by decide) (fun q19 => ?_) (fun q19 => ?_)
    · have h := ite_f q19 h
      refine V_iconst C 0 (dt_at dt_X8_findBest_0 18 rfl) (by decide) ?_
      obtain ⟨e1_, e2_⟩ := pin2 h
      subst e1_; subst e2_
      exact V_zret C rfl hR (dt_at dt_X8_findBest_0 19 rfl)
    · have h := ite_t q19 h
      refine V_iconst C 1 (dt_at dt_X8_findBest_0 16 rfl) (by decide) ?_
      refine V_goto C 35 (dt_at dt_X8_findBest_0 17 rfl) (by decide) ?_
      obtain ⟨e1_, e2_⟩ := pin2 h
      subst e1_; subst e2_
      exact V_zret C rfl hR (dt_at dt_X8_findBest_0 19 rfl)
theorem cv_X8_findBest (C : Ck X G cc own nL d) {idx : Nat} (hlk : Cond.methodLink own idx yX8_findBest ∈ gtb) (x1 : Int32) (x2 : Int32) {r0 : Int32} {σ0 : St} (e : f_X8_findBest x1 x2 σ = some (r0, σ0)) (hdd : 8 ≤ d) (hroom : (rest.map fun v => v.category).sum ≤ 8) (hcs : cells ≤ (xR X).cells ∧ slots ≤ (xR X).slots) (hd : decode cc pc = .ok (.invokevirtual idx, 3)) (k : V X G nL cells slots σ0 (pc + 3) lv (.int r0 :: rest)) : V X G nL cells slots σ pc lv (.int x2 :: .int x1 :: .ref (ga G 4) :: rest) := V_callV C (As := [.int x1, .int x2]) (c_X8_findBest X.2.1 G x1 x2 σ r0 σ0 e) cal_X8_findBest ww_1008 ww_1009 hlk rfl hdd (lt110 rfl) rfl rfl rfl hroom hcs hd k
theorem dt_X11_best_0 : dtab cX11_best [(0, .iload_n 1, 1), (1, .iconst 4, 1), (2, .invokestatic 79, 3), (5, .ifCond .eq 30, 3), (8, .aload_n 0, 1), (9, .getfield 12, 3), (12, .iload_n 2, 1), (13, .invokevirtual 272, 3), (16, .ifCond .eq 19, 3), (19, .iload_n 3, 1), (20, .iconst (-1), 1), (21, .if_icmp .lt 14, 3), (24, .iload_n 3, 1), (25, .aload_n 0, 1), (26, .getfield 12, 3), (29, .getfield 83, 3), (32, .if_icmp .lt 9, 3), (35, .aload_n 0, 1), (36, .iconst 1, 1), (37, .invokevirtual 68, 3), (40, .ireturn, 1), (41, .aload_n 0, 1), (42, .getfield 30, 3), (45, .iload_n 1, 1), (46, .iload_n 2, 1), (47, .invokevirtual 275, 3), (50, .ifCond .ne 9, 3), (53, .aload_n 0, 1), (54, .iconst 2, 1), (55, .invokevirtual 68, 3), (58, .ireturn, 1), (59, .iload_n 3, 1), (60, .ifCond .ge 13, 3), (63, .aload_n 0, 1), (64, .getfield 30, 3), (67, .getfield 278, 3), (70, .goto 12, 3), (73, .aload_n 0, 1), (74, .getfield 30, 3), (77, .getfield 281, 3)] = true := by decide +kernel
theorem dt_X11_best_1 : dtab cX11_best [(80, .iload_n 3, 1), (81, .iaload, 1), (82, .ireturn, 1)] = true := by decide +kernel
theorem cal_X11_best : Cal yX11_best cX11_best 4 (some .int) 3 := ⟨ww_1015, ww_100, ⟨by decide, by decide, by decide⟩, by decide⟩
set_option maxHeartbeats 4000000 in
set_option maxRecDepth 100000 in
theorem c_X11_best (l : Launch) (G : Gx) (x1 : Int32) (x2 : Int32) (x3 : Int32) (σ : St) (r0 : Int32) (σ0 : St) (h : f_X11_best x1 x2 x3 σ = some (r0, σ0)) : MI l G yX11_best cX11_best 4 (some .int) 8 [.ref (ga G 0), .int x1, .int x2, .int x3] σ (some (.int r0)) σ0 := by
  refine MI_of RX11 rfl (by decide) [(0, .ref (ga G 0)), (1, .int x1), (2, .int x2), (3, .int x3)] rfl (Nat.le_of_ble_eq_true rfl) ?_
  intro X hXl C hR
  unfold f_X11_best at h
  have J_35 : ∀ (σ : St), f_X11_best_35 σ = some (r0, σ0) → V X G 4 0 0 σ 35 [(0, .ref (ga G 0))] [] := by
    intro σ h
    unfold f_X11_best_35 at h
    refine V_aload_n C (dt_at dt_X11_best_0 17 rfl) 0 rfl rfl ?_
    refine V_iconst C 1 (dt_at dt_X11_best_0 18 rfl) (by decide) ?_
    obtain ⟨r20, σ22, e21, h⟩ := bd2_s h
    refine cv_X11_error C ww_193 1 e21 (Nat.le_of_ble_eq_true rfl) (Nat.le_of_ble_eq_true rfl) z0 (dt_at dt_X11_best_0 19 rfl) ?_
    obtain ⟨e1_, e2_⟩ := pin2 h
    subst e1_; subst e2_
    exact V_iret C hR (dt_at dt_X11_best_0 20 rfl)
  refine V_iload_n C (dt_at dt_X11_best_0 0 rfl) 1 rfl rfl ?_
  refine V_iconst C 4 (dt_at dt_X11_best_0 1 rfl) (by decide) ?_
  obtain ⟨r1, e2, h⟩ := bd_s h
  refine cv_X11_isWithin C ww_186 x1 4 e2 (Nat.le_of_ble_eq_true rfl) (Nat.le_of_ble_eq_true rfl) z0 (dt_at dt_X11_best_0 2 rfl) ?_
  refine V_if_eq C 35 (dt_at dt_X11_best_0 3 rfl) (by decide) (fun q4 => ?_) (fun q4 => ?_)
  · have h := ite_t q4 h
    refine V_sub [0] (lv' := [(0, .ref (ga G 0))]) rfl ?_
    exact J_35 σ h
  · have h := ite_f q4 h
    refine V_aload_n C (dt_at dt_X11_best_0 4 rfl) 0 rfl rfl ?_
    refine g_X11_12_0 C (dt_at dt_X11_best_0 5 rfl) ?_
    refine V_iload_n C (dt_at dt_X11_best_0 6 rfl) 2 rfl rfl ?_
    obtain ⟨r5, e6, h⟩ := bd_s h
    refine cv_X4_isSet C ww_1010 x2 e6 (Nat.le_of_ble_eq_true rfl) (Nat.le_of_ble_eq_true rfl) z0 (dt_at dt_X11_best_0 7 rfl) ?_
    refine V_if_eq C 35 (dt_at dt_X11_best_0 8 rfl) (by decide) (fun q8 => ?_) (fun q8 => ?_)
    · have h := ite_t q8 h
      refine V_sub [0] (lv' := [(0, .ref (ga G 0))]) rfl ?_
      exact J_35 σ h
    · have h := ite_f q8 h
      refine V_iload_n C (dt_at dt_X11_best_0 9 rfl) 3 rfl rfl ?_
      refine V_iconst C (-1) (dt_at dt_X11_best_0 10 rfl) (by decide) ?_
      refine V_icmp_lt C 35 (dt_at dt_X11_best_0 11 rfl) (by decide) (fun q9 => ?_) (fun q9 => ?_)
      · have h := ite_t q9 h
        refine V_sub [0] (lv' := [(0, .ref (ga G 0))]) rfl ?_
        exact J_35 σ h
      · have h := ite_f q9 h
        refine V_iload_n C (dt_at dt_X11_best_0 12 rfl) 3 rfl rfl ?_
        refine V_aload_n C (dt_at dt_X11_best_0 13 rfl) 0 rfl rfl ?_
        refine g_X11_12_0 C (dt_at dt_X11_best_0 14 rfl) ?_
        refine g_X11_83_1 C (dt_at dt_X11_best_0 15 rfl) ?_
        refine V_icmp_lt C 41 (dt_at dt_X11_best_0 16 rfl) (by decide) (fun q10 => ?_) (fun q10 => ?_)
        · have h := ite_t q10 h
          refine V_aload_n C (dt_at dt_X11_best_0 21 rfl) 0 rfl rfl ?_
          refine g_X11_30_0 C (dt_at dt_X11_best_0 22 rfl) ?_
          refine V_iload_n C (dt_at dt_X11_best_0 23 rfl) 1 rfl rfl ?_
          refine V_iload_n C (dt_at dt_X11_best_0 24 rfl) 2 rfl rfl ?_
          obtain ⟨r11, σ13, e12, h⟩ := bd2_s h
          refine cv_X8_findBest C ww_1012 x1 x2 e12 (Nat.le_of_ble_eq_true rfl) (Nat.le_of_ble_eq_true rfl) z0 (dt_at dt_X11_best_0 25 rfl) ?_
          refine V_if_ne C 59 (dt_at dt_X11_best_0 26 rfl) (by decide) (fun q14 => ?_) (fun q14 => ?_)
          · have h := ite_f q14 h
            refine V_iload_n C (dt_at dt_X11_best_0 31 rfl) 3 rfl rfl ?_
            refine V_if_ge C 73 (dt_at dt_X11_best_0 32 rfl) (by decide) (fun q15 => ?_) (fun q15 => ?_)
            · have h := ite_f q15 h
              refine V_aload_n C (dt_at dt_X11_best_0 37 rfl) 0 rfl rfl ?_
              refine g_X11_30_0 C (dt_at dt_X11_best_0 38 rfl) ?_
              refine g_X11_281_4 C (dt_at dt_X11_best_0 39 rfl) ?_
              refine V_iload_n C (dt_at dt_X11_best_1 0 rfl) 3 rfl rfl ?_
              obtain ⟨h16, h⟩ := chk_s h
              refine al_39 C h16 (dt_at dt_X11_best_1 1 rfl) ?_
              obtain ⟨e1_, e2_⟩ := pin2 h
              subst e1_; subst e2_
              exact V_iret C hR (dt_at dt_X11_best_1 2 rfl)
            · have h := ite_t q15 h
              refine V_aload_n C (dt_at dt_X11_best_0 33 rfl) 0 rfl rfl ?_
              refine g_X11_30_0 C (dt_at dt_X11_best_0 34 rfl) ?_
              refine g_X11_278_4 C (dt_at dt_X11_best_0 35 rfl) ?_
              refine V_goto C 82 (dt_at dt_X11_best_0 36 rfl) (by decide) ?_
              obtain ⟨e1_, e2_⟩ := pin2 h
              subst e1_; subst e2_
              exact V_iret C hR (dt_at dt_X11_best_1 2 rfl)
          · have h := ite_t q14 h
            refine V_aload_n C (dt_at dt_X11_best_0 27 rfl) 0 rfl rfl ?_
            refine V_iconst C 2 (dt_at dt_X11_best_0 28 rfl) (by decide) ?_
            obtain ⟨r17, σ19, e18, h⟩ := bd2_s h
            refine cv_X11_error C ww_193 2 e18 (Nat.le_of_ble_eq_true rfl) (Nat.le_of_ble_eq_true rfl) z0 (dt_at dt_X11_best_0 29 rfl) ?_
            obtain ⟨e1_, e2_⟩ := pin2 h
            subst e1_; subst e2_
            exact V_iret C hR (dt_at dt_X11_best_0 30 rfl)
        · have h := ite_f q10 h
          refine V_sub [0] (lv' := [(0, .ref (ga G 0))]) rfl ?_
          exact J_35 σ h
theorem cv_X11_best (C : Ck X G cc own nL d) {idx : Nat} (hlk : Cond.methodLink own idx yX11_best ∈ gtb) (x1 : Int32) (x2 : Int32) (x3 : Int32) {r0 : Int32} {σ0 : St} (e : f_X11_best x1 x2 x3 σ = some (r0, σ0)) (hdd : 9 ≤ d) (hroom : (rest.map fun v => v.category).sum ≤ 8) (hcs : cells ≤ (xR X).cells ∧ slots ≤ (xR X).slots) (hd : decode cc pc = .ok (.invokevirtual idx, 3)) (k : V X G nL cells slots σ0 (pc + 3) lv (.int r0 :: rest)) : V X G nL cells slots σ pc lv (.int x3 :: .int x2 :: .int x1 :: .ref (ga G 0) :: rest) := V_callV C (As := [.int x1, .int x2, .int x3]) (c_X11_best X.2.1 G x1 x2 x3 σ r0 σ0 e) cal_X11_best ww_1016 ww_1017 hlk rfl hdd (lt110 rfl) rfl rfl rfl hroom hcs hd k
theorem dt_X8_countCastings_0 : dtab cX8_countCastings [(0, .aload_n 0, 1), (1, .getfield 51, 3), (4, .invokevirtual 112, 3), (7, .istore_n 2, 1), (8, .aload_n 0, 1), (9, .iload_n 1, 1), (10, .iconst 3, 1), (11, .invokevirtual 116, 3), (14, .aload_n 0, 1), (15, .getfield 55, 3), (18, .invokevirtual 59, 3), (21, .aload_n 0, 1), (22, .aload_n 0, 1), (23, .getfield 33, 3), (26, .iconst 0, 1), (27, .aaload, 1), (28, .putfield 36, 3), (31, .aload_n 0, 1), (32, .getfield 36, 3), (35, .iconst 0, 1), (36, .iload_n 2, 1), (37, .iconst 1, 1), (38, .iadd, 1), (39, .iconst 0, 1), (40, .invokestatic 136, 3), (43, .aload_n 0, 1), (44, .getfield 36, 3), (47, .iconst 0, 1), (48, .iconst 1, 1), (49, .iastore, 1), (50, .iconst 0, 1), (51, .istore_n 3, 1), (52, .iload_n 3, 1), (53, .aload_n 0, 1), (54, .getfield 21, 3), (57, .if_icmp .ge 34, 3), (60, .aload_n 0, 1), (61, .aload_n 0, 1), (62, .getfield 18, 3), (65, .iload_n 3, 1)] = true := by decide +kernel
theorem dt_X8_countCastings_1 : dtab cX8_countCastings [(66, .iaload, 1), (67, .invokevirtual 119, 3), (70, .aload_n 0, 1), (71, .aload_n 0, 1), (72, .getfield 33, 3), (75, .iload_n 3, 1), (76, .iconst 1, 1), (77, .iadd, 1), (78, .iconst 2, 1), (79, .irem, 1), (80, .aaload, 1), (81, .iload_n 2, 1), (82, .invokevirtual 157, 3), (85, .iinc 3 1, 3), (88, .goto (-36), 3), (91, .return_, 1)] = true := by decide +kernel
theorem cal_X8_countCastings : Cal yX8_countCastings cX8_countCastings 4 none 1 := ⟨ww_1019, ww_129, ⟨by decide, by decide, by decide⟩, by decide⟩
set_option maxHeartbeats 4000000 in
set_option maxRecDepth 100000 in
theorem c_X8_countCastings (l : Launch) (G : Gx) (x1 : Int32) (σ : St) (σ0 : St) (h : f_X8_countCastings x1 σ = some σ0) : MI l G yX8_countCastings cX8_countCastings 4 none 7 [.ref (ga G 4), .int x1] σ none σ0 := by
  refine MI_of RX8 rfl (by decide) [(0, .ref (ga G 4)), (1, .int x1)] rfl (Nat.le_of_ble_eq_true rfl) ?_
  intro X hXl C hR
  unfold f_X8_countCastings at h
  have J_52 : ∀ (x2 : Int32) (x3 : Int32) (σ : St), f_X8_countCastings_52 x2 x3 σ = some σ0 → V X G 4 0 0 σ 52 [(0, .ref (ga G 4)), (2, .int x2), (3, .int x3)] [] := by
    intro x2 x3 σ h
    refine it_v (P := fun z : Int32 × St => V X G 4 0 0 z.2 52 [(0, .ref (ga G 4)), (2, .int x2), (3, .int z.1)] []) ?_ (x3, σ) h
    clear h
    intro z w_52 h ih_52 ex_52
    obtain ⟨x3, σ⟩ := z
    have h : b_X8_countCastings_52 x2 x3 σ = some w_52 := h
    show V X G 4 0 0 σ 52 [(0, .ref (ga G 4)), (2, .int x2), (3, .int x3)] []
    unfold b_X8_countCastings_52 at h
    refine V_iload_n C (dt_at dt_X8_countCastings_0 32 rfl) 2 rfl rfl ?_
    refine V_aload_n C (dt_at dt_X8_countCastings_0 33 rfl) 0 rfl rfl ?_
    refine g_X8_21_4 C (dt_at dt_X8_countCastings_0 34 rfl) ?_
    refine V_icmp_ge C 91 (dt_at dt_X8_countCastings_0 35 rfl) (by decide) (fun q18 => ?_) (fun q18 => ?_)
    · have h := ite_f q18 h
      have e_52 := ex_52 _ (Option.some.inj h).symm
      subst e_52
      exact V_vret C hR (dt_at dt_X8_countCastings_1 15 rfl)
    · have h := ite_t q18 h
      refine V_aload_n C (dt_at dt_X8_countCastings_0 36 rfl) 0 rfl rfl ?_
      refine V_aload_n C (dt_at dt_X8_countCastings_0 37 rfl) 0 rfl rfl ?_
      refine g_X8_18_4 C (dt_at dt_X8_countCastings_0 38 rfl) ?_
      refine V_iload_n C (dt_at dt_X8_countCastings_0 39 rfl) 2 rfl rfl ?_
      obtain ⟨h19, h⟩ := chk_s h
      refine al_35 C h19 (dt_at dt_X8_countCastings_1 0 rfl) ?_
      obtain ⟨σ22, e21, h⟩ := bd_s h
      refine cv_X8_price C ww_169 (rd σ 35 x3) e21 (Nat.le_of_ble_eq_true rfl) (Nat.le_of_ble_eq_true rfl) z0 (dt_at dt_X8_countCastings_1 1 rfl) ?_
      refine V_aload_n C (dt_at dt_X8_countCastings_1 2 rfl) 0 rfl rfl ?_
      refine V_aload_n C (dt_at dt_X8_countCastings_1 3 rfl) 0 rfl rfl ?_
      refine g_X8_33_4 C (dt_at dt_X8_countCastings_1 4 rfl) ?_
      refine V_iload_n C (dt_at dt_X8_countCastings_1 5 rfl) 2 rfl rfl ?_
      refine V_iconst C 1 (dt_at dt_X8_countCastings_1 6 rfl) (by decide) ?_
      refine V_iadd C (dt_at dt_X8_countCastings_1 7 rfl) ?_
      refine V_iconst C 2 (dt_at dt_X8_countCastings_1 8 rfl) (by decide) ?_
      refine V_irem C (dt_at dt_X8_countCastings_1 9 rfl) (by decide) ?_
      obtain ⟨h23, h⟩ := chk_s h
      refine V_aa38 C h23 (dt_at dt_X8_countCastings_1 10 rfl) ?_
      have h24 : isLeast (46 + ((x3 + 1) - ((x3 + 1) / 2) * 2).toNatClampNeg) = true := ok_38 h23
      refine V_iload_n C (dt_at dt_X8_countCastings_1 11 rfl) 1 rfl rfl ?_
      obtain ⟨σ27, e26, h⟩ := bd_s h
      refine cv_X8_countWithOneMore C ww_1018 (46 + ((x3 + 1) - ((x3 + 1) / 2) * 2).toNatClampNeg) x2 e26 (Nat.le_of_ble_eq_true rfl) (Nat.le_of_ble_eq_true rfl) z0 (dt_at dt_X8_countCastings_1 12 rfl) ?_
      refine V_iinc C (x3 + 1) 2 [1, 2, 0] (lv' := [(0, .ref (ga G 4)), (2, .int x2), (3, .int (x3 + 1))]) (dt_at dt_X8_countCastings_1 13 rfl) rfl (by rfl) (by decide) rfl ?_
      refine V_goto C 52 (dt_at dt_X8_countCastings_1 14 rfl) (by decide) ?_
      exact ih_52 ((x3 + 1), σ27) (Option.some.inj h).symm
  refine V_aload_n C (dt_at dt_X8_countCastings_0 0 rfl) 0 rfl rfl ?_
  refine g_X8_51_4 C (dt_at dt_X8_countCastings_0 1 rfl) ?_
  obtain ⟨r1, e2, h⟩ := bd_s h
  refine cv_X4_allParts C ww_322  e2 (Nat.le_of_ble_eq_true rfl) (Nat.le_of_ble_eq_true rfl) z0 (dt_at dt_X8_countCastings_0 2 rfl) ?_
  refine V_istore_n C [1, 2, 0] (lv' := [(0, .ref (ga G 4)), (1, .int x1), (2, .int r1)]) (dt_at dt_X8_countCastings_0 3 rfl) rfl (by decide) rfl ?_
  refine V_aload_n C (dt_at dt_X8_countCastings_0 4 rfl) 0 rfl rfl ?_
  refine V_iload_n C (dt_at dt_X8_countCastings_0 5 rfl) 1 rfl rfl ?_
  refine V_iconst C 3 (dt_at dt_X8_countCastings_0 6 rfl) (by decide) ?_
  obtain ⟨σ6, e5, h⟩ := bd_s h
  refine cv_X8_gather C ww_1002 x1 3 e5 (Nat.le_of_ble_eq_true rfl) (Nat.le_of_ble_eq_true rfl) z0 (dt_at dt_X8_countCastings_0 7 rfl) ?_
  refine V_aload_n C (dt_at dt_X8_countCastings_0 8 rfl) 0 rfl rfl ?_
  refine g_X8_55_4 C (dt_at dt_X8_countCastings_0 9 rfl) ?_
  obtain ⟨σ9, e8, h⟩ := bd_s h
  refine cv_X10_findBarred C ww_1003  e8 (Nat.le_of_ble_eq_true rfl) (Nat.le_of_ble_eq_true rfl) z0 (dt_at dt_X8_countCastings_0 10 rfl) ?_
  refine V_aload_n C (dt_at dt_X8_countCastings_0 11 rfl) 0 rfl rfl ?_
  refine V_aload_n C (dt_at dt_X8_countCastings_0 12 rfl) 0 rfl rfl ?_
  refine g_X8_33_4 C (dt_at dt_X8_countCastings_0 13 rfl) ?_
  refine V_iconst C 0 (dt_at dt_X8_countCastings_0 14 rfl) (by decide) ?_
  refine V_aa38_0 C (dt_at dt_X8_countCastings_0 15 rfl) ?_
  obtain ⟨σ10, eσ10, h⟩ := nm_s h
  refine V_st eσ10 ?_ (fun k => p_X8_36_4 C (lt31 rfl) (dt_at dt_X8_countCastings_0 16 rfl) k)
  refine V_aload_n C (dt_at dt_X8_countCastings_0 17 rfl) 0 rfl rfl ?_
  refine g_X8_36_4 C (dt_at dt_X8_countCastings_0 18 rfl) ?_
  obtain ⟨h11, h⟩ := chk_s h
  refine V_iconst C 0 (dt_at dt_X8_countCastings_0 19 rfl) (by decide) ?_
  refine V_iload_n C (dt_at dt_X8_countCastings_0 20 rfl) 2 rfl rfl ?_
  refine V_iconst C 1 (dt_at dt_X8_countCastings_0 21 rfl) (by decide) ?_
  refine V_iadd C (dt_at dt_X8_countCastings_0 22 rfl) ?_
  refine V_iconst C 0 (dt_at dt_X8_countCastings_0 23 rfl) (by decide) ?_
  obtain ⟨σ14, e13, h⟩ := bd_s h
  refine cv_J7_fill_fda19 C ww_156 (rc σ10 4 9) 0 (r1 + 1) 0 e13 (Nat.le_of_ble_eq_true rfl) (Nat.le_of_ble_eq_true rfl) z0 (dt_at dt_X8_countCastings_0 24 rfl) ?_
  refine V_aload_n C (dt_at dt_X8_countCastings_0 25 rfl) 0 rfl rfl ?_
  refine g_X8_36_4 C (dt_at dt_X8_countCastings_0 26 rfl) ?_
  obtain ⟨h15, h⟩ := chk_s h
  refine V_iconst C 0 (dt_at dt_X8_countCastings_0 27 rfl) (by decide) ?_
  refine V_iconst C 1 (dt_at dt_X8_countCastings_0 28 rfl) (by decide) ?_
  obtain ⟨h17, h⟩ := chk_s h
  obtain ⟨σ16, eσ16, h⟩ := nm_s h
  refine V_st eσ16 ?_ (fun k => V_iast C (K := (rc σ14 4 9)) (isLeast_lt h15) (fun f => (lay_least G h15 f _)) h17 (dt_at dt_X8_countCastings_0 29 rfl) k)
  refine V_iconst C 0 (dt_at dt_X8_countCastings_0 30 rfl) (by decide) ?_
  refine V_istore_n C [1, 2, 3, 0] (lv' := [(0, .ref (ga G 4)), (1, .int x1), (2, .int r1), (3, .int 0)]) (dt_at dt_X8_countCastings_0 31 rfl) rfl (by decide) rfl ?_
  refine V_sub [0, 2, 3] (lv' := [(0, .ref (ga G 4)), (2, .int r1), (3, .int 0)]) rfl ?_
  exact J_52 r1 0 σ16 h
theorem cv_X8_countCastings (C : Ck X G cc own nL d) {idx : Nat} (hlk : Cond.methodLink own idx yX8_countCastings ∈ gtb) (x1 : Int32) {σ0 : St} (e : f_X8_countCastings x1 σ = some σ0) (hdd : 8 ≤ d) (hroom : (rest.map fun v => v.category).sum ≤ 8) (hcs : cells ≤ (xR X).cells ∧ slots ≤ (xR X).slots) (hd : decode cc pc = .ok (.invokevirtual idx, 3)) (k : V X G nL cells slots σ0 (pc + 3) lv (rest)) : V X G nL cells slots σ pc lv (.int x1 :: .ref (ga G 4) :: rest) := V_callV C (As := [.int x1]) (c_X8_countCastings X.2.1 G x1 σ σ0 e) cal_X8_countCastings ww_1020 ww_1021 hlk rfl hdd (lt110 rfl) rfl rfl rfl hroom hcs hd k
theorem dt_X11_castings_0 : dtab cX11_castings [(0, .aload_n 0, 1), (1, .getfield 12, 3), (4, .iload_n 1, 1), (5, .invokevirtual 272, 3), (8, .ifCond .ne 10, 3), (11, .aload_n 0, 1), (12, .iconst 1, 1), (13, .invokevirtual 68, 3), (16, .i2l, 1), (17, .lreturn, 1), (18, .aload_n 0, 1), (19, .getfield 30, 3), (22, .iload_n 1, 1), (23, .invokevirtual 284, 3), (26, .aload_n 0, 1), (27, .getfield 30, 3), (30, .getfield 287, 3), (33, .aload_n 0, 1), (34, .getfield 12, 3), (37, .invokevirtual 290, 3), (40, .iaload, 1), (41, .i2l, 1), (42, .lreturn, 1)] = true := by decide +kernel
theorem cal_X11_castings : Cal yX11_castings cX11_castings 2 (some .long) 1 := ⟨ww_1025, ww_100, ⟨by decide, by decide, by decide⟩, by decide⟩
set_option maxHeartbeats 4000000 in
set_option maxRecDepth 100000 in
theorem c_X11_castings (l : Launch) (G : Gx) (x1 : Int32) (σ : St) (r0 : Int64) (σ0 : St) (h : f_X11_castings x1 σ = some (r0, σ0)) : MI l G yX11_castings cX11_castings 2 (some .long) 8 [.ref (ga G 0), .int x1] σ (some (.long r0)) σ0 := by
  refine MI_of RX11 rfl (by decide) [(0, .ref (ga G 0)), (1, .int x1)] rfl (Nat.le_of_ble_eq_true rfl) ?_
  intro X hXl C hR
  unfold f_X11_castings at h
  refine V_aload_n C (dt_at dt_X11_castings_0 0 rfl) 0 rfl rfl ?_
  refine g_X11_12_0 C (dt_at dt_X11_castings_0 1 rfl) ?_
  refine V_iload_n C (dt_at dt_X11_castings_0 2 rfl) 1 rfl rfl ?_
  obtain ⟨r1, e2, h⟩ := bd_s h
  refine cv_X4_isSet C ww_1010 x1 e2 (Nat.le_of_ble_eq_true rfl) (Nat.le_of_ble_eq_true rfl) z0 (dt_at dt_X11_castings_0 3 rfl) ?_
  refine V_if_ne C 18 (dt_at dt_X11_castings_0 4 rfl) (by decide) (fun q4 => ?_) (fun q4 => ?_)
  · have h := ite_f q4 h
    refine V_aload_n C (dt_at dt_X11_castings_0 10 rfl) 0 rfl rfl ?_
    refine g_X11_30_0 C (dt_at dt_X11_castings_0 11 rfl) ?_
    refine V_iload_n C (dt_at dt_X11_castings_0 12 rfl) 1 rfl rfl ?_
    obtain ⟨σ7, e6, h⟩ := bd_s h
    refine cv_X8_countCastings C ww_1022 x1 e6 (Nat.le_of_ble_eq_true rfl) (Nat.le_of_ble_eq_true rfl) z0 (dt_at dt_X11_castings_0 13 rfl) ?_
    refine V_aload_n C (dt_at dt_X11_castings_0 14 rfl) 0 rfl rfl ?_
    refine g_X11_30_0 C (dt_at dt_X11_castings_0 15 rfl) ?_
    refine g_X11_287_4 C (dt_at dt_X11_castings_0 16 rfl) ?_
    obtain ⟨h8, h⟩ := chk_s h
    refine V_aload_n C (dt_at dt_X11_castings_0 17 rfl) 0 rfl rfl ?_
    refine g_X11_12_0 C (dt_at dt_X11_castings_0 18 rfl) ?_
    obtain ⟨r9, e10, h⟩ := bd_s h
    refine cv_X4_allParts C ww_1024  e10 (Nat.le_of_ble_eq_true rfl) (Nat.le_of_ble_eq_true rfl) z0 (dt_at dt_X11_castings_0 19 rfl) ?_
    obtain ⟨h12, h⟩ := chk_s h
    refine V_iald C (K := (rc σ7 4 9)) (isLeast_lt h8) (lay_least G h8 (_) _) h12 (dt_at dt_X11_castings_0 20 rfl) ?_
    refine V_i2l C (dt_at dt_X11_castings_0 21 rfl) ?_
    obtain ⟨e1_, e2_⟩ := pin2 h
    subst e1_; subst e2_
    exact V_lret C hR (dt_at dt_X11_castings_0 22 rfl)
  · have h := ite_t q4 h
    refine V_aload_n C (dt_at dt_X11_castings_0 5 rfl) 0 rfl rfl ?_
    refine V_iconst C 1 (dt_at dt_X11_castings_0 6 rfl) (by decide) ?_
    obtain ⟨r13, σ15, e14, h⟩ := bd2_s h
    refine cv_X11_error C ww_193 1 e14 (Nat.le_of_ble_eq_true rfl) (Nat.le_of_ble_eq_true rfl) z0 (dt_at dt_X11_castings_0 7 rfl) ?_
    refine V_i2l C (dt_at dt_X11_castings_0 8 rfl) ?_
    obtain ⟨e1_, e2_⟩ := pin2 h
    subst e1_; subst e2_
    exact V_lret C hR (dt_at dt_X11_castings_0 9 rfl)
theorem cv_X11_castings (C : Ck X G cc own nL d) {idx : Nat} (hlk : Cond.methodLink own idx yX11_castings ∈ gtb) (x1 : Int32) {r0 : Int64} {σ0 : St} (e : f_X11_castings x1 σ = some (r0, σ0)) (hdd : 9 ≤ d) (hroom : (rest.map fun v => v.category).sum ≤ 8) (hcs : cells ≤ (xR X).cells ∧ slots ≤ (xR X).slots) (hd : decode cc pc = .ok (.invokevirtual idx, 3)) (k : V X G nL cells slots σ0 (pc + 3) lv (.long r0 :: rest)) : V X G nL cells slots σ pc lv (.int x1 :: .ref (ga G 0) :: rest) := V_callV C (As := [.int x1]) (c_X11_castings X.2.1 G x1 σ r0 σ0 e) cal_X11_castings ww_1026 ww_1027 hlk rfl hdd (lt110 rfl) rfl rfl rfl hroom hcs hd k
theorem dt_X11_check_0 : dtab cX11_check [(0, .aload_n 0, 1), (1, .getfield 12, 3), (4, .getfield 336, 3), (7, .getfield 189, 3), (10, .istore_n 2, 1), (11, .aload_n 0, 1), (12, .getfield 12, 3), (15, .getfield 336, 3), (18, .iconst 0, 1), (19, .putfield 189, 3), (22, .iload_n 1, 1), (23, .iconst 4, 1), (24, .invokestatic 79, 3), (27, .ifCond .ne 9, 3), (30, .aload_n 0, 1), (31, .iconst 1, 1), (32, .invokevirtual 68, 3), (35, .ireturn, 1), (36, .aload_n 0, 1), (37, .getfield 30, 3), (40, .iload_n 1, 1), (41, .aload_n 0, 1), (42, .getfield 12, 3), (45, .invokevirtual 339, 3), (48, .invokevirtual 275, 3), (51, .ifCond .ne 9, 3), (54, .aload_n 0, 1), (55, .iconst 2, 1), (56, .invokevirtual 68, 3), (59, .ireturn, 1), (60, .iconst 0, 1), (61, .istore_n 3, 1), (62, .iload_n 3, 1), (63, .iload_n 2, 1), (64, .if_icmp .ge 48, 3), (67, .iload_n 3, 1), (68, .aload_n 0, 1), (69, .getfield 12, 3), (72, .getfield 83, 3), (75, .if_icmp .ge 27, 3)] = true := by decide +kernel
theorem dt_X11_check_1 : dtab cX11_check [(78, .aload_n 0, 1), (79, .getfield 12, 3), (82, .getfield 336, 3), (85, .getfield 239, 3), (88, .iload_n 3, 1), (89, .iaload, 1), (90, .aload_n 0, 1), (91, .getfield 30, 3), (94, .getfield 281, 3), (97, .iload_n 3, 1), (98, .iaload, 1), (99, .if_icmp .eq 7, 3), (102, .iconst 1, 1), (103, .iload_n 3, 1), (104, .iadd, 1), (105, .ireturn, 1), (106, .iinc 3 1, 3), (109, .goto (-47), 3), (112, .iconst 0, 1), (113, .ireturn, 1)] = true := by decide +kernel
theorem cal_X11_check : Cal yX11_check cX11_check 4 (some .int) 1 := ⟨ww_1029, ww_100, ⟨by decide, by decide, by decide⟩, by decide⟩
set_option maxHeartbeats 4000000 in
set_option maxRecDepth 100000 in
theorem c_X11_check (l : Launch) (G : Gx) (x1 : Int32) (σ : St) (r0 : Int32) (σ0 : St) (h : f_X11_check x1 σ = some (r0, σ0)) : MI l G yX11_check cX11_check 4 (some .int) 8 [.ref (ga G 0), .int x1] σ (some (.int r0)) σ0 := by
  refine MI_of RX11 rfl (by decide) [(0, .ref (ga G 0)), (1, .int x1)] rfl (Nat.le_of_ble_eq_true rfl) ?_
  intro X hXl C hR
  unfold f_X11_check at h
  have J_62 : ∀ (x2 : Int32) (x3 : Int32) (σ : St), f_X11_check_62 x2 x3 σ = some (r0, σ0) → V X G 4 0 0 σ 62 [(0, .ref (ga G 0)), (2, .int x2), (3, .int x3)] [] := by
    intro x2 x3 σ h
    refine it_v (P := fun z : Int32 => V X G 4 0 0 σ 62 [(0, .ref (ga G 0)), (2, .int x2), (3, .int z)] []) ?_ x3 h
    clear h
    intro z w_62 h ih_62 ex_62
    revert h; revert z; intro x3 h
    have h : b_X11_check_62 x2 x3 σ = some w_62 := h
    show V X G 4 0 0 σ 62 [(0, .ref (ga G 0)), (2, .int x2), (3, .int x3)] []
    unfold b_X11_check_62 at h
    refine V_iload_n C (dt_at dt_X11_check_0 32 rfl) 2 rfl rfl ?_
    refine V_iload_n C (dt_at dt_X11_check_0 33 rfl) 1 rfl rfl ?_
    refine V_icmp_ge C 112 (dt_at dt_X11_check_0 34 rfl) (by decide) (fun q19 => ?_) (fun q19 => ?_)
    · have h := ite_f q19 h
      refine V_iconst C 0 (dt_at dt_X11_check_1 18 rfl) (by decide) ?_
      have e_62 := ex_62 _ (Option.some.inj h).symm
      obtain ⟨e1_, e2_⟩ := Prod.mk.inj e_62
      subst e1_; subst e2_
      exact V_iret C hR (dt_at dt_X11_check_1 19 rfl)
    · have h := ite_t q19 h
      refine V_iload_n C (dt_at dt_X11_check_0 35 rfl) 2 rfl rfl ?_
      refine V_aload_n C (dt_at dt_X11_check_0 36 rfl) 0 rfl rfl ?_
      refine g_X11_12_0 C (dt_at dt_X11_check_0 37 rfl) ?_
      refine g_X11_83_1 C (dt_at dt_X11_check_0 38 rfl) ?_
      refine V_icmp_ge C 102 (dt_at dt_X11_check_0 39 rfl) (by decide) (fun q20 => ?_) (fun q20 => ?_)
      · have h := ite_f q20 h
        refine V_iconst C 1 (dt_at dt_X11_check_1 12 rfl) (by decide) ?_
        refine V_iload_n C (dt_at dt_X11_check_1 13 rfl) 2 rfl rfl ?_
        refine V_iadd C (dt_at dt_X11_check_1 14 rfl) ?_
        have e_62 := ex_62 _ (Option.some.inj h).symm
        obtain ⟨e1_, e2_⟩ := Prod.mk.inj e_62
        subst e1_; subst e2_
        exact V_iret C hR (dt_at dt_X11_check_1 15 rfl)
      · have h := ite_t q20 h
        refine V_aload_n C (dt_at dt_X11_check_1 0 rfl) 0 rfl rfl ?_
        refine g_X11_12_0 C (dt_at dt_X11_check_1 1 rfl) ?_
        refine g_X11_336_1 C (dt_at dt_X11_check_1 2 rfl) ?_
        refine g_X11_239_54 C (dt_at dt_X11_check_1 3 rfl) ?_
        refine V_iload_n C (dt_at dt_X11_check_1 4 rfl) 2 rfl rfl ?_
        obtain ⟨h21, h⟩ := chk_s h
        refine al_55 C h21 (dt_at dt_X11_check_1 5 rfl) ?_
        refine V_aload_n C (dt_at dt_X11_check_1 6 rfl) 0 rfl rfl ?_
        refine g_X11_30_0 C (dt_at dt_X11_check_1 7 rfl) ?_
        refine g_X11_281_4 C (dt_at dt_X11_check_1 8 rfl) ?_
        refine V_iload_n C (dt_at dt_X11_check_1 9 rfl) 2 rfl rfl ?_
        obtain ⟨h22, h⟩ := chk_s h
        refine al_39 C h22 (dt_at dt_X11_check_1 10 rfl) ?_
        refine V_icmp_eq C 106 (dt_at dt_X11_check_1 11 rfl) (by decide) (fun q23 => ?_) (fun q23 => ?_)
        · have h := ite_t q23 h
          refine V_iinc C (x3 + 1) 2 [1, 2, 0] (lv' := [(0, .ref (ga G 0)), (2, .int x2), (3, .int (x3 + 1))]) (dt_at dt_X11_check_1 16 rfl) rfl (by rfl) (by decide) rfl ?_
          refine V_goto C 62 (dt_at dt_X11_check_1 17 rfl) (by decide) ?_
          exact ih_62 (x3 + 1) (Option.some.inj h).symm
        · have h := ite_f q23 h
          refine V_iconst C 1 (dt_at dt_X11_check_1 12 rfl) (by decide) ?_
          refine V_iload_n C (dt_at dt_X11_check_1 13 rfl) 2 rfl rfl ?_
          refine V_iadd C (dt_at dt_X11_check_1 14 rfl) ?_
          have e_62 := ex_62 _ (Option.some.inj h).symm
          obtain ⟨e1_, e2_⟩ := Prod.mk.inj e_62
          subst e1_; subst e2_
          exact V_iret C hR (dt_at dt_X11_check_1 15 rfl)
  refine V_aload_n C (dt_at dt_X11_check_0 0 rfl) 0 rfl rfl ?_
  refine g_X11_12_0 C (dt_at dt_X11_check_0 1 rfl) ?_
  refine g_X11_336_1 C (dt_at dt_X11_check_0 2 rfl) ?_
  refine g_X11_189_54 C (dt_at dt_X11_check_0 3 rfl) ?_
  refine V_istore_n C [1, 2, 0] (lv' := [(0, .ref (ga G 0)), (1, .int x1), (2, .int (fd σ 54 1))]) (dt_at dt_X11_check_0 4 rfl) rfl (by decide) rfl ?_
  refine V_aload_n C (dt_at dt_X11_check_0 5 rfl) 0 rfl rfl ?_
  refine g_X11_12_0 C (dt_at dt_X11_check_0 6 rfl) ?_
  refine g_X11_336_1 C (dt_at dt_X11_check_0 7 rfl) ?_
  refine V_iconst C 0 (dt_at dt_X11_check_0 8 rfl) (by decide) ?_
  obtain ⟨σ1, eσ1, h⟩ := nm_s h
  refine V_st eσ1 ?_ (fun k => p_X11_189_54 C (dt_at dt_X11_check_0 9 rfl) k)
  refine V_iload_n C (dt_at dt_X11_check_0 10 rfl) 1 rfl rfl ?_
  refine V_iconst C 4 (dt_at dt_X11_check_0 11 rfl) (by decide) ?_
  obtain ⟨r2, e3, h⟩ := bd_s h
  refine cv_X11_isWithin C ww_186 x1 4 e3 (Nat.le_of_ble_eq_true rfl) (Nat.le_of_ble_eq_true rfl) z0 (dt_at dt_X11_check_0 12 rfl) ?_
  refine V_if_ne C 36 (dt_at dt_X11_check_0 13 rfl) (by decide) (fun q5 => ?_) (fun q5 => ?_)
  · have h := ite_f q5 h
    refine V_aload_n C (dt_at dt_X11_check_0 18 rfl) 0 rfl rfl ?_
    refine g_X11_30_0 C (dt_at dt_X11_check_0 19 rfl) ?_
    refine V_iload_n C (dt_at dt_X11_check_0 20 rfl) 1 rfl rfl ?_
    refine V_aload_n C (dt_at dt_X11_check_0 21 rfl) 0 rfl rfl ?_
    refine g_X11_12_0 C (dt_at dt_X11_check_0 22 rfl) ?_
    obtain ⟨r6, e7, h⟩ := bd_s h
    refine cv_X4_allPlayers C ww_1028  e7 (Nat.le_of_ble_eq_true rfl) (Nat.le_of_ble_eq_true rfl) z0 (dt_at dt_X11_check_0 23 rfl) ?_
    obtain ⟨r9, σ11, e10, h⟩ := bd2_s h
    refine cv_X8_findBest C ww_1012 x1 r6 e10 (Nat.le_of_ble_eq_true rfl) (Nat.le_of_ble_eq_true rfl) z0 (dt_at dt_X11_check_0 24 rfl) ?_
    refine V_if_ne C 60 (dt_at dt_X11_check_0 25 rfl) (by decide) (fun q12 => ?_) (fun q12 => ?_)
    · have h := ite_f q12 h
      refine V_iconst C 0 (dt_at dt_X11_check_0 30 rfl) (by decide) ?_
      refine V_istore_n C [1, 2, 3, 0] (lv' := [(0, .ref (ga G 0)), (1, .int x1), (2, .int (fd σ 54 1)), (3, .int 0)]) (dt_at dt_X11_check_0 31 rfl) rfl (by decide) rfl ?_
      refine V_sub [0, 2, 3] (lv' := [(0, .ref (ga G 0)), (2, .int (fd σ 54 1)), (3, .int 0)]) rfl ?_
      exact J_62 (fd σ 54 1) 0 σ11 h
    · have h := ite_t q12 h
      refine V_aload_n C (dt_at dt_X11_check_0 26 rfl) 0 rfl rfl ?_
      refine V_iconst C 2 (dt_at dt_X11_check_0 27 rfl) (by decide) ?_
      obtain ⟨r13, σ15, e14, h⟩ := bd2_s h
      refine cv_X11_error C ww_193 2 e14 (Nat.le_of_ble_eq_true rfl) (Nat.le_of_ble_eq_true rfl) z0 (dt_at dt_X11_check_0 28 rfl) ?_
      obtain ⟨e1_, e2_⟩ := pin2 h
      subst e1_; subst e2_
      exact V_iret C hR (dt_at dt_X11_check_0 29 rfl)
  · have h := ite_t q5 h
    refine V_aload_n C (dt_at dt_X11_check_0 14 rfl) 0 rfl rfl ?_
    refine V_iconst C 1 (dt_at dt_X11_check_0 15 rfl) (by decide) ?_
    obtain ⟨r16, σ18, e17, h⟩ := bd2_s h
    refine cv_X11_error C ww_193 1 e17 (Nat.le_of_ble_eq_true rfl) (Nat.le_of_ble_eq_true rfl) z0 (dt_at dt_X11_check_0 16 rfl) ?_
    obtain ⟨e1_, e2_⟩ := pin2 h
    subst e1_; subst e2_
    exact V_iret C hR (dt_at dt_X11_check_0 17 rfl)
theorem cv_X11_check (C : Ck X G cc own nL d) {idx : Nat} (hlk : Cond.methodLink own idx yX11_check ∈ gtb) (x1 : Int32) {r0 : Int32} {σ0 : St} (e : f_X11_check x1 σ = some (r0, σ0)) (hdd : 9 ≤ d) (hroom : (rest.map fun v => v.category).sum ≤ 8) (hcs : cells ≤ (xR X).cells ∧ slots ≤ (xR X).slots) (hd : decode cc pc = .ok (.invokevirtual idx, 3)) (k : V X G nL cells slots σ0 (pc + 3) lv (.int r0 :: rest)) : V X G nL cells slots σ pc lv (.int x1 :: .ref (ga G 0) :: rest) := V_callV C (As := [.int x1]) (c_X11_check X.2.1 G x1 σ r0 σ0 e) cal_X11_check ww_1030 ww_1031 hlk rfl hdd (lt110 rfl) rfl rfl rfl hroom hcs hd k
theorem dt_X11_leave_0 : dtab cX11_leave [(0, .aload_n 0, 1), (1, .getfield 12, 3), (4, .iload_n 1, 1), (5, .invokevirtual 272, 3), (8, .ifCond .eq 11, 3), (11, .iload_n 2, 1), (12, .iconst 2, 1), (13, .invokestatic 79, 3), (16, .ifCond .ne 9, 3), (19, .aload_n 0, 1), (20, .iconst 1, 1), (21, .invokevirtual 68, 3), (24, .ireturn, 1), (25, .aload_n 0, 1), (26, .getfield 30, 3), (29, .iload_n 1, 1), (30, .invokevirtual 284, 3), (33, .aload_n 0, 1), (34, .getfield 30, 3), (37, .invokevirtual 293, 3), (40, .istore_n 3, 1), (41, .iload_n 2, 1), (42, .ifCond .ne 14, 3), (45, .aload_n 0, 1), (46, .getfield 12, 3), (49, .iload_n 3, 1), (50, .invokevirtual 296, 3), (53, .goto 4, 3), (56, .iload_n 3, 1), (57, .ireturn, 1)] = true := by decide +kernel
theorem cal_X11_leave : Cal yX11_leave cX11_leave 4 (some .int) 2 := ⟨ww_1034, ww_100, ⟨by decide, by decide, by decide⟩, by decide⟩
set_option maxHeartbeats 4000000 in
set_option maxRecDepth 100000 in
theorem c_X11_leave (l : Launch) (G : Gx) (x1 : Int32) (x2 : Int32) (σ : St) (r0 : Int32) (σ0 : St) (h : f_X11_leave x1 x2 σ = some (r0, σ0)) : MI l G yX11_leave cX11_leave 4 (some .int) 8 [.ref (ga G 0), .int x1, .int x2] σ (some (.int r0)) σ0 := by
  refine MI_of RX11 rfl (by decide) [(0, .ref (ga G 0)), (1, .int x1), (2, .int x2)] rfl (Nat.le_of_ble_eq_true rfl) ?_
  intro X hXl C hR
  unfold f_X11_leave at h
  have J_19 : ∀ (σ : St), f_X11_leave_19 σ = some (r0, σ0) → V X G 4 0 0 σ 19 [(0, .ref (ga G 0))] [] := by
    intro σ h
    unfold f_X11_leave_19 at h
    refine V_aload_n C (dt_at dt_X11_leave_0 9 rfl) 0 rfl rfl ?_
    refine V_iconst C 1 (dt_at dt_X11_leave_0 10 rfl) (by decide) ?_
    obtain ⟨r19, σ21, e20, h⟩ := bd2_s h
    refine cv_X11_error C ww_193 1 e20 (Nat.le_of_ble_eq_true rfl) (Nat.le_of_ble_eq_true rfl) z0 (dt_at dt_X11_leave_0 11 rfl) ?_
    obtain ⟨e1_, e2_⟩ := pin2 h
    subst e1_; subst e2_
    exact V_iret C hR (dt_at dt_X11_leave_0 12 rfl)
  refine V_aload_n C (dt_at dt_X11_leave_0 0 rfl) 0 rfl rfl ?_
  refine g_X11_12_0 C (dt_at dt_X11_leave_0 1 rfl) ?_
  refine V_iload_n C (dt_at dt_X11_leave_0 2 rfl) 1 rfl rfl ?_
  obtain ⟨r1, e2, h⟩ := bd_s h
  refine cv_X4_isSet C ww_1010 x1 e2 (Nat.le_of_ble_eq_true rfl) (Nat.le_of_ble_eq_true rfl) z0 (dt_at dt_X11_leave_0 3 rfl) ?_
  refine V_if_eq C 19 (dt_at dt_X11_leave_0 4 rfl) (by decide) (fun q4 => ?_) (fun q4 => ?_)
  · have h := ite_t q4 h
    refine V_sub [0] (lv' := [(0, .ref (ga G 0))]) rfl ?_
    exact J_19 σ h
  · have h := ite_f q4 h
    refine V_iload_n C (dt_at dt_X11_leave_0 5 rfl) 2 rfl rfl ?_
    refine V_iconst C 2 (dt_at dt_X11_leave_0 6 rfl) (by decide) ?_
    obtain ⟨r5, e6, h⟩ := bd_s h
    refine cv_X11_isWithin C ww_186 x2 2 e6 (Nat.le_of_ble_eq_true rfl) (Nat.le_of_ble_eq_true rfl) z0 (dt_at dt_X11_leave_0 7 rfl) ?_
    refine V_if_ne C 25 (dt_at dt_X11_leave_0 8 rfl) (by decide) (fun q8 => ?_) (fun q8 => ?_)
    · have h := ite_f q8 h
      refine V_aload_n C (dt_at dt_X11_leave_0 13 rfl) 0 rfl rfl ?_
      refine g_X11_30_0 C (dt_at dt_X11_leave_0 14 rfl) ?_
      refine V_iload_n C (dt_at dt_X11_leave_0 15 rfl) 1 rfl rfl ?_
      obtain ⟨σ11, e10, h⟩ := bd_s h
      refine cv_X8_countCastings C ww_1022 x1 e10 (Nat.le_of_ble_eq_true rfl) (Nat.le_of_ble_eq_true rfl) z0 (dt_at dt_X11_leave_0 16 rfl) ?_
      refine V_aload_n C (dt_at dt_X11_leave_0 17 rfl) 0 rfl rfl ?_
      refine g_X11_30_0 C (dt_at dt_X11_leave_0 18 rfl) ?_
      obtain ⟨r12, σ14, e13, h⟩ := bd2_s h
      refine cv_X8_leftOut C ww_1032  e13 (Nat.le_of_ble_eq_true rfl) (Nat.le_of_ble_eq_true rfl) z0 (dt_at dt_X11_leave_0 19 rfl) ?_
      refine V_istore_n C [1, 2, 3, 0] (lv' := [(0, .ref (ga G 0)), (1, .int x1), (2, .int x2), (3, .int r12)]) (dt_at dt_X11_leave_0 20 rfl) rfl (by decide) rfl ?_
      refine V_iload_n C (dt_at dt_X11_leave_0 21 rfl) 2 rfl rfl ?_
      refine V_if_ne C 56 (dt_at dt_X11_leave_0 22 rfl) (by decide) (fun q15 => ?_) (fun q15 => ?_)
      · have h := ite_f q15 h
        refine V_iload_n C (dt_at dt_X11_leave_0 28 rfl) 3 rfl rfl ?_
        obtain ⟨e1_, e2_⟩ := pin2 h
        subst e1_; subst e2_
        exact V_iret C hR (dt_at dt_X11_leave_0 29 rfl)
      · have h := ite_t q15 h
        refine V_aload_n C (dt_at dt_X11_leave_0 23 rfl) 0 rfl rfl ?_
        refine g_X11_12_0 C (dt_at dt_X11_leave_0 24 rfl) ?_
        refine V_iload_n C (dt_at dt_X11_leave_0 25 rfl) 3 rfl rfl ?_
        obtain ⟨r16, e17, h⟩ := bd_s h
        refine cv_X4_weightOfSet C ww_1033 r12 e17 (Nat.le_of_ble_eq_true rfl) (Nat.le_of_ble_eq_true rfl) z0 (dt_at dt_X11_leave_0 26 rfl) ?_
        refine V_goto C 57 (dt_at dt_X11_leave_0 27 rfl) (by decide) ?_
        obtain ⟨e1_, e2_⟩ := pin2 h
        subst e1_; subst e2_
        exact V_iret C hR (dt_at dt_X11_leave_0 29 rfl)
    · have h := ite_t q8 h
      refine V_sub [0] (lv' := [(0, .ref (ga G 0))]) rfl ?_
      exact J_19 σ h
theorem cv_X11_leave (C : Ck X G cc own nL d) {idx : Nat} (hlk : Cond.methodLink own idx yX11_leave ∈ gtb) (x1 : Int32) (x2 : Int32) {r0 : Int32} {σ0 : St} (e : f_X11_leave x1 x2 σ = some (r0, σ0)) (hdd : 9 ≤ d) (hroom : (rest.map fun v => v.category).sum ≤ 8) (hcs : cells ≤ (xR X).cells ∧ slots ≤ (xR X).slots) (hd : decode cc pc = .ok (.invokevirtual idx, 3)) (k : V X G nL cells slots σ0 (pc + 3) lv (.int r0 :: rest)) : V X G nL cells slots σ pc lv (.int x2 :: .int x1 :: .ref (ga G 0) :: rest) := V_callV C (As := [.int x1, .int x2]) (c_X11_leave X.2.1 G x1 x2 σ r0 σ0 e) cal_X11_leave ww_1035 ww_1036 hlk rfl hdd (lt110 rfl) rfl rfl rfl hroom hcs hd k
theorem dt_X11_never_0 : dtab cX11_never [(0, .aload_n 0, 1), (1, .getfield 12, 3), (4, .iload_n 1, 1), (5, .invokevirtual 272, 3), (8, .ifCond .eq 22, 3), (11, .aload_n 0, 1), (12, .getfield 12, 3), (15, .iload_n 2, 1), (16, .invokevirtual 171, 3), (19, .ifCond .eq 11, 3), (22, .iload_n 3, 1), (23, .iconst 2, 1), (24, .invokestatic 79, 3), (27, .ifCond .ne 9, 3), (30, .aload_n 0, 1), (31, .iconst 1, 1), (32, .invokevirtual 68, 3), (35, .ireturn, 1), (36, .iconst 1, 1), (37, .iload_n 2, 1), (38, .ishl, 1), (39, .istore 4, 2), (41, .aload_n 0, 1), (42, .getfield 30, 3), (45, .iload_n 1, 1), (46, .iload 4, 2), (48, .iconst (-1), 1), (49, .ixor, 1), (50, .iand, 1), (51, .invokevirtual 284, 3), (54, .aload_n 0, 1), (55, .getfield 30, 3), (58, .iload_n 2, 1), (59, .iload_n 1, 1), (60, .iload 4, 2), (62, .iand, 1), (63, .ifCond .eq 7, 3), (66, .iconst 1, 1), (67, .goto 4, 3), (70, .iconst 0, 1)] = true := by decide +kernel
theorem dt_X11_never_1 : dtab cX11_never [(71, .invokevirtual 299, 3), (74, .ifCond .ne 9, 3), (77, .aload_n 0, 1), (78, .iconst 2, 1), (79, .invokevirtual 68, 3), (82, .ireturn, 1), (83, .iload_n 3, 1), (84, .ifCond .ne 23, 3), (87, .aload_n 0, 1), (88, .getfield 12, 3), (91, .invokevirtual 290, 3), (94, .aload_n 0, 1), (95, .getfield 30, 3), (98, .getfield 303, 3), (101, .iconst (-1), 1), (102, .ixor, 1), (103, .iand, 1), (104, .goto 10, 3), (107, .aload_n 0, 1), (108, .getfield 30, 3), (111, .getfield 306, 3), (114, .ireturn, 1)] = true := by decide +kernel
theorem cal_X11_never : Cal yX11_never cX11_never 5 (some .int) 3 := ⟨ww_1040, ww_100, ⟨by decide, by decide, by decide⟩, by decide⟩
set_option maxHeartbeats 4000000 in
set_option maxRecDepth 100000 in
theorem c_X11_never (l : Launch) (G : Gx) (x1 : Int32) (x2 : Int32) (x3 : Int32) (σ : St) (r0 : Int32) (σ0 : St) (h : f_X11_never x1 x2 x3 σ = some (r0, σ0)) : MI l G yX11_never cX11_never 5 (some .int) 8 [.ref (ga G 0), .int x1, .int x2, .int x3] σ (some (.int r0)) σ0 := by
  refine MI_of RX11 rfl (by decide) [(0, .ref (ga G 0)), (1, .int x1), (2, .int x2), (3, .int x3)] rfl (Nat.le_of_ble_eq_true rfl) ?_
  intro X hXl C hR
  unfold f_X11_never at h
  have J_71 : ∀ (s0 : Int32) (s1 : Int32) (σ : St), f_X11_never_71 x3 s0 s1 σ = some (r0, σ0) → V X G 5 0 0 σ 71 [(0, .ref (ga G 0)), (3, .int x3)] [.int s0, .int s1, .ref (ga G 4)] := by
    intro s0 s1 σ h
    unfold f_X11_never_71 at h
    obtain ⟨r20, σ22, e21, h⟩ := bd2_s h
    refine cv_X8_findShares C ww_1037 s1 s0 e21 (Nat.le_of_ble_eq_true rfl) (Nat.le_of_ble_eq_true rfl) z0 (dt_at dt_X11_never_1 0 rfl) ?_
    refine V_if_ne C 83 (dt_at dt_X11_never_1 1 rfl) (by decide) (fun q23 => ?_) (fun q23 => ?_)
    · have h := ite_f q23 h
      refine V_iload_n C (dt_at dt_X11_never_1 6 rfl) 1 rfl rfl ?_
      refine V_if_ne C 107 (dt_at dt_X11_never_1 7 rfl) (by decide) (fun q24 => ?_) (fun q24 => ?_)
      · have h := ite_f q24 h
        refine V_aload_n C (dt_at dt_X11_never_1 18 rfl) 0 rfl rfl ?_
        refine g_X11_30_0 C (dt_at dt_X11_never_1 19 rfl) ?_
        refine g_X11_306_4 C (dt_at dt_X11_never_1 20 rfl) ?_
        obtain ⟨e1_, e2_⟩ := pin2 h
        subst e1_; subst e2_
        exact V_iret C hR (dt_at dt_X11_never_1 21 rfl)
      · have h := ite_t q24 h
        refine V_aload_n C (dt_at dt_X11_never_1 8 rfl) 0 rfl rfl ?_
        refine g_X11_12_0 C (dt_at dt_X11_never_1 9 rfl) ?_
        obtain ⟨r25, e26, h⟩ := bd_s h
        refine cv_X4_allParts C ww_1024  e26 (Nat.le_of_ble_eq_true rfl) (Nat.le_of_ble_eq_true rfl) z0 (dt_at dt_X11_never_1 10 rfl) ?_
        refine V_aload_n C (dt_at dt_X11_never_1 11 rfl) 0 rfl rfl ?_
        refine g_X11_30_0 C (dt_at dt_X11_never_1 12 rfl) ?_
        refine g_X11_303_4 C (dt_at dt_X11_never_1 13 rfl) ?_
        refine V_iconst C (-1) (dt_at dt_X11_never_1 14 rfl) (by decide) ?_
        refine V_ixor C (dt_at dt_X11_never_1 15 rfl) ?_
        refine V_iand C (dt_at dt_X11_never_1 16 rfl) ?_
        refine V_goto C 114 (dt_at dt_X11_never_1 17 rfl) (by decide) ?_
        obtain ⟨e1_, e2_⟩ := pin2 h
        subst e1_; subst e2_
        exact V_iret C hR (dt_at dt_X11_never_1 21 rfl)
    · have h := ite_t q23 h
      refine V_aload_n C (dt_at dt_X11_never_1 2 rfl) 0 rfl rfl ?_
      refine V_iconst C 2 (dt_at dt_X11_never_1 3 rfl) (by decide) ?_
      obtain ⟨r28, σ30, e29, h⟩ := bd2_s h
      refine cv_X11_error C ww_193 2 e29 (Nat.le_of_ble_eq_true rfl) (Nat.le_of_ble_eq_true rfl) z0 (dt_at dt_X11_never_1 4 rfl) ?_
      obtain ⟨e1_, e2_⟩ := pin2 h
      subst e1_; subst e2_
      exact V_iret C hR (dt_at dt_X11_never_1 5 rfl)
  have J_30 : ∀ (σ : St), f_X11_never_30 σ = some (r0, σ0) → V X G 5 0 0 σ 30 [(0, .ref (ga G 0))] [] := by
    intro σ h
    unfold f_X11_never_30 at h
    refine V_aload_n C (dt_at dt_X11_never_0 14 rfl) 0 rfl rfl ?_
    refine V_iconst C 1 (dt_at dt_X11_never_0 15 rfl) (by decide) ?_
    obtain ⟨r17, σ19, e18, h⟩ := bd2_s h
    refine cv_X11_error C ww_193 1 e18 (Nat.le_of_ble_eq_true rfl) (Nat.le_of_ble_eq_true rfl) z0 (dt_at dt_X11_never_0 16 rfl) ?_
    obtain ⟨e1_, e2_⟩ := pin2 h
    subst e1_; subst e2_
    exact V_iret C hR (dt_at dt_X11_never_0 17 rfl)
  refine V_aload_n C (dt_at dt_X11_never_0 0 rfl) 0 rfl rfl ?_
  refine g_X11_12_0 C (dt_at dt_X11_never_0 1 rfl) ?_
  refine V_iload_n C (dt_at dt_X11_never_0 2 rfl) 1 rfl rfl ?_
  obtain ⟨r1, e2, h⟩ := bd_s h
  refine cv_X4_isSet C ww_1010 x1 e2 (Nat.le_of_ble_eq_true rfl) (Nat.le_of_ble_eq_true rfl) z0 (dt_at dt_X11_never_0 3 rfl) ?_
  refine V_if_eq C 30 (dt_at dt_X11_never_0 4 rfl) (by decide) (fun q4 => ?_) (fun q4 => ?_)
  · have h := ite_t q4 h
    refine V_sub [0] (lv' := [(0, .ref (ga G 0))]) rfl ?_
    exact J_30 σ h
  · have h := ite_f q4 h
    refine V_aload_n C (dt_at dt_X11_never_0 5 rfl) 0 rfl rfl ?_
    refine g_X11_12_0 C (dt_at dt_X11_never_0 6 rfl) ?_
    refine V_iload_n C (dt_at dt_X11_never_0 7 rfl) 2 rfl rfl ?_
    obtain ⟨r5, e6, h⟩ := bd_s h
    refine cv_X4_hasPlayer C ww_209 x2 e6 (Nat.le_of_ble_eq_true rfl) (Nat.le_of_ble_eq_true rfl) z0 (dt_at dt_X11_never_0 8 rfl) ?_
    refine V_if_eq C 30 (dt_at dt_X11_never_0 9 rfl) (by decide) (fun q8 => ?_) (fun q8 => ?_)
    · have h := ite_t q8 h
      refine V_sub [0] (lv' := [(0, .ref (ga G 0))]) rfl ?_
      exact J_30 σ h
    · have h := ite_f q8 h
      refine V_iload_n C (dt_at dt_X11_never_0 10 rfl) 3 rfl rfl ?_
      refine V_iconst C 2 (dt_at dt_X11_never_0 11 rfl) (by decide) ?_
      obtain ⟨r9, e10, h⟩ := bd_s h
      refine cv_X11_isWithin C ww_186 x3 2 e10 (Nat.le_of_ble_eq_true rfl) (Nat.le_of_ble_eq_true rfl) z0 (dt_at dt_X11_never_0 12 rfl) ?_
      refine V_if_ne C 36 (dt_at dt_X11_never_0 13 rfl) (by decide) (fun q12 => ?_) (fun q12 => ?_)
      · have h := ite_f q12 h
        refine V_iconst C 1 (dt_at dt_X11_never_0 18 rfl) (by decide) ?_
        refine V_iload_n C (dt_at dt_X11_never_0 19 rfl) 2 rfl rfl ?_
        refine V_ishl C (dt_at dt_X11_never_0 20 rfl) ?_
        refine V_istore C [1, 2, 3, 4, 0] (lv' := [(0, .ref (ga G 0)), (1, .int x1), (2, .int x2), (3, .int x3), (4, .int ((1 : Int32) <<< (x2 &&& 31)))]) (dt_at dt_X11_never_0 21 rfl) (by decide) rfl ?_
        refine V_aload_n C (dt_at dt_X11_never_0 22 rfl) 0 rfl rfl ?_
        refine g_X11_30_0 C (dt_at dt_X11_never_0 23 rfl) ?_
        refine V_iload_n C (dt_at dt_X11_never_0 24 rfl) 1 rfl rfl ?_
        refine V_iload C (dt_at dt_X11_never_0 25 rfl) 4 rfl ?_
        refine V_iconst C (-1) (dt_at dt_X11_never_0 26 rfl) (by decide) ?_
        refine V_ixor C (dt_at dt_X11_never_0 27 rfl) ?_
        refine V_iand C (dt_at dt_X11_never_0 28 rfl) ?_
        obtain ⟨σ15, e14, h⟩ := bd_s h
        refine cv_X8_countCastings C ww_1022 (x1 &&& (((1 : Int32) <<< (x2 &&& 31)) ^^^ (-1))) e14 (Nat.le_of_ble_eq_true rfl) (Nat.le_of_ble_eq_true rfl) z0 (dt_at dt_X11_never_0 29 rfl) ?_
        refine V_aload_n C (dt_at dt_X11_never_0 30 rfl) 0 rfl rfl ?_
        refine g_X11_30_0 C (dt_at dt_X11_never_0 31 rfl) ?_
        refine V_iload_n C (dt_at dt_X11_never_0 32 rfl) 2 rfl rfl ?_
        refine V_iload_n C (dt_at dt_X11_never_0 33 rfl) 1 rfl rfl ?_
        refine V_iload C (dt_at dt_X11_never_0 34 rfl) 4 rfl ?_
        refine V_iand C (dt_at dt_X11_never_0 35 rfl) ?_
        refine V_if_eq C 70 (dt_at dt_X11_never_0 36 rfl) (by decide) (fun q16 => ?_) (fun q16 => ?_)
        · have h := ite_t q16 h
          refine V_iconst C 0 (dt_at dt_X11_never_0 39 rfl) (by decide) ?_
          refine V_sub [0, 3] (lv' := [(0, .ref (ga G 0)), (3, .int x3)]) rfl ?_
          exact J_71 0 x2 σ15 h
        · have h := ite_f q16 h
          refine V_iconst C 1 (dt_at dt_X11_never_0 37 rfl) (by decide) ?_
          refine V_goto C 71 (dt_at dt_X11_never_0 38 rfl) (by decide) ?_
          refine V_sub [0, 3] (lv' := [(0, .ref (ga G 0)), (3, .int x3)]) rfl ?_
          exact J_71 1 x2 σ15 h
      · have h := ite_t q12 h
        refine V_sub [0] (lv' := [(0, .ref (ga G 0))]) rfl ?_
        exact J_30 σ h
theorem cv_X11_never (C : Ck X G cc own nL d) {idx : Nat} (hlk : Cond.methodLink own idx yX11_never ∈ gtb) (x1 : Int32) (x2 : Int32) (x3 : Int32) {r0 : Int32} {σ0 : St} (e : f_X11_never x1 x2 x3 σ = some (r0, σ0)) (hdd : 9 ≤ d) (hroom : (rest.map fun v => v.category).sum ≤ 8) (hcs : cells ≤ (xR X).cells ∧ slots ≤ (xR X).slots) (hd : decode cc pc = .ok (.invokevirtual idx, 3)) (k : V X G nL cells slots σ0 (pc + 3) lv (.int r0 :: rest)) : V X G nL cells slots σ pc lv (.int x3 :: .int x2 :: .int x1 :: .ref (ga G 0) :: rest) := V_callV C (As := [.int x1, .int x2, .int x3]) (c_X11_never X.2.1 G x1 x2 x3 σ r0 σ0 e) cal_X11_never ww_1041 ww_1042 hlk rfl hdd (lt110 rfl) rfl rfl rfl hroom hcs hd k
theorem dt_X11_take_0 : dtab cX11_take [(0, .iload_n 1, 1), (1, .iconst 4, 1), (2, .invokestatic 79, 3), (5, .ifCond .eq 14, 3), (8, .aload_n 0, 1), (9, .getfield 12, 3), (12, .iload_n 2, 1), (13, .invokevirtual 272, 3), (16, .ifCond .ne 9, 3), (19, .aload_n 0, 1), (20, .iconst 1, 1), (21, .invokevirtual 68, 3), (24, .ireturn, 1), (25, .aload_n 0, 1), (26, .getfield 30, 3), (29, .iload_n 1, 1), (30, .iload_n 2, 1), (31, .invokevirtual 275, 3), (34, .ifCond .ne 9, 3), (37, .aload_n 0, 1), (38, .iconst 2, 1), (39, .invokevirtual 68, 3), (42, .ireturn, 1), (43, .aload_n 0, 1), (44, .getfield 30, 3), (47, .getfield 281, 3), (50, .iconst 0, 1), (51, .aload_n 0, 1), (52, .getfield 12, 3), (55, .getfield 228, 3), (58, .iconst 0, 1), (59, .aload_n 0, 1), (60, .getfield 12, 3), (63, .getfield 83, 3), (66, .invokestatic 242, 3), (69, .aload_n 0, 1), (70, .getfield 30, 3), (73, .getfield 278, 3), (76, .ireturn, 1)] = true := by decide +kernel
theorem cal_X11_take : Cal yX11_take cX11_take 3 (some .int) 2 := ⟨ww_1043, ww_100, ⟨by decide, by decide, by decide⟩, by decide⟩
set_option maxHeartbeats 4000000 in
set_option maxRecDepth 100000 in
theorem c_X11_take (l : Launch) (G : Gx) (x1 : Int32) (x2 : Int32) (σ : St) (r0 : Int32) (σ0 : St) (h : f_X11_take x1 x2 σ = some (r0, σ0)) : MI l G yX11_take cX11_take 3 (some .int) 8 [.ref (ga G 0), .int x1, .int x2] σ (some (.int r0)) σ0 := by
  refine MI_of RX11 rfl (by decide) [(0, .ref (ga G 0)), (1, .int x1), (2, .int x2)] rfl (Nat.le_of_ble_eq_true rfl) ?_
  intro X hXl C hR
  unfold f_X11_take at h
  have J_19 : ∀ (σ : St), f_X11_take_19 σ = some (r0, σ0) → V X G 3 0 0 σ 19 [(0, .ref (ga G 0))] [] := by
    intro σ h
    unfold f_X11_take_19 at h
    refine V_aload_n C (dt_at dt_X11_take_0 9 rfl) 0 rfl rfl ?_
    refine V_iconst C 1 (dt_at dt_X11_take_0 10 rfl) (by decide) ?_
    obtain ⟨r18, σ20, e19, h⟩ := bd2_s h
    refine cv_X11_error C ww_193 1 e19 (Nat.le_of_ble_eq_true rfl) (Nat.le_of_ble_eq_true rfl) z0 (dt_at dt_X11_take_0 11 rfl) ?_
    obtain ⟨e1_, e2_⟩ := pin2 h
    subst e1_; subst e2_
    exact V_iret C hR (dt_at dt_X11_take_0 12 rfl)
  refine V_iload_n C (dt_at dt_X11_take_0 0 rfl) 1 rfl rfl ?_
  refine V_iconst C 4 (dt_at dt_X11_take_0 1 rfl) (by decide) ?_
  obtain ⟨r1, e2, h⟩ := bd_s h
  refine cv_X11_isWithin C ww_186 x1 4 e2 (Nat.le_of_ble_eq_true rfl) (Nat.le_of_ble_eq_true rfl) z0 (dt_at dt_X11_take_0 2 rfl) ?_
  refine V_if_eq C 19 (dt_at dt_X11_take_0 3 rfl) (by decide) (fun q4 => ?_) (fun q4 => ?_)
  · have h := ite_t q4 h
    refine V_sub [0] (lv' := [(0, .ref (ga G 0))]) rfl ?_
    exact J_19 σ h
  · have h := ite_f q4 h
    refine V_aload_n C (dt_at dt_X11_take_0 4 rfl) 0 rfl rfl ?_
    refine g_X11_12_0 C (dt_at dt_X11_take_0 5 rfl) ?_
    refine V_iload_n C (dt_at dt_X11_take_0 6 rfl) 2 rfl rfl ?_
    obtain ⟨r5, e6, h⟩ := bd_s h
    refine cv_X4_isSet C ww_1010 x2 e6 (Nat.le_of_ble_eq_true rfl) (Nat.le_of_ble_eq_true rfl) z0 (dt_at dt_X11_take_0 7 rfl) ?_
    refine V_if_ne C 25 (dt_at dt_X11_take_0 8 rfl) (by decide) (fun q8 => ?_) (fun q8 => ?_)
    · have h := ite_f q8 h
      refine V_aload_n C (dt_at dt_X11_take_0 13 rfl) 0 rfl rfl ?_
      refine g_X11_30_0 C (dt_at dt_X11_take_0 14 rfl) ?_
      refine V_iload_n C (dt_at dt_X11_take_0 15 rfl) 1 rfl rfl ?_
      refine V_iload_n C (dt_at dt_X11_take_0 16 rfl) 2 rfl rfl ?_
      obtain ⟨r9, σ11, e10, h⟩ := bd2_s h
      refine cv_X8_findBest C ww_1012 x1 x2 e10 (Nat.le_of_ble_eq_true rfl) (Nat.le_of_ble_eq_true rfl) z0 (dt_at dt_X11_take_0 17 rfl) ?_
      refine V_if_ne C 43 (dt_at dt_X11_take_0 18 rfl) (by decide) (fun q12 => ?_) (fun q12 => ?_)
      · have h := ite_f q12 h
        refine V_aload_n C (dt_at dt_X11_take_0 23 rfl) 0 rfl rfl ?_
        refine g_X11_30_0 C (dt_at dt_X11_take_0 24 rfl) ?_
        refine g_X11_281_4 C (dt_at dt_X11_take_0 25 rfl) ?_
        refine V_iconst C 0 (dt_at dt_X11_take_0 26 rfl) (by decide) ?_
        refine V_aload_n C (dt_at dt_X11_take_0 27 rfl) 0 rfl rfl ?_
        refine g_X11_12_0 C (dt_at dt_X11_take_0 28 rfl) ?_
        refine g_X11_228_1 C (dt_at dt_X11_take_0 29 rfl) ?_
        refine V_iconst C 0 (dt_at dt_X11_take_0 30 rfl) (by decide) ?_
        refine V_aload_n C (dt_at dt_X11_take_0 31 rfl) 0 rfl rfl ?_
        refine g_X11_12_0 C (dt_at dt_X11_take_0 32 rfl) ?_
        refine g_X11_83_1 C (dt_at dt_X11_take_0 33 rfl) ?_
        obtain ⟨h13, h⟩ := chk_s h
        obtain ⟨σ14, eσ14, h⟩ := nm_s h
        refine V_st eσ14 ?_ (fun k => V_copy C (K0 := 39) (K1 := 11) ww_197 w_copy (lt110 rfl) (lt110 rfl) rfl (fun _ => rfl) h13 (Nat.le_of_ble_eq_true rfl) (Nat.le_of_ble_eq_true rfl) (dt_at dt_X11_take_0 34 rfl) k)
        refine V_aload_n C (dt_at dt_X11_take_0 35 rfl) 0 rfl rfl ?_
        refine g_X11_30_0 C (dt_at dt_X11_take_0 36 rfl) ?_
        refine g_X11_278_4 C (dt_at dt_X11_take_0 37 rfl) ?_
        obtain ⟨e1_, e2_⟩ := pin2 h
        subst e1_; subst e2_
        exact V_iret C hR (dt_at dt_X11_take_0 38 rfl)
      · have h := ite_t q12 h
        refine V_aload_n C (dt_at dt_X11_take_0 19 rfl) 0 rfl rfl ?_
        refine V_iconst C 2 (dt_at dt_X11_take_0 20 rfl) (by decide) ?_
        obtain ⟨r15, σ17, e16, h⟩ := bd2_s h
        refine cv_X11_error C ww_193 2 e16 (Nat.le_of_ble_eq_true rfl) (Nat.le_of_ble_eq_true rfl) z0 (dt_at dt_X11_take_0 21 rfl) ?_
        obtain ⟨e1_, e2_⟩ := pin2 h
        subst e1_; subst e2_
        exact V_iret C hR (dt_at dt_X11_take_0 22 rfl)
    · have h := ite_t q8 h
      refine V_sub [0] (lv' := [(0, .ref (ga G 0))]) rfl ?_
      exact J_19 σ h
theorem cv_X11_take (C : Ck X G cc own nL d) {idx : Nat} (hlk : Cond.methodLink own idx yX11_take ∈ gtb) (x1 : Int32) (x2 : Int32) {r0 : Int32} {σ0 : St} (e : f_X11_take x1 x2 σ = some (r0, σ0)) (hdd : 9 ≤ d) (hroom : (rest.map fun v => v.category).sum ≤ 8) (hcs : cells ≤ (xR X).cells ∧ slots ≤ (xR X).slots) (hd : decode cc pc = .ok (.invokevirtual idx, 3)) (k : V X G nL cells slots σ0 (pc + 3) lv (.int r0 :: rest)) : V X G nL cells slots σ pc lv (.int x2 :: .int x1 :: .ref (ga G 0) :: rest) := V_callV C (As := [.int x1, .int x2]) (c_X11_take X.2.1 G x1 x2 σ r0 σ0 e) cal_X11_take ww_1044 ww_1045 hlk rfl hdd (lt110 rfl) rfl rfl rfl hroom hcs hd k
theorem dt_X4_become_0 : dtab cX4_become [(0, .aload_n 0, 1), (1, .aload_n 1, 1), (2, .getfield 9, 3), (5, .putfield 9, 3), (8, .aload_n 0, 1), (9, .aload_n 1, 1), (10, .getfield 15, 3), (13, .putfield 15, 3), (16, .aload_n 0, 1), (17, .aload_n 1, 1), (18, .getfield 18, 3), (21, .putfield 18, 3), (24, .aload_n 0, 1), (25, .aload_n 1, 1), (26, .getfield 21, 3), (29, .putfield 21, 3), (32, .iconst 0, 1), (33, .istore_n 2, 1), (34, .iload_n 2, 1), (35, .aload_n 0, 1), (36, .getfield 15, 3), (39, .if_icmp .ge 21, 3), (42, .aload_n 0, 1), (43, .getfield 26, 3), (46, .iload_n 2, 1), (47, .aload_n 1, 1), (48, .getfield 26, 3), (51, .iload_n 2, 1), (52, .aaload, 1), (53, .aastore, 1), (54, .iinc 2 1, 3), (57, .goto (-23), 3), (60, .aload_n 1, 1), (61, .getfield 30, 3), (64, .iconst 0, 1), (65, .aload_n 0, 1), (66, .getfield 30, 3), (69, .iconst 0, 1), (70, .aload_n 0, 1), (71, .getfield 15, 3)] = true := by decide +kernel
theorem dt_X4_become_1 : dtab cX4_become [(74, .invokestatic 71, 3), (77, .aload_n 1, 1), (78, .getfield 34, 3), (81, .iconst 0, 1), (82, .aload_n 0, 1), (83, .getfield 34, 3), (86, .iconst 0, 1), (87, .aload_n 0, 1), (88, .getfield 18, 3), (91, .invokestatic 71, 3), (94, .aload_n 1, 1), (95, .getfield 37, 3), (98, .iconst 0, 1), (99, .aload_n 0, 1), (100, .getfield 37, 3), (103, .iconst 0, 1), (104, .aload_n 0, 1), (105, .getfield 18, 3), (108, .invokestatic 71, 3), (111, .aload_n 1, 1), (112, .getfield 40, 3), (115, .iconst 0, 1), (116, .aload_n 0, 1), (117, .getfield 40, 3), (120, .iconst 0, 1), (121, .aload_n 0, 1), (122, .getfield 18, 3), (125, .invokestatic 71, 3), (128, .aload_n 1, 1), (129, .getfield 43, 3), (132, .iconst 0, 1), (133, .aload_n 0, 1), (134, .getfield 43, 3), (137, .iconst 0, 1), (138, .aload_n 0, 1), (139, .getfield 18, 3), (142, .invokestatic 71, 3), (145, .aload_n 1, 1), (146, .getfield 46, 3), (149, .iconst 0, 1)] = true := by decide +kernel
theorem dt_X4_become_2 : dtab cX4_become [(150, .aload_n 0, 1), (151, .getfield 46, 3), (154, .iconst 0, 1), (155, .aload_n 0, 1), (156, .getfield 21, 3), (159, .invokestatic 71, 3), (162, .aload_n 1, 1), (163, .getfield 49, 3), (166, .iconst 0, 1), (167, .aload_n 0, 1), (168, .getfield 49, 3), (171, .iconst 0, 1), (172, .aload_n 0, 1), (173, .getfield 21, 3), (176, .invokestatic 71, 3), (179, .aload_n 1, 1), (180, .getfield 52, 3), (183, .iconst 0, 1), (184, .aload_n 0, 1), (185, .getfield 52, 3), (188, .iconst 0, 1), (189, .aload_n 0, 1), (190, .getfield 21, 3), (193, .invokestatic 71, 3), (196, .aload_n 0, 1), (197, .getfield 60, 3), (200, .aload_n 1, 1), (201, .getfield 60, 3), (204, .invokevirtual 77, 3), (207, .aload_n 0, 1), (208, .getfield 64, 3), (211, .aload_n 1, 1), (212, .getfield 64, 3), (215, .invokevirtual 77, 3), (218, .iconst 0, 1), (219, .istore_n 2, 1), (220, .iload_n 2, 1), (221, .iconst 3, 1), (222, .if_icmp .ge 24, 3), (225, .aload_n 0, 1)] = true := by decide +kernel
theorem dt_X4_become_3 : dtab cX4_become [(226, .getfield 67, 3), (229, .iload_n 2, 1), (230, .aaload, 1), (231, .aload_n 1, 1), (232, .getfield 67, 3), (235, .iload_n 2, 1), (236, .aaload, 1), (237, .invokevirtual 77, 3), (240, .iinc 2 1, 3), (243, .goto (-23), 3), (246, .return_, 1)] = true := by decide +kernel
theorem cal_X4_become : Cal yX4_become cX4_become 3 none 1 := ⟨ww_1050, ww_92, ⟨by decide, by decide, by decide⟩, by decide⟩
set_option maxHeartbeats 4000000 in
set_option maxRecDepth 100000 in
theorem c_X4_become_1 (l : Launch) (G : Gx) (σ : St) (σ0 : St) (h : f_X4_become_1 σ = some σ0) : MI l G yX4_become cX4_become 3 none 2 [.ref (ga G 1), .ref (ga G 2)] σ none σ0 := by
  refine MI_of RX4 rfl (by decide) [(0, .ref (ga G 1)), (1, .ref (ga G 2))] rfl (Nat.le_of_ble_eq_true rfl) ?_
  intro X hXl C hR
  unfold f_X4_become_1 at h
  have J_220 : ∀ (x2 : Int32) (σ : St), f_X4_become_1_220 x2 σ = some σ0 → V X G 3 0 0 σ 220 [(0, .ref (ga G 1)), (1, .ref (ga G 2)), (2, .int x2)] [] := by
    intro x2 σ h
    refine it_v (P := fun z : Int32 × St => V X G 3 0 0 z.2 220 [(0, .ref (ga G 1)), (1, .ref (ga G 2)), (2, .int z.1)] []) ?_ (x2, σ) h
    clear h
    intro z w_220 h ih_220 ex_220
    obtain ⟨x2, σ⟩ := z
    have h : b_X4_become_1_220 x2 σ = some w_220 := h
    show V X G 3 0 0 σ 220 [(0, .ref (ga G 1)), (1, .ref (ga G 2)), (2, .int x2)] []
    unfold b_X4_become_1_220 at h
    refine V_iload_n C (dt_at dt_X4_become_2 36 rfl) 2 rfl rfl ?_
    refine V_iconst C 3 (dt_at dt_X4_become_2 37 rfl) (by decide) ?_
    refine V_icmp_ge C 246 (dt_at dt_X4_become_2 38 rfl) (by decide) (fun q33 => ?_) (fun q33 => ?_)
    · have h := ite_f q33 h
      have e_220 := ex_220 _ (Option.some.inj h).symm
      subst e_220
      exact V_vret C hR (dt_at dt_X4_become_3 10 rfl)
    · have h := ite_t q33 h
      refine V_aload_n C (dt_at dt_X4_become_2 39 rfl) 0 rfl rfl ?_
      refine g_X4_67_1 C (dt_at dt_X4_become_3 0 rfl) ?_
      refine V_iload_n C (dt_at dt_X4_become_3 1 rfl) 2 rfl rfl ?_
      obtain ⟨h34, h⟩ := chk_s h
      refine V_aa19 C h34 (dt_at dt_X4_become_3 2 rfl) ?_
      have h35 : isRow (56 + 2 * x2.toNatClampNeg) = true := ok_19 h34
      refine V_aload_n C (dt_at dt_X4_become_3 3 rfl) 1 rfl rfl ?_
      refine g_X4_67_2 C (dt_at dt_X4_become_3 4 rfl) ?_
      refine V_iload_n C (dt_at dt_X4_become_3 5 rfl) 2 rfl rfl ?_
      refine V_aa29 C h34 (dt_at dt_X4_become_3 6 rfl) ?_
      have h36 : isRow (66 + 2 * x2.toNatClampNeg) = true := ok_29 h34
      obtain ⟨σ39, e38, h⟩ := bd_s h
      refine cv_X7_become C ww_1048 (56 + 2 * x2.toNatClampNeg) (66 + 2 * x2.toNatClampNeg) e38 (Nat.le_of_ble_eq_true rfl) (Nat.le_of_ble_eq_true rfl) z0 (dt_at dt_X4_become_3 7 rfl) ?_
      refine V_iinc C (x2 + 1) 2 [1, 2, 0] (lv' := [(0, .ref (ga G 1)), (1, .ref (ga G 2)), (2, .int (x2 + 1))]) (dt_at dt_X4_become_3 8 rfl) rfl (by rfl) (by decide) rfl ?_
      refine V_goto C 220 (dt_at dt_X4_become_3 9 rfl) (by decide) ?_
      exact ih_220 ((x2 + 1), σ39) (Option.some.inj h).symm
  have J_60 : ∀ (σ : St), f_X4_become_1_60 σ = some σ0 → V X G 3 0 0 σ 60 [(0, .ref (ga G 1)), (1, .ref (ga G 2))] [] := by
    intro σ h
    unfold f_X4_become_1_60 at h
    refine V_aload_n C (dt_at dt_X4_become_0 32 rfl) 1 rfl rfl ?_
    refine g_X4_30_2 C (dt_at dt_X4_become_0 33 rfl) ?_
    refine V_iconst C 0 (dt_at dt_X4_become_0 34 rfl) (by decide) ?_
    refine V_aload_n C (dt_at dt_X4_become_0 35 rfl) 0 rfl rfl ?_
    refine g_X4_30_1 C (dt_at dt_X4_become_0 36 rfl) ?_
    refine V_iconst C 0 (dt_at dt_X4_become_0 37 rfl) (by decide) ?_
    refine V_aload_n C (dt_at dt_X4_become_0 38 rfl) 0 rfl rfl ?_
    refine g_X4_15_1 C (dt_at dt_X4_become_0 39 rfl) ?_
    obtain ⟨h11, h⟩ := chk_s h
    obtain ⟨σ12, eσ12, h⟩ := nm_s h
    refine V_st eσ12 ?_ (fun k => V_copy C (K0 := 21) (K1 := 11) ww_1046 w_copy (lt110 rfl) (lt110 rfl) rfl (fun _ => rfl) h11 (Nat.le_of_ble_eq_true rfl) (Nat.le_of_ble_eq_true rfl) (dt_at dt_X4_become_1 0 rfl) k)
    refine V_aload_n C (dt_at dt_X4_become_1 1 rfl) 1 rfl rfl ?_
    refine g_X4_34_2 C (dt_at dt_X4_become_1 2 rfl) ?_
    refine V_iconst C 0 (dt_at dt_X4_become_1 3 rfl) (by decide) ?_
    refine V_aload_n C (dt_at dt_X4_become_1 4 rfl) 0 rfl rfl ?_
    refine g_X4_34_1 C (dt_at dt_X4_become_1 5 rfl) ?_
    refine V_iconst C 0 (dt_at dt_X4_become_1 6 rfl) (by decide) ?_
    refine V_aload_n C (dt_at dt_X4_become_1 7 rfl) 0 rfl rfl ?_
    refine g_X4_18_1 C (dt_at dt_X4_become_1 8 rfl) ?_
    obtain ⟨h13, h⟩ := chk_s h
    obtain ⟨σ14, eσ14, h⟩ := nm_s h
    refine V_st eσ14 ?_ (fun k => V_copy C (K0 := 22) (K1 := 12) ww_1046 w_copy (lt110 rfl) (lt110 rfl) rfl (fun _ => rfl) h13 (Nat.le_of_ble_eq_true rfl) (Nat.le_of_ble_eq_true rfl) (dt_at dt_X4_become_1 9 rfl) k)
    refine V_aload_n C (dt_at dt_X4_become_1 10 rfl) 1 rfl rfl ?_
    refine g_X4_37_2 C (dt_at dt_X4_become_1 11 rfl) ?_
    refine V_iconst C 0 (dt_at dt_X4_become_1 12 rfl) (by decide) ?_
    refine V_aload_n C (dt_at dt_X4_become_1 13 rfl) 0 rfl rfl ?_
    refine g_X4_37_1 C (dt_at dt_X4_become_1 14 rfl) ?_
    refine V_iconst C 0 (dt_at dt_X4_become_1 15 rfl) (by decide) ?_
    refine V_aload_n C (dt_at dt_X4_become_1 16 rfl) 0 rfl rfl ?_
    refine g_X4_18_1 C (dt_at dt_X4_become_1 17 rfl) ?_
    obtain ⟨h15, h⟩ := chk_s h
    obtain ⟨σ16, eσ16, h⟩ := nm_s h
    refine V_st eσ16 ?_ (fun k => V_copy C (K0 := 23) (K1 := 13) ww_1046 w_copy (lt110 rfl) (lt110 rfl) rfl (fun _ => rfl) h15 (Nat.le_of_ble_eq_true rfl) (Nat.le_of_ble_eq_true rfl) (dt_at dt_X4_become_1 18 rfl) k)
    refine V_aload_n C (dt_at dt_X4_become_1 19 rfl) 1 rfl rfl ?_
    refine g_X4_40_2 C (dt_at dt_X4_become_1 20 rfl) ?_
    refine V_iconst C 0 (dt_at dt_X4_become_1 21 rfl) (by decide) ?_
    refine V_aload_n C (dt_at dt_X4_become_1 22 rfl) 0 rfl rfl ?_
    refine g_X4_40_1 C (dt_at dt_X4_become_1 23 rfl) ?_
    refine V_iconst C 0 (dt_at dt_X4_become_1 24 rfl) (by decide) ?_
    refine V_aload_n C (dt_at dt_X4_become_1 25 rfl) 0 rfl rfl ?_
    refine g_X4_18_1 C (dt_at dt_X4_become_1 26 rfl) ?_
    obtain ⟨h17, h⟩ := chk_s h
    obtain ⟨σ18, eσ18, h⟩ := nm_s h
    refine V_st eσ18 ?_ (fun k => V_copy C (K0 := 24) (K1 := 14) ww_1046 w_copy (lt110 rfl) (lt110 rfl) rfl (fun _ => rfl) h17 (Nat.le_of_ble_eq_true rfl) (Nat.le_of_ble_eq_true rfl) (dt_at dt_X4_become_1 27 rfl) k)
    refine V_aload_n C (dt_at dt_X4_become_1 28 rfl) 1 rfl rfl ?_
    refine g_X4_43_2 C (dt_at dt_X4_become_1 29 rfl) ?_
    refine V_iconst C 0 (dt_at dt_X4_become_1 30 rfl) (by decide) ?_
    refine V_aload_n C (dt_at dt_X4_become_1 31 rfl) 0 rfl rfl ?_
    refine g_X4_43_1 C (dt_at dt_X4_become_1 32 rfl) ?_
    refine V_iconst C 0 (dt_at dt_X4_become_1 33 rfl) (by decide) ?_
    refine V_aload_n C (dt_at dt_X4_become_1 34 rfl) 0 rfl rfl ?_
    refine g_X4_18_1 C (dt_at dt_X4_become_1 35 rfl) ?_
    obtain ⟨h19, h⟩ := chk_s h
    obtain ⟨σ20, eσ20, h⟩ := nm_s h
    refine V_st eσ20 ?_ (fun k => V_copy C (K0 := 25) (K1 := 15) ww_1046 w_copy (lt110 rfl) (lt110 rfl) rfl (fun _ => rfl) h19 (Nat.le_of_ble_eq_true rfl) (Nat.le_of_ble_eq_true rfl) (dt_at dt_X4_become_1 36 rfl) k)
    refine V_aload_n C (dt_at dt_X4_become_1 37 rfl) 1 rfl rfl ?_
    refine g_X4_46_2 C (dt_at dt_X4_become_1 38 rfl) ?_
    refine V_iconst C 0 (dt_at dt_X4_become_1 39 rfl) (by decide) ?_
    refine V_aload_n C (dt_at dt_X4_become_2 0 rfl) 0 rfl rfl ?_
    refine g_X4_46_1 C (dt_at dt_X4_become_2 1 rfl) ?_
    refine V_iconst C 0 (dt_at dt_X4_become_2 2 rfl) (by decide) ?_
    refine V_aload_n C (dt_at dt_X4_become_2 3 rfl) 0 rfl rfl ?_
    refine g_X4_21_1 C (dt_at dt_X4_become_2 4 rfl) ?_
    obtain ⟨h21, h⟩ := chk_s h
    obtain ⟨σ22, eσ22, h⟩ := nm_s h
    refine V_st eσ22 ?_ (fun k => V_copy C (K0 := 26) (K1 := 16) ww_1046 w_copy (lt110 rfl) (lt110 rfl) rfl (fun _ => rfl) h21 (Nat.le_of_ble_eq_true rfl) (Nat.le_of_ble_eq_true rfl) (dt_at dt_X4_become_2 5 rfl) k)
    refine V_aload_n C (dt_at dt_X4_become_2 6 rfl) 1 rfl rfl ?_
    refine g_X4_49_2 C (dt_at dt_X4_become_2 7 rfl) ?_
    refine V_iconst C 0 (dt_at dt_X4_become_2 8 rfl) (by decide) ?_
    refine V_aload_n C (dt_at dt_X4_become_2 9 rfl) 0 rfl rfl ?_
    refine g_X4_49_1 C (dt_at dt_X4_become_2 10 rfl) ?_
    refine V_iconst C 0 (dt_at dt_X4_become_2 11 rfl) (by decide) ?_
    refine V_aload_n C (dt_at dt_X4_become_2 12 rfl) 0 rfl rfl ?_
    refine g_X4_21_1 C (dt_at dt_X4_become_2 13 rfl) ?_
    obtain ⟨h23, h⟩ := chk_s h
    obtain ⟨σ24, eσ24, h⟩ := nm_s h
    refine V_st eσ24 ?_ (fun k => V_copy C (K0 := 27) (K1 := 17) ww_1046 w_copy (lt110 rfl) (lt110 rfl) rfl (fun _ => rfl) h23 (Nat.le_of_ble_eq_true rfl) (Nat.le_of_ble_eq_true rfl) (dt_at dt_X4_become_2 14 rfl) k)
    refine V_aload_n C (dt_at dt_X4_become_2 15 rfl) 1 rfl rfl ?_
    refine g_X4_52_2 C (dt_at dt_X4_become_2 16 rfl) ?_
    refine V_iconst C 0 (dt_at dt_X4_become_2 17 rfl) (by decide) ?_
    refine V_aload_n C (dt_at dt_X4_become_2 18 rfl) 0 rfl rfl ?_
    refine g_X4_52_1 C (dt_at dt_X4_become_2 19 rfl) ?_
    refine V_iconst C 0 (dt_at dt_X4_become_2 20 rfl) (by decide) ?_
    refine V_aload_n C (dt_at dt_X4_become_2 21 rfl) 0 rfl rfl ?_
    refine g_X4_21_1 C (dt_at dt_X4_become_2 22 rfl) ?_
    obtain ⟨h25, h⟩ := chk_s h
    obtain ⟨σ26, eσ26, h⟩ := nm_s h
    refine V_st eσ26 ?_ (fun k => V_copy C (K0 := 28) (K1 := 18) ww_1046 w_copy (lt110 rfl) (lt110 rfl) rfl (fun _ => rfl) h25 (Nat.le_of_ble_eq_true rfl) (Nat.le_of_ble_eq_true rfl) (dt_at dt_X4_become_2 23 rfl) k)
    refine V_aload_n C (dt_at dt_X4_become_2 24 rfl) 0 rfl rfl ?_
    refine g_X4_60_1 C (dt_at dt_X4_become_2 25 rfl) ?_
    refine V_aload_n C (dt_at dt_X4_become_2 26 rfl) 1 rfl rfl ?_
    refine g_X4_60_2 C (dt_at dt_X4_become_2 27 rfl) ?_
    obtain ⟨σ29, e28, h⟩ := bd_s h
    refine cv_X7_become C ww_1048 52 62 e28 (Nat.le_of_ble_eq_true rfl) (Nat.le_of_ble_eq_true rfl) z0 (dt_at dt_X4_become_2 28 rfl) ?_
    refine V_aload_n C (dt_at dt_X4_become_2 29 rfl) 0 rfl rfl ?_
    refine g_X4_64_1 C (dt_at dt_X4_become_2 30 rfl) ?_
    refine V_aload_n C (dt_at dt_X4_become_2 31 rfl) 1 rfl rfl ?_
    refine g_X4_64_2 C (dt_at dt_X4_become_2 32 rfl) ?_
    obtain ⟨σ32, e31, h⟩ := bd_s h
    refine cv_X7_become C ww_1048 54 64 e31 (Nat.le_of_ble_eq_true rfl) (Nat.le_of_ble_eq_true rfl) z0 (dt_at dt_X4_become_2 33 rfl) ?_
    refine V_iconst C 0 (dt_at dt_X4_become_2 34 rfl) (by decide) ?_
    refine V_istore_n C [1, 2, 0] (lv' := [(0, .ref (ga G 1)), (1, .ref (ga G 2)), (2, .int 0)]) (dt_at dt_X4_become_2 35 rfl) rfl (by decide) rfl ?_
    exact J_220 0 σ32 h
  have J_34 : ∀ (x2 : Int32) (σ : St), f_X4_become_1_34 x2 σ = some σ0 → V X G 3 0 0 σ 34 [(0, .ref (ga G 1)), (1, .ref (ga G 2)), (2, .int x2)] [] := by
    intro x2 σ h
    refine it_v (P := fun z : Int32 × St => V X G 3 0 0 z.2 34 [(0, .ref (ga G 1)), (1, .ref (ga G 2)), (2, .int z.1)] []) ?_ (x2, σ) h
    clear h
    intro z w_34 h ih_34 ex_34
    obtain ⟨x2, σ⟩ := z
    have h : b_X4_become_1_34 x2 σ = some w_34 := h
    show V X G 3 0 0 σ 34 [(0, .ref (ga G 1)), (1, .ref (ga G 2)), (2, .int x2)] []
    unfold b_X4_become_1_34 at h
    refine V_iload_n C (dt_at dt_X4_become_0 18 rfl) 2 rfl rfl ?_
    refine V_aload_n C (dt_at dt_X4_become_0 19 rfl) 0 rfl rfl ?_
    refine g_X4_15_1 C (dt_at dt_X4_become_0 20 rfl) ?_
    refine V_icmp_ge C 60 (dt_at dt_X4_become_0 21 rfl) (by decide) (fun q5 => ?_) (fun q5 => ?_)
    · have h := ite_f q5 h
      refine V_sub [0, 1] (lv' := [(0, .ref (ga G 1)), (1, .ref (ga G 2))]) rfl ?_
      obtain ⟨t6, h, e_34⟩ := map_s h
      have e_34 := ex_34 _ e_34
      rw [e_34] at h
      exact J_60 σ h
    · have h := ite_t q5 h
      refine V_aload_n C (dt_at dt_X4_become_0 22 rfl) 0 rfl rfl ?_
      refine g_X4_26_1 C (dt_at dt_X4_become_0 23 rfl) ?_
      refine V_iload_n C (dt_at dt_X4_become_0 24 rfl) 2 rfl rfl ?_
      refine V_aload_n C (dt_at dt_X4_become_0 25 rfl) 1 rfl rfl ?_
      refine g_X4_26_2 C (dt_at dt_X4_become_0 26 rfl) ?_
      refine V_iload_n C (dt_at dt_X4_become_0 27 rfl) 2 rfl rfl ?_
      obtain ⟨h7, h⟩ := chk_s h
      obtain ⟨h8, h⟩ := chk_s h
      refine V_aaR20 C h7 h8 (dt_at dt_X4_become_0 28 rfl) ?_
      obtain ⟨h9, h⟩ := chk_s h
      obtain ⟨σ10, eσ10, h⟩ := nm_s h
      refine V_st eσ10 ?_ (fun k => V_aastR10 C (K := (rd σ 20 x2).toNatClampNeg) h8 (of_decide_eq_true h9) h7 (dt_at dt_X4_become_0 29 rfl) k)
      refine V_iinc C (x2 + 1) 2 [1, 2, 0] (lv' := [(0, .ref (ga G 1)), (1, .ref (ga G 2)), (2, .int (x2 + 1))]) (dt_at dt_X4_become_0 30 rfl) rfl (by rfl) (by decide) rfl ?_
      refine V_goto C 34 (dt_at dt_X4_become_0 31 rfl) (by decide) ?_
      exact ih_34 ((x2 + 1), σ10) (Option.some.inj h).symm
  refine V_aload_n C (dt_at dt_X4_become_0 0 rfl) 0 rfl rfl ?_
  refine V_aload_n C (dt_at dt_X4_become_0 1 rfl) 1 rfl rfl ?_
  refine g_X4_9_2 C (dt_at dt_X4_become_0 2 rfl) ?_
  obtain ⟨σ1, eσ1, h⟩ := nm_s h
  refine V_st eσ1 ?_ (fun k => p_X4_9_1 C (dt_at dt_X4_become_0 3 rfl) k)
  refine V_aload_n C (dt_at dt_X4_become_0 4 rfl) 0 rfl rfl ?_
  refine V_aload_n C (dt_at dt_X4_become_0 5 rfl) 1 rfl rfl ?_
  refine g_X4_15_2 C (dt_at dt_X4_become_0 6 rfl) ?_
  obtain ⟨σ2, eσ2, h⟩ := nm_s h
  refine V_st eσ2 ?_ (fun k => p_X4_15_1 C (dt_at dt_X4_become_0 7 rfl) k)
  refine V_aload_n C (dt_at dt_X4_become_0 8 rfl) 0 rfl rfl ?_
  refine V_aload_n C (dt_at dt_X4_become_0 9 rfl) 1 rfl rfl ?_
  refine g_X4_18_2 C (dt_at dt_X4_become_0 10 rfl) ?_
  obtain ⟨σ3, eσ3, h⟩ := nm_s h
  refine V_st eσ3 ?_ (fun k => p_X4_18_1 C (dt_at dt_X4_become_0 11 rfl) k)
  refine V_aload_n C (dt_at dt_X4_become_0 12 rfl) 0 rfl rfl ?_
  refine V_aload_n C (dt_at dt_X4_become_0 13 rfl) 1 rfl rfl ?_
  refine g_X4_21_2 C (dt_at dt_X4_become_0 14 rfl) ?_
  obtain ⟨σ4, eσ4, h⟩ := nm_s h
  refine V_st eσ4 ?_ (fun k => p_X4_21_1 C (dt_at dt_X4_become_0 15 rfl) k)
  refine V_iconst C 0 (dt_at dt_X4_become_0 16 rfl) (by decide) ?_
  refine V_istore_n C [1, 2, 0] (lv' := [(0, .ref (ga G 1)), (1, .ref (ga G 2)), (2, .int 0)]) (dt_at dt_X4_become_0 17 rfl) rfl (by decide) rfl ?_
  exact J_34 0 σ4 h
theorem cv_X4_become_1 (C : Ck X G cc own nL d) {idx : Nat} (hlk : Cond.methodLink own idx yX4_become ∈ gtb) {σ0 : St} (e : f_X4_become_1 σ = some σ0) (hdd : 3 ≤ d) (hroom : (rest.map fun v => v.category).sum ≤ 8) (hcs : cells ≤ (xR X).cells ∧ slots ≤ (xR X).slots) (hd : decode cc pc = .ok (.invokevirtual idx, 3)) (k : V X G nL cells slots σ0 (pc + 3) lv (rest)) : V X G nL cells slots σ pc lv (.ref (ga G 2) :: .ref (ga G 1) :: rest) := V_callV C (As := [.ref (ga G 2)]) (c_X4_become_1 X.2.1 G  σ σ0 e) cal_X4_become ww_1051 ww_1052 hlk rfl hdd (lt110 rfl) rfl rfl rfl hroom hcs hd k
end WK
