section WK
variable {X : Xx} {G : Gx} {cc : ByteArray} {own : String} {nL d cells slots pc : Nat} {σ : St} {lv : List (Nat × Value)} {rest : List Value}
theorem pr_0 (C : Ck X G cc RX6 nL d) {K : Nat} {v : Int32} (hin : (xM X).name = "<init>") (hr : isRole σ K = true) (hd : decode cc pc = .ok (.putfield 9, 3)) (k : V X G nL cells slots (fw σ K 0 v) (pc + 3) lv rest) : V X G nL cells slots σ pc lv (.int v :: .ref (ga G K) :: rest) := by
  have h := of_decide_eq_true hr
  have hK : K < 110 + σ.1 := h.2.1
  rcases h.2.2 with e | e | e | e | e | e
  · exact V_putF C (K := K) (T := TX0) (N := 5) (j := 0) (ci := 0) (ty := .int) (upd (σ.2.1 K) 0 v) tyX0 tyX0_ok nmX0 hK (role_lay h.1 e) rfl inX0 (by decide) ww_846 (fun _ h => h) rfl hin rfl rfl rfl rfl (Nat.le_of_ble_eq_true rfl) ((lay_role G h.1 _ _).trans (congrArg (fun z => Sum.inr (z, _)) e)) hd k
  · exact V_putF C (K := K) (T := TX1) (N := 5) (j := 0) (ci := 1) (ty := .int) (upd (σ.2.1 K) 0 v) tyX1 tyX1_ok nmX1 hK (role_lay h.1 e) rfl inX1 (by decide) ww_846 (fun _ h => h) rfl hin rfl rfl rfl rfl (Nat.le_of_ble_eq_true rfl) ((lay_role G h.1 _ _).trans (congrArg (fun z => Sum.inr (z, _)) e)) hd k
  · exact V_putF C (K := K) (T := TX2) (N := 5) (j := 0) (ci := 2) (ty := .int) (upd (σ.2.1 K) 0 v) tyX2 tyX2_ok nmX2 hK (role_lay h.1 e) rfl inX2 (by decide) ww_846 (fun _ h => h) rfl hin rfl rfl rfl rfl (Nat.le_of_ble_eq_true rfl) ((lay_role G h.1 _ _).trans (congrArg (fun z => Sum.inr (z, _)) e)) hd k
  · exact V_putF C (K := K) (T := TX3) (N := 5) (j := 0) (ci := 3) (ty := .int) (upd (σ.2.1 K) 0 v) tyX3 tyX3_ok nmX3 hK (role_lay h.1 e) rfl inX3 (by decide) ww_846 (fun _ h => h) rfl hin rfl rfl rfl rfl (Nat.le_of_ble_eq_true rfl) ((lay_role G h.1 _ _).trans (congrArg (fun z => Sum.inr (z, _)) e)) hd k
  · exact V_putF C (K := K) (T := TX6) (N := 5) (j := 0) (ci := 6) (ty := .int) (upd (σ.2.1 K) 0 v) tyX6 tyX6_ok nmX6 hK (role_lay h.1 e) rfl inX6 (by decide) ww_846 (fun _ h => h) rfl hin rfl rfl rfl rfl (Nat.le_of_ble_eq_true rfl) ((lay_role G h.1 _ _).trans (congrArg (fun z => Sum.inr (z, _)) e)) hd k
  · exact V_putF C (K := K) (T := TX9) (N := 5) (j := 0) (ci := 9) (ty := .int) (upd (σ.2.1 K) 0 v) tyX9 tyX9_ok nmX9 hK (role_lay h.1 e) rfl inX9 (by decide) ww_846 (fun _ h => h) rfl hin rfl rfl rfl rfl (Nat.le_of_ble_eq_true rfl) ((lay_role G h.1 _ _).trans (congrArg (fun z => Sum.inr (z, _)) e)) hd k
theorem pr_1 (C : Ck X G cc RX6 nL d) {K : Nat} {v : Int32} (hin : (xM X).name = "<init>") (hr : isRole σ K = true) (hd : decode cc pc = .ok (.putfield 15, 3)) (k : V X G nL cells slots (fw σ K 1 v) (pc + 3) lv rest) : V X G nL cells slots σ pc lv (.int v :: .ref (ga G K) :: rest) := by
  have h := of_decide_eq_true hr
  have hK : K < 110 + σ.1 := h.2.1
  rcases h.2.2 with e | e | e | e | e | e
  · exact V_putF C (K := K) (T := TX0) (N := 5) (j := 1) (ci := 0) (ty := .int) (upd (σ.2.1 K) 1 v) tyX0 tyX0_ok nmX0 hK (role_lay h.1 e) rfl inX0 (by decide) ww_1154 (fun _ h => h) rfl hin rfl rfl rfl rfl (Nat.le_of_ble_eq_true rfl) ((lay_role G h.1 _ _).trans (congrArg (fun z => Sum.inr (z, _)) e)) hd k
  · exact V_putF C (K := K) (T := TX1) (N := 5) (j := 1) (ci := 1) (ty := .int) (upd (σ.2.1 K) 1 v) tyX1 tyX1_ok nmX1 hK (role_lay h.1 e) rfl inX1 (by decide) ww_1154 (fun _ h => h) rfl hin rfl rfl rfl rfl (Nat.le_of_ble_eq_true rfl) ((lay_role G h.1 _ _).trans (congrArg (fun z => Sum.inr (z, _)) e)) hd k
  · exact V_putF C (K := K) (T := TX2) (N := 5) (j := 1) (ci := 2) (ty := .int) (upd (σ.2.1 K) 1 v) tyX2 tyX2_ok nmX2 hK (role_lay h.1 e) rfl inX2 (by decide) ww_1154 (fun _ h => h) rfl hin rfl rfl rfl rfl (Nat.le_of_ble_eq_true rfl) ((lay_role G h.1 _ _).trans (congrArg (fun z => Sum.inr (z, _)) e)) hd k
  · exact V_putF C (K := K) (T := TX3) (N := 5) (j := 1) (ci := 3) (ty := .int) (upd (σ.2.1 K) 1 v) tyX3 tyX3_ok nmX3 hK (role_lay h.1 e) rfl inX3 (by decide) ww_1154 (fun _ h => h) rfl hin rfl rfl rfl rfl (Nat.le_of_ble_eq_true rfl) ((lay_role G h.1 _ _).trans (congrArg (fun z => Sum.inr (z, _)) e)) hd k
  · exact V_putF C (K := K) (T := TX6) (N := 5) (j := 1) (ci := 6) (ty := .int) (upd (σ.2.1 K) 1 v) tyX6 tyX6_ok nmX6 hK (role_lay h.1 e) rfl inX6 (by decide) ww_1154 (fun _ h => h) rfl hin rfl rfl rfl rfl (Nat.le_of_ble_eq_true rfl) ((lay_role G h.1 _ _).trans (congrArg (fun z => Sum.inr (z, _)) e)) hd k
  · exact V_putF C (K := K) (T := TX9) (N := 5) (j := 1) (ci := 9) (ty := .int) (upd (σ.2.1 K) 1 v) tyX9 tyX9_ok nmX9 hK (role_lay h.1 e) rfl inX9 (by decide) ww_1154 (fun _ h => h) rfl hin rfl rfl rfl rfl (Nat.le_of_ble_eq_true rfl) ((lay_role G h.1 _ _).trans (congrArg (fun z => Sum.inr (z, _)) e)) hd k
theorem pr_2 (C : Ck X G cc RX6 nL d) {K : Nat} {v : Int32} (hin : (xM X).name = "<init>") (hr : isRole σ K = true) (hd : decode cc pc = .ok (.putfield 18, 3)) (k : V X G nL cells slots (fw σ K 2 v) (pc + 3) lv rest) : V X G nL cells slots σ pc lv (.int v :: .ref (ga G K) :: rest) := by
  have h := of_decide_eq_true hr
  have hK : K < 110 + σ.1 := h.2.1
  rcases h.2.2 with e | e | e | e | e | e
  · exact V_putF C (K := K) (T := TX0) (N := 5) (j := 2) (ci := 0) (ty := .int) (upd (σ.2.1 K) 2 v) tyX0 tyX0_ok nmX0 hK (role_lay h.1 e) rfl inX0 (by decide) ww_1155 (fun _ h => h) rfl hin rfl rfl rfl rfl (Nat.le_of_ble_eq_true rfl) ((lay_role G h.1 _ _).trans (congrArg (fun z => Sum.inr (z, _)) e)) hd k
  · exact V_putF C (K := K) (T := TX1) (N := 5) (j := 2) (ci := 1) (ty := .int) (upd (σ.2.1 K) 2 v) tyX1 tyX1_ok nmX1 hK (role_lay h.1 e) rfl inX1 (by decide) ww_1155 (fun _ h => h) rfl hin rfl rfl rfl rfl (Nat.le_of_ble_eq_true rfl) ((lay_role G h.1 _ _).trans (congrArg (fun z => Sum.inr (z, _)) e)) hd k
  · exact V_putF C (K := K) (T := TX2) (N := 5) (j := 2) (ci := 2) (ty := .int) (upd (σ.2.1 K) 2 v) tyX2 tyX2_ok nmX2 hK (role_lay h.1 e) rfl inX2 (by decide) ww_1155 (fun _ h => h) rfl hin rfl rfl rfl rfl (Nat.le_of_ble_eq_true rfl) ((lay_role G h.1 _ _).trans (congrArg (fun z => Sum.inr (z, _)) e)) hd k
  · exact V_putF C (K := K) (T := TX3) (N := 5) (j := 2) (ci := 3) (ty := .int) (upd (σ.2.1 K) 2 v) tyX3 tyX3_ok nmX3 hK (role_lay h.1 e) rfl inX3 (by decide) ww_1155 (fun _ h => h) rfl hin rfl rfl rfl rfl (Nat.le_of_ble_eq_true rfl) ((lay_role G h.1 _ _).trans (congrArg (fun z => Sum.inr (z, _)) e)) hd k
  · exact V_putF C (K := K) (T := TX6) (N := 5) (j := 2) (ci := 6) (ty := .int) (upd (σ.2.1 K) 2 v) tyX6 tyX6_ok nmX6 hK (role_lay h.1 e) rfl inX6 (by decide) ww_1155 (fun _ h => h) rfl hin rfl rfl rfl rfl (Nat.le_of_ble_eq_true rfl) ((lay_role G h.1 _ _).trans (congrArg (fun z => Sum.inr (z, _)) e)) hd k
  · exact V_putF C (K := K) (T := TX9) (N := 5) (j := 2) (ci := 9) (ty := .int) (upd (σ.2.1 K) 2 v) tyX9 tyX9_ok nmX9 hK (role_lay h.1 e) rfl inX9 (by decide) ww_1155 (fun _ h => h) rfl hin rfl rfl rfl rfl (Nat.le_of_ble_eq_true rfl) ((lay_role G h.1 _ _).trans (congrArg (fun z => Sum.inr (z, _)) e)) hd k
theorem pr_3 (C : Ck X G cc RX6 nL d) {K : Nat} {v : Int32} (hin : (xM X).name = "<init>") (hr : isRole σ K = true) (hd : decode cc pc = .ok (.putfield 21, 3)) (k : V X G nL cells slots (fw σ K 3 v) (pc + 3) lv rest) : V X G nL cells slots σ pc lv (.int v :: .ref (ga G K) :: rest) := by
  have h := of_decide_eq_true hr
  have hK : K < 110 + σ.1 := h.2.1
  rcases h.2.2 with e | e | e | e | e | e
  · exact V_putF C (K := K) (T := TX0) (N := 5) (j := 3) (ci := 0) (ty := .int) (upd (σ.2.1 K) 3 v) tyX0 tyX0_ok nmX0 hK (role_lay h.1 e) rfl inX0 (by decide) ww_1156 (fun _ h => h) rfl hin rfl rfl rfl rfl (Nat.le_of_ble_eq_true rfl) ((lay_role G h.1 _ _).trans (congrArg (fun z => Sum.inr (z, _)) e)) hd k
  · exact V_putF C (K := K) (T := TX1) (N := 5) (j := 3) (ci := 1) (ty := .int) (upd (σ.2.1 K) 3 v) tyX1 tyX1_ok nmX1 hK (role_lay h.1 e) rfl inX1 (by decide) ww_1156 (fun _ h => h) rfl hin rfl rfl rfl rfl (Nat.le_of_ble_eq_true rfl) ((lay_role G h.1 _ _).trans (congrArg (fun z => Sum.inr (z, _)) e)) hd k
  · exact V_putF C (K := K) (T := TX2) (N := 5) (j := 3) (ci := 2) (ty := .int) (upd (σ.2.1 K) 3 v) tyX2 tyX2_ok nmX2 hK (role_lay h.1 e) rfl inX2 (by decide) ww_1156 (fun _ h => h) rfl hin rfl rfl rfl rfl (Nat.le_of_ble_eq_true rfl) ((lay_role G h.1 _ _).trans (congrArg (fun z => Sum.inr (z, _)) e)) hd k
  · exact V_putF C (K := K) (T := TX3) (N := 5) (j := 3) (ci := 3) (ty := .int) (upd (σ.2.1 K) 3 v) tyX3 tyX3_ok nmX3 hK (role_lay h.1 e) rfl inX3 (by decide) ww_1156 (fun _ h => h) rfl hin rfl rfl rfl rfl (Nat.le_of_ble_eq_true rfl) ((lay_role G h.1 _ _).trans (congrArg (fun z => Sum.inr (z, _)) e)) hd k
  · exact V_putF C (K := K) (T := TX6) (N := 5) (j := 3) (ci := 6) (ty := .int) (upd (σ.2.1 K) 3 v) tyX6 tyX6_ok nmX6 hK (role_lay h.1 e) rfl inX6 (by decide) ww_1156 (fun _ h => h) rfl hin rfl rfl rfl rfl (Nat.le_of_ble_eq_true rfl) ((lay_role G h.1 _ _).trans (congrArg (fun z => Sum.inr (z, _)) e)) hd k
  · exact V_putF C (K := K) (T := TX9) (N := 5) (j := 3) (ci := 9) (ty := .int) (upd (σ.2.1 K) 3 v) tyX9 tyX9_ok nmX9 hK (role_lay h.1 e) rfl inX9 (by decide) ww_1156 (fun _ h => h) rfl hin rfl rfl rfl rfl (Nat.le_of_ble_eq_true rfl) ((lay_role G h.1 _ _).trans (congrArg (fun z => Sum.inr (z, _)) e)) hd k
theorem pr_4 (C : Ck X G cc RX6 nL d) {K : Nat} {v : Int32} (hin : (xM X).name = "<init>") (hr : isRole σ K = true) (hd : decode cc pc = .ok (.putfield 24, 3)) (k : V X G nL cells slots (fw σ K 4 v) (pc + 3) lv rest) : V X G nL cells slots σ pc lv (.int v :: .ref (ga G K) :: rest) := by
  have h := of_decide_eq_true hr
  have hK : K < 110 + σ.1 := h.2.1
  rcases h.2.2 with e | e | e | e | e | e
  · exact V_putF C (K := K) (T := TX0) (N := 5) (j := 4) (ci := 0) (ty := .int) (upd (σ.2.1 K) 4 v) tyX0 tyX0_ok nmX0 hK (role_lay h.1 e) rfl inX0 (by decide) ww_862 (fun _ h => h) rfl hin rfl rfl rfl rfl (Nat.le_of_ble_eq_true rfl) ((lay_role G h.1 _ _).trans (congrArg (fun z => Sum.inr (z, _)) e)) hd k
  · exact V_putF C (K := K) (T := TX1) (N := 5) (j := 4) (ci := 1) (ty := .int) (upd (σ.2.1 K) 4 v) tyX1 tyX1_ok nmX1 hK (role_lay h.1 e) rfl inX1 (by decide) ww_862 (fun _ h => h) rfl hin rfl rfl rfl rfl (Nat.le_of_ble_eq_true rfl) ((lay_role G h.1 _ _).trans (congrArg (fun z => Sum.inr (z, _)) e)) hd k
  · exact V_putF C (K := K) (T := TX2) (N := 5) (j := 4) (ci := 2) (ty := .int) (upd (σ.2.1 K) 4 v) tyX2 tyX2_ok nmX2 hK (role_lay h.1 e) rfl inX2 (by decide) ww_862 (fun _ h => h) rfl hin rfl rfl rfl rfl (Nat.le_of_ble_eq_true rfl) ((lay_role G h.1 _ _).trans (congrArg (fun z => Sum.inr (z, _)) e)) hd k
  · exact V_putF C (K := K) (T := TX3) (N := 5) (j := 4) (ci := 3) (ty := .int) (upd (σ.2.1 K) 4 v) tyX3 tyX3_ok nmX3 hK (role_lay h.1 e) rfl inX3 (by decide) ww_862 (fun _ h => h) rfl hin rfl rfl rfl rfl (Nat.le_of_ble_eq_true rfl) ((lay_role G h.1 _ _).trans (congrArg (fun z => Sum.inr (z, _)) e)) hd k
  · exact V_putF C (K := K) (T := TX6) (N := 5) (j := 4) (ci := 6) (ty := .int) (upd (σ.2.1 K) 4 v) tyX6 tyX6_ok nmX6 hK (role_lay h.1 e) rfl inX6 (by decide) ww_862 (fun _ h => h) rfl hin rfl rfl rfl rfl (Nat.le_of_ble_eq_true rfl) ((lay_role G h.1 _ _).trans (congrArg (fun z => Sum.inr (z, _)) e)) hd k
  · exact V_putF C (K := K) (T := TX9) (N := 5) (j := 4) (ci := 9) (ty := .int) (upd (σ.2.1 K) 4 v) tyX9 tyX9_ok nmX9 hK (role_lay h.1 e) rfl inX9 (by decide) ww_862 (fun _ h => h) rfl hin rfl rfl rfl rfl (Nat.le_of_ble_eq_true rfl) ((lay_role G h.1 _ _).trans (congrArg (fun z => Sum.inr (z, _)) e)) hd k
theorem dt_X6_init_0 : dtab cX6_init [(0, .aload_n 0, 1), (1, .invokespecial 3, 3), (4, .aload_n 0, 1), (5, .iload_n 1, 1), (6, .putfield 9, 3), (9, .aload_n 0, 1), (10, .iload_n 2, 1), (11, .putfield 15, 3), (14, .aload_n 0, 1), (15, .iload_n 3, 1), (16, .sipush 1000, 3), (19, .idiv, 1), (20, .putfield 18, 3), (23, .aload_n 0, 1), (24, .iload_n 3, 1), (25, .bipush 10, 2), (27, .idiv, 1), (28, .bipush 100, 2), (30, .irem, 1), (31, .putfield 21, 3), (34, .aload_n 0, 1), (35, .iload_n 3, 1), (36, .bipush 10, 2), (38, .irem, 1), (39, .putfield 24, 3), (42, .return_, 1)] = true := by decide +kernel
theorem cal_X6_init : Cal yX6_init cX6_init 4 none 3 := ⟨ww_1157, ww_844, ⟨by decide, by decide, by decide⟩, by decide⟩
set_option maxHeartbeats 4000000 in
set_option maxRecDepth 100000 in
theorem c_X6_init (l : Launch) (G : Gx) (c0 : Nat) (x1 : Int32) (x2 : Int32) (x3 : Int32) (σ : St) (σ0 : St) (h : f_X6_init c0 x1 x2 x3 σ = some σ0) : MI l G yX6_init cX6_init 4 none 1 [.ref (ga G c0), .int x1, .int x2, .int x3] σ none σ0 := by
  refine MI_ofI RX6 rfl (by decide) [(0, .ref (ga G c0)), (1, .int x1), (2, .int x2), (3, .int x3)] rfl (Nat.le_of_ble_eq_true rfl) ?_
  intro X hXl C hR hin
  unfold f_X6_init at h
  refine V_aload_n C (dt_at dt_X6_init_0 0 rfl) 0 rfl rfl ?_
  refine V_obj C ww_1158 ⟨ww_1152, ww_1153⟩ (Nat.le_of_ble_eq_true rfl) (Nat.le_of_ble_eq_true rfl) (dt_at dt_X6_init_0 1 rfl) ?_
  refine V_aload_n C (dt_at dt_X6_init_0 2 rfl) 0 rfl rfl ?_
  refine V_iload_n C (dt_at dt_X6_init_0 3 rfl) 1 rfl rfl ?_
  obtain ⟨hr0, h⟩ := chk_s h
  obtain ⟨τ0, eτ0, h⟩ := nm_s h
  refine V_st eτ0 ?_ (fun k => pr_0 C hin hr0 (dt_at dt_X6_init_0 4 rfl) k)
  refine V_aload_n C (dt_at dt_X6_init_0 5 rfl) 0 rfl rfl ?_
  refine V_iload_n C (dt_at dt_X6_init_0 6 rfl) 2 rfl rfl ?_
  obtain ⟨hr1, h⟩ := chk_s h
  obtain ⟨τ1, eτ1, h⟩ := nm_s h
  refine V_st eτ1 ?_ (fun k => pr_1 C hin hr1 (dt_at dt_X6_init_0 7 rfl) k)
  refine V_aload_n C (dt_at dt_X6_init_0 8 rfl) 0 rfl rfl ?_
  refine V_iload_n C (dt_at dt_X6_init_0 9 rfl) 3 rfl rfl ?_
  refine V_sipush C 1000 (dt_at dt_X6_init_0 10 rfl) (by decide) ?_
  refine V_idiv C (dt_at dt_X6_init_0 11 rfl) (by decide) ?_
  obtain ⟨hr2, h⟩ := chk_s h
  obtain ⟨τ2, eτ2, h⟩ := nm_s h
  refine V_st eτ2 ?_ (fun k => pr_2 C hin hr2 (dt_at dt_X6_init_0 12 rfl) k)
  refine V_aload_n C (dt_at dt_X6_init_0 13 rfl) 0 rfl rfl ?_
  refine V_iload_n C (dt_at dt_X6_init_0 14 rfl) 3 rfl rfl ?_
  refine V_bipush C 10 (dt_at dt_X6_init_0 15 rfl) (by decide) ?_
  refine V_idiv C (dt_at dt_X6_init_0 16 rfl) (by decide) ?_
  refine V_bipush C 100 (dt_at dt_X6_init_0 17 rfl) (by decide) ?_
  refine V_irem C (dt_at dt_X6_init_0 18 rfl) (by decide) ?_
  obtain ⟨hr3, h⟩ := chk_s h
  obtain ⟨τ3, eτ3, h⟩ := nm_s h
  refine V_st eτ3 ?_ (fun k => pr_3 C hin hr3 (dt_at dt_X6_init_0 19 rfl) k)
  refine V_aload_n C (dt_at dt_X6_init_0 20 rfl) 0 rfl rfl ?_
  refine V_iload_n C (dt_at dt_X6_init_0 21 rfl) 3 rfl rfl ?_
  refine V_bipush C 10 (dt_at dt_X6_init_0 22 rfl) (by decide) ?_
  refine V_irem C (dt_at dt_X6_init_0 23 rfl) (by decide) ?_
  obtain ⟨hr4, h⟩ := chk_s h
  obtain ⟨τ4, eτ4, h⟩ := nm_s h
  refine V_st eτ4 ?_ (fun k => pr_4 C hin hr4 (dt_at dt_X6_init_0 24 rfl) k)
  have e1_ := Option.some.inj h
  subst e1_
  exact V_vret C hR (dt_at dt_X6_init_0 25 rfl)
theorem dt_X9_init_0 : dtab cX9_init [(0, .aload_n 0, 1), (1, .iload_n 1, 1), (2, .iload_n 2, 1), (3, .iload_n 3, 1), (4, .invokespecial 1, 3), (7, .return_, 1)] = true := by decide +kernel
theorem cal_X9_init : Cal yX9_init cX9_init 4 none 3 := ⟨ww_1159, ww_883, ⟨by decide, by decide, by decide⟩, by decide⟩
set_option maxHeartbeats 4000000 in
set_option maxRecDepth 100000 in
theorem c_X9_init (l : Launch) (G : Gx) (c0 : Nat) (x1 : Int32) (x2 : Int32) (x3 : Int32) (σ : St) (σ0 : St) (h : f_X6_init c0 x1 x2 x3 σ = some σ0) : MI l G yX9_init cX9_init 4 none 2 [.ref (ga G c0), .int x1, .int x2, .int x3] σ none σ0 := by
  refine MI_of RX9 rfl (by decide) [(0, .ref (ga G c0)), (1, .int x1), (2, .int x2), (3, .int x3)] rfl (Nat.le_of_ble_eq_true rfl) ?_
  intro X hXl C hR
  refine V_aload_n C (dt_at dt_X9_init_0 0 rfl) 0 rfl rfl ?_
  refine V_iload_n C (dt_at dt_X9_init_0 1 rfl) 1 rfl rfl ?_
  refine V_iload_n C (dt_at dt_X9_init_0 2 rfl) 2 rfl rfl ?_
  refine V_iload_n C (dt_at dt_X9_init_0 3 rfl) 3 rfl rfl ?_
  refine V_callI C (As := [.int x1, .int x2, .int x3]) (c_X6_init X.2.1 G c0 x1 x2 x3 σ σ0 h) cal_X6_init ww_1161 ww_1160 rfl rfl (Nat.le_of_ble_eq_true rfl) rfl (Nat.le_of_ble_eq_true rfl) z0 (dt_at dt_X9_init_0 4 rfl) ?_
  exact V_vret C hR (dt_at dt_X9_init_0 5 rfl)
theorem dt_X2_init_0 : dtab cX2_init [(0, .aload_n 0, 1), (1, .iload_n 1, 1), (2, .iload_n 2, 1), (3, .iload_n 3, 1), (4, .invokespecial 1, 3), (7, .return_, 1)] = true := by decide +kernel
theorem cal_X2_init : Cal yX2_init cX2_init 4 none 3 := ⟨ww_1162, ww_850, ⟨by decide, by decide, by decide⟩, by decide⟩
set_option maxHeartbeats 4000000 in
set_option maxRecDepth 100000 in
theorem c_X2_init (l : Launch) (G : Gx) (c0 : Nat) (x1 : Int32) (x2 : Int32) (x3 : Int32) (σ : St) (σ0 : St) (h : f_X6_init c0 x1 x2 x3 σ = some σ0) : MI l G yX2_init cX2_init 4 none 2 [.ref (ga G c0), .int x1, .int x2, .int x3] σ none σ0 := by
  refine MI_of RX2 rfl (by decide) [(0, .ref (ga G c0)), (1, .int x1), (2, .int x2), (3, .int x3)] rfl (Nat.le_of_ble_eq_true rfl) ?_
  intro X hXl C hR
  refine V_aload_n C (dt_at dt_X2_init_0 0 rfl) 0 rfl rfl ?_
  refine V_iload_n C (dt_at dt_X2_init_0 1 rfl) 1 rfl rfl ?_
  refine V_iload_n C (dt_at dt_X2_init_0 2 rfl) 2 rfl rfl ?_
  refine V_iload_n C (dt_at dt_X2_init_0 3 rfl) 3 rfl rfl ?_
  refine V_callI C (As := [.int x1, .int x2, .int x3]) (c_X6_init X.2.1 G c0 x1 x2 x3 σ σ0 h) cal_X6_init ww_1161 ww_1163 rfl rfl (Nat.le_of_ble_eq_true rfl) rfl (Nat.le_of_ble_eq_true rfl) z0 (dt_at dt_X2_init_0 4 rfl) ?_
  exact V_vret C hR (dt_at dt_X2_init_0 5 rfl)
theorem dt_X3_init_0 : dtab cX3_init [(0, .aload_n 0, 1), (1, .iload_n 1, 1), (2, .iload_n 2, 1), (3, .iload_n 3, 1), (4, .invokespecial 1, 3), (7, .return_, 1)] = true := by decide +kernel
theorem cal_X3_init : Cal yX3_init cX3_init 4 none 3 := ⟨ww_1164, ww_866, ⟨by decide, by decide, by decide⟩, by decide⟩
set_option maxHeartbeats 4000000 in
set_option maxRecDepth 100000 in
theorem c_X3_init (l : Launch) (G : Gx) (c0 : Nat) (x1 : Int32) (x2 : Int32) (x3 : Int32) (σ : St) (σ0 : St) (h : f_X6_init c0 x1 x2 x3 σ = some σ0) : MI l G yX3_init cX3_init 4 none 3 [.ref (ga G c0), .int x1, .int x2, .int x3] σ none σ0 := by
  refine MI_of RX3 rfl (by decide) [(0, .ref (ga G c0)), (1, .int x1), (2, .int x2), (3, .int x3)] rfl (Nat.le_of_ble_eq_true rfl) ?_
  intro X hXl C hR
  refine V_aload_n C (dt_at dt_X3_init_0 0 rfl) 0 rfl rfl ?_
  refine V_iload_n C (dt_at dt_X3_init_0 1 rfl) 1 rfl rfl ?_
  refine V_iload_n C (dt_at dt_X3_init_0 2 rfl) 2 rfl rfl ?_
  refine V_iload_n C (dt_at dt_X3_init_0 3 rfl) 3 rfl rfl ?_
  refine V_callI C (As := [.int x1, .int x2, .int x3]) (c_X9_init X.2.1 G c0 x1 x2 x3 σ σ0 h) cal_X9_init ww_1166 ww_1165 rfl rfl (Nat.le_of_ble_eq_true rfl) rfl (Nat.le_of_ble_eq_true rfl) z0 (dt_at dt_X3_init_0 4 rfl) ?_
  exact V_vret C hR (dt_at dt_X3_init_0 5 rfl)
theorem dt_X1_init_0 : dtab cX1_init [(0, .aload_n 0, 1), (1, .iload_n 1, 1), (2, .iload_n 2, 1), (3, .iload_n 3, 1), (4, .invokespecial 1, 3), (7, .return_, 1)] = true := by decide +kernel
theorem cal_X1_init : Cal yX1_init cX1_init 4 none 3 := ⟨ww_1167, ww_926, ⟨by decide, by decide, by decide⟩, by decide⟩
set_option maxHeartbeats 4000000 in
set_option maxRecDepth 100000 in
theorem c_X1_init (l : Launch) (G : Gx) (c0 : Nat) (x1 : Int32) (x2 : Int32) (x3 : Int32) (σ : St) (σ0 : St) (h : f_X6_init c0 x1 x2 x3 σ = some σ0) : MI l G yX1_init cX1_init 4 none 3 [.ref (ga G c0), .int x1, .int x2, .int x3] σ none σ0 := by
  refine MI_of RX1 rfl (by decide) [(0, .ref (ga G c0)), (1, .int x1), (2, .int x2), (3, .int x3)] rfl (Nat.le_of_ble_eq_true rfl) ?_
  intro X hXl C hR
  refine V_aload_n C (dt_at dt_X1_init_0 0 rfl) 0 rfl rfl ?_
  refine V_iload_n C (dt_at dt_X1_init_0 1 rfl) 1 rfl rfl ?_
  refine V_iload_n C (dt_at dt_X1_init_0 2 rfl) 2 rfl rfl ?_
  refine V_iload_n C (dt_at dt_X1_init_0 3 rfl) 3 rfl rfl ?_
  refine V_callI C (As := [.int x1, .int x2, .int x3]) (c_X2_init X.2.1 G c0 x1 x2 x3 σ σ0 h) cal_X2_init ww_1169 ww_1168 rfl rfl (Nat.le_of_ble_eq_true rfl) rfl (Nat.le_of_ble_eq_true rfl) z0 (dt_at dt_X1_init_0 4 rfl) ?_
  exact V_vret C hR (dt_at dt_X1_init_0 5 rfl)
theorem dt_X0_init_0 : dtab cX0_init [(0, .aload_n 0, 1), (1, .iload_n 1, 1), (2, .iload_n 2, 1), (3, .iload_n 3, 1), (4, .invokespecial 1, 3), (7, .return_, 1)] = true := by decide +kernel
theorem cal_X0_init : Cal yX0_init cX0_init 4 none 3 := ⟨ww_1170, ww_857, ⟨by decide, by decide, by decide⟩, by decide⟩
set_option maxHeartbeats 4000000 in
set_option maxRecDepth 100000 in
theorem c_X0_init (l : Launch) (G : Gx) (c0 : Nat) (x1 : Int32) (x2 : Int32) (x3 : Int32) (σ : St) (σ0 : St) (h : f_X6_init c0 x1 x2 x3 σ = some σ0) : MI l G yX0_init cX0_init 4 none 3 [.ref (ga G c0), .int x1, .int x2, .int x3] σ none σ0 := by
  refine MI_of RX0 rfl (by decide) [(0, .ref (ga G c0)), (1, .int x1), (2, .int x2), (3, .int x3)] rfl (Nat.le_of_ble_eq_true rfl) ?_
  intro X hXl C hR
  refine V_aload_n C (dt_at dt_X0_init_0 0 rfl) 0 rfl rfl ?_
  refine V_iload_n C (dt_at dt_X0_init_0 1 rfl) 1 rfl rfl ?_
  refine V_iload_n C (dt_at dt_X0_init_0 2 rfl) 2 rfl rfl ?_
  refine V_iload_n C (dt_at dt_X0_init_0 3 rfl) 3 rfl rfl ?_
  refine V_callI C (As := [.int x1, .int x2, .int x3]) (c_X9_init X.2.1 G c0 x1 x2 x3 σ σ0 h) cal_X9_init ww_1166 ww_1171 rfl rfl (Nat.le_of_ble_eq_true rfl) rfl (Nat.le_of_ble_eq_true rfl) z0 (dt_at dt_X0_init_0 4 rfl) ?_
  exact V_vret C hR (dt_at dt_X0_init_0 5 rfl)
theorem dt_X11_newRole_0 : dtab cX11_newRole [(0, .aload_n 0, 1), (1, .getfield 12, 3), (4, .getfield 83, 3), (7, .istore_n 3, 1), (8, .iload_n 1, 1), (9, .tableswitch 90 1 5 #[35, 46, 57, 68, 79], 35), (44, .new 349, 3), (47, .dup, 1), (48, .iload_n 3, 1), (49, .iload_n 1, 1), (50, .iload_n 2, 1), (51, .invokespecial 351, 3), (54, .areturn, 1), (55, .new 354, 3), (58, .dup, 1), (59, .iload_n 3, 1), (60, .iload_n 1, 1), (61, .iload_n 2, 1), (62, .invokespecial 356, 3), (65, .areturn, 1), (66, .new 357, 3), (69, .dup, 1), (70, .iload_n 3, 1), (71, .iload_n 1, 1), (72, .iload_n 2, 1), (73, .invokespecial 359, 3), (76, .areturn, 1), (77, .new 360, 3), (80, .dup, 1), (81, .iload_n 3, 1), (82, .iload_n 1, 1), (83, .iload_n 2, 1), (84, .invokespecial 362, 3), (87, .areturn, 1), (88, .new 363, 3), (91, .dup, 1), (92, .iload_n 3, 1), (93, .iload_n 1, 1), (94, .iload_n 2, 1), (95, .invokespecial 365, 3), (98, .areturn, 1), (99, .new 103, 3), (102, .dup, 1), (103, .iload_n 3, 1), (104, .iload_n 1, 1), (105, .iload_n 2, 1), (106, .invokespecial 366, 3), (109, .areturn, 1)] = true := by decide +kernel
theorem cal_X11_newRole : Cal yX11_newRole cX11_newRole 4 (some (.object "FivePlayers$Role")) 2 := ⟨ww_1172, ww_100, ⟨by decide, by decide, by decide⟩, by decide⟩
set_option maxHeartbeats 4000000 in
set_option maxRecDepth 100000 in
theorem c_X11_newRole (l : Launch) (G : Gx) (x1 : Int32) (x2 : Int32) (σ : St) (σ0 : St) (h : f_X11_newRole x1 x2 σ = some σ0) : Met l yX11_newRole (.code yX11_newRole cX11_newRole 4 (some (.object "FivePlayers$Role")) :: gtb) (rmD 5 1 5) (va_Pc [.ref (ga G 0), .int x1, .int x2] (Wp G σ)) (fun _ st oc t => ∃ q, oc = .returned (some (.ref q)) ∧ Wq (gset G (110 + σ.1) q) σ0 st t) 1 5 (gA G) := by
  refine Met_of RX11 rfl (by decide) [(0, .ref (ga G 0)), (1, .int x1), (2, .int x2)] rfl (Nat.le_of_ble_eq_true rfl) ?_
  intro X hXl C hr hQ hRm
  unfold f_X11_newRole at h
  obtain ⟨hok, h⟩ := chk_s h
  have hcell : 0 + 1 ≤ (xR X).cells ∧ 0 + 5 ≤ (xR X).slots := by rw [hRm]; exact ⟨Nat.le_refl _, Nat.le_refl _⟩
  have hcs : 0 + 1 ≤ (xR X).cells ∧ 0 + 5 ≤ (xR X).slots := hcell
  refine V_aload_n C (dt_at dt_X11_newRole_0 0 rfl) 0 rfl rfl ?_
  refine g_X11_12_0 C (dt_at dt_X11_newRole_0 1 rfl) ?_
  refine g_X11_83_1 C (dt_at dt_X11_newRole_0 2 rfl) ?_
  refine V_istore_n C [1, 2, 3, 0] (lv' := [(0, .ref (ga G 0)), (1, .int x1), (2, .int x2), (3, .int (fd σ 1 1))]) (dt_at dt_X11_newRole_0 3 rfl) rfl (by decide) rfl ?_
  refine V_iload_n C (dt_at dt_X11_newRole_0 4 rfl) 1 rfl rfl ?_
  refine V_sub [1, 2, 3] (lv' := [(1, .int x1), (2, .int x2), (3, .int (fd σ 1 1))]) rfl ?_
  by_cases q1 : x1 = 1
  · rw [if_pos q1] at h
    refine V_tin C 0 44 (dt_at dt_X11_newRole_0 5 rfl) ⟨by rw [q1] <;> rfl, by decide⟩ rfl (by decide) ?_
    refine V_newR C (ci := 9) tyX9 tyX9_ok (by decide) hok (by decide) rfl inX9 ww_1173 ww_1174 ww_883 hcell (dt_at dt_X11_newRole_0 6 rfl) (fun q => ?_)
    have C2 : Ck X (gset G (110 + σ.1) q) cX11_newRole RX11 4 5 := C
    have hM := c_X9_init X.2.1 (gset G (110 + σ.1) q) (110 + σ.1) (fd σ 1 1) x1 x2 _ σ0 h
    rw [gset_self] at hM
    refine V_dup C2 (dt_at dt_X11_newRole_0 7 rfl) rfl ?_
    refine V_iload_n C2 (dt_at dt_X11_newRole_0 8 rfl) 2 rfl rfl ?_
    refine V_iload_n C2 (dt_at dt_X11_newRole_0 9 rfl) 0 rfl rfl ?_
    refine V_iload_n C2 (dt_at dt_X11_newRole_0 10 rfl) 1 rfl rfl ?_
    refine V_callI C2 (As := [.int (fd σ 1 1), .int x1, .int x2]) hM cal_X9_init ww_1166 ww_1175 rfl rfl (Nat.le_of_ble_eq_true rfl) rfl (Nat.le_of_ble_eq_true rfl) hcs (dt_at dt_X11_newRole_0 11 rfl) ?_
    intro H locs ls hH hl
    rw [hQ]
    exact W.aret C.1 C.2.1 hr (Or.inl ⟨_, rfl⟩) (Or.inr ⟨_, rfl⟩) (fun t ht _ => ⟨q, rfl, by rw [ht]; exact hH.1, hH.2.1, hH.2.2.F ht⟩) hH.2.2.2.2 (dt_at dt_X11_newRole_0 12 rfl) C.2.2.2.2.2.2.2.1
  by_cases q2 : x1 = 2
  · rw [if_neg q1, if_pos q2] at h
    refine V_tin C 1 55 (dt_at dt_X11_newRole_0 5 rfl) ⟨by rw [q2] <;> rfl, by decide⟩ rfl (by decide) ?_
    refine V_newR C (ci := 2) tyX2 tyX2_ok (by decide) hok (by decide) rfl inX2 ww_1176 ww_1177 ww_850 hcell (dt_at dt_X11_newRole_0 13 rfl) (fun q => ?_)
    have C2 : Ck X (gset G (110 + σ.1) q) cX11_newRole RX11 4 5 := C
    have hM := c_X2_init X.2.1 (gset G (110 + σ.1) q) (110 + σ.1) (fd σ 1 1) x1 x2 _ σ0 h
    rw [gset_self] at hM
    refine V_dup C2 (dt_at dt_X11_newRole_0 14 rfl) rfl ?_
    refine V_iload_n C2 (dt_at dt_X11_newRole_0 15 rfl) 2 rfl rfl ?_
    refine V_iload_n C2 (dt_at dt_X11_newRole_0 16 rfl) 0 rfl rfl ?_
    refine V_iload_n C2 (dt_at dt_X11_newRole_0 17 rfl) 1 rfl rfl ?_
    refine V_callI C2 (As := [.int (fd σ 1 1), .int x1, .int x2]) hM cal_X2_init ww_1169 ww_1178 rfl rfl (Nat.le_of_ble_eq_true rfl) rfl (Nat.le_of_ble_eq_true rfl) hcs (dt_at dt_X11_newRole_0 18 rfl) ?_
    intro H locs ls hH hl
    rw [hQ]
    exact W.aret C.1 C.2.1 hr (Or.inl ⟨_, rfl⟩) (Or.inr ⟨_, rfl⟩) (fun t ht _ => ⟨q, rfl, by rw [ht]; exact hH.1, hH.2.1, hH.2.2.F ht⟩) hH.2.2.2.2 (dt_at dt_X11_newRole_0 19 rfl) C.2.2.2.2.2.2.2.1
  by_cases q3 : x1 = 3
  · rw [if_neg q1, if_neg q2, if_pos q3] at h
    refine V_tin C 2 66 (dt_at dt_X11_newRole_0 5 rfl) ⟨by rw [q3] <;> rfl, by decide⟩ rfl (by decide) ?_
    refine V_newR C (ci := 3) tyX3 tyX3_ok (by decide) hok (by decide) rfl inX3 ww_1179 ww_1180 ww_866 hcell (dt_at dt_X11_newRole_0 20 rfl) (fun q => ?_)
    have C2 : Ck X (gset G (110 + σ.1) q) cX11_newRole RX11 4 5 := C
    have hM := c_X3_init X.2.1 (gset G (110 + σ.1) q) (110 + σ.1) (fd σ 1 1) x1 x2 _ σ0 h
    rw [gset_self] at hM
    refine V_dup C2 (dt_at dt_X11_newRole_0 21 rfl) rfl ?_
    refine V_iload_n C2 (dt_at dt_X11_newRole_0 22 rfl) 2 rfl rfl ?_
    refine V_iload_n C2 (dt_at dt_X11_newRole_0 23 rfl) 0 rfl rfl ?_
    refine V_iload_n C2 (dt_at dt_X11_newRole_0 24 rfl) 1 rfl rfl ?_
    refine V_callI C2 (As := [.int (fd σ 1 1), .int x1, .int x2]) hM cal_X3_init ww_1182 ww_1181 rfl rfl (Nat.le_of_ble_eq_true rfl) rfl (Nat.le_of_ble_eq_true rfl) hcs (dt_at dt_X11_newRole_0 25 rfl) ?_
    intro H locs ls hH hl
    rw [hQ]
    exact W.aret C.1 C.2.1 hr (Or.inl ⟨_, rfl⟩) (Or.inr ⟨_, rfl⟩) (fun t ht _ => ⟨q, rfl, by rw [ht]; exact hH.1, hH.2.1, hH.2.2.F ht⟩) hH.2.2.2.2 (dt_at dt_X11_newRole_0 26 rfl) C.2.2.2.2.2.2.2.1
  by_cases q4 : x1 = 4
  · rw [if_neg q1, if_neg q2, if_neg q3, if_pos q4] at h
    refine V_tin C 3 77 (dt_at dt_X11_newRole_0 5 rfl) ⟨by rw [q4] <;> rfl, by decide⟩ rfl (by decide) ?_
    refine V_newR C (ci := 1) tyX1 tyX1_ok (by decide) hok (by decide) rfl inX1 ww_1183 ww_1184 ww_926 hcell (dt_at dt_X11_newRole_0 27 rfl) (fun q => ?_)
    have C2 : Ck X (gset G (110 + σ.1) q) cX11_newRole RX11 4 5 := C
    have hM := c_X1_init X.2.1 (gset G (110 + σ.1) q) (110 + σ.1) (fd σ 1 1) x1 x2 _ σ0 h
    rw [gset_self] at hM
    refine V_dup C2 (dt_at dt_X11_newRole_0 28 rfl) rfl ?_
    refine V_iload_n C2 (dt_at dt_X11_newRole_0 29 rfl) 2 rfl rfl ?_
    refine V_iload_n C2 (dt_at dt_X11_newRole_0 30 rfl) 0 rfl rfl ?_
    refine V_iload_n C2 (dt_at dt_X11_newRole_0 31 rfl) 1 rfl rfl ?_
    refine V_callI C2 (As := [.int (fd σ 1 1), .int x1, .int x2]) hM cal_X1_init ww_1186 ww_1185 rfl rfl (Nat.le_of_ble_eq_true rfl) rfl (Nat.le_of_ble_eq_true rfl) hcs (dt_at dt_X11_newRole_0 32 rfl) ?_
    intro H locs ls hH hl
    rw [hQ]
    exact W.aret C.1 C.2.1 hr (Or.inl ⟨_, rfl⟩) (Or.inr ⟨_, rfl⟩) (fun t ht _ => ⟨q, rfl, by rw [ht]; exact hH.1, hH.2.1, hH.2.2.F ht⟩) hH.2.2.2.2 (dt_at dt_X11_newRole_0 33 rfl) C.2.2.2.2.2.2.2.1
  by_cases q5 : x1 = 5
  · rw [if_neg q1, if_neg q2, if_neg q3, if_neg q4, if_pos q5] at h
    refine V_tin C 4 88 (dt_at dt_X11_newRole_0 5 rfl) ⟨by rw [q5] <;> rfl, by decide⟩ rfl (by decide) ?_
    refine V_newR C (ci := 0) tyX0 tyX0_ok (by decide) hok (by decide) rfl inX0 ww_1187 ww_1188 ww_857 hcell (dt_at dt_X11_newRole_0 34 rfl) (fun q => ?_)
    have C2 : Ck X (gset G (110 + σ.1) q) cX11_newRole RX11 4 5 := C
    have hM := c_X0_init X.2.1 (gset G (110 + σ.1) q) (110 + σ.1) (fd σ 1 1) x1 x2 _ σ0 h
    rw [gset_self] at hM
    refine V_dup C2 (dt_at dt_X11_newRole_0 35 rfl) rfl ?_
    refine V_iload_n C2 (dt_at dt_X11_newRole_0 36 rfl) 2 rfl rfl ?_
    refine V_iload_n C2 (dt_at dt_X11_newRole_0 37 rfl) 0 rfl rfl ?_
    refine V_iload_n C2 (dt_at dt_X11_newRole_0 38 rfl) 1 rfl rfl ?_
    refine V_callI C2 (As := [.int (fd σ 1 1), .int x1, .int x2]) hM cal_X0_init ww_1190 ww_1189 rfl rfl (Nat.le_of_ble_eq_true rfl) rfl (Nat.le_of_ble_eq_true rfl) hcs (dt_at dt_X11_newRole_0 39 rfl) ?_
    intro H locs ls hH hl
    rw [hQ]
    exact W.aret C.1 C.2.1 hr (Or.inl ⟨_, rfl⟩) (Or.inr ⟨_, rfl⟩) (fun t ht _ => ⟨q, rfl, by rw [ht]; exact hH.1, hH.2.1, hH.2.2.F ht⟩) hH.2.2.2.2 (dt_at dt_X11_newRole_0 40 rfl) C.2.2.2.2.2.2.2.1
  rw [if_neg q1, if_neg q2, if_neg q3, if_neg q4, if_neg q5] at h
  refine V_tout C 99 (dt_at dt_X11_newRole_0 5 rfl) (by have q1t := lv_neT q1 (a := 1) rfl; have q2t := lv_neT q2 (a := 2) rfl; have q3t := lv_neT q3 (a := 3) rfl; have q4t := lv_neT q4 (a := 4) rfl; have q5t := lv_neT q5 (a := 5) rfl; omega) (by decide) ?_
  refine V_newR C (ci := 6) tyX6 tyX6_ok (by decide) hok (by decide) rfl inX6 ww_1191 ww_1192 ww_844 hcell (dt_at dt_X11_newRole_0 41 rfl) (fun q => ?_)
  have C2 : Ck X (gset G (110 + σ.1) q) cX11_newRole RX11 4 5 := C
  have hM := c_X6_init X.2.1 (gset G (110 + σ.1) q) (110 + σ.1) (fd σ 1 1) x1 x2 _ σ0 h
  rw [gset_self] at hM
  refine V_dup C2 (dt_at dt_X11_newRole_0 42 rfl) rfl ?_
  refine V_iload_n C2 (dt_at dt_X11_newRole_0 43 rfl) 2 rfl rfl ?_
  refine V_iload_n C2 (dt_at dt_X11_newRole_0 44 rfl) 0 rfl rfl ?_
  refine V_iload_n C2 (dt_at dt_X11_newRole_0 45 rfl) 1 rfl rfl ?_
  refine V_callI C2 (As := [.int (fd σ 1 1), .int x1, .int x2]) hM cal_X6_init ww_1161 ww_1193 rfl rfl (Nat.le_of_ble_eq_true rfl) rfl (Nat.le_of_ble_eq_true rfl) hcs (dt_at dt_X11_newRole_0 46 rfl) ?_
  intro H locs ls hH hl
  rw [hQ]
  exact W.aret C.1 C.2.1 hr (Or.inl ⟨_, rfl⟩) (Or.inr ⟨_, rfl⟩) (fun t ht _ => ⟨q, rfl, by rw [ht]; exact hH.1, hH.2.1, hH.2.2.F ht⟩) hH.2.2.2.2 (dt_at dt_X11_newRole_0 47 rfl) C.2.2.2.2.2.2.2.1
end WK
