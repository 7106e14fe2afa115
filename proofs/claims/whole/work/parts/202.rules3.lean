section RL
variable {X : Xx} {G : Gx} {cc : ByteArray} {own : String} {nL d cells slots pc : Nat} {σ : St} {lv : List (Nat × Value)} {rest : List Value}
theorem io_X6_27 (C : Ck X G cc RX6 nL d) {K : Nat} (hr : isRole σ K = true) (hd : decode cc pc = .ok (.instanceof 27, 3)) (k : V X G nL cells slots σ (pc + 3) lv (.int (in9 (rc σ K 5)) :: rest)) : V X G nL cells slots σ pc lv (.ref (ga G K) :: rest) := by
  have h := of_decide_eq_true hr
  have hK : K < 110 + σ.1 := h.2.1
  rcases h.2.2 with e | e | e | e | e | e
  · have k1 : V X G nL cells slots σ (pc + 3) lv (.int 1 :: rest) := by
      rw [e] at k
      exact k
    exact V_instY C (K := K) hK (role_lay h.1 e) (T := TX0) (N := 5) rfl ww_838 (by decide) hd k1
  · have k1 : V X G nL cells slots σ (pc + 3) lv (.int 0 :: rest) := by
      rw [e] at k
      exact k
    exact V_instN C (K := K) hK (role_lay h.1 e) (T := TX1) (N := 5) rfl ww_838 (by decide) hd k1
  · have k1 : V X G nL cells slots σ (pc + 3) lv (.int 0 :: rest) := by
      rw [e] at k
      exact k
    exact V_instN C (K := K) hK (role_lay h.1 e) (T := TX2) (N := 5) rfl ww_838 (by decide) hd k1
  · have k1 : V X G nL cells slots σ (pc + 3) lv (.int 1 :: rest) := by
      rw [e] at k
      exact k
    exact V_instY C (K := K) hK (role_lay h.1 e) (T := TX3) (N := 5) rfl ww_838 (by decide) hd k1
  · have k1 : V X G nL cells slots σ (pc + 3) lv (.int 0 :: rest) := by
      rw [e] at k
      exact k
    exact V_instN C (K := K) hK (role_lay h.1 e) (T := TX6) (N := 5) rfl ww_838 (by decide) hd k1
  · have k1 : V X G nL cells slots σ (pc + 3) lv (.int 1 :: rest) := by
      rw [e] at k
      exact k
    exact V_instS C (K := K) hK (role_lay h.1 e) (T := TX9) (N := 5) rfl ww_838 hd k1
theorem io_X6_29 (C : Ck X G cc RX6 nL d) {K : Nat} (hr : isRole σ K = true) (hd : decode cc pc = .ok (.instanceof 29, 3)) (k : V X G nL cells slots σ (pc + 3) lv (.int (in2 (rc σ K 5)) :: rest)) : V X G nL cells slots σ pc lv (.ref (ga G K) :: rest) := by
  have h := of_decide_eq_true hr
  have hK : K < 110 + σ.1 := h.2.1
  rcases h.2.2 with e | e | e | e | e | e
  · have k1 : V X G nL cells slots σ (pc + 3) lv (.int 0 :: rest) := by
      rw [e] at k
      exact k
    exact V_instN C (K := K) hK (role_lay h.1 e) (T := TX0) (N := 5) rfl ww_839 (by decide) hd k1
  · have k1 : V X G nL cells slots σ (pc + 3) lv (.int 1 :: rest) := by
      rw [e] at k
      exact k
    exact V_instY C (K := K) hK (role_lay h.1 e) (T := TX1) (N := 5) rfl ww_839 (by decide) hd k1
  · have k1 : V X G nL cells slots σ (pc + 3) lv (.int 1 :: rest) := by
      rw [e] at k
      exact k
    exact V_instS C (K := K) hK (role_lay h.1 e) (T := TX2) (N := 5) rfl ww_839 hd k1
  · have k1 : V X G nL cells slots σ (pc + 3) lv (.int 0 :: rest) := by
      rw [e] at k
      exact k
    exact V_instN C (K := K) hK (role_lay h.1 e) (T := TX3) (N := 5) rfl ww_839 (by decide) hd k1
  · have k1 : V X G nL cells slots σ (pc + 3) lv (.int 0 :: rest) := by
      rw [e] at k
      exact k
    exact V_instN C (K := K) hK (role_lay h.1 e) (T := TX6) (N := 5) rfl ww_839 (by decide) hd k1
  · have k1 : V X G nL cells slots σ (pc + 3) lv (.int 0 :: rest) := by
      rw [e] at k
      exact k
    exact V_instN C (K := K) hK (role_lay h.1 e) (T := TX9) (N := 5) rfl ww_839 (by decide) hd k1
theorem io_X6_31 (C : Ck X G cc RX6 nL d) {K : Nat} (hr : isRole σ K = true) (hd : decode cc pc = .ok (.instanceof 31, 3)) (k : V X G nL cells slots σ (pc + 3) lv (.int (in3 (rc σ K 5)) :: rest)) : V X G nL cells slots σ pc lv (.ref (ga G K) :: rest) := by
  have h := of_decide_eq_true hr
  have hK : K < 110 + σ.1 := h.2.1
  rcases h.2.2 with e | e | e | e | e | e
  · have k1 : V X G nL cells slots σ (pc + 3) lv (.int 0 :: rest) := by
      rw [e] at k
      exact k
    exact V_instN C (K := K) hK (role_lay h.1 e) (T := TX0) (N := 5) rfl ww_840 (by decide) hd k1
  · have k1 : V X G nL cells slots σ (pc + 3) lv (.int 0 :: rest) := by
      rw [e] at k
      exact k
    exact V_instN C (K := K) hK (role_lay h.1 e) (T := TX1) (N := 5) rfl ww_840 (by decide) hd k1
  · have k1 : V X G nL cells slots σ (pc + 3) lv (.int 0 :: rest) := by
      rw [e] at k
      exact k
    exact V_instN C (K := K) hK (role_lay h.1 e) (T := TX2) (N := 5) rfl ww_840 (by decide) hd k1
  · have k1 : V X G nL cells slots σ (pc + 3) lv (.int 1 :: rest) := by
      rw [e] at k
      exact k
    exact V_instS C (K := K) hK (role_lay h.1 e) (T := TX3) (N := 5) rfl ww_840 hd k1
  · have k1 : V X G nL cells slots σ (pc + 3) lv (.int 0 :: rest) := by
      rw [e] at k
      exact k
    exact V_instN C (K := K) hK (role_lay h.1 e) (T := TX6) (N := 5) rfl ww_840 (by decide) hd k1
  · have k1 : V X G nL cells slots σ (pc + 3) lv (.int 0 :: rest) := by
      rw [e] at k
      exact k
    exact V_instN C (K := K) hK (role_lay h.1 e) (T := TX9) (N := 5) rfl ww_840 (by decide) hd k1
theorem io_X6_33 (C : Ck X G cc RX6 nL d) {K : Nat} (hr : isRole σ K = true) (hd : decode cc pc = .ok (.instanceof 33, 3)) (k : V X G nL cells slots σ (pc + 3) lv (.int (in1 (rc σ K 5)) :: rest)) : V X G nL cells slots σ pc lv (.ref (ga G K) :: rest) := by
  have h := of_decide_eq_true hr
  have hK : K < 110 + σ.1 := h.2.1
  rcases h.2.2 with e | e | e | e | e | e
  · have k1 : V X G nL cells slots σ (pc + 3) lv (.int 0 :: rest) := by
      rw [e] at k
      exact k
    exact V_instN C (K := K) hK (role_lay h.1 e) (T := TX0) (N := 5) rfl ww_841 (by decide) hd k1
  · have k1 : V X G nL cells slots σ (pc + 3) lv (.int 1 :: rest) := by
      rw [e] at k
      exact k
    exact V_instS C (K := K) hK (role_lay h.1 e) (T := TX1) (N := 5) rfl ww_841 hd k1
  · have k1 : V X G nL cells slots σ (pc + 3) lv (.int 0 :: rest) := by
      rw [e] at k
      exact k
    exact V_instN C (K := K) hK (role_lay h.1 e) (T := TX2) (N := 5) rfl ww_841 (by decide) hd k1
  · have k1 : V X G nL cells slots σ (pc + 3) lv (.int 0 :: rest) := by
      rw [e] at k
      exact k
    exact V_instN C (K := K) hK (role_lay h.1 e) (T := TX3) (N := 5) rfl ww_841 (by decide) hd k1
  · have k1 : V X G nL cells slots σ (pc + 3) lv (.int 0 :: rest) := by
      rw [e] at k
      exact k
    exact V_instN C (K := K) hK (role_lay h.1 e) (T := TX6) (N := 5) rfl ww_841 (by decide) hd k1
  · have k1 : V X G nL cells slots σ (pc + 3) lv (.int 0 :: rest) := by
      rw [e] at k
      exact k
    exact V_instN C (K := K) hK (role_lay h.1 e) (T := TX9) (N := 5) rfl ww_841 (by decide) hd k1
theorem io_X6_35 (C : Ck X G cc RX6 nL d) {K : Nat} (hr : isRole σ K = true) (hd : decode cc pc = .ok (.instanceof 35, 3)) (k : V X G nL cells slots σ (pc + 3) lv (.int (in0 (rc σ K 5)) :: rest)) : V X G nL cells slots σ pc lv (.ref (ga G K) :: rest) := by
  have h := of_decide_eq_true hr
  have hK : K < 110 + σ.1 := h.2.1
  rcases h.2.2 with e | e | e | e | e | e
  · have k1 : V X G nL cells slots σ (pc + 3) lv (.int 1 :: rest) := by
      rw [e] at k
      exact k
    exact V_instS C (K := K) hK (role_lay h.1 e) (T := TX0) (N := 5) rfl ww_842 hd k1
  · have k1 : V X G nL cells slots σ (pc + 3) lv (.int 0 :: rest) := by
      rw [e] at k
      exact k
    exact V_instN C (K := K) hK (role_lay h.1 e) (T := TX1) (N := 5) rfl ww_842 (by decide) hd k1
  · have k1 : V X G nL cells slots σ (pc + 3) lv (.int 0 :: rest) := by
      rw [e] at k
      exact k
    exact V_instN C (K := K) hK (role_lay h.1 e) (T := TX2) (N := 5) rfl ww_842 (by decide) hd k1
  · have k1 : V X G nL cells slots σ (pc + 3) lv (.int 0 :: rest) := by
      rw [e] at k
      exact k
    exact V_instN C (K := K) hK (role_lay h.1 e) (T := TX3) (N := 5) rfl ww_842 (by decide) hd k1
  · have k1 : V X G nL cells slots σ (pc + 3) lv (.int 0 :: rest) := by
      rw [e] at k
      exact k
    exact V_instN C (K := K) hK (role_lay h.1 e) (T := TX6) (N := 5) rfl ww_842 (by decide) hd k1
  · have k1 : V X G nL cells slots σ (pc + 3) lv (.int 0 :: rest) := by
      rw [e] at k
      exact k
    exact V_instN C (K := K) hK (role_lay h.1 e) (T := TX9) (N := 5) rfl ww_842 (by decide) hd k1
theorem gr_X6_9 (C : Ck X G cc RX6 nL d) {K : Nat} (hr : isRole σ K = true) (hd : decode cc pc = .ok (.getfield 9, 3)) (k : V X G nL cells slots σ (pc + 3) lv (.int (fd σ K 0) :: rest)) : V X G nL cells slots σ pc lv (.ref (ga G K) :: rest) := by
  have h := of_decide_eq_true hr
  have hK : K < 110 + σ.1 := h.2.1
  rcases h.2.2 with e | e | e | e | e | e
  · exact V_get C (K := K) (T := TX0) (N := 5) (j := 0) (ci := 0) hK ((lay_role G h.1 _ _).trans (congrArg (fun z => Sum.inr (z, _)) e)) rfl inX0 (by decide) ww_846 (fun _ h => h) rfl hd k
  · exact V_get C (K := K) (T := TX1) (N := 5) (j := 0) (ci := 1) hK ((lay_role G h.1 _ _).trans (congrArg (fun z => Sum.inr (z, _)) e)) rfl inX1 (by decide) ww_846 (fun _ h => h) rfl hd k
  · exact V_get C (K := K) (T := TX2) (N := 5) (j := 0) (ci := 2) hK ((lay_role G h.1 _ _).trans (congrArg (fun z => Sum.inr (z, _)) e)) rfl inX2 (by decide) ww_846 (fun _ h => h) rfl hd k
  · exact V_get C (K := K) (T := TX3) (N := 5) (j := 0) (ci := 3) hK ((lay_role G h.1 _ _).trans (congrArg (fun z => Sum.inr (z, _)) e)) rfl inX3 (by decide) ww_846 (fun _ h => h) rfl hd k
  · exact V_get C (K := K) (T := TX6) (N := 5) (j := 0) (ci := 6) hK ((lay_role G h.1 _ _).trans (congrArg (fun z => Sum.inr (z, _)) e)) rfl inX6 (by decide) ww_846 (fun _ h => h) rfl hd k
  · exact V_get C (K := K) (T := TX9) (N := 5) (j := 0) (ci := 9) hK ((lay_role G h.1 _ _).trans (congrArg (fun z => Sum.inr (z, _)) e)) rfl inX9 (by decide) ww_846 (fun _ h => h) rfl hd k
theorem gr_X6_24 (C : Ck X G cc RX6 nL d) {K : Nat} (hr : isRole σ K = true) (hd : decode cc pc = .ok (.getfield 24, 3)) (k : V X G nL cells slots σ (pc + 3) lv (.int (fd σ K 4) :: rest)) : V X G nL cells slots σ pc lv (.ref (ga G K) :: rest) := by
  have h := of_decide_eq_true hr
  have hK : K < 110 + σ.1 := h.2.1
  rcases h.2.2 with e | e | e | e | e | e
  · exact V_get C (K := K) (T := TX0) (N := 5) (j := 4) (ci := 0) hK ((lay_role G h.1 _ _).trans (congrArg (fun z => Sum.inr (z, _)) e)) rfl inX0 (by decide) ww_862 (fun _ h => h) rfl hd k
  · exact V_get C (K := K) (T := TX1) (N := 5) (j := 4) (ci := 1) hK ((lay_role G h.1 _ _).trans (congrArg (fun z => Sum.inr (z, _)) e)) rfl inX1 (by decide) ww_862 (fun _ h => h) rfl hd k
  · exact V_get C (K := K) (T := TX2) (N := 5) (j := 4) (ci := 2) hK ((lay_role G h.1 _ _).trans (congrArg (fun z => Sum.inr (z, _)) e)) rfl inX2 (by decide) ww_862 (fun _ h => h) rfl hd k
  · exact V_get C (K := K) (T := TX3) (N := 5) (j := 4) (ci := 3) hK ((lay_role G h.1 _ _).trans (congrArg (fun z => Sum.inr (z, _)) e)) rfl inX3 (by decide) ww_862 (fun _ h => h) rfl hd k
  · exact V_get C (K := K) (T := TX6) (N := 5) (j := 4) (ci := 6) hK ((lay_role G h.1 _ _).trans (congrArg (fun z => Sum.inr (z, _)) e)) rfl inX6 (by decide) ww_862 (fun _ h => h) rfl hd k
  · exact V_get C (K := K) (T := TX9) (N := 5) (j := 4) (ci := 9) hK ((lay_role G h.1 _ _).trans (congrArg (fun z => Sum.inr (z, _)) e)) rfl inX9 (by decide) ww_862 (fun _ h => h) rfl hd k
theorem gr_X3_17 (C : Ck X G cc RX3 nL d) {K : Nat} (hr : isRole σ K = true) (hd : decode cc pc = .ok (.getfield 17, 3)) (k : V X G nL cells slots σ (pc + 3) lv (.int (fd σ K 4) :: rest)) : V X G nL cells slots σ pc lv (.ref (ga G K) :: rest) := by
  have h := of_decide_eq_true hr
  have hK : K < 110 + σ.1 := h.2.1
  rcases h.2.2 with e | e | e | e | e | e
  · exact V_get C (K := K) (T := TX0) (N := 5) (j := 4) (ci := 0) hK ((lay_role G h.1 _ _).trans (congrArg (fun z => Sum.inr (z, _)) e)) rfl inX0 (by decide) ww_893 (fun x9 h9 => u_same (C.2.2.2.2.1 _ ww_892) x9 h9) rfl hd k
  · exact V_get C (K := K) (T := TX1) (N := 5) (j := 4) (ci := 1) hK ((lay_role G h.1 _ _).trans (congrArg (fun z => Sum.inr (z, _)) e)) rfl inX1 (by decide) ww_893 (fun x9 h9 => u_same (C.2.2.2.2.1 _ ww_892) x9 h9) rfl hd k
  · exact V_get C (K := K) (T := TX2) (N := 5) (j := 4) (ci := 2) hK ((lay_role G h.1 _ _).trans (congrArg (fun z => Sum.inr (z, _)) e)) rfl inX2 (by decide) ww_893 (fun x9 h9 => u_same (C.2.2.2.2.1 _ ww_892) x9 h9) rfl hd k
  · exact V_get C (K := K) (T := TX3) (N := 5) (j := 4) (ci := 3) hK ((lay_role G h.1 _ _).trans (congrArg (fun z => Sum.inr (z, _)) e)) rfl inX3 (by decide) ww_893 (fun x9 h9 => u_same (C.2.2.2.2.1 _ ww_892) x9 h9) rfl hd k
  · exact V_get C (K := K) (T := TX6) (N := 5) (j := 4) (ci := 6) hK ((lay_role G h.1 _ _).trans (congrArg (fun z => Sum.inr (z, _)) e)) rfl inX6 (by decide) ww_893 (fun x9 h9 => u_same (C.2.2.2.2.1 _ ww_892) x9 h9) rfl hd k
  · exact V_get C (K := K) (T := TX9) (N := 5) (j := 4) (ci := 9) hK ((lay_role G h.1 _ _).trans (congrArg (fun z => Sum.inr (z, _)) e)) rfl inX9 (by decide) ww_893 (fun x9 h9 => u_same (C.2.2.2.2.1 _ ww_892) x9 h9) rfl hd k
theorem p_X11_189_74 (C : Ck X G cc RX11 nL d) {v : Int32} (hd : decode cc pc = .ok (.putfield 189, 3)) (k : V X G nL cells slots (fw σ 74 1 v) (pc + 3) lv rest) : V X G nL cells slots σ pc lv (.int v :: .ref (ga G 74) :: rest) := V_put C (K := 74) (T := TX7) (N := 2) (j := 1) (ci := 7) (ty := .int) (upd (σ.2.1 74) 1 v) tyX7 tyX7_ok nmX7 (lt110 rfl) rfl rfl inX7 (by decide) ww_189 (fun _ h => h) rfl rfl rfl rfl (Nat.le_of_ble_eq_true rfl) rfl hd k
theorem p_X10_28_3 (C : Ck X G cc RX10 nL d) {v : Int32} (hd : decode cc pc = .ok (.putfield 28, 3)) (k : V X G nL cells slots (fw σ 3 6 v) (pc + 3) lv rest) : V X G nL cells slots σ pc lv (.int v :: .ref (ga G 3) :: rest) := V_put C (K := 3) (T := TX10) (N := 7) (j := 6) (ci := 10) (ty := .int) (upd (σ.2.1 3) 6 v) tyX10 tyX10_ok nmX10 (lt110 rfl) rfl rfl inX10 (by decide) ww_963 (fun _ h => h) rfl rfl rfl rfl (Nat.le_of_ble_eq_true rfl) rfl hd k
theorem g_X10_28_3 (C : Ck X G cc RX10 nL d) (hd : decode cc pc = .ok (.getfield 28, 3)) (k : V X G nL cells slots σ (pc + 3) lv (.int (fd σ 3 6) :: rest)) : V X G nL cells slots σ pc lv (.ref (ga G 3) :: rest) := V_get C (K := 3) (T := TX10) (N := 7) (j := 6) (ci := 10) (lt110 rfl) rfl rfl inX10 (by decide) ww_963 (fun _ h => h) rfl hd k
theorem g_X10_159_1 (C : Ck X G cc RX10 nL d) (hd : decode cc pc = .ok (.getfield 159, 3)) (k : V X G nL cells slots σ (pc + 3) lv (.int (fd σ 1 1) :: rest)) : V X G nL cells slots σ pc lv (.ref (ga G 1) :: rest) := V_get C (K := 1) (T := TX4) (N := 16) (j := 1) (ci := 4) (lt110 rfl) rfl rfl inX4 (by decide) ww_968 (fun _ h => h) rfl hd k
theorem g_X10_165_1 (C : Ck X G cc RX10 nL d) (hd : decode cc pc = .ok (.getfield 165, 3)) (k : V X G nL cells slots σ (pc + 3) lv (.ref (ga G 11) :: rest)) : V X G nL cells slots σ pc lv (.ref (ga G 1) :: rest) := V_get C (K := 1) (T := TX4) (N := 16) (j := 5) (ci := 4) (lt110 rfl) rfl rfl inX4 (by decide) ww_969 (fun _ h => h) rfl hd k
theorem p_X10_25_3 (C : Ck X G cc RX10 nL d) {v : Int32} (hd : decode cc pc = .ok (.putfield 25, 3)) (k : V X G nL cells slots (fw σ 3 5 v) (pc + 3) lv rest) : V X G nL cells slots σ pc lv (.int v :: .ref (ga G 3) :: rest) := V_put C (K := 3) (T := TX10) (N := 7) (j := 5) (ci := 10) (ty := .int) (upd (σ.2.1 3) 5 v) tyX10 tyX10_ok nmX10 (lt110 rfl) rfl rfl inX10 (by decide) ww_970 (fun _ h => h) rfl rfl rfl rfl (Nat.le_of_ble_eq_true rfl) rfl hd k
theorem p_X10_21_3 (C : Ck X G cc RX10 nL d) {v : Int32} (hd : decode cc pc = .ok (.putfield 21, 3)) (k : V X G nL cells slots (fw σ 3 4 v) (pc + 3) lv rest) : V X G nL cells slots σ pc lv (.int v :: .ref (ga G 3) :: rest) := V_put C (K := 3) (T := TX10) (N := 7) (j := 4) (ci := 10) (ty := .int) (upd (σ.2.1 3) 4 v) tyX10 tyX10_ok nmX10 (lt110 rfl) rfl rfl inX10 (by decide) ww_975 (fun _ h => h) rfl rfl rfl rfl (Nat.le_of_ble_eq_true rfl) rfl hd k
theorem g_X10_18_3 (C : Ck X G cc RX10 nL d) (hd : decode cc pc = .ok (.getfield 18, 3)) (k : V X G nL cells slots σ (pc + 3) lv (.ref (ga G 32) :: rest)) : V X G nL cells slots σ pc lv (.ref (ga G 3) :: rest) := V_get C (K := 3) (T := TX10) (N := 7) (j := 3) (ci := 10) (lt110 rfl) rfl rfl inX10 (by decide) ww_981 (fun _ h => h) rfl hd k
theorem as_32 (C : Ck X G cc own nL d) {i x : Int32} (hin : inb i 10 = true) (hd : decode cc pc = .ok (.iastore, 1)) (k : V X G nL cells slots (wr σ 32 i x) (pc + 1) lv rest) : V X G nL cells slots σ pc lv (.int x :: .int i :: .ref (ga G 32) :: rest) := V_iast C (lt110 rfl) (fun _ => rfl) hin hd k
theorem g_X11_251_3 (C : Ck X G cc RX11 nL d) (hd : decode cc pc = .ok (.getfield 251, 3)) (k : V X G nL cells slots σ (pc + 3) lv (.int (fd σ 3 4) :: rest)) : V X G nL cells slots σ pc lv (.ref (ga G 3) :: rest) := V_get C (K := 3) (T := TX10) (N := 7) (j := 4) (ci := 10) (lt110 rfl) rfl rfl inX10 (by decide) ww_991 (fun _ h => h) rfl hd k
theorem g_X11_254_3 (C : Ck X G cc RX11 nL d) (hd : decode cc pc = .ok (.getfield 254, 3)) (k : V X G nL cells slots σ (pc + 3) lv (.int (fd σ 3 5) :: rest)) : V X G nL cells slots σ pc lv (.ref (ga G 3) :: rest) := V_get C (K := 3) (T := TX10) (N := 7) (j := 5) (ci := 10) (lt110 rfl) rfl rfl inX10 (by decide) ww_992 (fun _ h => h) rfl hd k
theorem g_X11_222_3 (C : Ck X G cc RX11 nL d) (hd : decode cc pc = .ok (.getfield 222, 3)) (k : V X G nL cells slots σ (pc + 3) lv (.int (fd σ 3 6) :: rest)) : V X G nL cells slots σ pc lv (.ref (ga G 3) :: rest) := V_get C (K := 3) (T := TX10) (N := 7) (j := 6) (ci := 10) (lt110 rfl) rfl rfl inX10 (by decide) ww_993 (fun _ h => h) rfl hd k
theorem p_X8_42_4 (C : Ck X G cc RX8 nL d) {v : Int32} (hd : decode cc pc = .ok (.putfield 42, 3)) (k : V X G nL cells slots (fw σ 4 11 v) (pc + 3) lv rest) : V X G nL cells slots σ pc lv (.int v :: .ref (ga G 4) :: rest) := V_put C (K := 4) (T := TX8) (N := 14) (j := 11) (ci := 8) (ty := .int) (upd (σ.2.1 4) 11 v) tyX8 tyX8_ok nmX8 (lt110 rfl) rfl rfl inX8 (by decide) ww_1001 (fun _ h => h) rfl rfl rfl rfl (Nat.le_of_ble_eq_true rfl) rfl hd k
theorem g_X11_30_0 (C : Ck X G cc RX11 nL d) (hd : decode cc pc = .ok (.getfield 30, 3)) (k : V X G nL cells slots σ (pc + 3) lv (.ref (ga G 4) :: rest)) : V X G nL cells slots σ pc lv (.ref (ga G 0) :: rest) := V_get C (K := 0) (T := TX11) (N := 10) (j := 2) (ci := 11) (lt110 rfl) rfl rfl inX11 (by decide) ww_1011 (fun _ h => h) rfl hd k
theorem g_X11_281_4 (C : Ck X G cc RX11 nL d) (hd : decode cc pc = .ok (.getfield 281, 3)) (k : V X G nL cells slots σ (pc + 3) lv (.ref (ga G 39) :: rest)) : V X G nL cells slots σ pc lv (.ref (ga G 4) :: rest) := V_get C (K := 4) (T := TX8) (N := 14) (j := 10) (ci := 8) (lt110 rfl) rfl rfl inX8 (by decide) ww_1013 (fun _ h => h) rfl hd k
theorem al_39 (C : Ck X G cc own nL d) {i : Int32} (hin : inb i 10 = true) (hd : decode cc pc = .ok (.iaload, 1)) (k : V X G nL cells slots σ (pc + 1) lv (.int (rd σ 39 i) :: rest)) : V X G nL cells slots σ pc lv (.int i :: .ref (ga G 39) :: rest) := V_iald C (lt110 rfl) rfl hin hd k
theorem g_X11_278_4 (C : Ck X G cc RX11 nL d) (hd : decode cc pc = .ok (.getfield 278, 3)) (k : V X G nL cells slots σ (pc + 3) lv (.int (fd σ 4 11) :: rest)) : V X G nL cells slots σ pc lv (.ref (ga G 4) :: rest) := V_get C (K := 4) (T := TX8) (N := 14) (j := 11) (ci := 8) (lt110 rfl) rfl rfl inX8 (by decide) ww_1014 (fun _ h => h) rfl hd k
theorem g_X11_287_4 (C : Ck X G cc RX11 nL d) (hd : decode cc pc = .ok (.getfield 287, 3)) (k : V X G nL cells slots σ (pc + 3) lv (.ref (ga G (rc σ 4 9)) :: rest)) : V X G nL cells slots σ pc lv (.ref (ga G 4) :: rest) := V_get C (K := 4) (T := TX8) (N := 14) (j := 9) (ci := 8) (lt110 rfl) rfl rfl inX8 (by decide) ww_1023 (fun _ h => h) rfl hd k
theorem p_X11_189_54 (C : Ck X G cc RX11 nL d) {v : Int32} (hd : decode cc pc = .ok (.putfield 189, 3)) (k : V X G nL cells slots (fw σ 54 1 v) (pc + 3) lv rest) : V X G nL cells slots σ pc lv (.int v :: .ref (ga G 54) :: rest) := V_put C (K := 54) (T := TX7) (N := 2) (j := 1) (ci := 7) (ty := .int) (upd (σ.2.1 54) 1 v) tyX7 tyX7_ok nmX7 (lt110 rfl) rfl rfl inX7 (by decide) ww_189 (fun _ h => h) rfl rfl rfl rfl (Nat.le_of_ble_eq_true rfl) rfl hd k
theorem g_X11_239_54 (C : Ck X G cc RX11 nL d) (hd : decode cc pc = .ok (.getfield 239, 3)) (k : V X G nL cells slots σ (pc + 3) lv (.ref (ga G 55) :: rest)) : V X G nL cells slots σ pc lv (.ref (ga G 54) :: rest) := V_get C (K := 54) (T := TX7) (N := 2) (j := 0) (ci := 7) (lt110 rfl) rfl rfl inX7 (by decide) ww_194 (fun _ h => h) rfl hd k
theorem al_55 (C : Ck X G cc own nL d) {i : Int32} (hin : inb i 20 = true) (hd : decode cc pc = .ok (.iaload, 1)) (k : V X G nL cells slots σ (pc + 1) lv (.int (rd σ 55 i) :: rest)) : V X G nL cells slots σ pc lv (.int i :: .ref (ga G 55) :: rest) := V_iald C (lt110 rfl) rfl hin hd k
theorem g_X11_306_4 (C : Ck X G cc RX11 nL d) (hd : decode cc pc = .ok (.getfield 306, 3)) (k : V X G nL cells slots σ (pc + 3) lv (.int (fd σ 4 13) :: rest)) : V X G nL cells slots σ pc lv (.ref (ga G 4) :: rest) := V_get C (K := 4) (T := TX8) (N := 14) (j := 13) (ci := 8) (lt110 rfl) rfl rfl inX8 (by decide) ww_1038 (fun _ h => h) rfl hd k
theorem g_X11_303_4 (C : Ck X G cc RX11 nL d) (hd : decode cc pc = .ok (.getfield 303, 3)) (k : V X G nL cells slots σ (pc + 3) lv (.int (fd σ 4 12) :: rest)) : V X G nL cells slots σ pc lv (.ref (ga G 4) :: rest) := V_get C (K := 4) (T := TX8) (N := 14) (j := 12) (ci := 8) (lt110 rfl) rfl rfl inX8 (by decide) ww_1039 (fun _ h => h) rfl hd k
theorem g_X4_9_2 (C : Ck X G cc RX4 nL d) (hd : decode cc pc = .ok (.getfield 9, 3)) (k : V X G nL cells slots σ (pc + 3) lv (.int (fd σ 2 0) :: rest)) : V X G nL cells slots σ pc lv (.ref (ga G 2) :: rest) := V_get C (K := 2) (T := TX4) (N := 16) (j := 0) (ci := 4) (lt110 rfl) rfl rfl inX4 (by decide) ww_267 (fun _ h => h) rfl hd k
theorem p_X4_9_1 (C : Ck X G cc RX4 nL d) {v : Int32} (hd : decode cc pc = .ok (.putfield 9, 3)) (k : V X G nL cells slots (fw σ 1 0 v) (pc + 3) lv rest) : V X G nL cells slots σ pc lv (.int v :: .ref (ga G 1) :: rest) := V_put C (K := 1) (T := TX4) (N := 16) (j := 0) (ci := 4) (ty := .int) (upd (σ.2.1 1) 0 v) tyX4 tyX4_ok nmX4 (lt110 rfl) rfl rfl inX4 (by decide) ww_267 (fun _ h => h) rfl rfl rfl rfl (Nat.le_of_ble_eq_true rfl) rfl hd k
theorem g_X4_15_2 (C : Ck X G cc RX4 nL d) (hd : decode cc pc = .ok (.getfield 15, 3)) (k : V X G nL cells slots σ (pc + 3) lv (.int (fd σ 2 1) :: rest)) : V X G nL cells slots σ pc lv (.ref (ga G 2) :: rest) := V_get C (K := 2) (T := TX4) (N := 16) (j := 1) (ci := 4) (lt110 rfl) rfl rfl inX4 (by decide) ww_102 (fun _ h => h) rfl hd k
theorem p_X4_15_1 (C : Ck X G cc RX4 nL d) {v : Int32} (hd : decode cc pc = .ok (.putfield 15, 3)) (k : V X G nL cells slots (fw σ 1 1 v) (pc + 3) lv rest) : V X G nL cells slots σ pc lv (.int v :: .ref (ga G 1) :: rest) := V_put C (K := 1) (T := TX4) (N := 16) (j := 1) (ci := 4) (ty := .int) (upd (σ.2.1 1) 1 v) tyX4 tyX4_ok nmX4 (lt110 rfl) rfl rfl inX4 (by decide) ww_102 (fun _ h => h) rfl rfl rfl rfl (Nat.le_of_ble_eq_true rfl) rfl hd k
theorem g_X4_18_2 (C : Ck X G cc RX4 nL d) (hd : decode cc pc = .ok (.getfield 18, 3)) (k : V X G nL cells slots σ (pc + 3) lv (.int (fd σ 2 2) :: rest)) : V X G nL cells slots σ pc lv (.ref (ga G 2) :: rest) := V_get C (K := 2) (T := TX4) (N := 16) (j := 2) (ci := 4) (lt110 rfl) rfl rfl inX4 (by decide) ww_87 (fun _ h => h) rfl hd k
theorem g_X4_21_2 (C : Ck X G cc RX4 nL d) (hd : decode cc pc = .ok (.getfield 21, 3)) (k : V X G nL cells slots σ (pc + 3) lv (.int (fd σ 2 3) :: rest)) : V X G nL cells slots σ pc lv (.ref (ga G 2) :: rest) := V_get C (K := 2) (T := TX4) (N := 16) (j := 3) (ci := 4) (lt110 rfl) rfl rfl inX4 (by decide) ww_111 (fun _ h => h) rfl hd k
theorem g_X4_26_2 (C : Ck X G cc RX4 nL d) (hd : decode cc pc = .ok (.getfield 26, 3)) (k : V X G nL cells slots σ (pc + 3) lv (.ref (ga G 20) :: rest)) : V X G nL cells slots σ pc lv (.ref (ga G 2) :: rest) := V_get C (K := 2) (T := TX4) (N := 16) (j := 4) (ci := 4) (lt110 rfl) rfl rfl inX4 (by decide) ww_257 (fun _ h => h) rfl hd k
theorem g_X4_30_2 (C : Ck X G cc RX4 nL d) (hd : decode cc pc = .ok (.getfield 30, 3)) (k : V X G nL cells slots σ (pc + 3) lv (.ref (ga G 21) :: rest)) : V X G nL cells slots σ pc lv (.ref (ga G 2) :: rest) := V_get C (K := 2) (T := TX4) (N := 16) (j := 5) (ci := 4) (lt110 rfl) rfl rfl inX4 (by decide) ww_204 (fun _ h => h) rfl hd k
theorem g_X4_34_2 (C : Ck X G cc RX4 nL d) (hd : decode cc pc = .ok (.getfield 34, 3)) (k : V X G nL cells slots σ (pc + 3) lv (.ref (ga G 22) :: rest)) : V X G nL cells slots σ pc lv (.ref (ga G 2) :: rest) := V_get C (K := 2) (T := TX4) (N := 16) (j := 6) (ci := 4) (lt110 rfl) rfl rfl inX4 (by decide) ww_88 (fun _ h => h) rfl hd k
theorem g_X4_37_2 (C : Ck X G cc RX4 nL d) (hd : decode cc pc = .ok (.getfield 37, 3)) (k : V X G nL cells slots σ (pc + 3) lv (.ref (ga G 23) :: rest)) : V X G nL cells slots σ pc lv (.ref (ga G 2) :: rest) := V_get C (K := 2) (T := TX4) (N := 16) (j := 7) (ci := 4) (lt110 rfl) rfl rfl inX4 (by decide) ww_90 (fun _ h => h) rfl hd k
theorem g_X4_40_2 (C : Ck X G cc RX4 nL d) (hd : decode cc pc = .ok (.getfield 40, 3)) (k : V X G nL cells slots σ (pc + 3) lv (.ref (ga G 24) :: rest)) : V X G nL cells slots σ pc lv (.ref (ga G 2) :: rest) := V_get C (K := 2) (T := TX4) (N := 16) (j := 8) (ci := 4) (lt110 rfl) rfl rfl inX4 (by decide) ww_89 (fun _ h => h) rfl hd k
theorem g_X4_43_2 (C : Ck X G cc RX4 nL d) (hd : decode cc pc = .ok (.getfield 43, 3)) (k : V X G nL cells slots σ (pc + 3) lv (.ref (ga G 25) :: rest)) : V X G nL cells slots σ pc lv (.ref (ga G 2) :: rest) := V_get C (K := 2) (T := TX4) (N := 16) (j := 9) (ci := 4) (lt110 rfl) rfl rfl inX4 (by decide) ww_274 (fun _ h => h) rfl hd k
theorem g_X4_46_2 (C : Ck X G cc RX4 nL d) (hd : decode cc pc = .ok (.getfield 46, 3)) (k : V X G nL cells slots σ (pc + 3) lv (.ref (ga G 26) :: rest)) : V X G nL cells slots σ pc lv (.ref (ga G 2) :: rest) := V_get C (K := 2) (T := TX4) (N := 16) (j := 10) (ci := 4) (lt110 rfl) rfl rfl inX4 (by decide) ww_370 (fun _ h => h) rfl hd k
theorem g_X4_49_2 (C : Ck X G cc RX4 nL d) (hd : decode cc pc = .ok (.getfield 49, 3)) (k : V X G nL cells slots σ (pc + 3) lv (.ref (ga G 27) :: rest)) : V X G nL cells slots σ pc lv (.ref (ga G 2) :: rest) := V_get C (K := 2) (T := TX4) (N := 16) (j := 11) (ci := 4) (lt110 rfl) rfl rfl inX4 (by decide) ww_371 (fun _ h => h) rfl hd k
theorem g_X4_52_2 (C : Ck X G cc RX4 nL d) (hd : decode cc pc = .ok (.getfield 52, 3)) (k : V X G nL cells slots σ (pc + 3) lv (.ref (ga G 28) :: rest)) : V X G nL cells slots σ pc lv (.ref (ga G 2) :: rest) := V_get C (K := 2) (T := TX4) (N := 16) (j := 12) (ci := 4) (lt110 rfl) rfl rfl inX4 (by decide) ww_118 (fun _ h => h) rfl hd k
theorem g_X4_60_1 (C : Ck X G cc RX4 nL d) (hd : decode cc pc = .ok (.getfield 60, 3)) (k : V X G nL cells slots σ (pc + 3) lv (.ref (ga G 52) :: rest)) : V X G nL cells slots σ pc lv (.ref (ga G 1) :: rest) := V_get C (K := 1) (T := TX4) (N := 16) (j := 13) (ci := 4) (lt110 rfl) rfl rfl inX4 (by decide) ww_1047 (fun _ h => h) rfl hd k
theorem g_X4_60_2 (C : Ck X G cc RX4 nL d) (hd : decode cc pc = .ok (.getfield 60, 3)) (k : V X G nL cells slots σ (pc + 3) lv (.ref (ga G 62) :: rest)) : V X G nL cells slots σ pc lv (.ref (ga G 2) :: rest) := V_get C (K := 2) (T := TX4) (N := 16) (j := 13) (ci := 4) (lt110 rfl) rfl rfl inX4 (by decide) ww_1047 (fun _ h => h) rfl hd k
theorem g_X4_64_1 (C : Ck X G cc RX4 nL d) (hd : decode cc pc = .ok (.getfield 64, 3)) (k : V X G nL cells slots σ (pc + 3) lv (.ref (ga G 54) :: rest)) : V X G nL cells slots σ pc lv (.ref (ga G 1) :: rest) := V_get C (K := 1) (T := TX4) (N := 16) (j := 14) (ci := 4) (lt110 rfl) rfl rfl inX4 (by decide) ww_1049 (fun _ h => h) rfl hd k
theorem g_X4_64_2 (C : Ck X G cc RX4 nL d) (hd : decode cc pc = .ok (.getfield 64, 3)) (k : V X G nL cells slots σ (pc + 3) lv (.ref (ga G 64) :: rest)) : V X G nL cells slots σ pc lv (.ref (ga G 2) :: rest) := V_get C (K := 2) (T := TX4) (N := 16) (j := 14) (ci := 4) (lt110 rfl) rfl rfl inX4 (by decide) ww_1049 (fun _ h => h) rfl hd k
theorem g_X4_67_2 (C : Ck X G cc RX4 nL d) (hd : decode cc pc = .ok (.getfield 67, 3)) (k : V X G nL cells slots σ (pc + 3) lv (.ref (ga G 29) :: rest)) : V X G nL cells slots σ pc lv (.ref (ga G 2) :: rest) := V_get C (K := 2) (T := TX4) (N := 16) (j := 15) (ci := 4) (lt110 rfl) rfl rfl inX4 (by decide) ww_239 (fun _ h => h) rfl hd k
theorem p_X4_9_2 (C : Ck X G cc RX4 nL d) {v : Int32} (hd : decode cc pc = .ok (.putfield 9, 3)) (k : V X G nL cells slots (fw σ 2 0 v) (pc + 3) lv rest) : V X G nL cells slots σ pc lv (.int v :: .ref (ga G 2) :: rest) := V_put C (K := 2) (T := TX4) (N := 16) (j := 0) (ci := 4) (ty := .int) (upd (σ.2.1 2) 0 v) tyX4 tyX4_ok nmX4 (lt110 rfl) rfl rfl inX4 (by decide) ww_267 (fun _ h => h) rfl rfl rfl rfl (Nat.le_of_ble_eq_true rfl) rfl hd k
theorem p_X4_15_2 (C : Ck X G cc RX4 nL d) {v : Int32} (hd : decode cc pc = .ok (.putfield 15, 3)) (k : V X G nL cells slots (fw σ 2 1 v) (pc + 3) lv rest) : V X G nL cells slots σ pc lv (.int v :: .ref (ga G 2) :: rest) := V_put C (K := 2) (T := TX4) (N := 16) (j := 1) (ci := 4) (ty := .int) (upd (σ.2.1 2) 1 v) tyX4 tyX4_ok nmX4 (lt110 rfl) rfl rfl inX4 (by decide) ww_102 (fun _ h => h) rfl rfl rfl rfl (Nat.le_of_ble_eq_true rfl) rfl hd k
theorem p_X4_18_2 (C : Ck X G cc RX4 nL d) {v : Int32} (hd : decode cc pc = .ok (.putfield 18, 3)) (k : V X G nL cells slots (fw σ 2 2 v) (pc + 3) lv rest) : V X G nL cells slots σ pc lv (.int v :: .ref (ga G 2) :: rest) := V_put C (K := 2) (T := TX4) (N := 16) (j := 2) (ci := 4) (ty := .int) (upd (σ.2.1 2) 2 v) tyX4 tyX4_ok nmX4 (lt110 rfl) rfl rfl inX4 (by decide) ww_87 (fun _ h => h) rfl rfl rfl rfl (Nat.le_of_ble_eq_true rfl) rfl hd k
theorem p_X4_21_2 (C : Ck X G cc RX4 nL d) {v : Int32} (hd : decode cc pc = .ok (.putfield 21, 3)) (k : V X G nL cells slots (fw σ 2 3 v) (pc + 3) lv rest) : V X G nL cells slots σ pc lv (.int v :: .ref (ga G 2) :: rest) := V_put C (K := 2) (T := TX4) (N := 16) (j := 3) (ci := 4) (ty := .int) (upd (σ.2.1 2) 3 v) tyX4 tyX4_ok nmX4 (lt110 rfl) rfl rfl inX4 (by decide) ww_111 (fun _ h => h) rfl rfl rfl rfl (Nat.le_of_ble_eq_true rfl) rfl hd k
theorem g_X11_41_0 (C : Ck X G cc RX11 nL d) (hd : decode cc pc = .ok (.getfield 41, 3)) (k : V X G nL cells slots σ (pc + 3) lv (.ref (ga G 2) :: rest)) : V X G nL cells slots σ pc lv (.ref (ga G 0) :: rest) := V_get C (K := 0) (T := TX11) (N := 10) (j := 4) (ci := 11) (lt110 rfl) rfl rfl inX11 (by decide) ww_1056 (fun _ h => h) rfl hd k
theorem g_X11_64_0 (C : Ck X G cc RX11 nL d) (hd : decode cc pc = .ok (.getfield 64, 3)) (k : V X G nL cells slots σ (pc + 3) lv (.int (fd σ 0 9) :: rest)) : V X G nL cells slots σ pc lv (.ref (ga G 0) :: rest) := V_get C (K := 0) (T := TX11) (N := 10) (j := 9) (ci := 11) (lt110 rfl) rfl rfl inX11 (by decide) ww_1058 (fun _ h => h) rfl hd k
theorem p_X11_64_0 (C : Ck X G cc RX11 nL d) {v : Int32} (hd : decode cc pc = .ok (.putfield 64, 3)) (k : V X G nL cells slots (fw σ 0 9 v) (pc + 3) lv rest) : V X G nL cells slots σ pc lv (.int v :: .ref (ga G 0) :: rest) := V_put C (K := 0) (T := TX11) (N := 10) (j := 9) (ci := 11) (ty := .int) (upd (σ.2.1 0) 9 v) tyX11 tyX11_ok nmX11 (lt110 rfl) rfl rfl inX11 (by decide) ww_1058 (fun _ h => h) rfl rfl rfl rfl (Nat.le_of_ble_eq_true rfl) rfl hd k
end RL
