section WK
variable {X : Xx} {G : Gx} {cc : ByteArray} {own : String} {nL d cells slots pc : Nat} {σ : St} {lv : List (Nat × Value)} {rest : List Value}
set_option maxHeartbeats 4000000 in
set_option maxRecDepth 100000 in
theorem c_X4_become_2 (l : Launch) (G : Gx) (σ : St) (σ0 : St) (h : f_X4_become_2 σ = some σ0) : MI l G yX4_become cX4_become 3 none 2 [.ref (ga G 2), .ref (ga G 1)] σ none σ0 := by
  refine MI_of RX4 rfl (by decide) [(0, .ref (ga G 2)), (1, .ref (ga G 1))] rfl (Nat.le_of_ble_eq_true rfl) ?_
  intro X hXl C hR
  unfold f_X4_become_2 at h
  have J_220 : ∀ (x2 : Int32) (σ : St), f_X4_become_2_220 x2 σ = some σ0 → V X G 3 0 0 σ 220 [(0, .ref (ga G 2)), (1, .ref (ga G 1)), (2, .int x2)] [] := by
    intro x2 σ h
    refine it_v (P := fun z : Int32 × St => V X G 3 0 0 z.2 220 [(0, .ref (ga G 2)), (1, .ref (ga G 1)), (2, .int z.1)] []) ?_ (x2, σ) h
    clear h
    intro z w_220 h ih_220 ex_220
    obtain ⟨x2, σ⟩ := z
    have h : b_X4_become_2_220 x2 σ = some w_220 := h
    show V X G 3 0 0 σ 220 [(0, .ref (ga G 2)), (1, .ref (ga G 1)), (2, .int x2)] []
    unfold b_X4_become_2_220 at h
    refine V_iload_n C (dt_at dt_X4_become_2 36 rfl) 2 rfl rfl ?_
    refine V_iconst C 3 (dt_at dt_X4_become_2 37 rfl) (by decide) ?_
    refine V_icmp_ge C 246 (dt_at dt_X4_become_2 38 rfl) (by decide) (fun q33 => ?_) (fun q33 => ?_)
    · have h := ite_f q33 h
      have e_220 := ex_220 _ (Option.some.inj h).symm
      subst e_220
      exact V_vret C hR (dt_at dt_X4_become_3 10 rfl)
    · have h := ite_t q33 h
      refine V_aload_n C (dt_at dt_X4_become_2 39 rfl) 0 rfl rfl ?_
      refine g_X4_67_2 C (dt_at dt_X4_become_3 0 rfl) ?_
      refine V_iload_n C (dt_at dt_X4_become_3 1 rfl) 2 rfl rfl ?_
      obtain ⟨h34, h⟩ := chk_s h
      refine V_aa29 C h34 (dt_at dt_X4_become_3 2 rfl) ?_
      have h35 : isRow (66 + 2 * x2.toNatClampNeg) = true := ok_29 h34
      refine V_aload_n C (dt_at dt_X4_become_3 3 rfl) 1 rfl rfl ?_
      refine g_X4_67_1 C (dt_at dt_X4_become_3 4 rfl) ?_
      refine V_iload_n C (dt_at dt_X4_become_3 5 rfl) 2 rfl rfl ?_
      refine V_aa19 C h34 (dt_at dt_X4_become_3 6 rfl) ?_
      have h36 : isRow (56 + 2 * x2.toNatClampNeg) = true := ok_19 h34
      obtain ⟨σ39, e38, h⟩ := bd_s h
      refine cv_X7_become C ww_1048 (66 + 2 * x2.toNatClampNeg) (56 + 2 * x2.toNatClampNeg) e38 (Nat.le_of_ble_eq_true rfl) (Nat.le_of_ble_eq_true rfl) z0 (dt_at dt_X4_become_3 7 rfl) ?_
      refine V_iinc C (x2 + 1) 2 [1, 2, 0] (lv' := [(0, .ref (ga G 2)), (1, .ref (ga G 1)), (2, .int (x2 + 1))]) (dt_at dt_X4_become_3 8 rfl) rfl (by rfl) (by decide) rfl ?_
      refine V_goto C 220 (dt_at dt_X4_become_3 9 rfl) (by decide) ?_
      exact ih_220 ((x2 + 1), σ39) (Option.some.inj h).symm
  have J_60 : ∀ (σ : St), f_X4_become_2_60 σ = some σ0 → V X G 3 0 0 σ 60 [(0, .ref (ga G 2)), (1, .ref (ga G 1))] [] := by
    intro σ h
    unfold f_X4_become_2_60 at h
    refine V_aload_n C (dt_at dt_X4_become_0 32 rfl) 1 rfl rfl ?_
    refine g_X4_30_1 C (dt_at dt_X4_become_0 33 rfl) ?_
    refine V_iconst C 0 (dt_at dt_X4_become_0 34 rfl) (by decide) ?_
    refine V_aload_n C (dt_at dt_X4_become_0 35 rfl) 0 rfl rfl ?_
    refine g_X4_30_2 C (dt_at dt_X4_become_0 36 rfl) ?_
    refine V_iconst C 0 (dt_at dt_X4_become_0 37 rfl) (by decide) ?_
    refine V_aload_n C (dt_at dt_X4_become_0 38 rfl) 0 rfl rfl ?_
    refine g_X4_15_2 C (dt_at dt_X4_become_0 39 rfl) ?_
    obtain ⟨h11, h⟩ := chk_s h
    obtain ⟨σ12, eσ12, h⟩ := nm_s h
    refine V_st eσ12 ?_ (fun k => V_copy C (K0 := 11) (K1 := 21) ww_1046 w_copy (lt110 rfl) (lt110 rfl) rfl (fun _ => rfl) h11 (Nat.le_of_ble_eq_true rfl) (Nat.le_of_ble_eq_true rfl) (dt_at dt_X4_become_1 0 rfl) k)
    refine V_aload_n C (dt_at dt_X4_become_1 1 rfl) 1 rfl rfl ?_
    refine g_X4_34_1 C (dt_at dt_X4_become_1 2 rfl) ?_
    refine V_iconst C 0 (dt_at dt_X4_become_1 3 rfl) (by decide) ?_
    refine V_aload_n C (dt_at dt_X4_become_1 4 rfl) 0 rfl rfl ?_
    refine g_X4_34_2 C (dt_at dt_X4_become_1 5 rfl) ?_
    refine V_iconst C 0 (dt_at dt_X4_become_1 6 rfl) (by decide) ?_
    refine V_aload_n C (dt_at dt_X4_become_1 7 rfl) 0 rfl rfl ?_
    refine g_X4_18_2 C (dt_at dt_X4_become_1 8 rfl) ?_
    obtain ⟨h13, h⟩ := chk_s h
    obtain ⟨σ14, eσ14, h⟩ := nm_s h
    refine V_st eσ14 ?_ (fun k => V_copy C (K0 := 12) (K1 := 22) ww_1046 w_copy (lt110 rfl) (lt110 rfl) rfl (fun _ => rfl) h13 (Nat.le_of_ble_eq_true rfl) (Nat.le_of_ble_eq_true rfl) (dt_at dt_X4_become_1 9 rfl) k)
    refine V_aload_n C (dt_at dt_X4_become_1 10 rfl) 1 rfl rfl ?_
    refine g_X4_37_1 C (dt_at dt_X4_become_1 11 rfl) ?_
    refine V_iconst C 0 (dt_at dt_X4_become_1 12 rfl) (by decide) ?_
    refine V_aload_n C (dt_at dt_X4_become_1 13 rfl) 0 rfl rfl ?_
    refine g_X4_37_2 C (dt_at dt_X4_become_1 14 rfl) ?_
    refine V_iconst C 0 (dt_at dt_X4_become_1 15 rfl) (by decide) ?_
    refine V_aload_n C (dt_at dt_X4_become_1 16 rfl) 0 rfl rfl ?_
    refine g_X4_18_2 C (dt_at dt_X4_become_1 17 rfl) ?_
    obtain ⟨h15, h⟩ := chk_s h
    obtain ⟨σ16, eσ16, h⟩ := nm_s h
    refine V_st eσ16 ?_ (fun k => V_copy C (K0 := 13) (K1 := 23) ww_1046 w_copy (lt110 rfl) (lt110 rfl) rfl (fun _ => rfl) h15 (Nat.le_of_ble_eq_true rfl) (Nat.le_of_ble_eq_true rfl) (dt_at dt_X4_become_1 18 rfl) k)
    refine V_aload_n C (dt_at dt_X4_become_1 19 rfl) 1 rfl rfl ?_
    refine g_X4_40_1 C (dt_at dt_X4_become_1 20 rfl) ?_
    refine V_iconst C 0 (dt_at dt_X4_become_1 21 rfl) (by decide) ?_
    refine V_aload_n C (dt_at dt_X4_become_1 22 rfl) 0 rfl rfl ?_
    refine g_X4_40_2 C (dt_at dt_X4_become_1 23 rfl) ?_
    refine V_iconst C 0 (dt_at dt_X4_become_1 24 rfl) (by decide) ?_
    refine V_aload_n C (dt_at dt_X4_become_1 25 rfl) 0 rfl rfl ?_
    refine g_X4_18_2 C (dt_at dt_X4_become_1 26 rfl) ?_
    obtain ⟨h17, h⟩ := chk_s h
    obtain ⟨σ18, eσ18, h⟩ := nm_s h
    refine V_st eσ18 ?_ (fun k => V_copy C (K0 := 14) (K1 := 24) ww_1046 w_copy (lt110 rfl) (lt110 rfl) rfl (fun _ => rfl) h17 (Nat.le_of_ble_eq_true rfl) (Nat.le_of_ble_eq_true rfl) (dt_at dt_X4_become_1 27 rfl) k)
    refine V_aload_n C (dt_at dt_X4_become_1 28 rfl) 1 rfl rfl ?_
    refine g_X4_43_1 C (dt_at dt_X4_become_1 29 rfl) ?_
    refine V_iconst C 0 (dt_at dt_X4_become_1 30 rfl) (by decide) ?_
    refine V_aload_n C (dt_at dt_X4_become_1 31 rfl) 0 rfl rfl ?_
    refine g_X4_43_2 C (dt_at dt_X4_become_1 32 rfl) ?_
    refine V_iconst C 0 (dt_at dt_X4_become_1 33 rfl) (by decide) ?_
    refine V_aload_n C (dt_at dt_X4_become_1 34 rfl) 0 rfl rfl ?_
    refine g_X4_18_2 C (dt_at dt_X4_become_1 35 rfl) ?_
    obtain ⟨h19, h⟩ := chk_s h
    obtain ⟨σ20, eσ20, h⟩ := nm_s h
    refine V_st eσ20 ?_ (fun k => V_copy C (K0 := 15) (K1 := 25) ww_1046 w_copy (lt110 rfl) (lt110 rfl) rfl (fun _ => rfl) h19 (Nat.le_of_ble_eq_true rfl) (Nat.le_of_ble_eq_true rfl) (dt_at dt_X4_become_1 36 rfl) k)
    refine V_aload_n C (dt_at dt_X4_become_1 37 rfl) 1 rfl rfl ?_
    refine g_X4_46_1 C (dt_at dt_X4_become_1 38 rfl) ?_
    refine V_iconst C 0 (dt_at dt_X4_become_1 39 rfl) (by decide) ?_
    refine V_aload_n C (dt_at dt_X4_become_2 0 rfl) 0 rfl rfl ?_
    refine g_X4_46_2 C (dt_at dt_X4_become_2 1 rfl) ?_
    refine V_iconst C 0 (dt_at dt_X4_become_2 2 rfl) (by decide) ?_
    refine V_aload_n C (dt_at dt_X4_become_2 3 rfl) 0 rfl rfl ?_
    refine g_X4_21_2 C (dt_at dt_X4_become_2 4 rfl) ?_
    obtain ⟨h21, h⟩ := chk_s h
    obtain ⟨σ22, eσ22, h⟩ := nm_s h
    refine V_st eσ22 ?_ (fun k => V_copy C (K0 := 16) (K1 := 26) ww_1046 w_copy (lt110 rfl) (lt110 rfl) rfl (fun _ => rfl) h21 (Nat.le_of_ble_eq_true rfl) (Nat.le_of_ble_eq_true rfl) (dt_at dt_X4_become_2 5 rfl) k)
    refine V_aload_n C (dt_at dt_X4_become_2 6 rfl) 1 rfl rfl ?_
    refine g_X4_49_1 C (dt_at dt_X4_become_2 7 rfl) ?_
    refine V_iconst C 0 (dt_at dt_X4_become_2 8 rfl) (by decide) ?_
    refine V_aload_n C (dt_at dt_X4_become_2 9 rfl) 0 rfl rfl ?_
    refine g_X4_49_2 C (dt_at dt_X4_become_2 10 rfl) ?_
    refine V_iconst C 0 (dt_at dt_X4_become_2 11 rfl) (by decide) ?_
    refine V_aload_n C (dt_at dt_X4_become_2 12 rfl) 0 rfl rfl ?_
    refine g_X4_21_2 C (dt_at dt_X4_become_2 13 rfl) ?_
    obtain ⟨h23, h⟩ := chk_s h
    obtain ⟨σ24, eσ24, h⟩ := nm_s h
    refine V_st eσ24 ?_ (fun k => V_copy C (K0 := 17) (K1 := 27) ww_1046 w_copy (lt110 rfl) (lt110 rfl) rfl (fun _ => rfl) h23 (Nat.le_of_ble_eq_true rfl) (Nat.le_of_ble_eq_true rfl) (dt_at dt_X4_become_2 14 rfl) k)
    refine V_aload_n C (dt_at dt_X4_become_2 15 rfl) 1 rfl rfl ?_
    refine g_X4_52_1 C (dt_at dt_X4_become_2 16 rfl) ?_
    refine V_iconst C 0 (dt_at dt_X4_become_2 17 rfl) (by decide) ?_
    refine V_aload_n C (dt_at dt_X4_become_2 18 rfl) 0 rfl rfl ?_
    refine g_X4_52_2 C (dt_at dt_X4_become_2 19 rfl) ?_
    refine V_iconst C 0 (dt_at dt_X4_become_2 20 rfl) (by decide) ?_
    refine V_aload_n C (dt_at dt_X4_become_2 21 rfl) 0 rfl rfl ?_
    refine g_X4_21_2 C (dt_at dt_X4_become_2 22 rfl) ?_
    obtain ⟨h25, h⟩ := chk_s h
    obtain ⟨σ26, eσ26, h⟩ := nm_s h
    refine V_st eσ26 ?_ (fun k => V_copy C (K0 := 18) (K1 := 28) ww_1046 w_copy (lt110 rfl) (lt110 rfl) rfl (fun _ => rfl) h25 (Nat.le_of_ble_eq_true rfl) (Nat.le_of_ble_eq_true rfl) (dt_at dt_X4_become_2 23 rfl) k)
    refine V_aload_n C (dt_at dt_X4_become_2 24 rfl) 0 rfl rfl ?_
    refine g_X4_60_2 C (dt_at dt_X4_become_2 25 rfl) ?_
    refine V_aload_n C (dt_at dt_X4_become_2 26 rfl) 1 rfl rfl ?_
    refine g_X4_60_1 C (dt_at dt_X4_become_2 27 rfl) ?_
    obtain ⟨σ29, e28, h⟩ := bd_s h
    refine cv_X7_become C ww_1048 62 52 e28 (Nat.le_of_ble_eq_true rfl) (Nat.le_of_ble_eq_true rfl) z0 (dt_at dt_X4_become_2 28 rfl) ?_
    refine V_aload_n C (dt_at dt_X4_become_2 29 rfl) 0 rfl rfl ?_
    refine g_X4_64_2 C (dt_at dt_X4_become_2 30 rfl) ?_
    refine V_aload_n C (dt_at dt_X4_become_2 31 rfl) 1 rfl rfl ?_
    refine g_X4_64_1 C (dt_at dt_X4_become_2 32 rfl) ?_
    obtain ⟨σ32, e31, h⟩ := bd_s h
    refine cv_X7_become C ww_1048 64 54 e31 (Nat.le_of_ble_eq_true rfl) (Nat.le_of_ble_eq_true rfl) z0 (dt_at dt_X4_become_2 33 rfl) ?_
    refine V_iconst C 0 (dt_at dt_X4_become_2 34 rfl) (by decide) ?_
    refine V_istore_n C [1, 2, 0] (lv' := [(0, .ref (ga G 2)), (1, .ref (ga G 1)), (2, .int 0)]) (dt_at dt_X4_become_2 35 rfl) rfl (by decide) rfl ?_
    exact J_220 0 σ32 h
  have J_34 : ∀ (x2 : Int32) (σ : St), f_X4_become_2_34 x2 σ = some σ0 → V X G 3 0 0 σ 34 [(0, .ref (ga G 2)), (1, .ref (ga G 1)), (2, .int x2)] [] := by
    intro x2 σ h
    refine it_v (P := fun z : Int32 × St => V X G 3 0 0 z.2 34 [(0, .ref (ga G 2)), (1, .ref (ga G 1)), (2, .int z.1)] []) ?_ (x2, σ) h
    clear h
    intro z w_34 h ih_34 ex_34
    obtain ⟨x2, σ⟩ := z
    have h : b_X4_become_2_34 x2 σ = some w_34 := h
    show V X G 3 0 0 σ 34 [(0, .ref (ga G 2)), (1, .ref (ga G 1)), (2, .int x2)] []
    unfold b_X4_become_2_34 at h
    refine V_iload_n C (dt_at dt_X4_become_0 18 rfl) 2 rfl rfl ?_
    refine V_aload_n C (dt_at dt_X4_become_0 19 rfl) 0 rfl rfl ?_
    refine g_X4_15_2 C (dt_at dt_X4_become_0 20 rfl) ?_
    refine V_icmp_ge C 60 (dt_at dt_X4_become_0 21 rfl) (by decide) (fun q5 => ?_) (fun q5 => ?_)
    · have h := ite_f q5 h
      refine V_sub [0, 1] (lv' := [(0, .ref (ga G 2)), (1, .ref (ga G 1))]) rfl ?_
      obtain ⟨t6, h, e_34⟩ := map_s h
      have e_34 := ex_34 _ e_34
      rw [e_34] at h
      exact J_60 σ h
    · have h := ite_t q5 h
      refine V_aload_n C (dt_at dt_X4_become_0 22 rfl) 0 rfl rfl ?_
      refine g_X4_26_2 C (dt_at dt_X4_become_0 23 rfl) ?_
      refine V_iload_n C (dt_at dt_X4_become_0 24 rfl) 2 rfl rfl ?_
      refine V_aload_n C (dt_at dt_X4_become_0 25 rfl) 1 rfl rfl ?_
      refine g_X4_26_1 C (dt_at dt_X4_become_0 26 rfl) ?_
      refine V_iload_n C (dt_at dt_X4_become_0 27 rfl) 2 rfl rfl ?_
      obtain ⟨h7, h⟩ := chk_s h
      obtain ⟨h8, h⟩ := chk_s h
      refine V_aaR10 C h7 h8 (dt_at dt_X4_become_0 28 rfl) ?_
      obtain ⟨h9, h⟩ := chk_s h
      obtain ⟨σ10, eσ10, h⟩ := nm_s h
      refine V_st eσ10 ?_ (fun k => V_aastR20 C (K := (rd σ 10 x2).toNatClampNeg) h8 (of_decide_eq_true h9) h7 (dt_at dt_X4_become_0 29 rfl) k)
      refine V_iinc C (x2 + 1) 2 [1, 2, 0] (lv' := [(0, .ref (ga G 2)), (1, .ref (ga G 1)), (2, .int (x2 + 1))]) (dt_at dt_X4_become_0 30 rfl) rfl (by rfl) (by decide) rfl ?_
      refine V_goto C 34 (dt_at dt_X4_become_0 31 rfl) (by decide) ?_
      exact ih_34 ((x2 + 1), σ10) (Option.some.inj h).symm
  refine V_aload_n C (dt_at dt_X4_become_0 0 rfl) 0 rfl rfl ?_
  refine V_aload_n C (dt_at dt_X4_become_0 1 rfl) 1 rfl rfl ?_
  refine g_X4_9_1 C (dt_at dt_X4_become_0 2 rfl) ?_
  obtain ⟨σ1, eσ1, h⟩ := nm_s h
  refine V_st eσ1 ?_ (fun k => p_X4_9_2 C (dt_at dt_X4_become_0 3 rfl) k)
  refine V_aload_n C (dt_at dt_X4_become_0 4 rfl) 0 rfl rfl ?_
  refine V_aload_n C (dt_at dt_X4_become_0 5 rfl) 1 rfl rfl ?_
  refine g_X4_15_1 C (dt_at dt_X4_become_0 6 rfl) ?_
  obtain ⟨σ2, eσ2, h⟩ := nm_s h
  refine V_st eσ2 ?_ (fun k => p_X4_15_2 C (dt_at dt_X4_become_0 7 rfl) k)
  refine V_aload_n C (dt_at dt_X4_become_0 8 rfl) 0 rfl rfl ?_
  refine V_aload_n C (dt_at dt_X4_become_0 9 rfl) 1 rfl rfl ?_
  refine g_X4_18_1 C (dt_at dt_X4_become_0 10 rfl) ?_
  obtain ⟨σ3, eσ3, h⟩ := nm_s h
  refine V_st eσ3 ?_ (fun k => p_X4_18_2 C (dt_at dt_X4_become_0 11 rfl) k)
  refine V_aload_n C (dt_at dt_X4_become_0 12 rfl) 0 rfl rfl ?_
  refine V_aload_n C (dt_at dt_X4_become_0 13 rfl) 1 rfl rfl ?_
  refine g_X4_21_1 C (dt_at dt_X4_become_0 14 rfl) ?_
  obtain ⟨σ4, eσ4, h⟩ := nm_s h
  refine V_st eσ4 ?_ (fun k => p_X4_21_2 C (dt_at dt_X4_become_0 15 rfl) k)
  refine V_iconst C 0 (dt_at dt_X4_become_0 16 rfl) (by decide) ?_
  refine V_istore_n C [1, 2, 0] (lv' := [(0, .ref (ga G 2)), (1, .ref (ga G 1)), (2, .int 0)]) (dt_at dt_X4_become_0 17 rfl) rfl (by decide) rfl ?_
  exact J_34 0 σ4 h
theorem cv_X4_become_2 (C : Ck X G cc own nL d) {idx : Nat} (hlk : Cond.methodLink own idx yX4_become ∈ gtb) {σ0 : St} (e : f_X4_become_2 σ = some σ0) (hdd : 3 ≤ d) (hroom : (rest.map fun v => v.category).sum ≤ 8) (hcs : cells ≤ (xR X).cells ∧ slots ≤ (xR X).slots) (hd : decode cc pc = .ok (.invokevirtual idx, 3)) (k : V X G nL cells slots σ0 (pc + 3) lv (rest)) : V X G nL cells slots σ pc lv (.ref (ga G 1) :: .ref (ga G 2) :: rest) := V_callV C (As := [.ref (ga G 1)]) (c_X4_become_2 X.2.1 G  σ σ0 e) cal_X4_become ww_1051 ww_1052 hlk rfl hdd (lt110 rfl) rfl rfl rfl hroom hcs hd k
theorem dt_X4_addPart_0 : dtab cX4_addPart [(0, .aload_n 0, 1), (1, .getfield 26, 3), (4, .aload_n 0, 1), (5, .getfield 15, 3), (8, .aload_n 1, 1), (9, .aastore, 1), (10, .aload_n 0, 1), (11, .getfield 30, 3), (14, .aload_n 0, 1), (15, .getfield 15, 3), (18, .iconst (-1), 1), (19, .iastore, 1), (20, .aload_n 0, 1), (21, .dup, 1), (22, .getfield 15, 3), (25, .iconst 1, 1), (26, .iadd, 1), (27, .putfield 15, 3), (30, .aload_n 0, 1), (31, .getfield 15, 3), (34, .iconst 1, 1), (35, .isub, 1), (36, .ireturn, 1)] = true := by decide +kernel
theorem cal_X4_addPart : Cal yX4_addPart cX4_addPart 2 (some .int) 1 := ⟨ww_1053, ww_92, ⟨by decide, by decide, by decide⟩, by decide⟩
set_option maxHeartbeats 4000000 in
set_option maxRecDepth 100000 in
theorem c_X4_addPart (l : Launch) (G : Gx) (c1 : Nat) (σ : St) (r0 : Int32) (σ0 : St) (h : f_X4_addPart c1 σ = some (r0, σ0)) : MI l G yX4_addPart cX4_addPart 2 (some .int) 1 [.ref (ga G 1), .ref (ga G c1)] σ (some (.int r0)) σ0 := by
  refine MI_of RX4 rfl (by decide) [(0, .ref (ga G 1)), (1, .ref (ga G c1))] rfl (Nat.le_of_ble_eq_true rfl) ?_
  intro X hXl C hR
  unfold f_X4_addPart at h
  refine V_aload_n C (dt_at dt_X4_addPart_0 0 rfl) 0 rfl rfl ?_
  refine g_X4_26_1 C (dt_at dt_X4_addPart_0 1 rfl) ?_
  refine V_aload_n C (dt_at dt_X4_addPart_0 2 rfl) 0 rfl rfl ?_
  refine g_X4_15_1 C (dt_at dt_X4_addPart_0 3 rfl) ?_
  refine V_aload_n C (dt_at dt_X4_addPart_0 4 rfl) 1 rfl rfl ?_
  obtain ⟨h1, h⟩ := chk_s h
  obtain ⟨h2, h⟩ := chk_s h
  obtain ⟨h3, h⟩ := chk_s h
  obtain ⟨σ4, eσ4, h⟩ := nm_s h
  refine V_st eσ4 ?_ (fun k => V_aastR10 C (K := c1) h2 (of_decide_eq_true h3) h1 (dt_at dt_X4_addPart_0 5 rfl) k)
  refine V_aload_n C (dt_at dt_X4_addPart_0 6 rfl) 0 rfl rfl ?_
  refine g_X4_30_1 C (dt_at dt_X4_addPart_0 7 rfl) ?_
  refine V_aload_n C (dt_at dt_X4_addPart_0 8 rfl) 0 rfl rfl ?_
  refine g_X4_15_1 C (dt_at dt_X4_addPart_0 9 rfl) ?_
  refine V_iconst C (-1) (dt_at dt_X4_addPart_0 10 rfl) (by decide) ?_
  obtain ⟨h6, h⟩ := chk_s h
  obtain ⟨σ5, eσ5, h⟩ := nm_s h
  refine V_st eσ5 ?_ (fun k => as_11 C h6 (dt_at dt_X4_addPart_0 11 rfl) k)
  refine V_aload_n C (dt_at dt_X4_addPart_0 12 rfl) 0 rfl rfl ?_
  refine V_dup C (dt_at dt_X4_addPart_0 13 rfl) rfl ?_
  refine g_X4_15_1 C (dt_at dt_X4_addPart_0 14 rfl) ?_
  refine V_iconst C 1 (dt_at dt_X4_addPart_0 15 rfl) (by decide) ?_
  refine V_iadd C (dt_at dt_X4_addPart_0 16 rfl) ?_
  obtain ⟨σ7, eσ7, h⟩ := nm_s h
  refine V_st eσ7 ?_ (fun k => p_X4_15_1 C (dt_at dt_X4_addPart_0 17 rfl) k)
  refine V_aload_n C (dt_at dt_X4_addPart_0 18 rfl) 0 rfl rfl ?_
  refine g_X4_15_1 C (dt_at dt_X4_addPart_0 19 rfl) ?_
  refine V_iconst C 1 (dt_at dt_X4_addPart_0 20 rfl) (by decide) ?_
  refine V_isub C (dt_at dt_X4_addPart_0 21 rfl) ?_
  obtain ⟨e1_, e2_⟩ := pin2 h
  subst e1_; subst e2_
  exact V_iret C hR (dt_at dt_X4_addPart_0 22 rfl)
theorem cv_X4_addPart (C : Ck X G cc own nL d) {idx : Nat} (hlk : Cond.methodLink own idx yX4_addPart ∈ gtb) (c1 : Nat) {r0 : Int32} {σ0 : St} (e : f_X4_addPart c1 σ = some (r0, σ0)) (hdd : 2 ≤ d) (hroom : (rest.map fun v => v.category).sum ≤ 8) (hcs : cells ≤ (xR X).cells ∧ slots ≤ (xR X).slots) (hd : decode cc pc = .ok (.invokevirtual idx, 3)) (k : V X G nL cells slots σ0 (pc + 3) lv (.int r0 :: rest)) : V X G nL cells slots σ pc lv (.ref (ga G c1) :: .ref (ga G 1) :: rest) := V_callV C (As := [.ref (ga G c1)]) (c_X4_addPart X.2.1 G c1 σ r0 σ0 e) cal_X4_addPart ww_1054 ww_1055 hlk rfl hdd (lt110 rfl) rfl rfl rfl hroom hcs hd k
theorem dt_X11_image_0 : dtab cX11_image [(0, .aload_n 0, 1), (1, .getfield 41, 3), (4, .aload_n 0, 1), (5, .getfield 12, 3), (8, .invokevirtual 334, 3), (11, .aload_n 0, 1), (12, .dup, 1), (13, .getfield 64, 3), (16, .iconst 1, 1), (17, .iadd, 1), (18, .putfield 64, 3), (21, .aload_n 0, 1), (22, .getfield 64, 3), (25, .ireturn, 1)] = true := by decide +kernel
theorem cal_X11_image : Cal yX11_image cX11_image 1 (some .int) 0 := ⟨ww_1059, ww_100, ⟨by decide, by decide, by decide⟩, by decide⟩
set_option maxHeartbeats 4000000 in
set_option maxRecDepth 100000 in
theorem c_X11_image (l : Launch) (G : Gx) (σ : St) (r0 : Int32) (σ0 : St) (h : f_X11_image σ = some (r0, σ0)) : MI l G yX11_image cX11_image 1 (some .int) 3 [.ref (ga G 0)] σ (some (.int r0)) σ0 := by
  refine MI_of RX11 rfl (by decide) [(0, .ref (ga G 0))] rfl (Nat.le_of_ble_eq_true rfl) ?_
  intro X hXl C hR
  unfold f_X11_image at h
  refine V_aload_n C (dt_at dt_X11_image_0 0 rfl) 0 rfl rfl ?_
  refine g_X11_41_0 C (dt_at dt_X11_image_0 1 rfl) ?_
  refine V_aload_n C (dt_at dt_X11_image_0 2 rfl) 0 rfl rfl ?_
  refine g_X11_12_0 C (dt_at dt_X11_image_0 3 rfl) ?_
  obtain ⟨σ3, e2, h⟩ := bd_s h
  refine cv_X4_become_2 C ww_1057  e2 (Nat.le_of_ble_eq_true rfl) (Nat.le_of_ble_eq_true rfl) z0 (dt_at dt_X11_image_0 4 rfl) ?_
  refine V_aload_n C (dt_at dt_X11_image_0 5 rfl) 0 rfl rfl ?_
  refine V_dup C (dt_at dt_X11_image_0 6 rfl) rfl ?_
  refine g_X11_64_0 C (dt_at dt_X11_image_0 7 rfl) ?_
  refine V_iconst C 1 (dt_at dt_X11_image_0 8 rfl) (by decide) ?_
  refine V_iadd C (dt_at dt_X11_image_0 9 rfl) ?_
  obtain ⟨σ4, eσ4, h⟩ := nm_s h
  refine V_st eσ4 ?_ (fun k => p_X11_64_0 C (dt_at dt_X11_image_0 10 rfl) k)
  refine V_aload_n C (dt_at dt_X11_image_0 11 rfl) 0 rfl rfl ?_
  refine g_X11_64_0 C (dt_at dt_X11_image_0 12 rfl) ?_
  obtain ⟨e1_, e2_⟩ := pin2 h
  subst e1_; subst e2_
  exact V_iret C hR (dt_at dt_X11_image_0 13 rfl)
theorem cv_X11_image (C : Ck X G cc own nL d) {idx : Nat} (hlk : Cond.methodLink own idx yX11_image ∈ gtb) {r0 : Int32} {σ0 : St} (e : f_X11_image σ = some (r0, σ0)) (hdd : 4 ≤ d) (hroom : (rest.map fun v => v.category).sum ≤ 8) (hcs : cells ≤ (xR X).cells ∧ slots ≤ (xR X).slots) (hd : decode cc pc = .ok (.invokevirtual idx, 3)) (k : V X G nL cells slots σ0 (pc + 3) lv (.int r0 :: rest)) : V X G nL cells slots σ pc lv (.ref (ga G 0) :: rest) := V_callV C (As := []) (c_X11_image X.2.1 G  σ r0 σ0 e) cal_X11_image ww_1060 ww_1061 hlk rfl hdd (lt110 rfl) rfl rfl rfl hroom hcs hd k
theorem dt_X11_restore_0 : dtab cX11_restore [(0, .aload_n 0, 1), (1, .getfield 64, 3), (4, .ifCond .ne 9, 3), (7, .aload_n 0, 1), (8, .iconst 2, 1), (9, .invokevirtual 68, 3), (12, .ireturn, 1), (13, .aload_n 0, 1), (14, .getfield 12, 3), (17, .aload_n 0, 1), (18, .getfield 41, 3), (21, .invokevirtual 334, 3), (24, .aload_n 0, 1), (25, .getfield 12, 3), (28, .getfield 83, 3), (31, .ireturn, 1)] = true := by decide +kernel
theorem cal_X11_restore : Cal yX11_restore cX11_restore 1 (some .int) 0 := ⟨ww_1062, ww_100, ⟨by decide, by decide, by decide⟩, by decide⟩
set_option maxHeartbeats 4000000 in
set_option maxRecDepth 100000 in
theorem c_X11_restore (l : Launch) (G : Gx) (σ : St) (r0 : Int32) (σ0 : St) (h : f_X11_restore σ = some (r0, σ0)) : MI l G yX11_restore cX11_restore 1 (some .int) 3 [.ref (ga G 0)] σ (some (.int r0)) σ0 := by
  refine MI_of RX11 rfl (by decide) [(0, .ref (ga G 0))] rfl (Nat.le_of_ble_eq_true rfl) ?_
  intro X hXl C hR
  unfold f_X11_restore at h
  refine V_aload_n C (dt_at dt_X11_restore_0 0 rfl) 0 rfl rfl ?_
  refine g_X11_64_0 C (dt_at dt_X11_restore_0 1 rfl) ?_
  refine V_if_ne C 13 (dt_at dt_X11_restore_0 2 rfl) (by decide) (fun q1 => ?_) (fun q1 => ?_)
  · have h := ite_f q1 h
    refine V_aload_n C (dt_at dt_X11_restore_0 7 rfl) 0 rfl rfl ?_
    refine g_X11_12_0 C (dt_at dt_X11_restore_0 8 rfl) ?_
    refine V_aload_n C (dt_at dt_X11_restore_0 9 rfl) 0 rfl rfl ?_
    refine g_X11_41_0 C (dt_at dt_X11_restore_0 10 rfl) ?_
    obtain ⟨σ4, e3, h⟩ := bd_s h
    refine cv_X4_become_1 C ww_1057  e3 (Nat.le_of_ble_eq_true rfl) (Nat.le_of_ble_eq_true rfl) z0 (dt_at dt_X11_restore_0 11 rfl) ?_
    refine V_aload_n C (dt_at dt_X11_restore_0 12 rfl) 0 rfl rfl ?_
    refine g_X11_12_0 C (dt_at dt_X11_restore_0 13 rfl) ?_
    refine g_X11_83_1 C (dt_at dt_X11_restore_0 14 rfl) ?_
    obtain ⟨e1_, e2_⟩ := pin2 h
    subst e1_; subst e2_
    exact V_iret C hR (dt_at dt_X11_restore_0 15 rfl)
  · have h := ite_t q1 h
    refine V_aload_n C (dt_at dt_X11_restore_0 3 rfl) 0 rfl rfl ?_
    refine V_iconst C 2 (dt_at dt_X11_restore_0 4 rfl) (by decide) ?_
    obtain ⟨r5, σ7, e6, h⟩ := bd2_s h
    refine cv_X11_error C ww_193 2 e6 (Nat.le_of_ble_eq_true rfl) (Nat.le_of_ble_eq_true rfl) z0 (dt_at dt_X11_restore_0 5 rfl) ?_
    obtain ⟨e1_, e2_⟩ := pin2 h
    subst e1_; subst e2_
    exact V_iret C hR (dt_at dt_X11_restore_0 6 rfl)
theorem cv_X11_restore (C : Ck X G cc own nL d) {idx : Nat} (hlk : Cond.methodLink own idx yX11_restore ∈ gtb) {r0 : Int32} {σ0 : St} (e : f_X11_restore σ = some (r0, σ0)) (hdd : 4 ≤ d) (hroom : (rest.map fun v => v.category).sum ≤ 8) (hcs : cells ≤ (xR X).cells ∧ slots ≤ (xR X).slots) (hd : decode cc pc = .ok (.invokevirtual idx, 3)) (k : V X G nL cells slots σ0 (pc + 3) lv (.int r0 :: rest)) : V X G nL cells slots σ pc lv (.ref (ga G 0) :: rest) := V_callV C (As := []) (c_X11_restore X.2.1 G  σ r0 σ0 e) cal_X11_restore ww_1063 ww_1064 hlk rfl hdd (lt110 rfl) rfl rfl rfl hroom hcs hd k
theorem dt_X5_namesOf_0 : dtab cX5_namesOf [(0, .iload_n 0, 1), (1, .lookupswitch 33 #[(0, 27), (1, 30)], 27), (28, .ldc 48, 2), (30, .areturn, 1), (31, .ldc 50, 2), (33, .areturn, 1), (34, .ldc 52, 2), (36, .areturn, 1)] = true := by decide +kernel
theorem cal_X5_namesOf : Cal yX5_namesOf cX5_namesOf 1 (some (.object "java/lang/String")) 1 := ⟨ww_1065, ww_400, ⟨by decide, by decide, by decide⟩, by decide⟩
set_option maxHeartbeats 4000000 in
set_option maxRecDepth 100000 in
theorem c_X5_namesOf (l : Launch) (G : Gx) (x0 : Int32) (σ : St) (r0 : Nat) (h : f_X5_namesOf x0 = some r0) : MI l G yX5_namesOf cX5_namesOf 1 (some (.object "java/lang/String")) 1 [.int x0] σ (some (.ref (gs G r0))) σ := by
  refine MI_of RX5 rfl (by decide) [(0, .int x0)] rfl (Nat.le_of_ble_eq_true rfl) ?_
  intro X hXl C hR
  unfold f_X5_namesOf at h
  refine V_iload_n C (dt_at dt_X5_namesOf_0 0 rfl) 0 rfl rfl ?_
  by_cases q1 : x0 = 0
  · have h := ite_t q1 h
    refine V_lkp C 28 (dt_at dt_X5_namesOf_0 1 rfl) rfl (by rw [q1] <;> rfl) (by decide) ?_
    refine V_ldcS C (q := (48, "ganyk", 1)) (by decide) (dt_at dt_X5_namesOf_0 2 rfl) ?_
    have e1_ := Option.some.inj h
    subst e1_
    exact V_sret C hR (dt_at dt_X5_namesOf_0 3 rfl)
  replace h := ite_f q1 h
  by_cases q2 : x0 = 1
  · have h := ite_t q2 h
    refine V_lkp C 31 (dt_at dt_X5_namesOf_0 1 rfl) rfl (by rw [q2] <;> rfl) (by decide) ?_
    refine V_ldcS C (q := (50, "wvkqs", 2)) (by decide) (dt_at dt_X5_namesOf_0 4 rfl) ?_
    have e1_ := Option.some.inj h
    subst e1_
    exact V_sret C hR (dt_at dt_X5_namesOf_0 5 rfl)
  replace h := ite_f q2 h
  refine V_lkp C (off := 33) 34 (dt_at dt_X5_namesOf_0 1 rfl) rfl ((lv_osw q1 (a := 0) rfl).trans ((lv_osw q2 (a := 1) rfl).trans (rfl))) (by decide) ?_
  refine V_ldcS C (q := (52, "ganykl", 3)) (by decide) (dt_at dt_X5_namesOf_0 6 rfl) ?_
  have e1_ := Option.some.inj h
  subst e1_
  exact V_sret C hR (dt_at dt_X5_namesOf_0 7 rfl)
theorem cv_X5_namesOf (C : Ck X G cc own nL d) {idx : Nat} (hlk : Cond.methodLink own idx yX5_namesOf ∈ gtb) (x0 : Int32) {r0 : Nat} (e : f_X5_namesOf x0 = some r0) (hdd : 2 ≤ d) (hroom : (rest.map fun v => v.category).sum ≤ 8) (hcs : cells ≤ (xR X).cells ∧ slots ≤ (xR X).slots) (hd : decode cc pc = .ok (.invokestatic idx, 3)) (k : V X G nL cells slots σ (pc + 3) lv (.ref (gs G r0) :: rest)) : V X G nL cells slots σ pc lv (.int x0 :: rest) := V_callS C (As := [.int x0]) (c_X5_namesOf X.2.1 G x0 σ r0 e) cal_X5_namesOf ww_1066 hlk rfl hdd rfl hroom hcs hd k
theorem dt_J1_canEncode_9a6ad_0 : dtab cJ1_canEncode_9a6ad [(0, .iload_n 0, 1), (1, .ifCond .lt 14, 3), (4, .iload_n 0, 1), (5, .sipush 255, 3), (8, .if_icmp .gt 7, 3), (11, .iconst 1, 1), (12, .goto 4, 3), (15, .iconst 0, 1), (16, .ireturn, 1)] = true := by decide +kernel
theorem cal_J1_canEncode_9a6ad : Cal yJ1_canEncode_9a6ad cJ1_canEncode_9a6ad 1 (some .boolean) 1 := ⟨ww_1067, ww_1068, ⟨by decide, by decide, by decide⟩, by decide⟩
set_option maxHeartbeats 4000000 in
set_option maxRecDepth 100000 in
theorem c_J1_canEncode_9a6ad (l : Launch) (G : Gx) (x0 : Int32) (σ : St) (r0 : Int32) (h : f_J1_canEncode_9a6ad x0 = some r0) : MI l G yJ1_canEncode_9a6ad cJ1_canEncode_9a6ad 1 (some .boolean) 1 [.int x0] σ (some (.int r0)) σ := by
  refine MI_of RJ1 rfl (by decide) [(0, .int x0)] rfl (Nat.le_of_ble_eq_true rfl) ?_
  intro X hXl C hR
  unfold f_J1_canEncode_9a6ad at h
  refine V_iload_n C (dt_at dt_J1_canEncode_9a6ad_0 0 rfl) 0 rfl rfl ?_
  refine V_if_lt C 15 (dt_at dt_J1_canEncode_9a6ad_0 1 rfl) (by decide) (fun q1 => ?_) (fun q1 => ?_)
  · have h := ite_t q1 h
    refine V_iconst C 0 (dt_at dt_J1_canEncode_9a6ad_0 7 rfl) (by decide) ?_
    have e1_ := Option.some.inj h
    subst e1_
    exact V_zret C rfl hR (dt_at dt_J1_canEncode_9a6ad_0 8 rfl)
  · have h := ite_f q1 h
    refine V_iload_n C (dt_at dt_J1_canEncode_9a6ad_0 2 rfl) 0 rfl rfl ?_
    refine V_sipush C 255 (dt_at dt_J1_canEncode_9a6ad_0 3 rfl) (by decide) ?_
    refine V_icmp_gt C 15 (dt_at dt_J1_canEncode_9a6ad_0 4 rfl) (by decide) (fun q2 => ?_) (fun q2 => ?_)
    · have h := ite_t q2 h
      refine V_iconst C 0 (dt_at dt_J1_canEncode_9a6ad_0 7 rfl) (by decide) ?_
      have e1_ := Option.some.inj h
      subst e1_
      exact V_zret C rfl hR (dt_at dt_J1_canEncode_9a6ad_0 8 rfl)
    · have h := ite_f q2 h
      refine V_iconst C 1 (dt_at dt_J1_canEncode_9a6ad_0 5 rfl) (by decide) ?_
      refine V_goto C 16 (dt_at dt_J1_canEncode_9a6ad_0 6 rfl) (by decide) ?_
      have e1_ := Option.some.inj h
      subst e1_
      exact V_zret C rfl hR (dt_at dt_J1_canEncode_9a6ad_0 8 rfl)
theorem cv_J1_canEncode_9a6ad (C : Ck X G cc own nL d) {idx : Nat} (hlk : Cond.methodLink own idx yJ1_canEncode_9a6ad ∈ gtb) (x0 : Int32) {r0 : Int32} (e : f_J1_canEncode_9a6ad x0 = some r0) (hdd : 2 ≤ d) (hroom : (rest.map fun v => v.category).sum ≤ 8) (hcs : cells ≤ (xR X).cells ∧ slots ≤ (xR X).slots) (hd : decode cc pc = .ok (.invokestatic idx, 3)) (k : V X G nL cells slots σ (pc + 3) lv (.int r0 :: rest)) : V X G nL cells slots σ pc lv (.int x0 :: rest) := V_callS C (As := [.int x0]) (c_J1_canEncode_9a6ad X.2.1 G x0 σ r0 e) cal_J1_canEncode_9a6ad ww_1069 hlk rfl hdd rfl hroom hcs hd k
theorem dt_J1_indexOfChar_4cfef_0 : dtab cJ1_indexOfChar_4cfef [(0, .iload_n 1, 1), (1, .i2b, 1), (2, .istore 4, 2), (4, .iload_n 2, 1), (5, .istore 5, 2), (7, .iload 5, 2), (9, .iload_n 3, 1), (10, .if_icmp .ge 21, 3), (13, .aload_n 0, 1), (14, .iload 5, 2), (16, .baload, 1), (17, .iload 4, 2), (19, .if_icmp .ne 6, 3), (22, .iload 5, 2), (24, .ireturn, 1), (25, .iinc 5 1, 3), (28, .goto (-21), 3), (31, .iconst (-1), 1), (32, .ireturn, 1)] = true := by decide +kernel
theorem cal_J1_indexOfChar_4cfef : Cal yJ1_indexOfChar_4cfef cJ1_indexOfChar_4cfef 6 (some .int) 4 := ⟨ww_1070, ww_1068, ⟨by decide, by decide, by decide⟩, by decide⟩
set_option maxHeartbeats 4000000 in
set_option maxRecDepth 100000 in
theorem c_J1_indexOfChar_4cfef (l : Launch) (G : Gx) (c0 : Nat) (x1 : Int32) (x2 : Int32) (x3 : Int32) (σ : St) (r0 : Int32) (h : f_J1_indexOfChar_4cfef c0 x1 x2 x3 σ = some r0) : MI l G yJ1_indexOfChar_4cfef cJ1_indexOfChar_4cfef 6 (some .int) 1 [.ref (gv G c0), .int x1, .int x2, .int x3] σ (some (.int r0)) σ := by
  refine MI_of RJ1 rfl (by decide) [(0, .ref (gv G c0)), (1, .int x1), (2, .int x2), (3, .int x3)] rfl (Nat.le_of_ble_eq_true rfl) ?_
  intro X hXl C hR
  unfold f_J1_indexOfChar_4cfef at h
  obtain ⟨hc_c0, h⟩ := chk_s h
  have J_7 : ∀ (x4 : Int32) (x5 : Int32), f_J1_indexOfChar_4cfef_7 c0 x3 x4 x5 σ = some r0 → V X G 6 0 0 σ 7 [(0, .ref (gv G c0)), (3, .int x3), (4, .int x4), (5, .int x5)] [] := by
    intro x4 x5 h
    refine it_v (P := fun z : Int32 => V X G 6 0 0 σ 7 [(0, .ref (gv G c0)), (3, .int x3), (4, .int x4), (5, .int z)] []) ?_ x5 h
    clear h
    intro z w_7 h ih_7 ex_7
    revert h; revert z; intro x5 h
    have h : b_J1_indexOfChar_4cfef_7 c0 x3 x4 x5 σ = some w_7 := h
    show V X G 6 0 0 σ 7 [(0, .ref (gv G c0)), (3, .int x3), (4, .int x4), (5, .int x5)] []
    unfold b_J1_indexOfChar_4cfef_7 at h
    refine V_iload C (dt_at dt_J1_indexOfChar_4cfef_0 5 rfl) 3 rfl ?_
    refine V_iload_n C (dt_at dt_J1_indexOfChar_4cfef_0 6 rfl) 1 rfl rfl ?_
    refine V_icmp_ge C 31 (dt_at dt_J1_indexOfChar_4cfef_0 7 rfl) (by decide) (fun q1 => ?_) (fun q1 => ?_)
    · have h := ite_f q1 h
      refine V_iconst C (-1) (dt_at dt_J1_indexOfChar_4cfef_0 17 rfl) (by decide) ?_
      have e_7 := ex_7 _ (Option.some.inj h).symm
      subst e_7
      exact V_iret C hR (dt_at dt_J1_indexOfChar_4cfef_0 18 rfl)
    · have h := ite_t q1 h
      refine V_aload_n C (dt_at dt_J1_indexOfChar_4cfef_0 8 rfl) 0 rfl rfl ?_
      refine V_iload C (dt_at dt_J1_indexOfChar_4cfef_0 9 rfl) 3 rfl ?_
      obtain ⟨h2, h⟩ := chk_s h
      refine V_sbal C hc_c0 h2 (dt_at dt_J1_indexOfChar_4cfef_0 10 rfl) ?_
      refine V_iload C (dt_at dt_J1_indexOfChar_4cfef_0 11 rfl) 2 rfl ?_
      refine V_icmp_ne C 25 (dt_at dt_J1_indexOfChar_4cfef_0 12 rfl) (by decide) (fun q3 => ?_) (fun q3 => ?_)
      · have h := ite_f q3 h
        refine V_iinc C (x5 + 1) 3 [1, 2, 3, 0] (lv' := [(0, .ref (gv G c0)), (3, .int x3), (4, .int x4), (5, .int (x5 + 1))]) (dt_at dt_J1_indexOfChar_4cfef_0 15 rfl) rfl (by rfl) (by decide) rfl ?_
        refine V_goto C 7 (dt_at dt_J1_indexOfChar_4cfef_0 16 rfl) (by decide) ?_
        exact ih_7 (x5 + 1) (Option.some.inj h).symm
      · have h := ite_t q3 h
        refine V_iload C (dt_at dt_J1_indexOfChar_4cfef_0 13 rfl) 3 rfl ?_
        have e_7 := ex_7 _ (Option.some.inj h).symm
        subst e_7
        exact V_iret C hR (dt_at dt_J1_indexOfChar_4cfef_0 14 rfl)
  refine V_iload_n C (dt_at dt_J1_indexOfChar_4cfef_0 0 rfl) 1 rfl rfl ?_
  refine V_i2b C (dt_at dt_J1_indexOfChar_4cfef_0 1 rfl) ?_
  refine V_istore C [1, 2, 3, 4, 0] (lv' := [(0, .ref (gv G c0)), (1, .int x1), (2, .int x2), (3, .int x3), (4, .int x1.toInt8.toInt32)]) (dt_at dt_J1_indexOfChar_4cfef_0 2 rfl) (by decide) rfl ?_
  refine V_iload_n C (dt_at dt_J1_indexOfChar_4cfef_0 3 rfl) 2 rfl rfl ?_
  refine V_istore C [1, 2, 3, 4, 5, 0] (lv' := [(0, .ref (gv G c0)), (1, .int x1), (2, .int x2), (3, .int x3), (4, .int x1.toInt8.toInt32), (5, .int x2)]) (dt_at dt_J1_indexOfChar_4cfef_0 4 rfl) (by decide) rfl ?_
  refine V_sub [0, 3, 4, 5] (lv' := [(0, .ref (gv G c0)), (3, .int x3), (4, .int x1.toInt8.toInt32), (5, .int x2)]) rfl ?_
  exact J_7 x1.toInt8.toInt32 x2 h
theorem cv_J1_indexOfChar_4cfef (C : Ck X G cc own nL d) {idx : Nat} (hlk : Cond.methodLink own idx yJ1_indexOfChar_4cfef ∈ gtb) (c0 : Nat) (x1 : Int32) (x2 : Int32) (x3 : Int32) {r0 : Int32} (e : f_J1_indexOfChar_4cfef c0 x1 x2 x3 σ = some r0) (hdd : 2 ≤ d) (hroom : (rest.map fun v => v.category).sum ≤ 8) (hcs : cells ≤ (xR X).cells ∧ slots ≤ (xR X).slots) (hd : decode cc pc = .ok (.invokestatic idx, 3)) (k : V X G nL cells slots σ (pc + 3) lv (.int r0 :: rest)) : V X G nL cells slots σ pc lv (.int x3 :: .int x2 :: .int x1 :: .ref (gv G c0) :: rest) := V_callS C (As := [.ref (gv G c0), .int x1, .int x2, .int x3]) (c_J1_indexOfChar_4cfef X.2.1 G c0 x1 x2 x3 σ r0 e) cal_J1_indexOfChar_4cfef ww_1071 hlk rfl hdd rfl hroom hcs hd k
theorem dt_J1_indexOf_4cfef_0 : dtab cJ1_indexOf_4cfef [(0, .iload_n 1, 1), (1, .invokestatic 88, 3), (4, .ifCond .ne 5, 3), (7, .iconst (-1), 1), (8, .ireturn, 1), (9, .iload_n 2, 1), (10, .iconst 0, 1), (11, .invokestatic 92, 3), (14, .istore_n 2, 1), (15, .iload_n 3, 1), (16, .aload_n 0, 1), (17, .arraylength, 1), (18, .invokestatic 38, 3), (21, .istore_n 3, 1), (22, .iload_n 2, 1), (23, .iload_n 3, 1), (24, .if_icmp .lt 5, 3), (27, .iconst (-1), 1), (28, .ireturn, 1), (29, .aload_n 0, 1), (30, .iload_n 1, 1), (31, .iload_n 2, 1), (32, .iload_n 3, 1), (33, .invokestatic 95, 3), (36, .ireturn, 1)] = true := by decide +kernel
theorem cal_J1_indexOf_4cfef : Cal yJ1_indexOf_4cfef cJ1_indexOf_4cfef 4 (some .int) 4 := ⟨ww_1076, ww_1068, ⟨by decide, by decide, by decide⟩, by decide⟩
set_option maxHeartbeats 4000000 in
set_option maxRecDepth 100000 in
theorem c_J1_indexOf_4cfef (l : Launch) (G : Gx) (c0 : Nat) (x1 : Int32) (x2 : Int32) (x3 : Int32) (σ : St) (r0 : Int32) (h : f_J1_indexOf_4cfef c0 x1 x2 x3 σ = some r0) : MI l G yJ1_indexOf_4cfef cJ1_indexOf_4cfef 4 (some .int) 2 [.ref (gv G c0), .int x1, .int x2, .int x3] σ (some (.int r0)) σ := by
  refine MI_of RJ1 rfl (by decide) [(0, .ref (gv G c0)), (1, .int x1), (2, .int x2), (3, .int x3)] rfl (Nat.le_of_ble_eq_true rfl) ?_
  intro X hXl C hR
  unfold f_J1_indexOf_4cfef at h
  obtain ⟨hc_c0, h⟩ := chk_s h
  refine V_iload_n C (dt_at dt_J1_indexOf_4cfef_0 0 rfl) 1 rfl rfl ?_
  obtain ⟨r1, e2, h⟩ := bd_s h
  refine cv_J1_canEncode_9a6ad C ww_1072 x1 e2 (Nat.le_of_ble_eq_true rfl) (Nat.le_of_ble_eq_true rfl) z0 (dt_at dt_J1_indexOf_4cfef_0 1 rfl) ?_
  refine V_if_ne C 9 (dt_at dt_J1_indexOf_4cfef_0 2 rfl) (by decide) (fun q4 => ?_) (fun q4 => ?_)
  · have h := ite_f q4 h
    refine V_iload_n C (dt_at dt_J1_indexOf_4cfef_0 5 rfl) 2 rfl rfl ?_
    refine V_iconst C 0 (dt_at dt_J1_indexOf_4cfef_0 6 rfl) (by decide) ?_
    refine V_max C ww_1073 w_max (Nat.le_of_ble_eq_true rfl) (Nat.le_of_ble_eq_true rfl) z0 (dt_at dt_J1_indexOf_4cfef_0 7 rfl) ?_
    refine V_istore_n C [1, 2, 0, 3] (lv' := [(0, .ref (gv G c0)), (1, .int x1), (2, .int (if x2 < 0 then 0 else x2)), (3, .int x3)]) (dt_at dt_J1_indexOf_4cfef_0 8 rfl) rfl (by decide) rfl ?_
    refine V_iload_n C (dt_at dt_J1_indexOf_4cfef_0 9 rfl) 3 rfl rfl ?_
    refine V_aload_n C (dt_at dt_J1_indexOf_4cfef_0 10 rfl) 0 rfl rfl ?_
    refine V_slen C hc_c0 (dt_at dt_J1_indexOf_4cfef_0 11 rfl) ?_
    refine V_min C ww_1074 w_min (Nat.le_of_ble_eq_true rfl) (Nat.le_of_ble_eq_true rfl) z0 (dt_at dt_J1_indexOf_4cfef_0 12 rfl) ?_
    obtain ⟨y5, ey5, h⟩ := nm_s h
    refine V_nmi ey5 ?_
    refine V_istore_n C [1, 2, 3, 0] (lv' := [(0, .ref (gv G c0)), (1, .int x1), (2, .int (if x2 < 0 then 0 else x2)), (3, .int y5)]) (dt_at dt_J1_indexOf_4cfef_0 13 rfl) rfl (by decide) rfl ?_
    refine V_iload_n C (dt_at dt_J1_indexOf_4cfef_0 14 rfl) 2 rfl rfl ?_
    refine V_iload_n C (dt_at dt_J1_indexOf_4cfef_0 15 rfl) 3 rfl rfl ?_
    refine V_icmp_lt C 29 (dt_at dt_J1_indexOf_4cfef_0 16 rfl) (by decide) (fun q6 => ?_) (fun q6 => ?_)
    · have h := ite_t q6 h
      refine V_aload_n C (dt_at dt_J1_indexOf_4cfef_0 19 rfl) 0 rfl rfl ?_
      refine V_iload_n C (dt_at dt_J1_indexOf_4cfef_0 20 rfl) 1 rfl rfl ?_
      refine V_iload_n C (dt_at dt_J1_indexOf_4cfef_0 21 rfl) 2 rfl rfl ?_
      refine V_iload_n C (dt_at dt_J1_indexOf_4cfef_0 22 rfl) 3 rfl rfl ?_
      obtain ⟨r7, e8, h⟩ := bd_s h
      refine cv_J1_indexOfChar_4cfef C ww_1075 c0 x1 (if x2 < 0 then 0 else x2) y5 e8 (Nat.le_of_ble_eq_true rfl) (Nat.le_of_ble_eq_true rfl) z0 (dt_at dt_J1_indexOf_4cfef_0 23 rfl) ?_
      have e1_ := Option.some.inj h
      subst e1_
      exact V_iret C hR (dt_at dt_J1_indexOf_4cfef_0 24 rfl)
    · have h := ite_f q6 h
      refine V_iconst C (-1) (dt_at dt_J1_indexOf_4cfef_0 17 rfl) (by decide) ?_
      have e1_ := Option.some.inj h
      subst e1_
      exact V_iret C hR (dt_at dt_J1_indexOf_4cfef_0 18 rfl)
  · have h := ite_t q4 h
    refine V_iconst C (-1) (dt_at dt_J1_indexOf_4cfef_0 3 rfl) (by decide) ?_
    have e1_ := Option.some.inj h
    subst e1_
    exact V_iret C hR (dt_at dt_J1_indexOf_4cfef_0 4 rfl)
theorem cv_J1_indexOf_4cfef (C : Ck X G cc own nL d) {idx : Nat} (hlk : Cond.methodLink own idx yJ1_indexOf_4cfef ∈ gtb) (c0 : Nat) (x1 : Int32) (x2 : Int32) (x3 : Int32) {r0 : Int32} (e : f_J1_indexOf_4cfef c0 x1 x2 x3 σ = some r0) (hdd : 3 ≤ d) (hroom : (rest.map fun v => v.category).sum ≤ 8) (hcs : cells ≤ (xR X).cells ∧ slots ≤ (xR X).slots) (hd : decode cc pc = .ok (.invokestatic idx, 3)) (k : V X G nL cells slots σ (pc + 3) lv (.int r0 :: rest)) : V X G nL cells slots σ pc lv (.int x3 :: .int x2 :: .int x1 :: .ref (gv G c0) :: rest) := V_callS C (As := [.ref (gv G c0), .int x1, .int x2, .int x3]) (c_J1_indexOf_4cfef X.2.1 G c0 x1 x2 x3 σ r0 e) cal_J1_indexOf_4cfef ww_1077 hlk rfl hdd rfl hroom hcs hd k
theorem dt_J0_coder_7d493_0 : dtab cJ0_coder_7d493 [(0, .getstatic 38, 3), (3, .ifCond .eq 10, 3), (6, .aload_n 0, 1), (7, .getfield 15, 3), (10, .goto 4, 3), (13, .iconst 1, 1), (14, .ireturn, 1)] = true := by decide +kernel
theorem cal_J0_coder_7d493 : Cal yJ0_coder_7d493 cJ0_coder_7d493 1 (some .byte) 0 := ⟨ww_1080, ww_1081, ⟨by decide, by decide, by decide⟩, by decide⟩
set_option maxHeartbeats 4000000 in
set_option maxRecDepth 100000 in
theorem c_J0_coder_7d493 (l : Launch) (G : Gx) (c0 : Nat) (σ : St) (r0 : Int32) (h : f_J0_coder_7d493 c0 σ = some r0) : MI l G yJ0_coder_7d493 cJ0_coder_7d493 1 (some .byte) 1 [.ref (gs G c0)] σ (some (.int r0)) σ := by
  refine MI_of RJ0 rfl (by decide) [(0, .ref (gs G c0))] rfl (Nat.le_of_ble_eq_true rfl) ?_
  intro X hXl C hR
  unfold f_J0_coder_7d493 at h
  obtain ⟨hc_c0, h⟩ := chk_s h
  refine V_scmp C ww_1078 (dt_at dt_J0_coder_7d493_0 0 rfl) ?_
  refine V_if_eq C 13 (dt_at dt_J0_coder_7d493_0 1 rfl) (by decide) (fun q1 => ?_) (fun q1 => ?_)
  · have h := ite_t q1 h
    refine V_iconst C 1 (dt_at dt_J0_coder_7d493_0 5 rfl) (by decide) ?_
    have e1_ := Option.some.inj h
    subst e1_
    exact V_zret C rfl hR (dt_at dt_J0_coder_7d493_0 6 rfl)
  · have h := ite_f q1 h
    refine V_aload_n C (dt_at dt_J0_coder_7d493_0 2 rfl) 0 rfl rfl ?_
    refine V_scod C ww_1079 hc_c0 (dt_at dt_J0_coder_7d493_0 3 rfl) ?_
    refine V_goto C 14 (dt_at dt_J0_coder_7d493_0 4 rfl) (by decide) ?_
    have e1_ := Option.some.inj h
    subst e1_
    exact V_zret C rfl hR (dt_at dt_J0_coder_7d493_0 6 rfl)
theorem cv_J0_coder_7d493 (C : Ck X G cc own nL d) {idx : Nat} (hlk : Cond.methodLink own idx yJ0_coder_7d493 ∈ gtb) (c0 : Nat) {r0 : Int32} (e : f_J0_coder_7d493 c0 σ = some r0) (hdd : 2 ≤ d) (hroom : (rest.map fun v => v.category).sum ≤ 8) (hcs : cells ≤ (xR X).cells ∧ slots ≤ (xR X).slots) (hd : decode cc pc = .ok (.invokevirtual idx, 3)) (k : V X G nL cells slots σ (pc + 3) lv (.int r0 :: rest)) : V X G nL cells slots σ pc lv (.ref (gs G c0) :: rest) := by
  have hr9 : isStr c0 = true := by
    have e9 := e
    unfold f_J0_coder_7d493 at e9
    obtain ⟨q9, -⟩ := chk_s e9
    exact q9
  exact V_callVS C (As := []) (c_J0_coder_7d493 X.2.1 G c0 σ r0 e) cal_J0_coder_7d493 ww_1082 ww_1083 hlk rfl hdd hr9 rfl hroom hcs hd k
theorem dt_J0_isLatin1_aae02_0 : dtab cJ0_isLatin1_aae02 [(0, .getstatic 38, 3), (3, .ifCond .eq 14, 3), (6, .aload_n 0, 1), (7, .getfield 15, 3), (10, .ifCond .ne 7, 3), (13, .iconst 1, 1), (14, .goto 4, 3), (17, .iconst 0, 1), (18, .ireturn, 1)] = true := by decide +kernel
theorem cal_J0_isLatin1_aae02 : Cal yJ0_isLatin1_aae02 cJ0_isLatin1_aae02 1 (some .boolean) 0 := ⟨ww_1084, ww_1081, ⟨by decide, by decide, by decide⟩, by decide⟩
set_option maxHeartbeats 4000000 in
set_option maxRecDepth 100000 in
theorem c_J0_isLatin1_aae02 (l : Launch) (G : Gx) (c0 : Nat) (σ : St) (r0 : Int32) (h : f_J0_isLatin1_aae02 c0 σ = some r0) : MI l G yJ0_isLatin1_aae02 cJ0_isLatin1_aae02 1 (some .boolean) 1 [.ref (gs G c0)] σ (some (.int r0)) σ := by
  refine MI_of RJ0 rfl (by decide) [(0, .ref (gs G c0))] rfl (Nat.le_of_ble_eq_true rfl) ?_
  intro X hXl C hR
  unfold f_J0_isLatin1_aae02 at h
  obtain ⟨hc_c0, h⟩ := chk_s h
  refine V_scmp C ww_1078 (dt_at dt_J0_isLatin1_aae02_0 0 rfl) ?_
  refine V_if_eq C 17 (dt_at dt_J0_isLatin1_aae02_0 1 rfl) (by decide) (fun q1 => ?_) (fun q1 => ?_)
  · have h := ite_t q1 h
    refine V_iconst C 0 (dt_at dt_J0_isLatin1_aae02_0 7 rfl) (by decide) ?_
    have e1_ := Option.some.inj h
    subst e1_
    exact V_zret C rfl hR (dt_at dt_J0_isLatin1_aae02_0 8 rfl)
  · have h := ite_f q1 h
    refine V_aload_n C (dt_at dt_J0_isLatin1_aae02_0 2 rfl) 0 rfl rfl ?_
    refine V_scod C ww_1079 hc_c0 (dt_at dt_J0_isLatin1_aae02_0 3 rfl) ?_
    refine V_if_ne C 17 (dt_at dt_J0_isLatin1_aae02_0 4 rfl) (by decide) (fun q2 => ?_) (fun q2 => ?_)
    · have h := ite_f q2 h
      refine V_iconst C 0 (dt_at dt_J0_isLatin1_aae02_0 7 rfl) (by decide) ?_
      have e1_ := Option.some.inj h
      subst e1_
      exact V_zret C rfl hR (dt_at dt_J0_isLatin1_aae02_0 8 rfl)
    · have h := ite_t q2 h
      refine V_iconst C 1 (dt_at dt_J0_isLatin1_aae02_0 5 rfl) (by decide) ?_
      refine V_goto C 18 (dt_at dt_J0_isLatin1_aae02_0 6 rfl) (by decide) ?_
      have e1_ := Option.some.inj h
      subst e1_
      exact V_zret C rfl hR (dt_at dt_J0_isLatin1_aae02_0 8 rfl)
theorem cv_J0_isLatin1_aae02 (C : Ck X G cc own nL d) {idx : Nat} (hlk : Cond.methodLink own idx yJ0_isLatin1_aae02 ∈ gtb) (c0 : Nat) {r0 : Int32} (e : f_J0_isLatin1_aae02 c0 σ = some r0) (hdd : 2 ≤ d) (hroom : (rest.map fun v => v.category).sum ≤ 8) (hcs : cells ≤ (xR X).cells ∧ slots ≤ (xR X).slots) (hd : decode cc pc = .ok (.invokevirtual idx, 3)) (k : V X G nL cells slots σ (pc + 3) lv (.int r0 :: rest)) : V X G nL cells slots σ pc lv (.ref (gs G c0) :: rest) := by
  have hr9 : isStr c0 = true := by
    have e9 := e
    unfold f_J0_isLatin1_aae02 at e9
    obtain ⟨q9, -⟩ := chk_s e9
    exact q9
  exact V_callVS C (As := []) (c_J0_isLatin1_aae02 X.2.1 G c0 σ r0 e) cal_J0_isLatin1_aae02 ww_1085 ww_1086 hlk rfl hdd hr9 rfl hroom hcs hd k
theorem dt_J0_length_8abf5_0 : dtab cJ0_length_8abf5 [(0, .aload_n 0, 1), (1, .getfield 9, 3), (4, .arraylength, 1), (5, .aload_n 0, 1), (6, .invokevirtual 335, 3), (9, .ishr, 1), (10, .ireturn, 1)] = true := by decide +kernel
theorem cal_J0_length_8abf5 : Cal yJ0_length_8abf5 cJ0_length_8abf5 1 (some .int) 0 := ⟨ww_1089, ww_1081, ⟨by decide, by decide, by decide⟩, by decide⟩
set_option maxHeartbeats 4000000 in
set_option maxRecDepth 100000 in
theorem c_J0_length_8abf5 (l : Launch) (G : Gx) (c0 : Nat) (σ : St) (r0 : Int32) (h : f_J0_length_8abf5 c0 σ = some r0) : MI l G yJ0_length_8abf5 cJ0_length_8abf5 1 (some .int) 2 [.ref (gs G c0)] σ (some (.int r0)) σ := by
  refine MI_of RJ0 rfl (by decide) [(0, .ref (gs G c0))] rfl (Nat.le_of_ble_eq_true rfl) ?_
  intro X hXl C hR
  unfold f_J0_length_8abf5 at h
  obtain ⟨hc_c0, h⟩ := chk_s h
  refine V_aload_n C (dt_at dt_J0_length_8abf5_0 0 rfl) 0 rfl rfl ?_
  refine V_sval C ww_1087 hc_c0 (dt_at dt_J0_length_8abf5_0 1 rfl) ?_
  refine V_slen C hc_c0 (dt_at dt_J0_length_8abf5_0 2 rfl) ?_
  refine V_aload_n C (dt_at dt_J0_length_8abf5_0 3 rfl) 0 rfl rfl ?_
  obtain ⟨r1, e2, h⟩ := bd_s h
  refine cv_J0_coder_7d493 C ww_1088 c0 e2 (Nat.le_of_ble_eq_true rfl) (Nat.le_of_ble_eq_true rfl) z0 (dt_at dt_J0_length_8abf5_0 4 rfl) ?_
  refine V_ishr C (dt_at dt_J0_length_8abf5_0 5 rfl) ?_
  have e1_ := Option.some.inj h
  subst e1_
  exact V_iret C hR (dt_at dt_J0_length_8abf5_0 6 rfl)
theorem cv_J0_length_8abf5 (C : Ck X G cc own nL d) {idx : Nat} (hlk : Cond.methodLink own idx yJ0_length_8abf5 ∈ gtb) (c0 : Nat) {r0 : Int32} (e : f_J0_length_8abf5 c0 σ = some r0) (hdd : 3 ≤ d) (hroom : (rest.map fun v => v.category).sum ≤ 8) (hcs : cells ≤ (xR X).cells ∧ slots ≤ (xR X).slots) (hd : decode cc pc = .ok (.invokevirtual idx, 3)) (k : V X G nL cells slots σ (pc + 3) lv (.int r0 :: rest)) : V X G nL cells slots σ pc lv (.ref (gs G c0) :: rest) := by
  have hr9 : isStr c0 = true := by
    have e9 := e
    unfold f_J0_length_8abf5 at e9
    obtain ⟨q9, -⟩ := chk_s e9
    exact q9
  exact V_callVS C (As := []) (c_J0_length_8abf5 X.2.1 G c0 σ r0 e) cal_J0_length_8abf5 ww_1090 ww_1091 hlk rfl hdd hr9 rfl hroom hcs hd k
theorem dt_J0_indexOf_7cf53_0 : dtab cJ0_indexOf_7cf53 [(0, .aload_n 0, 1), (1, .invokevirtual 492, 3), (4, .ifCond .eq 19, 3), (7, .aload_n 0, 1), (8, .getfield 9, 3), (11, .iload_n 1, 1), (12, .iload_n 2, 1), (13, .aload_n 0, 1), (14, .invokevirtual 505, 3), (17, .invokestatic 637, 3), (20, .goto 16, 3), (23, .aload_n 0, 1), (24, .getfield 9, 3), (27, .iload_n 1, 1), (28, .iload_n 2, 1), (29, .aload_n 0, 1), (30, .invokevirtual 505, 3), (33, .invokestatic 640, 3), (36, .ireturn, 1)] = true := by decide +kernel
theorem cal_J0_indexOf_7cf53 : Cal yJ0_indexOf_7cf53 cJ0_indexOf_7cf53 3 (some .int) 2 := ⟨ww_1095, ww_1081, ⟨by decide, by decide, by decide⟩, by decide⟩
set_option maxHeartbeats 4000000 in
set_option maxRecDepth 100000 in
theorem c_J0_indexOf_7cf53 (l : Launch) (G : Gx) (c0 : Nat) (x1 : Int32) (x2 : Int32) (σ : St) (r0 : Int32) (h : f_J0_indexOf_7cf53 c0 x1 x2 σ = some r0) : MI l G yJ0_indexOf_7cf53 cJ0_indexOf_7cf53 3 (some .int) 3 [.ref (gs G c0), .int x1, .int x2] σ (some (.int r0)) σ := by
  refine MI_of RJ0 rfl (by decide) [(0, .ref (gs G c0)), (1, .int x1), (2, .int x2)] rfl (Nat.le_of_ble_eq_true rfl) ?_
  intro X hXl C hR
  unfold f_J0_indexOf_7cf53 at h
  obtain ⟨hc_c0, h⟩ := chk_s h
  refine V_aload_n C (dt_at dt_J0_indexOf_7cf53_0 0 rfl) 0 rfl rfl ?_
  obtain ⟨r1, e2, h⟩ := bd_s h
  refine cv_J0_isLatin1_aae02 C ww_1092 c0 e2 (Nat.le_of_ble_eq_true rfl) (Nat.le_of_ble_eq_true rfl) z0 (dt_at dt_J0_indexOf_7cf53_0 1 rfl) ?_
  refine V_if_eq C 23 (dt_at dt_J0_indexOf_7cf53_0 2 rfl) (by decide) (fun q4 => ?_) (fun q4 => ?_)
  · have h := ite_t q4 h
    refine V_aload_n C (dt_at dt_J0_indexOf_7cf53_0 11 rfl) 0 rfl rfl ?_
    refine V_sval C ww_1087 hc_c0 (dt_at dt_J0_indexOf_7cf53_0 12 rfl) ?_
    refine V_iload_n C (dt_at dt_J0_indexOf_7cf53_0 13 rfl) 1 rfl rfl ?_
    refine V_iload_n C (dt_at dt_J0_indexOf_7cf53_0 14 rfl) 2 rfl rfl ?_
    refine V_aload_n C (dt_at dt_J0_indexOf_7cf53_0 15 rfl) 0 rfl rfl ?_
    obtain ⟨r5, e6, h⟩ := bd_s h
    refine cv_J0_length_8abf5 C ww_1093 c0 e6 (Nat.le_of_ble_eq_true rfl) (Nat.le_of_ble_eq_true rfl) z0 (dt_at dt_J0_indexOf_7cf53_0 16 rfl) ?_
    cases h
  · have h := ite_f q4 h
    refine V_aload_n C (dt_at dt_J0_indexOf_7cf53_0 3 rfl) 0 rfl rfl ?_
    refine V_sval C ww_1087 hc_c0 (dt_at dt_J0_indexOf_7cf53_0 4 rfl) ?_
    refine V_iload_n C (dt_at dt_J0_indexOf_7cf53_0 5 rfl) 1 rfl rfl ?_
    refine V_iload_n C (dt_at dt_J0_indexOf_7cf53_0 6 rfl) 2 rfl rfl ?_
    refine V_aload_n C (dt_at dt_J0_indexOf_7cf53_0 7 rfl) 0 rfl rfl ?_
    obtain ⟨r8, e9, h⟩ := bd_s h
    refine cv_J0_length_8abf5 C ww_1093 c0 e9 (Nat.le_of_ble_eq_true rfl) (Nat.le_of_ble_eq_true rfl) z0 (dt_at dt_J0_indexOf_7cf53_0 8 rfl) ?_
    obtain ⟨r11, e12, h⟩ := bd_s h
    refine cv_J1_indexOf_4cfef C ww_1094 c0 x1 x2 r8 e12 (Nat.le_of_ble_eq_true rfl) (Nat.le_of_ble_eq_true rfl) z0 (dt_at dt_J0_indexOf_7cf53_0 9 rfl) ?_
    refine V_goto C 36 (dt_at dt_J0_indexOf_7cf53_0 10 rfl) (by decide) ?_
    have e1_ := Option.some.inj h
    subst e1_
    exact V_iret C hR (dt_at dt_J0_indexOf_7cf53_0 18 rfl)
theorem cv_J0_indexOf_7cf53 (C : Ck X G cc own nL d) {idx : Nat} (hlk : Cond.methodLink own idx yJ0_indexOf_7cf53 ∈ gtb) (c0 : Nat) (x1 : Int32) (x2 : Int32) {r0 : Int32} (e : f_J0_indexOf_7cf53 c0 x1 x2 σ = some r0) (hdd : 4 ≤ d) (hroom : (rest.map fun v => v.category).sum ≤ 8) (hcs : cells ≤ (xR X).cells ∧ slots ≤ (xR X).slots) (hd : decode cc pc = .ok (.invokevirtual idx, 3)) (k : V X G nL cells slots σ (pc + 3) lv (.int r0 :: rest)) : V X G nL cells slots σ pc lv (.int x2 :: .int x1 :: .ref (gs G c0) :: rest) := by
  have hr9 : isStr c0 = true := by
    have e9 := e
    unfold f_J0_indexOf_7cf53 at e9
    obtain ⟨q9, -⟩ := chk_s e9
    exact q9
  exact V_callVS C (As := [.int x1, .int x2]) (c_J0_indexOf_7cf53 X.2.1 G c0 x1 x2 σ r0 e) cal_J0_indexOf_7cf53 ww_1096 ww_1097 hlk rfl hdd hr9 rfl hroom hcs hd k
theorem dt_J0_indexOf_0f7a4_0 : dtab cJ0_indexOf_0f7a4 [(0, .aload_n 0, 1), (1, .iload_n 1, 1), (2, .iconst 0, 1), (3, .invokevirtual 633, 3), (6, .ireturn, 1)] = true := by decide +kernel
theorem cal_J0_indexOf_0f7a4 : Cal yJ0_indexOf_0f7a4 cJ0_indexOf_0f7a4 2 (some .int) 1 := ⟨ww_1099, ww_1081, ⟨by decide, by decide, by decide⟩, by decide⟩
set_option maxHeartbeats 4000000 in
set_option maxRecDepth 100000 in
theorem c_J0_indexOf_0f7a4 (l : Launch) (G : Gx) (c0 : Nat) (x1 : Int32) (σ : St) (r0 : Int32) (h : f_J0_indexOf_0f7a4 c0 x1 σ = some r0) : MI l G yJ0_indexOf_0f7a4 cJ0_indexOf_0f7a4 2 (some .int) 4 [.ref (gs G c0), .int x1] σ (some (.int r0)) σ := by
  refine MI_of RJ0 rfl (by decide) [(0, .ref (gs G c0)), (1, .int x1)] rfl (Nat.le_of_ble_eq_true rfl) ?_
  intro X hXl C hR
  unfold f_J0_indexOf_0f7a4 at h
  obtain ⟨hc_c0, h⟩ := chk_s h
  refine V_aload_n C (dt_at dt_J0_indexOf_0f7a4_0 0 rfl) 0 rfl rfl ?_
  refine V_iload_n C (dt_at dt_J0_indexOf_0f7a4_0 1 rfl) 1 rfl rfl ?_
  refine V_iconst C 0 (dt_at dt_J0_indexOf_0f7a4_0 2 rfl) (by decide) ?_
  obtain ⟨r1, e2, h⟩ := bd_s h
  refine cv_J0_indexOf_7cf53 C ww_1098 c0 x1 0 e2 (Nat.le_of_ble_eq_true rfl) (Nat.le_of_ble_eq_true rfl) z0 (dt_at dt_J0_indexOf_0f7a4_0 3 rfl) ?_
  have e1_ := Option.some.inj h
  subst e1_
  exact V_iret C hR (dt_at dt_J0_indexOf_0f7a4_0 4 rfl)
theorem cv_J0_indexOf_0f7a4 (C : Ck X G cc own nL d) {idx : Nat} (hlk : Cond.methodLink own idx yJ0_indexOf_0f7a4 ∈ gtb) (c0 : Nat) (x1 : Int32) {r0 : Int32} (e : f_J0_indexOf_0f7a4 c0 x1 σ = some r0) (hdd : 5 ≤ d) (hroom : (rest.map fun v => v.category).sum ≤ 8) (hcs : cells ≤ (xR X).cells ∧ slots ≤ (xR X).slots) (hd : decode cc pc = .ok (.invokevirtual idx, 3)) (k : V X G nL cells slots σ (pc + 3) lv (.int r0 :: rest)) : V X G nL cells slots σ pc lv (.int x1 :: .ref (gs G c0) :: rest) := by
  have hr9 : isStr c0 = true := by
    have e9 := e
    unfold f_J0_indexOf_0f7a4 at e9
    obtain ⟨q9, -⟩ := chk_s e9
    exact q9
  exact V_callVS C (As := [.int x1]) (c_J0_indexOf_0f7a4 X.2.1 G c0 x1 σ r0 e) cal_J0_indexOf_0f7a4 ww_1100 ww_1101 hlk rfl hdd hr9 rfl hroom hcs hd k
theorem dt_X8_settle_0 : dtab cX8_settle [(0, .iload_n 1, 1), (1, .aload_n 0, 1), (2, .getfield 51, 3), (5, .getfield 64, 3), (8, .if_icmp .lt 5, 3), (11, .iconst 1, 1), (12, .ireturn, 1), (13, .iload_n 1, 1), (14, .iload 4, 2), (16, .if_icmp .ne 15, 3), (19, .aload_n 0, 1), (20, .iload_n 1, 1), (21, .iconst 1, 1), (22, .iadd, 1), (23, .iload_n 2, 1), (24, .iload_n 3, 1), (25, .iload 4, 2), (27, .invokevirtual 75, 3), (30, .ireturn, 1), (31, .iconst 0, 1), (32, .istore 5, 2), (34, .iload 5, 2), (36, .iload_n 2, 1), (37, .if_icmp .gt 99, 3), (40, .iload 5, 2), (42, .iload_n 3, 1), (43, .if_icmp .ge 93, 3), (46, .aload_n 0, 1), (47, .getfield 15, 3), (50, .iload 5, 2), (52, .iaload, 1), (53, .aload_n 0, 1), (54, .getfield 55, 3), (57, .getfield 79, 3), (60, .iload_n 1, 1), (61, .iaload, 1), (62, .iand, 1), (63, .ifCond .ne 67, 3), (66, .aload_n 0, 1), (67, .getfield 15, 3)] = true := by decide +kernel
theorem dt_X8_settle_1 : dtab cX8_settle [(70, .iload 5, 2), (72, .dup2, 1), (73, .iaload, 1), (74, .iconst 1, 1), (75, .iload_n 1, 1), (76, .ishl, 1), (77, .ior, 1), (78, .iastore, 1), (79, .aload_n 0, 1), (80, .getfield 9, 3), (83, .iload_n 1, 1), (84, .iload 5, 2), (86, .iastore, 1), (87, .aload_n 0, 1), (88, .iload_n 1, 1), (89, .iconst 1, 1), (90, .iadd, 1), (91, .iload 5, 2), (93, .iload_n 2, 1), (94, .if_icmp .ne 9, 3), (97, .iload_n 2, 1), (98, .iconst 1, 1), (99, .iadd, 1), (100, .goto 4, 3), (103, .iload_n 2, 1), (104, .iload_n 3, 1), (105, .iload 4, 2), (107, .invokevirtual 75, 3), (110, .ifCond .eq 5, 3), (113, .iconst 1, 1), (114, .ireturn, 1), (115, .aload_n 0, 1), (116, .getfield 15, 3), (119, .iload 5, 2), (121, .dup2, 1), (122, .iaload, 1), (123, .iconst 1, 1), (124, .iload_n 1, 1), (125, .ishl, 1), (126, .iconst (-1), 1)] = true := by decide +kernel
theorem dt_X8_settle_2 : dtab cX8_settle [(127, .ixor, 1), (128, .iand, 1), (129, .iastore, 1), (130, .iinc 5 1, 3), (133, .goto (-99), 3), (136, .iconst 0, 1), (137, .ireturn, 1)] = true := by decide +kernel
theorem cal_X8_settle : Cal yX8_settle cX8_settle 6 (some .boolean) 4 := ⟨ww_1105, ww_129, ⟨by decide, by decide, by decide⟩, by decide⟩
theorem cm_X8_settle (C : Ck X G cc own nL d) {idx d1 : Nat} (hlk : Cond.methodLink own idx yX8_settle ∈ gtb) {x1 : Int32} {x2 : Int32} {x3 : Int32} {x4 : Int32} {r0 : Int32} {σ0 : St} (hM : MI X.2.1 G yX8_settle cX8_settle 6 (some .boolean) d1 [.ref (ga G 4), .int x1, .int x2, .int x3, .int x4] σ (some (.int r0)) σ0) (hdd : d1 + 1 ≤ d) (hroom : (rest.map fun v => v.category).sum ≤ 8) (hcs : cells ≤ (xR X).cells ∧ slots ≤ (xR X).slots) (hd : decode cc pc = .ok (.invokevirtual idx, 3)) (k : V X G nL cells slots σ0 (pc + 3) lv (.int r0 :: rest)) : V X G nL cells slots σ pc lv (.int x4 :: .int x3 :: .int x2 :: .int x1 :: .ref (ga G 4) :: rest) := V_callV C (As := [.int x1, .int x2, .int x3, .int x4]) hM cal_X8_settle ww_1106 ww_1107 hlk rfl hdd (lt110 rfl) rfl rfl rfl hroom hcs hd k
set_option maxHeartbeats 4000000 in
set_option maxRecDepth 100000 in
theorem sc_X8_settle (l : Launch) (G : Gx) (n : Nat) (F : Int32 → Int32 → Int32 → Int32 → St → Option (Int32 × St)) (hF : ∀ (x1 : Int32) (x2 : Int32) (x3 : Int32) (x4 : Int32) (σ : St) (r0 : Int32) (σ0 : St), F x1 x2 x3 x4 σ = some (r0, σ0) → MI l G yX8_settle cX8_settle 6 (some .boolean) (n) [.ref (ga G 4), .int x1, .int x2, .int x3, .int x4] σ (some (.int r0)) σ0) (x1 : Int32) (x2 : Int32) (x3 : Int32) (x4 : Int32) (σ : St) (r0 : Int32) (σ0 : St) (h : s_X8_settle F x1 x2 x3 x4 σ = some (r0, σ0)) : MI l G yX8_settle cX8_settle 6 (some .boolean) (n + 1) [.ref (ga G 4), .int x1, .int x2, .int x3, .int x4] σ (some (.int r0)) σ0 := by
  refine MI_of RX8 rfl (by decide) [(0, .ref (ga G 4)), (1, .int x1), (2, .int x2), (3, .int x3), (4, .int x4)] rfl (Nat.le_of_ble_eq_true rfl) ?_
  intro X hXl C hR
  subst hXl
  unfold s_X8_settle at h
  have J_34 : ∀ (x5 : Int32) (σ : St), f_X8_settle_34 F x1 x2 x3 x4 x5 σ = some (r0, σ0) → V X G 6 0 0 σ 34 [(0, .ref (ga G 4)), (1, .int x1), (2, .int x2), (3, .int x3), (4, .int x4), (5, .int x5)] [] := by
    intro x5 σ h
    refine it_v (P := fun z : Int32 × St => V X G 6 0 0 z.2 34 [(0, .ref (ga G 4)), (1, .int x1), (2, .int x2), (3, .int x3), (4, .int x4), (5, .int z.1)] []) ?_ (x5, σ) h
    clear h
    intro z w_34 h ih_34 ex_34
    obtain ⟨x5, σ⟩ := z
    have h : b_X8_settle_34 F x1 x2 x3 x4 x5 σ = some w_34 := h
    show V X G 6 0 0 σ 34 [(0, .ref (ga G 4)), (1, .int x1), (2, .int x2), (3, .int x3), (4, .int x4), (5, .int x5)] []
    unfold b_X8_settle_34 at h
    have J_130 : ∀ (x5 : Int32) (σ : St), f_X8_settle_130 F x1 x2 x3 x4 x5 σ = some w_34 → V X G 6 0 0 σ 130 [(0, .ref (ga G 4)), (1, .int x1), (2, .int x2), (3, .int x3), (4, .int x4), (5, .int x5)] [] := by
      intro x5 σ h
      unfold f_X8_settle_130 at h
      refine V_iinc C (x5 + 1) 5 [1, 2, 3, 4, 5, 0] (lv' := [(0, .ref (ga G 4)), (1, .int x1), (2, .int x2), (3, .int x3), (4, .int x4), (5, .int (x5 + 1))]) (dt_at dt_X8_settle_2 3 rfl) rfl (by rfl) (by decide) rfl ?_
      refine V_goto C 34 (dt_at dt_X8_settle_2 4 rfl) (by decide) ?_
      exact ih_34 ((x5 + 1), σ) (Option.some.inj h).symm
    have J_104 : ∀ (x5 : Int32) (s0 : Int32) (s1 : Int32) (σ : St), f_X8_settle_104 F x1 x2 x3 x4 x5 s0 s1 σ = some w_34 → V X G 6 0 0 σ 104 [(0, .ref (ga G 4)), (1, .int x1), (2, .int x2), (3, .int x3), (4, .int x4), (5, .int x5)] [.int s0, .int s1, .ref (ga G 4)] := by
      intro x5 s0 s1 σ h
      unfold f_X8_settle_104 at h
      refine V_iload_n C (dt_at dt_X8_settle_1 25 rfl) 3 rfl rfl ?_
      refine V_iload C (dt_at dt_X8_settle_1 26 rfl) 4 rfl ?_
      obtain ⟨r15, σ17, e16, h⟩ := bd2_s h
      refine cm_X8_settle C ww_1102 (hF s1 s0 x3 x4 σ r15 σ17 e16) (by omega) (Nat.le_of_ble_eq_true rfl) z0 (dt_at dt_X8_settle_1 27 rfl) ?_
      refine V_if_eq C 115 (dt_at dt_X8_settle_1 28 rfl) (by decide) (fun q18 => ?_) (fun q18 => ?_)
      · have h := ite_t q18 h
        refine V_aload_n C (dt_at dt_X8_settle_1 31 rfl) 0 rfl rfl ?_
        refine g_X8_15_4 C (dt_at dt_X8_settle_1 32 rfl) ?_
        refine V_iload C (dt_at dt_X8_settle_1 33 rfl) 5 rfl ?_
        refine V_dup2 C (dt_at dt_X8_settle_1 34 rfl) rfl rfl ?_
        obtain ⟨h19, h⟩ := chk_s h
        refine al_34 C h19 (dt_at dt_X8_settle_1 35 rfl) ?_
        refine V_iconst C 1 (dt_at dt_X8_settle_1 36 rfl) (by decide) ?_
        refine V_iload_n C (dt_at dt_X8_settle_1 37 rfl) 1 rfl rfl ?_
        refine V_ishl C (dt_at dt_X8_settle_1 38 rfl) ?_
        refine V_iconst C (-1) (dt_at dt_X8_settle_1 39 rfl) (by decide) ?_
        refine V_ixor C (dt_at dt_X8_settle_2 0 rfl) ?_
        refine V_iand C (dt_at dt_X8_settle_2 1 rfl) ?_
        obtain ⟨σ20, eσ20, h⟩ := nm_s h
        refine V_st eσ20 ?_ (fun k => as_34 C h19 (dt_at dt_X8_settle_2 2 rfl) k)
        exact J_130 x5 σ20 h
      · have h := ite_f q18 h
        refine V_iconst C 1 (dt_at dt_X8_settle_1 29 rfl) (by decide) ?_
        have e_34 := ex_34 _ (Option.some.inj h).symm
        obtain ⟨e1_, e2_⟩ := Prod.mk.inj e_34
        subst e1_; subst e2_
        exact V_zret C rfl hR (dt_at dt_X8_settle_1 30 rfl)
    refine V_iload C (dt_at dt_X8_settle_0 21 rfl) 5 rfl ?_
    refine V_iload_n C (dt_at dt_X8_settle_0 22 rfl) 2 rfl rfl ?_
    refine V_icmp_gt C 136 (dt_at dt_X8_settle_0 23 rfl) (by decide) (fun q7 => ?_) (fun q7 => ?_)
    · have h := ite_t q7 h
      refine V_iconst C 0 (dt_at dt_X8_settle_2 5 rfl) (by decide) ?_
      have e_34 := ex_34 _ (Option.some.inj h).symm
      obtain ⟨e1_, e2_⟩ := Prod.mk.inj e_34
      subst e1_; subst e2_
      exact V_zret C rfl hR (dt_at dt_X8_settle_2 6 rfl)
    · have h := ite_f q7 h
      refine V_iload C (dt_at dt_X8_settle_0 24 rfl) 5 rfl ?_
      refine V_iload_n C (dt_at dt_X8_settle_0 25 rfl) 3 rfl rfl ?_
      refine V_icmp_ge C 136 (dt_at dt_X8_settle_0 26 rfl) (by decide) (fun q8 => ?_) (fun q8 => ?_)
      · have h := ite_f q8 h
        refine V_iconst C 0 (dt_at dt_X8_settle_2 5 rfl) (by decide) ?_
        have e_34 := ex_34 _ (Option.some.inj h).symm
        obtain ⟨e1_, e2_⟩ := Prod.mk.inj e_34
        subst e1_; subst e2_
        exact V_zret C rfl hR (dt_at dt_X8_settle_2 6 rfl)
      · have h := ite_t q8 h
        refine V_aload_n C (dt_at dt_X8_settle_0 27 rfl) 0 rfl rfl ?_
        refine g_X8_15_4 C (dt_at dt_X8_settle_0 28 rfl) ?_
        refine V_iload C (dt_at dt_X8_settle_0 29 rfl) 5 rfl ?_
        obtain ⟨h9, h⟩ := chk_s h
        refine al_34 C h9 (dt_at dt_X8_settle_0 30 rfl) ?_
        refine V_aload_n C (dt_at dt_X8_settle_0 31 rfl) 0 rfl rfl ?_
        refine g_X8_55_4 C (dt_at dt_X8_settle_0 32 rfl) ?_
        refine g_X8_79_3 C (dt_at dt_X8_settle_0 33 rfl) ?_
        refine V_iload_n C (dt_at dt_X8_settle_0 34 rfl) 1 rfl rfl ?_
        obtain ⟨h10, h⟩ := chk_s h
        refine al_32 C h10 (dt_at dt_X8_settle_0 35 rfl) ?_
        refine V_iand C (dt_at dt_X8_settle_0 36 rfl) ?_
        refine V_if_ne C 130 (dt_at dt_X8_settle_0 37 rfl) (by decide) (fun q11 => ?_) (fun q11 => ?_)
        · have h := ite_f q11 h
          exact J_130 x5 σ h
        · have h := ite_t q11 h
          refine V_aload_n C (dt_at dt_X8_settle_0 38 rfl) 0 rfl rfl ?_
          refine g_X8_15_4 C (dt_at dt_X8_settle_0 39 rfl) ?_
          refine V_iload C (dt_at dt_X8_settle_1 0 rfl) 5 rfl ?_
          refine V_dup2 C (dt_at dt_X8_settle_1 1 rfl) rfl rfl ?_
          refine al_34 C h9 (dt_at dt_X8_settle_1 2 rfl) ?_
          refine V_iconst C 1 (dt_at dt_X8_settle_1 3 rfl) (by decide) ?_
          refine V_iload_n C (dt_at dt_X8_settle_1 4 rfl) 1 rfl rfl ?_
          refine V_ishl C (dt_at dt_X8_settle_1 5 rfl) ?_
          refine V_ior C (dt_at dt_X8_settle_1 6 rfl) ?_
          obtain ⟨σ12, eσ12, h⟩ := nm_s h
          refine V_st eσ12 ?_ (fun k => as_34 C h9 (dt_at dt_X8_settle_1 7 rfl) k)
          refine V_aload_n C (dt_at dt_X8_settle_1 8 rfl) 0 rfl rfl ?_
          refine g_X8_9_4 C (dt_at dt_X8_settle_1 9 rfl) ?_
          refine V_iload_n C (dt_at dt_X8_settle_1 10 rfl) 1 rfl rfl ?_
          refine V_iload C (dt_at dt_X8_settle_1 11 rfl) 5 rfl ?_
          obtain ⟨σ13, eσ13, h⟩ := nm_s h
          refine V_st eσ13 ?_ (fun k => as_33 C h10 (dt_at dt_X8_settle_1 12 rfl) k)
          refine V_aload_n C (dt_at dt_X8_settle_1 13 rfl) 0 rfl rfl ?_
          refine V_iload_n C (dt_at dt_X8_settle_1 14 rfl) 1 rfl rfl ?_
          refine V_iconst C 1 (dt_at dt_X8_settle_1 15 rfl) (by decide) ?_
          refine V_iadd C (dt_at dt_X8_settle_1 16 rfl) ?_
          refine V_iload C (dt_at dt_X8_settle_1 17 rfl) 5 rfl ?_
          refine V_iload_n C (dt_at dt_X8_settle_1 18 rfl) 2 rfl rfl ?_
          refine V_icmp_ne C 103 (dt_at dt_X8_settle_1 19 rfl) (by decide) (fun q14 => ?_) (fun q14 => ?_)
          · have h := ite_f q14 h
            refine V_iload_n C (dt_at dt_X8_settle_1 24 rfl) 2 rfl rfl ?_
            exact J_104 x5 x2 (x1 + 1) σ13 h
          · have h := ite_t q14 h
            refine V_iload_n C (dt_at dt_X8_settle_1 20 rfl) 2 rfl rfl ?_
            refine V_iconst C 1 (dt_at dt_X8_settle_1 21 rfl) (by decide) ?_
            refine V_iadd C (dt_at dt_X8_settle_1 22 rfl) ?_
            refine V_goto C 104 (dt_at dt_X8_settle_1 23 rfl) (by decide) ?_
            exact J_104 x5 (x2 + 1) (x1 + 1) σ13 h
  refine V_iload_n C (dt_at dt_X8_settle_0 0 rfl) 1 rfl rfl ?_
  refine V_aload_n C (dt_at dt_X8_settle_0 1 rfl) 0 rfl rfl ?_
  refine g_X8_51_4 C (dt_at dt_X8_settle_0 2 rfl) ?_
  refine g_X8_64_1 C (dt_at dt_X8_settle_0 3 rfl) ?_
  refine V_icmp_lt C 13 (dt_at dt_X8_settle_0 4 rfl) (by decide) (fun q1 => ?_) (fun q1 => ?_)
  · have h := ite_t q1 h
    refine V_iload_n C (dt_at dt_X8_settle_0 7 rfl) 1 rfl rfl ?_
    refine V_iload C (dt_at dt_X8_settle_0 8 rfl) 4 rfl ?_
    refine V_icmp_ne C 31 (dt_at dt_X8_settle_0 9 rfl) (by decide) (fun q2 => ?_) (fun q2 => ?_)
    · have h := ite_f q2 h
      refine V_iconst C 0 (dt_at dt_X8_settle_0 19 rfl) (by decide) ?_
      refine V_istore C [1, 2, 3, 4, 5, 0] (lv' := [(0, .ref (ga G 4)), (1, .int x1), (2, .int x2), (3, .int x3), (4, .int x4), (5, .int 0)]) (dt_at dt_X8_settle_0 20 rfl) (by decide) rfl ?_
      exact J_34 0 σ h
    · have h := ite_t q2 h
      refine V_aload_n C (dt_at dt_X8_settle_0 10 rfl) 0 rfl rfl ?_
      refine V_iload_n C (dt_at dt_X8_settle_0 11 rfl) 1 rfl rfl ?_
      refine V_iconst C 1 (dt_at dt_X8_settle_0 12 rfl) (by decide) ?_
      refine V_iadd C (dt_at dt_X8_settle_0 13 rfl) ?_
      refine V_iload_n C (dt_at dt_X8_settle_0 14 rfl) 2 rfl rfl ?_
      refine V_iload_n C (dt_at dt_X8_settle_0 15 rfl) 3 rfl rfl ?_
      refine V_iload C (dt_at dt_X8_settle_0 16 rfl) 4 rfl ?_
      obtain ⟨r3, σ5, e4, h⟩ := bd2_s h
      refine cm_X8_settle C ww_1102 (hF (x1 + 1) x2 x3 x4 σ r3 σ5 e4) (by omega) (Nat.le_of_ble_eq_true rfl) z0 (dt_at dt_X8_settle_0 17 rfl) ?_
      obtain ⟨h6, h⟩ := chk_s h
      obtain ⟨e1_, e2_⟩ := pin2 h
      subst e1_; subst e2_
      exact V_zret C (isB_n h6) hR (dt_at dt_X8_settle_0 18 rfl)
  · have h := ite_f q1 h
    refine V_iconst C 1 (dt_at dt_X8_settle_0 5 rfl) (by decide) ?_
    obtain ⟨e1_, e2_⟩ := pin2 h
    subst e1_; subst e2_
    exact V_zret C rfl hR (dt_at dt_X8_settle_0 6 rfl)
theorem c_X8_settle (l : Launch) (G : Gx) : ∀ (n : Nat) (x1 : Int32) (x2 : Int32) (x3 : Int32) (x4 : Int32) (σ : St) (r0 : Int32) (σ0 : St), f_X8_settle n x1 x2 x3 x4 σ = some (r0, σ0) → MI l G yX8_settle cX8_settle 6 (some .boolean) n [.ref (ga G 4), .int x1, .int x2, .int x3, .int x4] σ (some (.int r0)) σ0
  | 0, _, _, _, _, _, _, _, h => by cases h
  | n + 1, x1, x2, x3, x4, σ, r0, σ0, h => sc_X8_settle l G n (f_X8_settle n) (c_X8_settle l G n) x1 x2 x3 x4 σ r0 σ0 h
theorem cv_X8_settle (C : Ck X G cc own nL d) {idx : Nat} (hlk : Cond.methodLink own idx yX8_settle ∈ gtb) (n : Nat) (x1 : Int32) (x2 : Int32) (x3 : Int32) (x4 : Int32) {r0 : Int32} {σ0 : St} (e : f_X8_settle n x1 x2 x3 x4 σ = some (r0, σ0)) (hdd : n + 1 ≤ d) (hroom : (rest.map fun v => v.category).sum ≤ 8) (hcs : cells ≤ (xR X).cells ∧ slots ≤ (xR X).slots) (hd : decode cc pc = .ok (.invokevirtual idx, 3)) (k : V X G nL cells slots σ0 (pc + 3) lv (.int r0 :: rest)) : V X G nL cells slots σ pc lv (.int x4 :: .int x3 :: .int x2 :: .int x1 :: .ref (ga G 4) :: rest) := cm_X8_settle C hlk (c_X8_settle X.2.1 G n x1 x2 x3 x4 σ r0 σ0 e) hdd hroom hcs hd k
theorem dt_X8_fewestGroups_0 : dtab cX8_fewestGroups [(0, .aload_n 0, 1), (1, .getfield 55, 3), (4, .invokevirtual 59, 3), (7, .iconst 0, 1), (8, .istore_n 2, 1), (9, .iload_n 2, 1), (10, .aload_n 0, 1), (11, .getfield 51, 3), (14, .getfield 64, 3), (17, .if_icmp .gt 30, 3), (20, .aload_n 0, 1), (21, .getfield 15, 3), (24, .iconst 0, 1), (25, .invokestatic 69, 3), (28, .aload_n 0, 1), (29, .iconst 0, 1), (30, .iconst 0, 1), (31, .iload_n 2, 1), (32, .iload_n 1, 1), (33, .invokevirtual 75, 3), (36, .ifCond .eq 5, 3), (39, .iload_n 2, 1), (40, .ireturn, 1), (41, .iinc 2 1, 3), (44, .goto (-35), 3), (47, .aload_n 0, 1), (48, .getfield 51, 3), (51, .getfield 64, 3), (54, .ireturn, 1)] = true := by decide +kernel
theorem cal_X8_fewestGroups : Cal yX8_fewestGroups cX8_fewestGroups 3 (some .int) 1 := ⟨ww_1109, ww_129, ⟨by decide, by decide, by decide⟩, by decide⟩
set_option maxHeartbeats 4000000 in
set_option maxRecDepth 100000 in
theorem c_X8_fewestGroups (l : Launch) (G : Gx) (x1 : Int32) (σ : St) (r0 : Int32) (σ0 : St) (h : f_X8_fewestGroups x1 σ = some (r0, σ0)) : MI l G yX8_fewestGroups cX8_fewestGroups 3 (some .int) 13 [.ref (ga G 4), .int x1] σ (some (.int r0)) σ0 := by
  refine MI_of RX8 rfl (by decide) [(0, .ref (ga G 4)), (1, .int x1)] rfl (Nat.le_of_ble_eq_true rfl) ?_
  intro X hXl C hR
  unfold f_X8_fewestGroups at h
  have J_47 : ∀ (σ : St), f_X8_fewestGroups_47 σ = some (r0, σ0) → V X G 3 0 0 σ 47 [(0, .ref (ga G 4))] [] := by
    intro σ h
    unfold f_X8_fewestGroups_47 at h
    refine V_aload_n C (dt_at dt_X8_fewestGroups_0 25 rfl) 0 rfl rfl ?_
    refine g_X8_51_4 C (dt_at dt_X8_fewestGroups_0 26 rfl) ?_
    refine g_X8_64_1 C (dt_at dt_X8_fewestGroups_0 27 rfl) ?_
    obtain ⟨e1_, e2_⟩ := pin2 h
    subst e1_; subst e2_
    exact V_iret C hR (dt_at dt_X8_fewestGroups_0 28 rfl)
  have J_9 : ∀ (x2 : Int32) (σ : St), f_X8_fewestGroups_9 x1 x2 σ = some (r0, σ0) → V X G 3 0 0 σ 9 [(0, .ref (ga G 4)), (1, .int x1), (2, .int x2)] [] := by
    intro x2 σ h
    refine it_v (P := fun z : Int32 × St => V X G 3 0 0 z.2 9 [(0, .ref (ga G 4)), (1, .int x1), (2, .int z.1)] []) ?_ (x2, σ) h
    clear h
    intro z w_9 h ih_9 ex_9
    obtain ⟨x2, σ⟩ := z
    have h : b_X8_fewestGroups_9 x1 x2 σ = some w_9 := h
    show V X G 3 0 0 σ 9 [(0, .ref (ga G 4)), (1, .int x1), (2, .int x2)] []
    unfold b_X8_fewestGroups_9 at h
    refine V_iload_n C (dt_at dt_X8_fewestGroups_0 5 rfl) 2 rfl rfl ?_
    refine V_aload_n C (dt_at dt_X8_fewestGroups_0 6 rfl) 0 rfl rfl ?_
    refine g_X8_51_4 C (dt_at dt_X8_fewestGroups_0 7 rfl) ?_
    refine g_X8_64_1 C (dt_at dt_X8_fewestGroups_0 8 rfl) ?_
    refine V_icmp_gt C 47 (dt_at dt_X8_fewestGroups_0 9 rfl) (by decide) (fun q4 => ?_) (fun q4 => ?_)
    · have h := ite_t q4 h
      refine V_sub [0] (lv' := [(0, .ref (ga G 4))]) rfl ?_
      obtain ⟨t5, h, e_9⟩ := map_s h
      have e_9 := ex_9 _ e_9
      rw [e_9] at h
      exact J_47 σ h
    · have h := ite_f q4 h
      refine V_aload_n C (dt_at dt_X8_fewestGroups_0 10 rfl) 0 rfl rfl ?_
      refine g_X8_15_4 C (dt_at dt_X8_fewestGroups_0 11 rfl) ?_
      refine V_iconst C 0 (dt_at dt_X8_fewestGroups_0 12 rfl) (by decide) ?_
      obtain ⟨σ8, e7, h⟩ := bd_s h
      refine cv_J7_fill_53178 C ww_1108 34 0 e7 (Nat.le_of_ble_eq_true rfl) (Nat.le_of_ble_eq_true rfl) z0 (dt_at dt_X8_fewestGroups_0 13 rfl) ?_
      refine V_aload_n C (dt_at dt_X8_fewestGroups_0 14 rfl) 0 rfl rfl ?_
      refine V_iconst C 0 (dt_at dt_X8_fewestGroups_0 15 rfl) (by decide) ?_
      refine V_iconst C 0 (dt_at dt_X8_fewestGroups_0 16 rfl) (by decide) ?_
      refine V_iload_n C (dt_at dt_X8_fewestGroups_0 17 rfl) 2 rfl rfl ?_
      refine V_iload_n C (dt_at dt_X8_fewestGroups_0 18 rfl) 1 rfl rfl ?_
      obtain ⟨r9, σ11, e10, h⟩ := bd2_s h
      refine cv_X8_settle C ww_1102 12 0 0 x2 x1 e10 (Nat.le_of_ble_eq_true rfl) (Nat.le_of_ble_eq_true rfl) z0 (dt_at dt_X8_fewestGroups_0 19 rfl) ?_
      refine V_if_eq C 41 (dt_at dt_X8_fewestGroups_0 20 rfl) (by decide) (fun q12 => ?_) (fun q12 => ?_)
      · have h := ite_t q12 h
        refine V_iinc C (x2 + 1) 2 [1, 2, 0] (lv' := [(0, .ref (ga G 4)), (1, .int x1), (2, .int (x2 + 1))]) (dt_at dt_X8_fewestGroups_0 23 rfl) rfl (by rfl) (by decide) rfl ?_
        refine V_goto C 9 (dt_at dt_X8_fewestGroups_0 24 rfl) (by decide) ?_
        exact ih_9 ((x2 + 1), σ11) (Option.some.inj h).symm
      · have h := ite_f q12 h
        refine V_iload_n C (dt_at dt_X8_fewestGroups_0 21 rfl) 2 rfl rfl ?_
        have e_9 := ex_9 _ (Option.some.inj h).symm
        obtain ⟨e1_, e2_⟩ := Prod.mk.inj e_9
        subst e1_; subst e2_
        exact V_iret C hR (dt_at dt_X8_fewestGroups_0 22 rfl)
  refine V_aload_n C (dt_at dt_X8_fewestGroups_0 0 rfl) 0 rfl rfl ?_
  refine g_X8_55_4 C (dt_at dt_X8_fewestGroups_0 1 rfl) ?_
  obtain ⟨σ3, e2, h⟩ := bd_s h
  refine cv_X10_findBarred C ww_1003  e2 (Nat.le_of_ble_eq_true rfl) (Nat.le_of_ble_eq_true rfl) z0 (dt_at dt_X8_fewestGroups_0 2 rfl) ?_
  refine V_iconst C 0 (dt_at dt_X8_fewestGroups_0 3 rfl) (by decide) ?_
  refine V_istore_n C [1, 2, 0] (lv' := [(0, .ref (ga G 4)), (1, .int x1), (2, .int 0)]) (dt_at dt_X8_fewestGroups_0 4 rfl) rfl (by decide) rfl ?_
  exact J_9 0 σ3 h
theorem cv_X8_fewestGroups (C : Ck X G cc own nL d) {idx : Nat} (hlk : Cond.methodLink own idx yX8_fewestGroups ∈ gtb) (x1 : Int32) {r0 : Int32} {σ0 : St} (e : f_X8_fewestGroups x1 σ = some (r0, σ0)) (hdd : 14 ≤ d) (hroom : (rest.map fun v => v.category).sum ≤ 8) (hcs : cells ≤ (xR X).cells ∧ slots ≤ (xR X).slots) (hd : decode cc pc = .ok (.invokevirtual idx, 3)) (k : V X G nL cells slots σ0 (pc + 3) lv (.int r0 :: rest)) : V X G nL cells slots σ pc lv (.int x1 :: .ref (ga G 4) :: rest) := V_callV C (As := [.int x1]) (c_X8_fewestGroups X.2.1 G x1 σ r0 σ0 e) cal_X8_fewestGroups ww_1110 ww_1111 hlk rfl hdd (lt110 rfl) rfl rfl rfl hroom hcs hd k
theorem dt_X11_fewest_0 : dtab cX11_fewest [(0, .aload_n 0, 1), (1, .getfield 30, 3), (4, .iconst (-1), 1), (5, .invokevirtual 260, 3), (8, .ireturn, 1)] = true := by decide +kernel
theorem cal_X11_fewest : Cal yX11_fewest cX11_fewest 1 (some .int) 0 := ⟨ww_1113, ww_100, ⟨by decide, by decide, by decide⟩, by decide⟩
set_option maxHeartbeats 4000000 in
set_option maxRecDepth 100000 in
theorem c_X11_fewest (l : Launch) (G : Gx) (σ : St) (r0 : Int32) (σ0 : St) (h : f_X11_fewest σ = some (r0, σ0)) : MI l G yX11_fewest cX11_fewest 1 (some .int) 14 [.ref (ga G 0)] σ (some (.int r0)) σ0 := by
  refine MI_of RX11 rfl (by decide) [(0, .ref (ga G 0))] rfl (Nat.le_of_ble_eq_true rfl) ?_
  intro X hXl C hR
  unfold f_X11_fewest at h
  refine V_aload_n C (dt_at dt_X11_fewest_0 0 rfl) 0 rfl rfl ?_
  refine g_X11_30_0 C (dt_at dt_X11_fewest_0 1 rfl) ?_
  refine V_iconst C (-1) (dt_at dt_X11_fewest_0 2 rfl) (by decide) ?_
  obtain ⟨r1, σ3, e2, h⟩ := bd2_s h
  refine cv_X8_fewestGroups C ww_1112 (-1) e2 (Nat.le_of_ble_eq_true rfl) (Nat.le_of_ble_eq_true rfl) z0 (dt_at dt_X11_fewest_0 3 rfl) ?_
  obtain ⟨e1_, e2_⟩ := pin2 h
  subst e1_; subst e2_
  exact V_iret C hR (dt_at dt_X11_fewest_0 4 rfl)
theorem cv_X11_fewest (C : Ck X G cc own nL d) {idx : Nat} (hlk : Cond.methodLink own idx yX11_fewest ∈ gtb) {r0 : Int32} {σ0 : St} (e : f_X11_fewest σ = some (r0, σ0)) (hdd : 15 ≤ d) (hroom : (rest.map fun v => v.category).sum ≤ 8) (hcs : cells ≤ (xR X).cells ∧ slots ≤ (xR X).slots) (hd : decode cc pc = .ok (.invokevirtual idx, 3)) (k : V X G nL cells slots σ0 (pc + 3) lv (.int r0 :: rest)) : V X G nL cells slots σ pc lv (.ref (ga G 0) :: rest) := V_callV C (As := []) (c_X11_fewest X.2.1 G  σ r0 σ0 e) cal_X11_fewest ww_1114 ww_1115 hlk rfl hdd (lt110 rfl) rfl rfl rfl hroom hcs hd k
theorem dt_X11_group_0 : dtab cX11_group [(0, .aload_n 0, 1), (1, .getfield 12, 3), (4, .iload_n 1, 1), (5, .invokevirtual 94, 3), (8, .ifCond .ne 9, 3), (11, .aload_n 0, 1), (12, .iconst 1, 1), (13, .invokevirtual 68, 3), (16, .ireturn, 1), (17, .aload_n 0, 1), (18, .getfield 30, 3), (21, .iconst (-1), 1), (22, .invokevirtual 260, 3), (25, .pop, 1), (26, .aload_n 0, 1), (27, .getfield 30, 3), (30, .getfield 263, 3), (33, .iload_n 1, 1), (34, .iaload, 1), (35, .ireturn, 1)] = true := by decide +kernel
theorem cal_X11_group : Cal yX11_group cX11_group 2 (some .int) 1 := ⟨ww_1117, ww_100, ⟨by decide, by decide, by decide⟩, by decide⟩
set_option maxHeartbeats 4000000 in
set_option maxRecDepth 100000 in
theorem c_X11_group (l : Launch) (G : Gx) (x1 : Int32) (σ : St) (r0 : Int32) (σ0 : St) (h : f_X11_group x1 σ = some (r0, σ0)) : MI l G yX11_group cX11_group 2 (some .int) 14 [.ref (ga G 0), .int x1] σ (some (.int r0)) σ0 := by
  refine MI_of RX11 rfl (by decide) [(0, .ref (ga G 0)), (1, .int x1)] rfl (Nat.le_of_ble_eq_true rfl) ?_
  intro X hXl C hR
  unfold f_X11_group at h
  refine V_aload_n C (dt_at dt_X11_group_0 0 rfl) 0 rfl rfl ?_
  refine g_X11_12_0 C (dt_at dt_X11_group_0 1 rfl) ?_
  refine V_iload_n C (dt_at dt_X11_group_0 2 rfl) 1 rfl rfl ?_
  obtain ⟨r1, e2, h⟩ := bd_s h
  refine cv_X4_hasPart C ww_215 x1 e2 (Nat.le_of_ble_eq_true rfl) (Nat.le_of_ble_eq_true rfl) z0 (dt_at dt_X11_group_0 3 rfl) ?_
  refine V_if_ne C 17 (dt_at dt_X11_group_0 4 rfl) (by decide) (fun q4 => ?_) (fun q4 => ?_)
  · have h := ite_f q4 h
    refine V_aload_n C (dt_at dt_X11_group_0 9 rfl) 0 rfl rfl ?_
    refine g_X11_30_0 C (dt_at dt_X11_group_0 10 rfl) ?_
    refine V_iconst C (-1) (dt_at dt_X11_group_0 11 rfl) (by decide) ?_
    obtain ⟨r5, σ7, e6, h⟩ := bd2_s h
    refine cv_X8_fewestGroups C ww_1112 (-1) e6 (Nat.le_of_ble_eq_true rfl) (Nat.le_of_ble_eq_true rfl) z0 (dt_at dt_X11_group_0 12 rfl) ?_
    refine V_pop C (dt_at dt_X11_group_0 13 rfl) rfl ?_
    refine V_aload_n C (dt_at dt_X11_group_0 14 rfl) 0 rfl rfl ?_
    refine g_X11_30_0 C (dt_at dt_X11_group_0 15 rfl) ?_
    refine g_X11_263_4 C (dt_at dt_X11_group_0 16 rfl) ?_
    refine V_iload_n C (dt_at dt_X11_group_0 17 rfl) 1 rfl rfl ?_
    obtain ⟨h8, h⟩ := chk_s h
    refine al_33 C h8 (dt_at dt_X11_group_0 18 rfl) ?_
    obtain ⟨e1_, e2_⟩ := pin2 h
    subst e1_; subst e2_
    exact V_iret C hR (dt_at dt_X11_group_0 19 rfl)
  · have h := ite_t q4 h
    refine V_aload_n C (dt_at dt_X11_group_0 5 rfl) 0 rfl rfl ?_
    refine V_iconst C 1 (dt_at dt_X11_group_0 6 rfl) (by decide) ?_
    obtain ⟨r9, σ11, e10, h⟩ := bd2_s h
    refine cv_X11_error C ww_193 1 e10 (Nat.le_of_ble_eq_true rfl) (Nat.le_of_ble_eq_true rfl) z0 (dt_at dt_X11_group_0 7 rfl) ?_
    obtain ⟨e1_, e2_⟩ := pin2 h
    subst e1_; subst e2_
    exact V_iret C hR (dt_at dt_X11_group_0 8 rfl)
theorem cv_X11_group (C : Ck X G cc own nL d) {idx : Nat} (hlk : Cond.methodLink own idx yX11_group ∈ gtb) (x1 : Int32) {r0 : Int32} {σ0 : St} (e : f_X11_group x1 σ = some (r0, σ0)) (hdd : 15 ≤ d) (hroom : (rest.map fun v => v.category).sum ≤ 8) (hcs : cells ≤ (xR X).cells ∧ slots ≤ (xR X).slots) (hd : decode cc pc = .ok (.invokevirtual idx, 3)) (k : V X G nL cells slots σ0 (pc + 3) lv (.int r0 :: rest)) : V X G nL cells slots σ pc lv (.int x1 :: .ref (ga G 0) :: rest) := V_callV C (As := [.int x1]) (c_X11_group X.2.1 G x1 σ r0 σ0 e) cal_X11_group ww_1118 ww_1119 hlk rfl hdd (lt110 rfl) rfl rfl rfl hroom hcs hd k
theorem dt_X11_helps_0 : dtab cX11_helps [(0, .aload_n 0, 1), (1, .iload_n 1, 1), (2, .iload_n 2, 1), (3, .invokevirtual 154, 3), (6, .istore_n 3, 1), (7, .iload_n 3, 1), (8, .ifCond .eq 9, 3), (11, .aload_n 0, 1), (12, .iload_n 3, 1), (13, .invokevirtual 68, 3), (16, .ireturn, 1), (17, .aload_n 0, 1), (18, .getfield 12, 3), (21, .iload_n 1, 1), (22, .iload_n 2, 1), (23, .invokevirtual 158, 3), (26, .aload_n 0, 1), (27, .getfield 30, 3), (30, .iconst (-1), 1), (31, .invokevirtual 260, 3), (34, .istore 4, 2), (36, .aload_n 0, 1), (37, .getfield 12, 3), (40, .iload_n 1, 1), (41, .iload_n 2, 1), (42, .ineg, 1), (43, .invokevirtual 158, 3), (46, .iload 4, 2), (48, .ireturn, 1)] = true := by decide +kernel
theorem cal_X11_helps : Cal yX11_helps cX11_helps 5 (some .int) 2 := ⟨ww_1120, ww_100, ⟨by decide, by decide, by decide⟩, by decide⟩
set_option maxHeartbeats 4000000 in
set_option maxRecDepth 100000 in
theorem c_X11_helps (l : Launch) (G : Gx) (x1 : Int32) (x2 : Int32) (σ : St) (r0 : Int32) (σ0 : St) (h : f_X11_helps x1 x2 σ = some (r0, σ0)) : MI l G yX11_helps cX11_helps 5 (some .int) 14 [.ref (ga G 0), .int x1, .int x2] σ (some (.int r0)) σ0 := by
  refine MI_of RX11 rfl (by decide) [(0, .ref (ga G 0)), (1, .int x1), (2, .int x2)] rfl (Nat.le_of_ble_eq_true rfl) ?_
  intro X hXl C hR
  unfold f_X11_helps at h
  refine V_aload_n C (dt_at dt_X11_helps_0 0 rfl) 0 rfl rfl ?_
  refine V_iload_n C (dt_at dt_X11_helps_0 1 rfl) 1 rfl rfl ?_
  refine V_iload_n C (dt_at dt_X11_helps_0 2 rfl) 2 rfl rfl ?_
  obtain ⟨r1, e2, h⟩ := bd_s h
  refine cv_X11_shiftError C ww_387 x1 x2 e2 (Nat.le_of_ble_eq_true rfl) (Nat.le_of_ble_eq_true rfl) z0 (dt_at dt_X11_helps_0 3 rfl) ?_
  refine V_istore_n C [1, 2, 3, 0] (lv' := [(0, .ref (ga G 0)), (1, .int x1), (2, .int x2), (3, .int r1)]) (dt_at dt_X11_helps_0 4 rfl) rfl (by decide) rfl ?_
  refine V_iload_n C (dt_at dt_X11_helps_0 5 rfl) 3 rfl rfl ?_
  refine V_if_eq C 17 (dt_at dt_X11_helps_0 6 rfl) (by decide) (fun q4 => ?_) (fun q4 => ?_)
  · have h := ite_t q4 h
    refine V_aload_n C (dt_at dt_X11_helps_0 11 rfl) 0 rfl rfl ?_
    refine g_X11_12_0 C (dt_at dt_X11_helps_0 12 rfl) ?_
    refine V_iload_n C (dt_at dt_X11_helps_0 13 rfl) 1 rfl rfl ?_
    refine V_iload_n C (dt_at dt_X11_helps_0 14 rfl) 2 rfl rfl ?_
    obtain ⟨σ7, e6, h⟩ := bd_s h
    refine cv_X4_delay C ww_388 x1 x2 e6 (Nat.le_of_ble_eq_true rfl) (Nat.le_of_ble_eq_true rfl) z0 (dt_at dt_X11_helps_0 15 rfl) ?_
    refine V_aload_n C (dt_at dt_X11_helps_0 16 rfl) 0 rfl rfl ?_
    refine g_X11_30_0 C (dt_at dt_X11_helps_0 17 rfl) ?_
    refine V_iconst C (-1) (dt_at dt_X11_helps_0 18 rfl) (by decide) ?_
    obtain ⟨r8, σ10, e9, h⟩ := bd2_s h
    refine cv_X8_fewestGroups C ww_1112 (-1) e9 (Nat.le_of_ble_eq_true rfl) (Nat.le_of_ble_eq_true rfl) z0 (dt_at dt_X11_helps_0 19 rfl) ?_
    refine V_istore C [1, 2, 3, 4, 0] (lv' := [(0, .ref (ga G 0)), (1, .int x1), (2, .int x2), (3, .int r1), (4, .int r8)]) (dt_at dt_X11_helps_0 20 rfl) (by decide) rfl ?_
    refine V_aload_n C (dt_at dt_X11_helps_0 21 rfl) 0 rfl rfl ?_
    refine g_X11_12_0 C (dt_at dt_X11_helps_0 22 rfl) ?_
    refine V_iload_n C (dt_at dt_X11_helps_0 23 rfl) 1 rfl rfl ?_
    refine V_iload_n C (dt_at dt_X11_helps_0 24 rfl) 2 rfl rfl ?_
    refine V_ineg C (dt_at dt_X11_helps_0 25 rfl) ?_
    obtain ⟨σ13, e12, h⟩ := bd_s h
    refine cv_X4_delay C ww_388 x1 (-x2) e12 (Nat.le_of_ble_eq_true rfl) (Nat.le_of_ble_eq_true rfl) z0 (dt_at dt_X11_helps_0 26 rfl) ?_
    refine V_iload C (dt_at dt_X11_helps_0 27 rfl) 4 rfl ?_
    obtain ⟨e1_, e2_⟩ := pin2 h
    subst e1_; subst e2_
    exact V_iret C hR (dt_at dt_X11_helps_0 28 rfl)
  · have h := ite_f q4 h
    refine V_aload_n C (dt_at dt_X11_helps_0 7 rfl) 0 rfl rfl ?_
    refine V_iload_n C (dt_at dt_X11_helps_0 8 rfl) 3 rfl rfl ?_
    obtain ⟨r14, σ16, e15, h⟩ := bd2_s h
    refine cv_X11_error C ww_193 r1 e15 (Nat.le_of_ble_eq_true rfl) (Nat.le_of_ble_eq_true rfl) z0 (dt_at dt_X11_helps_0 9 rfl) ?_
    obtain ⟨e1_, e2_⟩ := pin2 h
    subst e1_; subst e2_
    exact V_iret C hR (dt_at dt_X11_helps_0 10 rfl)
theorem cv_X11_helps (C : Ck X G cc own nL d) {idx : Nat} (hlk : Cond.methodLink own idx yX11_helps ∈ gtb) (x1 : Int32) (x2 : Int32) {r0 : Int32} {σ0 : St} (e : f_X11_helps x1 x2 σ = some (r0, σ0)) (hdd : 15 ≤ d) (hroom : (rest.map fun v => v.category).sum ≤ 8) (hcs : cells ≤ (xR X).cells ∧ slots ≤ (xR X).slots) (hd : decode cc pc = .ok (.invokevirtual idx, 3)) (k : V X G nL cells slots σ0 (pc + 3) lv (.int r0 :: rest)) : V X G nL cells slots σ pc lv (.int x2 :: .int x1 :: .ref (ga G 0) :: rest) := V_callV C (As := [.int x1, .int x2]) (c_X11_helps X.2.1 G x1 x2 σ r0 σ0 e) cal_X11_helps ww_1121 ww_1122 hlk rfl hdd (lt110 rfl) rfl rfl rfl hroom hcs hd k
theorem dt_X11_without_0 : dtab cX11_without [(0, .aload_n 0, 1), (1, .getfield 12, 3), (4, .iload_n 1, 1), (5, .invokevirtual 94, 3), (8, .ifCond .ne 9, 3), (11, .aload_n 0, 1), (12, .iconst 1, 1), (13, .invokevirtual 68, 3), (16, .ireturn, 1), (17, .aload_n 0, 1), (18, .getfield 30, 3), (21, .iload_n 1, 1), (22, .invokevirtual 260, 3), (25, .ireturn, 1)] = true := by decide +kernel
theorem cal_X11_without : Cal yX11_without cX11_without 2 (some .int) 1 := ⟨ww_1123, ww_100, ⟨by decide, by decide, by decide⟩, by decide⟩
set_option maxHeartbeats 4000000 in
set_option maxRecDepth 100000 in
theorem c_X11_without (l : Launch) (G : Gx) (x1 : Int32) (σ : St) (r0 : Int32) (σ0 : St) (h : f_X11_without x1 σ = some (r0, σ0)) : MI l G yX11_without cX11_without 2 (some .int) 14 [.ref (ga G 0), .int x1] σ (some (.int r0)) σ0 := by
  refine MI_of RX11 rfl (by decide) [(0, .ref (ga G 0)), (1, .int x1)] rfl (Nat.le_of_ble_eq_true rfl) ?_
  intro X hXl C hR
  unfold f_X11_without at h
  refine V_aload_n C (dt_at dt_X11_without_0 0 rfl) 0 rfl rfl ?_
  refine g_X11_12_0 C (dt_at dt_X11_without_0 1 rfl) ?_
  refine V_iload_n C (dt_at dt_X11_without_0 2 rfl) 1 rfl rfl ?_
  obtain ⟨r1, e2, h⟩ := bd_s h
  refine cv_X4_hasPart C ww_215 x1 e2 (Nat.le_of_ble_eq_true rfl) (Nat.le_of_ble_eq_true rfl) z0 (dt_at dt_X11_without_0 3 rfl) ?_
  refine V_if_ne C 17 (dt_at dt_X11_without_0 4 rfl) (by decide) (fun q4 => ?_) (fun q4 => ?_)
  · have h := ite_f q4 h
    refine V_aload_n C (dt_at dt_X11_without_0 9 rfl) 0 rfl rfl ?_
    refine g_X11_30_0 C (dt_at dt_X11_without_0 10 rfl) ?_
    refine V_iload_n C (dt_at dt_X11_without_0 11 rfl) 1 rfl rfl ?_
    obtain ⟨r5, σ7, e6, h⟩ := bd2_s h
    refine cv_X8_fewestGroups C ww_1112 x1 e6 (Nat.le_of_ble_eq_true rfl) (Nat.le_of_ble_eq_true rfl) z0 (dt_at dt_X11_without_0 12 rfl) ?_
    obtain ⟨e1_, e2_⟩ := pin2 h
    subst e1_; subst e2_
    exact V_iret C hR (dt_at dt_X11_without_0 13 rfl)
  · have h := ite_t q4 h
    refine V_aload_n C (dt_at dt_X11_without_0 5 rfl) 0 rfl rfl ?_
    refine V_iconst C 1 (dt_at dt_X11_without_0 6 rfl) (by decide) ?_
    obtain ⟨r8, σ10, e9, h⟩ := bd2_s h
    refine cv_X11_error C ww_193 1 e9 (Nat.le_of_ble_eq_true rfl) (Nat.le_of_ble_eq_true rfl) z0 (dt_at dt_X11_without_0 7 rfl) ?_
    obtain ⟨e1_, e2_⟩ := pin2 h
    subst e1_; subst e2_
    exact V_iret C hR (dt_at dt_X11_without_0 8 rfl)
theorem cv_X11_without (C : Ck X G cc own nL d) {idx : Nat} (hlk : Cond.methodLink own idx yX11_without ∈ gtb) (x1 : Int32) {r0 : Int32} {σ0 : St} (e : f_X11_without x1 σ = some (r0, σ0)) (hdd : 15 ≤ d) (hroom : (rest.map fun v => v.category).sum ≤ 8) (hcs : cells ≤ (xR X).cells ∧ slots ≤ (xR X).slots) (hd : decode cc pc = .ok (.invokevirtual idx, 3)) (k : V X G nL cells slots σ0 (pc + 3) lv (.int r0 :: rest)) : V X G nL cells slots σ pc lv (.int x1 :: .ref (ga G 0) :: rest) := V_callV C (As := [.int x1]) (c_X11_without X.2.1 G x1 σ r0 σ0 e) cal_X11_without ww_1124 ww_1125 hlk rfl hdd (lt110 rfl) rfl rfl rfl hroom hcs hd k
theorem dt_X5_readLevel_0 : dtab cX5_readLevel [(0, .iload_n 1, 1), (1, .iconst 5, 1), (2, .if_icmp .lt 9, 3), (5, .aload_n 0, 1), (6, .iload_n 2, 1), (7, .invokevirtual 58, 3), (10, .return_, 1), (11, .aload_n 0, 1), (12, .iload_n 1, 1), (13, .iconst 1, 1), (14, .iadd, 1), (15, .iload_n 2, 1), (16, .invokevirtual 44, 3), (19, .iload_n 1, 1), (20, .iconst 2, 1), (21, .if_icmp .ne 7, 3), (24, .iconst 1, 1), (25, .goto 5, 3), (28, .bipush 50, 2), (30, .istore_n 3, 1), (31, .iconst 0, 1), (32, .istore 4, 2), (34, .iload 4, 2), (36, .iload_n 3, 1), (37, .if_icmp .ge 60, 3), (40, .aload_n 0, 1), (41, .getfield 33, 3), (44, .ifCond .ne 53, 3), (47, .aload_n 0, 1), (48, .invokevirtual 61, 3), (51, .invokestatic 65, 3), (54, .iload_n 1, 1), (55, .if_icmp .ne 42, 3), (58, .aload_n 0, 1), (59, .invokevirtual 61, 3), (62, .istore 5, 2), (64, .aload_n 0, 1), (65, .dup, 1), (66, .getfield 29, 3), (69, .iconst 1, 1)] = true := by decide +kernel
theorem dt_X5_readLevel_1 : dtab cX5_readLevel [(70, .iadd, 1), (71, .putfield 29, 3), (74, .aload_n 0, 1), (75, .iload_n 1, 1), (76, .iconst 1, 1), (77, .iadd, 1), (78, .iload_n 2, 1), (79, .invokevirtual 44, 3), (82, .aload_n 0, 1), (83, .getfield 14, 3), (86, .iload 5, 2), (88, .invokevirtual 69, 3), (91, .iinc 4 1, 3), (94, .goto (-60), 3), (97, .return_, 1)] = true := by decide +kernel
theorem cal_X5_readLevel : Cal yX5_readLevel cX5_readLevel 6 none 2 := ⟨ww_1129, ww_400, ⟨by decide, by decide, by decide⟩, by decide⟩
theorem dt_X5_readUnit_0 : dtab cX5_readUnit [(0, .aload_n 0, 1), (1, .invokevirtual 61, 3), (4, .istore_n 2, 1), (5, .iload_n 2, 1), (6, .invokestatic 72, 3), (9, .ifCond .eq 10, 3), (12, .aload_n 0, 1), (13, .invokevirtual 76, 3), (16, .goto 121, 3), (19, .iload_n 2, 1), (20, .iconst (-1), 1), (21, .if_icmp .eq 36, 3), (24, .aload_n 0, 1), (25, .getfield 25, 3), (28, .iload_n 2, 1), (29, .i2c, 1), (30, .invokevirtual 79, 3), (33, .ifCond .lt 24, 3), (36, .aload_n 0, 1), (37, .getfield 14, 3), (40, .iload_n 2, 1), (41, .invokevirtual 69, 3), (44, .aload_n 0, 1), (45, .dup, 1), (46, .getfield 29, 3), (49, .iconst 1, 1), (50, .iadd, 1), (51, .putfield 29, 3), (54, .goto 83, 3), (57, .iload_n 2, 1), (58, .bipush 33, 2), (60, .if_icmp .ne 36, 3), (63, .iload_n 1, 1), (64, .iconst 5, 1), (65, .if_icmp .ge 31, 3), (68, .aload_n 0, 1), (69, .dup, 1), (70, .getfield 29, 3), (73, .iconst 1, 1), (74, .iadd, 1)] = true := by decide +kernel
theorem dt_X5_readUnit_1 : dtab cX5_readUnit [(75, .putfield 29, 3), (78, .aload_n 0, 1), (79, .iload_n 1, 1), (80, .iconst 1, 1), (81, .iadd, 1), (82, .invokevirtual 58, 3), (85, .aload_n 0, 1), (86, .getfield 14, 3), (89, .iload_n 2, 1), (90, .invokevirtual 69, 3), (93, .goto 44, 3), (96, .iload_n 2, 1), (97, .bipush 40, 2), (99, .if_icmp .ne 33, 3), (102, .iload_n 1, 1), (103, .iconst 5, 1), (104, .if_icmp .ge 28, 3), (107, .aload_n 0, 1), (108, .dup, 1), (109, .getfield 29, 3), (112, .iconst 1, 1), (113, .iadd, 1), (114, .putfield 29, 3), (117, .aload_n 0, 1), (118, .iconst 0, 1), (119, .iload_n 1, 1), (120, .iconst 1, 1), (121, .iadd, 1), (122, .invokevirtual 44, 3), (125, .aload_n 0, 1), (126, .invokevirtual 84, 3), (129, .goto 8, 3), (132, .aload_n 0, 1), (133, .iconst 1, 1), (134, .putfield 33, 3), (137, .return_, 1)] = true := by decide +kernel
theorem cal_X5_readUnit : Cal yX5_readUnit cX5_readUnit 3 none 1 := ⟨ww_1136, ww_400, ⟨by decide, by decide, by decide⟩, by decide⟩
theorem cm_X5_readLevel (C : Ck X G cc own nL d) {idx d1 : Nat} (hlk : Cond.methodLink own idx yX5_readLevel ∈ gtb) {x1 : Int32} {x2 : Int32} {σ0 : St} (hM : MI X.2.1 G yX5_readLevel cX5_readLevel 6 none d1 [.ref (ga G 5), .int x1, .int x2] σ none σ0) (hdd : d1 + 1 ≤ d) (hroom : (rest.map fun v => v.category).sum ≤ 8) (hcs : cells ≤ (xR X).cells ∧ slots ≤ (xR X).slots) (hd : decode cc pc = .ok (.invokevirtual idx, 3)) (k : V X G nL cells slots σ0 (pc + 3) lv (rest)) : V X G nL cells slots σ pc lv (.int x2 :: .int x1 :: .ref (ga G 5) :: rest) := V_callV C (As := [.int x1, .int x2]) hM cal_X5_readLevel ww_1130 ww_1131 hlk rfl hdd (lt110 rfl) rfl rfl rfl hroom hcs hd k
theorem cm_X5_readUnit (C : Ck X G cc own nL d) {idx d1 : Nat} (hlk : Cond.methodLink own idx yX5_readUnit ∈ gtb) {x1 : Int32} {σ0 : St} (hM : MI X.2.1 G yX5_readUnit cX5_readUnit 3 none d1 [.ref (ga G 5), .int x1] σ none σ0) (hdd : d1 + 1 ≤ d) (hroom : (rest.map fun v => v.category).sum ≤ 8) (hcs : cells ≤ (xR X).cells ∧ slots ≤ (xR X).slots) (hd : decode cc pc = .ok (.invokevirtual idx, 3)) (k : V X G nL cells slots σ0 (pc + 3) lv (rest)) : V X G nL cells slots σ pc lv (.int x1 :: .ref (ga G 5) :: rest) := V_callV C (As := [.int x1]) hM cal_X5_readUnit ww_1137 ww_1138 hlk rfl hdd (lt110 rfl) rfl rfl rfl hroom hcs hd k
set_option maxHeartbeats 4000000 in
set_option maxRecDepth 100000 in
theorem sc_X5_readLevel (l : Launch) (G : Gx) (n : Nat) (F1 : Int32 → Int32 → St → Option (St)) (F2 : Int32 → St → Option (St)) (hF1 : ∀ (x1 : Int32) (x2 : Int32) (σ : St) (σ0 : St), F1 x1 x2 σ = some σ0 → MI l G yX5_readLevel cX5_readLevel 6 none (n + 6) [.ref (ga G 5), .int x1, .int x2] σ none σ0) (hF2 : ∀ (x1 : Int32) (σ : St) (σ0 : St), F2 x1 σ = some σ0 → MI l G yX5_readUnit cX5_readUnit 3 none (n + 6) [.ref (ga G 5), .int x1] σ none σ0) (x1 : Int32) (x2 : Int32) (σ : St) (σ0 : St) (h : s_X5_readLevel F1 F2 x1 x2 σ = some σ0) : MI l G yX5_readLevel cX5_readLevel 6 none (n + 1 + 6) [.ref (ga G 5), .int x1, .int x2] σ none σ0 := by
  refine MI_of RX5 rfl (by decide) [(0, .ref (ga G 5)), (1, .int x1), (2, .int x2)] rfl (Nat.le_of_ble_eq_true rfl) ?_
  intro X hXl C hR
  subst hXl
  unfold s_X5_readLevel at h
  have J_34 : ∀ (x3 : Int32) (x4 : Int32) (σ : St), f_X5_readLevel_34 F1 F2 x1 x2 x3 x4 σ = some σ0 → V X G 6 0 0 σ 34 [(0, .ref (ga G 5)), (1, .int x1), (2, .int x2), (3, .int x3), (4, .int x4)] [] := by
    intro x3 x4 σ h
    refine it_v (P := fun z : Int32 × St => V X G 6 0 0 z.2 34 [(0, .ref (ga G 5)), (1, .int x1), (2, .int x2), (3, .int x3), (4, .int z.1)] []) ?_ (x4, σ) h
    clear h
    intro z w_34 h ih_34 ex_34
    obtain ⟨x4, σ⟩ := z
    have h : b_X5_readLevel_34 F1 F2 x1 x2 x3 x4 σ = some w_34 := h
    show V X G 6 0 0 σ 34 [(0, .ref (ga G 5)), (1, .int x1), (2, .int x2), (3, .int x3), (4, .int x4)] []
    unfold b_X5_readLevel_34 at h
    refine V_iload C (dt_at dt_X5_readLevel_0 22 rfl) 4 rfl ?_
    refine V_iload_n C (dt_at dt_X5_readLevel_0 23 rfl) 3 rfl rfl ?_
    refine V_icmp_ge C 97 (dt_at dt_X5_readLevel_0 24 rfl) (by decide) (fun q9 => ?_) (fun q9 => ?_)
    · have h := ite_f q9 h
      have e_34 := ex_34 _ (Option.some.inj h).symm
      subst e_34
      exact V_vret C hR (dt_at dt_X5_readLevel_1 14 rfl)
    · have h := ite_t q9 h
      refine V_aload_n C (dt_at dt_X5_readLevel_0 25 rfl) 0 rfl rfl ?_
      refine g_X5_33_5 C (dt_at dt_X5_readLevel_0 26 rfl) ?_
      refine V_if_ne C 97 (dt_at dt_X5_readLevel_0 27 rfl) (by decide) (fun q10 => ?_) (fun q10 => ?_)
      · have h := ite_f q10 h
        have e_34 := ex_34 _ (Option.some.inj h).symm
        subst e_34
        exact V_vret C hR (dt_at dt_X5_readLevel_1 14 rfl)
      · have h := ite_t q10 h
        refine V_aload_n C (dt_at dt_X5_readLevel_0 28 rfl) 0 rfl rfl ?_
        obtain ⟨r11, e12, h⟩ := bd_s h
        refine cv_X5_next C ww_405  e12 (by omega) (Nat.le_of_ble_eq_true rfl) z0 (dt_at dt_X5_readLevel_0 29 rfl) ?_
        obtain ⟨r14, e15, h⟩ := bd_s h
        refine cv_X5_levelOf C ww_1128 r11 e15 (by omega) (Nat.le_of_ble_eq_true rfl) z0 (dt_at dt_X5_readLevel_0 30 rfl) ?_
        refine V_iload_n C (dt_at dt_X5_readLevel_0 31 rfl) 1 rfl rfl ?_
        refine V_icmp_ne C 97 (dt_at dt_X5_readLevel_0 32 rfl) (by decide) (fun q17 => ?_) (fun q17 => ?_)
        · have h := ite_f q17 h
          have e_34 := ex_34 _ (Option.some.inj h).symm
          subst e_34
          exact V_vret C hR (dt_at dt_X5_readLevel_1 14 rfl)
        · have h := ite_t q17 h
          refine V_aload_n C (dt_at dt_X5_readLevel_0 33 rfl) 0 rfl rfl ?_
          obtain ⟨r18, e19, h⟩ := bd_s h
          refine cv_X5_next C ww_405  e19 (by omega) (Nat.le_of_ble_eq_true rfl) z0 (dt_at dt_X5_readLevel_0 34 rfl) ?_
          refine V_istore C [1, 2, 3, 4, 5, 0] (lv' := [(0, .ref (ga G 5)), (1, .int x1), (2, .int x2), (3, .int x3), (4, .int x4), (5, .int r18)]) (dt_at dt_X5_readLevel_0 35 rfl) (by decide) rfl ?_
          refine V_aload_n C (dt_at dt_X5_readLevel_0 36 rfl) 0 rfl rfl ?_
          refine V_dup C (dt_at dt_X5_readLevel_0 37 rfl) rfl ?_
          refine g_X5_29_5 C (dt_at dt_X5_readLevel_0 38 rfl) ?_
          refine V_iconst C 1 (dt_at dt_X5_readLevel_0 39 rfl) (by decide) ?_
          refine V_iadd C (dt_at dt_X5_readLevel_1 0 rfl) ?_
          obtain ⟨σ21, eσ21, h⟩ := nm_s h
          refine V_st eσ21 ?_ (fun k => p_X5_29_5 C (dt_at dt_X5_readLevel_1 1 rfl) k)
          refine V_aload_n C (dt_at dt_X5_readLevel_1 2 rfl) 0 rfl rfl ?_
          refine V_iload_n C (dt_at dt_X5_readLevel_1 3 rfl) 1 rfl rfl ?_
          refine V_iconst C 1 (dt_at dt_X5_readLevel_1 4 rfl) (by decide) ?_
          refine V_iadd C (dt_at dt_X5_readLevel_1 5 rfl) ?_
          refine V_iload_n C (dt_at dt_X5_readLevel_1 6 rfl) 2 rfl rfl ?_
          obtain ⟨σ24, e23, h⟩ := bd_s h
          refine cm_X5_readLevel C ww_1126 (hF1 (x1 + 1) x2 σ21 σ24 e23) (by omega) (Nat.le_of_ble_eq_true rfl) z0 (dt_at dt_X5_readLevel_1 7 rfl) ?_
          refine V_aload_n C (dt_at dt_X5_readLevel_1 8 rfl) 0 rfl rfl ?_
          refine g_X5_14_5 C (dt_at dt_X5_readLevel_1 9 rfl) ?_
          refine V_iload C (dt_at dt_X5_readLevel_1 10 rfl) 5 rfl ?_
          obtain ⟨σ27, e26, h⟩ := bd_s h
          refine cv_X7_add C ww_408 72 r18 e26 (by omega) (Nat.le_of_ble_eq_true rfl) z0 (dt_at dt_X5_readLevel_1 11 rfl) ?_
          refine V_iinc C (x4 + 1) 4 [1, 2, 3, 4, 0, 5] (lv' := [(0, .ref (ga G 5)), (1, .int x1), (2, .int x2), (3, .int x3), (4, .int (x4 + 1)), (5, .int r18)]) (dt_at dt_X5_readLevel_1 12 rfl) rfl (by rfl) (by decide) rfl ?_
          refine V_goto C 34 (dt_at dt_X5_readLevel_1 13 rfl) (by decide) ?_
          refine V_sub [0, 1, 2, 3, 4] (lv' := [(0, .ref (ga G 5)), (1, .int x1), (2, .int x2), (3, .int x3), (4, .int (x4 + 1))]) rfl ?_
          exact ih_34 ((x4 + 1), σ27) (Option.some.inj h).symm
  have J_30 : ∀ (s0 : Int32) (σ : St), f_X5_readLevel_30 F1 F2 x1 x2 s0 σ = some σ0 → V X G 6 0 0 σ 30 [(0, .ref (ga G 5)), (1, .int x1), (2, .int x2)] [.int s0] := by
    intro s0 σ h
    unfold f_X5_readLevel_30 at h
    refine V_istore_n C [1, 2, 3, 0] (lv' := [(0, .ref (ga G 5)), (1, .int x1), (2, .int x2), (3, .int s0)]) (dt_at dt_X5_readLevel_0 19 rfl) rfl (by decide) rfl ?_
    refine V_iconst C 0 (dt_at dt_X5_readLevel_0 20 rfl) (by decide) ?_
    refine V_istore C [1, 2, 3, 4, 0] (lv' := [(0, .ref (ga G 5)), (1, .int x1), (2, .int x2), (3, .int s0), (4, .int 0)]) (dt_at dt_X5_readLevel_0 21 rfl) (by decide) rfl ?_
    exact J_34 s0 0 σ h
  refine V_iload_n C (dt_at dt_X5_readLevel_0 0 rfl) 1 rfl rfl ?_
  refine V_iconst C 5 (dt_at dt_X5_readLevel_0 1 rfl) (by decide) ?_
  refine V_icmp_lt C 11 (dt_at dt_X5_readLevel_0 2 rfl) (by decide) (fun q1 => ?_) (fun q1 => ?_)
  · have h := ite_t q1 h
    refine V_aload_n C (dt_at dt_X5_readLevel_0 7 rfl) 0 rfl rfl ?_
    refine V_iload_n C (dt_at dt_X5_readLevel_0 8 rfl) 1 rfl rfl ?_
    refine V_iconst C 1 (dt_at dt_X5_readLevel_0 9 rfl) (by decide) ?_
    refine V_iadd C (dt_at dt_X5_readLevel_0 10 rfl) ?_
    refine V_iload_n C (dt_at dt_X5_readLevel_0 11 rfl) 2 rfl rfl ?_
    obtain ⟨σ4, e3, h⟩ := bd_s h
    refine cm_X5_readLevel C ww_1126 (hF1 (x1 + 1) x2 σ σ4 e3) (by omega) (Nat.le_of_ble_eq_true rfl) z0 (dt_at dt_X5_readLevel_0 12 rfl) ?_
    refine V_iload_n C (dt_at dt_X5_readLevel_0 13 rfl) 1 rfl rfl ?_
    refine V_iconst C 2 (dt_at dt_X5_readLevel_0 14 rfl) (by decide) ?_
    refine V_icmp_ne C 28 (dt_at dt_X5_readLevel_0 15 rfl) (by decide) (fun q5 => ?_) (fun q5 => ?_)
    · have h := ite_f q5 h
      refine V_bipush C 50 (dt_at dt_X5_readLevel_0 18 rfl) (by decide) ?_
      exact J_30 50 σ4 h
    · have h := ite_t q5 h
      refine V_iconst C 1 (dt_at dt_X5_readLevel_0 16 rfl) (by decide) ?_
      refine V_goto C 30 (dt_at dt_X5_readLevel_0 17 rfl) (by decide) ?_
      exact J_30 1 σ4 h
  · have h := ite_f q1 h
    refine V_aload_n C (dt_at dt_X5_readLevel_0 3 rfl) 0 rfl rfl ?_
    refine V_iload_n C (dt_at dt_X5_readLevel_0 4 rfl) 2 rfl rfl ?_
    obtain ⟨σ8, e7, h⟩ := bd_s h
    refine cm_X5_readUnit C ww_1127 (hF2 x2 σ σ8 e7) (by omega) (Nat.le_of_ble_eq_true rfl) z0 (dt_at dt_X5_readLevel_0 5 rfl) ?_
    have e1_ := Option.some.inj h
    subst e1_
    exact V_vret C hR (dt_at dt_X5_readLevel_0 6 rfl)
set_option maxHeartbeats 4000000 in
set_option maxRecDepth 100000 in
theorem sc_X5_readUnit (l : Launch) (G : Gx) (n : Nat) (F1 : Int32 → Int32 → St → Option (St)) (F2 : Int32 → St → Option (St)) (hF1 : ∀ (x1 : Int32) (x2 : Int32) (σ : St) (σ0 : St), F1 x1 x2 σ = some σ0 → MI l G yX5_readLevel cX5_readLevel 6 none (n + 6) [.ref (ga G 5), .int x1, .int x2] σ none σ0) (hF2 : ∀ (x1 : Int32) (σ : St) (σ0 : St), F2 x1 σ = some σ0 → MI l G yX5_readUnit cX5_readUnit 3 none (n + 6) [.ref (ga G 5), .int x1] σ none σ0) (x1 : Int32) (σ : St) (σ0 : St) (h : s_X5_readUnit F1 F2 x1 σ = some σ0) : MI l G yX5_readUnit cX5_readUnit 3 none (n + 1 + 6) [.ref (ga G 5), .int x1] σ none σ0 := by
  refine MI_of RX5 rfl (by decide) [(0, .ref (ga G 5)), (1, .int x1)] rfl (Nat.le_of_ble_eq_true rfl) ?_
  intro X hXl C hR
  subst hXl
  unfold s_X5_readUnit at h
  have J_132 : ∀ (σ : St), f_X5_readUnit_132 F1 F2 σ = some σ0 → V X G 3 0 0 σ 132 [(0, .ref (ga G 5))] [] := by
    intro σ h
    unfold f_X5_readUnit_132 at h
    refine V_aload_n C (dt_at dt_X5_readUnit_1 32 rfl) 0 rfl rfl ?_
    refine V_iconst C 1 (dt_at dt_X5_readUnit_1 33 rfl) (by decide) ?_
    obtain ⟨σ38, eσ38, h⟩ := nm_s h
    refine V_st eσ38 ?_ (fun k => p_X5_33_5 C rfl rfl (dt_at dt_X5_readUnit_1 34 rfl) k)
    have e1_ := Option.some.inj h
    subst e1_
    exact V_vret C hR (dt_at dt_X5_readUnit_1 35 rfl)
  have J_96 : ∀ (x2 : Int32) (σ : St), f_X5_readUnit_96 F1 F2 x1 x2 σ = some σ0 → V X G 3 0 0 σ 96 [(0, .ref (ga G 5)), (1, .int x1), (2, .int x2)] [] := by
    intro x2 σ h
    unfold f_X5_readUnit_96 at h
    refine V_iload_n C (dt_at dt_X5_readUnit_1 11 rfl) 2 rfl rfl ?_
    refine V_bipush C 40 (dt_at dt_X5_readUnit_1 12 rfl) (by decide) ?_
    refine V_icmp_ne C 132 (dt_at dt_X5_readUnit_1 13 rfl) (by decide) (fun q29 => ?_) (fun q29 => ?_)
    · have h := ite_f q29 h
      refine V_sub [0] (lv' := [(0, .ref (ga G 5))]) rfl ?_
      exact J_132 σ h
    · have h := ite_t q29 h
      refine V_iload_n C (dt_at dt_X5_readUnit_1 14 rfl) 1 rfl rfl ?_
      refine V_iconst C 5 (dt_at dt_X5_readUnit_1 15 rfl) (by decide) ?_
      refine V_icmp_ge C 132 (dt_at dt_X5_readUnit_1 16 rfl) (by decide) (fun q30 => ?_) (fun q30 => ?_)
      · have h := ite_f q30 h
        refine V_sub [0] (lv' := [(0, .ref (ga G 5))]) rfl ?_
        exact J_132 σ h
      · have h := ite_t q30 h
        refine V_aload_n C (dt_at dt_X5_readUnit_1 17 rfl) 0 rfl rfl ?_
        refine V_dup C (dt_at dt_X5_readUnit_1 18 rfl) rfl ?_
        refine g_X5_29_5 C (dt_at dt_X5_readUnit_1 19 rfl) ?_
        refine V_iconst C 1 (dt_at dt_X5_readUnit_1 20 rfl) (by decide) ?_
        refine V_iadd C (dt_at dt_X5_readUnit_1 21 rfl) ?_
        obtain ⟨σ31, eσ31, h⟩ := nm_s h
        refine V_st eσ31 ?_ (fun k => p_X5_29_5 C (dt_at dt_X5_readUnit_1 22 rfl) k)
        refine V_aload_n C (dt_at dt_X5_readUnit_1 23 rfl) 0 rfl rfl ?_
        refine V_iconst C 0 (dt_at dt_X5_readUnit_1 24 rfl) (by decide) ?_
        refine V_iload_n C (dt_at dt_X5_readUnit_1 25 rfl) 1 rfl rfl ?_
        refine V_iconst C 1 (dt_at dt_X5_readUnit_1 26 rfl) (by decide) ?_
        refine V_iadd C (dt_at dt_X5_readUnit_1 27 rfl) ?_
        obtain ⟨σ34, e33, h⟩ := bd_s h
        refine cm_X5_readLevel C ww_1126 (hF1 0 (x1 + 1) σ31 σ34 e33) (by omega) (Nat.le_of_ble_eq_true rfl) z0 (dt_at dt_X5_readUnit_1 28 rfl) ?_
        refine V_aload_n C (dt_at dt_X5_readUnit_1 29 rfl) 0 rfl rfl ?_
        obtain ⟨σ37, e36, h⟩ := bd_s h
        refine cv_X5_readClosing C ww_1135  e36 (by omega) (Nat.le_of_ble_eq_true rfl) z0 (dt_at dt_X5_readUnit_1 30 rfl) ?_
        refine V_goto C 137 (dt_at dt_X5_readUnit_1 31 rfl) (by decide) ?_
        have e1_ := Option.some.inj h
        subst e1_
        exact V_vret C hR (dt_at dt_X5_readUnit_1 35 rfl)
  have J_57 : ∀ (x2 : Int32) (σ : St), f_X5_readUnit_57 F1 F2 x1 x2 σ = some σ0 → V X G 3 0 0 σ 57 [(0, .ref (ga G 5)), (1, .int x1), (2, .int x2)] [] := by
    intro x2 σ h
    unfold f_X5_readUnit_57 at h
    refine V_iload_n C (dt_at dt_X5_readUnit_0 29 rfl) 2 rfl rfl ?_
    refine V_bipush C 33 (dt_at dt_X5_readUnit_0 30 rfl) (by decide) ?_
    refine V_icmp_ne C 96 (dt_at dt_X5_readUnit_0 31 rfl) (by decide) (fun q20 => ?_) (fun q20 => ?_)
    · have h := ite_f q20 h
      exact J_96 x2 σ h
    · have h := ite_t q20 h
      refine V_iload_n C (dt_at dt_X5_readUnit_0 32 rfl) 1 rfl rfl ?_
      refine V_iconst C 5 (dt_at dt_X5_readUnit_0 33 rfl) (by decide) ?_
      refine V_icmp_ge C 96 (dt_at dt_X5_readUnit_0 34 rfl) (by decide) (fun q21 => ?_) (fun q21 => ?_)
      · have h := ite_f q21 h
        exact J_96 x2 σ h
      · have h := ite_t q21 h
        refine V_aload_n C (dt_at dt_X5_readUnit_0 35 rfl) 0 rfl rfl ?_
        refine V_dup C (dt_at dt_X5_readUnit_0 36 rfl) rfl ?_
        refine g_X5_29_5 C (dt_at dt_X5_readUnit_0 37 rfl) ?_
        refine V_iconst C 1 (dt_at dt_X5_readUnit_0 38 rfl) (by decide) ?_
        refine V_iadd C (dt_at dt_X5_readUnit_0 39 rfl) ?_
        obtain ⟨σ22, eσ22, h⟩ := nm_s h
        refine V_st eσ22 ?_ (fun k => p_X5_29_5 C (dt_at dt_X5_readUnit_1 0 rfl) k)
        refine V_aload_n C (dt_at dt_X5_readUnit_1 1 rfl) 0 rfl rfl ?_
        refine V_iload_n C (dt_at dt_X5_readUnit_1 2 rfl) 1 rfl rfl ?_
        refine V_iconst C 1 (dt_at dt_X5_readUnit_1 3 rfl) (by decide) ?_
        refine V_iadd C (dt_at dt_X5_readUnit_1 4 rfl) ?_
        obtain ⟨σ25, e24, h⟩ := bd_s h
        refine cm_X5_readUnit C ww_1127 (hF2 (x1 + 1) σ22 σ25 e24) (by omega) (Nat.le_of_ble_eq_true rfl) z0 (dt_at dt_X5_readUnit_1 5 rfl) ?_
        refine V_aload_n C (dt_at dt_X5_readUnit_1 6 rfl) 0 rfl rfl ?_
        refine g_X5_14_5 C (dt_at dt_X5_readUnit_1 7 rfl) ?_
        refine V_iload_n C (dt_at dt_X5_readUnit_1 8 rfl) 2 rfl rfl ?_
        obtain ⟨σ28, e27, h⟩ := bd_s h
        refine cv_X7_add C ww_408 72 x2 e27 (by omega) (Nat.le_of_ble_eq_true rfl) z0 (dt_at dt_X5_readUnit_1 9 rfl) ?_
        refine V_goto C 137 (dt_at dt_X5_readUnit_1 10 rfl) (by decide) ?_
        have e1_ := Option.some.inj h
        subst e1_
        exact V_vret C hR (dt_at dt_X5_readUnit_1 35 rfl)
  refine V_aload_n C (dt_at dt_X5_readUnit_0 0 rfl) 0 rfl rfl ?_
  obtain ⟨r1, e2, h⟩ := bd_s h
  refine cv_X5_next C ww_405  e2 (by omega) (Nat.le_of_ble_eq_true rfl) z0 (dt_at dt_X5_readUnit_0 1 rfl) ?_
  refine V_istore_n C [1, 2, 0] (lv' := [(0, .ref (ga G 5)), (1, .int x1), (2, .int r1)]) (dt_at dt_X5_readUnit_0 2 rfl) rfl (by decide) rfl ?_
  refine V_iload_n C (dt_at dt_X5_readUnit_0 3 rfl) 2 rfl rfl ?_
  obtain ⟨r4, e5, h⟩ := bd_s h
  refine cv_X5_isDigit C ww_406 r1 e5 (by omega) (Nat.le_of_ble_eq_true rfl) z0 (dt_at dt_X5_readUnit_0 4 rfl) ?_
  refine V_if_eq C 19 (dt_at dt_X5_readUnit_0 5 rfl) (by decide) (fun q7 => ?_) (fun q7 => ?_)
  · have h := ite_t q7 h
    refine V_iload_n C (dt_at dt_X5_readUnit_0 9 rfl) 2 rfl rfl ?_
    refine V_iconst C (-1) (dt_at dt_X5_readUnit_0 10 rfl) (by decide) ?_
    refine V_icmp_eq C 57 (dt_at dt_X5_readUnit_0 11 rfl) (by decide) (fun q8 => ?_) (fun q8 => ?_)
    · have h := ite_t q8 h
      exact J_57 r1 σ h
    · have h := ite_f q8 h
      refine V_aload_n C (dt_at dt_X5_readUnit_0 12 rfl) 0 rfl rfl ?_
      refine g_X5_25_5 C (dt_at dt_X5_readUnit_0 13 rfl) ?_
      refine V_iload_n C (dt_at dt_X5_readUnit_0 14 rfl) 2 rfl rfl ?_
      refine V_i2c C (dt_at dt_X5_readUnit_0 15 rfl) ?_
      obtain ⟨r9, e10, h⟩ := bd_s h
      refine cv_J0_indexOf_0f7a4 C ww_1133 (rc σ 5 2) ((r1.toUInt32 % 65536).toInt32) e10 (by omega) (Nat.le_of_ble_eq_true rfl) z0 (dt_at dt_X5_readUnit_0 16 rfl) ?_
      refine V_if_lt C 57 (dt_at dt_X5_readUnit_0 17 rfl) (by decide) (fun q12 => ?_) (fun q12 => ?_)
      · have h := ite_t q12 h
        exact J_57 r1 σ h
      · have h := ite_f q12 h
        refine V_aload_n C (dt_at dt_X5_readUnit_0 18 rfl) 0 rfl rfl ?_
        refine g_X5_14_5 C (dt_at dt_X5_readUnit_0 19 rfl) ?_
        refine V_iload_n C (dt_at dt_X5_readUnit_0 20 rfl) 2 rfl rfl ?_
        obtain ⟨σ15, e14, h⟩ := bd_s h
        refine cv_X7_add C ww_408 72 r1 e14 (by omega) (Nat.le_of_ble_eq_true rfl) z0 (dt_at dt_X5_readUnit_0 21 rfl) ?_
        refine V_aload_n C (dt_at dt_X5_readUnit_0 22 rfl) 0 rfl rfl ?_
        refine V_dup C (dt_at dt_X5_readUnit_0 23 rfl) rfl ?_
        refine g_X5_29_5 C (dt_at dt_X5_readUnit_0 24 rfl) ?_
        refine V_iconst C 1 (dt_at dt_X5_readUnit_0 25 rfl) (by decide) ?_
        refine V_iadd C (dt_at dt_X5_readUnit_0 26 rfl) ?_
        obtain ⟨σ16, eσ16, h⟩ := nm_s h
        refine V_st eσ16 ?_ (fun k => p_X5_29_5 C (dt_at dt_X5_readUnit_0 27 rfl) k)
        refine V_goto C 137 (dt_at dt_X5_readUnit_0 28 rfl) (by decide) ?_
        have e1_ := Option.some.inj h
        subst e1_
        exact V_vret C hR (dt_at dt_X5_readUnit_1 35 rfl)
  · have h := ite_f q7 h
    refine V_aload_n C (dt_at dt_X5_readUnit_0 6 rfl) 0 rfl rfl ?_
    obtain ⟨σ19, e18, h⟩ := bd_s h
    refine cv_X5_readNumber C ww_1134  e18 (by omega) (Nat.le_of_ble_eq_true rfl) z0 (dt_at dt_X5_readUnit_0 7 rfl) ?_
    refine V_goto C 137 (dt_at dt_X5_readUnit_0 8 rfl) (by decide) ?_
    have e1_ := Option.some.inj h
    subst e1_
    exact V_vret C hR (dt_at dt_X5_readUnit_1 35 rfl)
theorem c_X5_read (l : Launch) (G : Gx) : ∀ n : Nat, (∀ (x1 : Int32) (x2 : Int32) (σ : St) (σ0 : St), (f_X5_read n).1 x1 x2 σ = some σ0 → MI l G yX5_readLevel cX5_readLevel 6 none (n + 6) [.ref (ga G 5), .int x1, .int x2] σ none σ0) ∧ (∀ (x1 : Int32) (σ : St) (σ0 : St), (f_X5_read n).2 x1 σ = some σ0 → MI l G yX5_readUnit cX5_readUnit 3 none (n + 6) [.ref (ga G 5), .int x1] σ none σ0)
  | 0 => ⟨fun _ _ _ _ h => (by cases h), fun _ _ _ h => (by cases h)⟩
  | n + 1 => ⟨fun x1 x2 σ σ0 h => sc_X5_readLevel l G n (f_X5_read n).1 (f_X5_read n).2 (c_X5_read l G n).1 (c_X5_read l G n).2 x1 x2 σ σ0 h, fun x1 σ σ0 h => sc_X5_readUnit l G n (f_X5_read n).1 (f_X5_read n).2 (c_X5_read l G n).1 (c_X5_read l G n).2 x1 σ σ0 h⟩
theorem cv_X5_readLevel (C : Ck X G cc own nL d) {idx : Nat} (hlk : Cond.methodLink own idx yX5_readLevel ∈ gtb) (n : Nat) (x1 : Int32) (x2 : Int32) {σ0 : St} (e : f_X5_readLevel n x1 x2 σ = some σ0) (hdd : n + 6 + 1 ≤ d) (hroom : (rest.map fun v => v.category).sum ≤ 8) (hcs : cells ≤ (xR X).cells ∧ slots ≤ (xR X).slots) (hd : decode cc pc = .ok (.invokevirtual idx, 3)) (k : V X G nL cells slots σ0 (pc + 3) lv rest) : V X G nL cells slots σ pc lv (.int x2 :: .int x1 :: .ref (ga G 5) :: rest) := cm_X5_readLevel C hlk ((c_X5_read X.2.1 G n).1 x1 x2 σ σ0 e) hdd hroom hcs hd k
theorem dt_X5_reads_0 : dtab cX5_reads [(0, .aload_n 0, 1), (1, .aload_n 1, 1), (2, .putfield 20, 3), (5, .aload_n 0, 1), (6, .iload_n 2, 1), (7, .invokestatic 37, 3), (10, .putfield 25, 3), (13, .aload_n 0, 1), (14, .iconst 0, 1), (15, .putfield 29, 3), (18, .aload_n 0, 1), (19, .iconst 0, 1), (20, .putfield 33, 3), (23, .aload_n 0, 1), (24, .getfield 14, 3), (27, .iconst 0, 1), (28, .putfield 41, 3), (31, .aload_n 0, 1), (32, .iconst 0, 1), (33, .iconst 0, 1), (34, .invokevirtual 44, 3), (37, .aload_n 0, 1), (38, .getfield 33, 3), (41, .ifCond .ne 21, 3), (44, .aload_n 0, 1), (45, .getfield 29, 3), (48, .aload_n 0, 1), (49, .getfield 20, 3), (52, .getfield 41, 3), (55, .if_icmp .ne 7, 3), (58, .iconst 1, 1), (59, .goto 4, 3), (62, .iconst 0, 1), (63, .ireturn, 1)] = true := by decide +kernel
theorem cal_X5_reads : Cal yX5_reads cX5_reads 3 (some .boolean) 2 := ⟨ww_1140, ww_400, ⟨by decide, by decide, by decide⟩, by decide⟩
set_option maxHeartbeats 4000000 in
set_option maxRecDepth 100000 in
theorem c_X5_reads (l : Launch) (G : Gx) (x2 : Int32) (σ : St) (r0 : Int32) (σ0 : St) (h : f_X5_reads x2 σ = some (r0, σ0)) : MI l G yX5_reads cX5_reads 3 (some .boolean) 67 [.ref (ga G 5), .ref (ga G 52), .int x2] σ (some (.int r0)) σ0 := by
  refine MI_of RX5 rfl (by decide) [(0, .ref (ga G 5)), (1, .ref (ga G 52)), (2, .int x2)] rfl (Nat.le_of_ble_eq_true rfl) ?_
  intro X hXl C hR
  unfold f_X5_reads at h
  refine V_aload_n C (dt_at dt_X5_reads_0 0 rfl) 0 rfl rfl ?_
  refine V_aload_n C (dt_at dt_X5_reads_0 1 rfl) 1 rfl rfl ?_
  obtain ⟨σ1, eσ1, h⟩ := nm_s h
  refine V_st eσ1 ?_ (fun k => p_X5_20_5 C (lt31 rfl) (dt_at dt_X5_reads_0 2 rfl) k)
  refine V_aload_n C (dt_at dt_X5_reads_0 3 rfl) 0 rfl rfl ?_
  refine V_iload_n C (dt_at dt_X5_reads_0 4 rfl) 2 rfl rfl ?_
  obtain ⟨r2, e3, h⟩ := bd_s h
  refine cv_X5_namesOf C ww_1139 x2 e3 (Nat.le_of_ble_eq_true rfl) (Nat.le_of_ble_eq_true rfl) z0 (dt_at dt_X5_reads_0 5 rfl) ?_
  obtain ⟨h6, h⟩ := chk_s h
  obtain ⟨σ5, eσ5, h⟩ := nm_s h
  refine V_st eσ5 ?_ (fun k => p_X5_25_5 C (of_decide_eq_true h6) (dt_at dt_X5_reads_0 6 rfl) k)
  refine V_aload_n C (dt_at dt_X5_reads_0 7 rfl) 0 rfl rfl ?_
  refine V_iconst C 0 (dt_at dt_X5_reads_0 8 rfl) (by decide) ?_
  obtain ⟨σ7, eσ7, h⟩ := nm_s h
  refine V_st eσ7 ?_ (fun k => p_X5_29_5 C (dt_at dt_X5_reads_0 9 rfl) k)
  refine V_aload_n C (dt_at dt_X5_reads_0 10 rfl) 0 rfl rfl ?_
  refine V_iconst C 0 (dt_at dt_X5_reads_0 11 rfl) (by decide) ?_
  obtain ⟨σ8, eσ8, h⟩ := nm_s h
  refine V_st eσ8 ?_ (fun k => p_X5_33_5 C rfl rfl (dt_at dt_X5_reads_0 12 rfl) k)
  refine V_aload_n C (dt_at dt_X5_reads_0 13 rfl) 0 rfl rfl ?_
  refine g_X5_14_5 C (dt_at dt_X5_reads_0 14 rfl) ?_
  refine V_iconst C 0 (dt_at dt_X5_reads_0 15 rfl) (by decide) ?_
  obtain ⟨σ9, eσ9, h⟩ := nm_s h
  refine V_st eσ9 ?_ (fun k => p_X5_41_72 C (dt_at dt_X5_reads_0 16 rfl) k)
  refine V_aload_n C (dt_at dt_X5_reads_0 17 rfl) 0 rfl rfl ?_
  refine V_iconst C 0 (dt_at dt_X5_reads_0 18 rfl) (by decide) ?_
  refine V_iconst C 0 (dt_at dt_X5_reads_0 19 rfl) (by decide) ?_
  obtain ⟨σ12, e11, h⟩ := bd_s h
  refine cv_X5_readLevel C ww_1126 60 0 0 e11 (Nat.le_of_ble_eq_true rfl) (Nat.le_of_ble_eq_true rfl) z0 (dt_at dt_X5_reads_0 20 rfl) ?_
  refine V_aload_n C (dt_at dt_X5_reads_0 21 rfl) 0 rfl rfl ?_
  refine g_X5_33_5 C (dt_at dt_X5_reads_0 22 rfl) ?_
  refine V_if_ne C 62 (dt_at dt_X5_reads_0 23 rfl) (by decide) (fun q13 => ?_) (fun q13 => ?_)
  · have h := ite_f q13 h
    refine V_iconst C 0 (dt_at dt_X5_reads_0 32 rfl) (by decide) ?_
    obtain ⟨e1_, e2_⟩ := pin2 h
    subst e1_; subst e2_
    exact V_zret C rfl hR (dt_at dt_X5_reads_0 33 rfl)
  · have h := ite_t q13 h
    refine V_aload_n C (dt_at dt_X5_reads_0 24 rfl) 0 rfl rfl ?_
    refine g_X5_29_5 C (dt_at dt_X5_reads_0 25 rfl) ?_
    refine V_aload_n C (dt_at dt_X5_reads_0 26 rfl) 0 rfl rfl ?_
    refine g_X5_20_5 C (dt_at dt_X5_reads_0 27 rfl) ?_
    obtain ⟨h14, h⟩ := chk_s h
    refine gw_X5_41 C (K := (rc σ12 5 1)) h14 (dt_at dt_X5_reads_0 28 rfl) ?_
    refine V_icmp_ne C 62 (dt_at dt_X5_reads_0 29 rfl) (by decide) (fun q15 => ?_) (fun q15 => ?_)
    · have h := ite_f q15 h
      refine V_iconst C 0 (dt_at dt_X5_reads_0 32 rfl) (by decide) ?_
      obtain ⟨e1_, e2_⟩ := pin2 h
      subst e1_; subst e2_
      exact V_zret C rfl hR (dt_at dt_X5_reads_0 33 rfl)
    · have h := ite_t q15 h
      refine V_iconst C 1 (dt_at dt_X5_reads_0 30 rfl) (by decide) ?_
      refine V_goto C 63 (dt_at dt_X5_reads_0 31 rfl) (by decide) ?_
      obtain ⟨e1_, e2_⟩ := pin2 h
      subst e1_; subst e2_
      exact V_zret C rfl hR (dt_at dt_X5_reads_0 33 rfl)
theorem cv_X5_reads (C : Ck X G cc own nL d) {idx : Nat} (hlk : Cond.methodLink own idx yX5_reads ∈ gtb) (x2 : Int32) {r0 : Int32} {σ0 : St} (e : f_X5_reads x2 σ = some (r0, σ0)) (hdd : 68 ≤ d) (hroom : (rest.map fun v => v.category).sum ≤ 8) (hcs : cells ≤ (xR X).cells ∧ slots ≤ (xR X).slots) (hd : decode cc pc = .ok (.invokevirtual idx, 3)) (k : V X G nL cells slots σ0 (pc + 3) lv (.int r0 :: rest)) : V X G nL cells slots σ pc lv (.int x2 :: .ref (ga G 52) :: .ref (ga G 5) :: rest) := V_callV C (As := [.ref (ga G 52), .int x2]) (c_X5_reads X.2.1 G x2 σ r0 σ0 e) cal_X5_reads ww_1141 ww_1142 hlk rfl hdd (lt110 rfl) rfl rfl rfl hroom hcs hd k
theorem dt_X11_text_0 : dtab cX11_text [(0, .iload_n 1, 1), (1, .iconst 3, 1), (2, .invokestatic 79, 3), (5, .ifCond .ne 9, 3), (8, .aload_n 0, 1), (9, .iconst 1, 1), (10, .invokevirtual 68, 3), (13, .ireturn, 1), (14, .aload_n 0, 1), (15, .getfield 37, 3), (18, .aload_n 0, 1), (19, .getfield 12, 3), (22, .getfield 186, 3), (25, .iload_n 1, 1), (26, .invokevirtual 195, 3), (29, .istore_n 2, 1), (30, .aload_n 0, 1), (31, .getfield 12, 3), (34, .getfield 186, 3), (37, .iconst 0, 1), (38, .putfield 189, 3), (41, .iload_n 2, 1), (42, .ifCond .ne 14, 3), (45, .bipush (-10), 2), (47, .aload_n 0, 1), (48, .getfield 37, 3), (51, .getfield 199, 3), (54, .isub, 1), (55, .ireturn, 1), (56, .aload_n 0, 1), (57, .getfield 12, 3), (60, .getfield 202, 3), (63, .iload_n 1, 1), (64, .aaload, 1), (65, .aload_n 0, 1), (66, .getfield 37, 3), (69, .getfield 205, 3), (72, .invokevirtual 208, 3), (75, .iconst 1, 1), (76, .ireturn, 1)] = true := by decide +kernel
theorem cal_X11_text : Cal yX11_text cX11_text 3 (some .int) 1 := ⟨ww_1149, ww_100, ⟨by decide, by decide, by decide⟩, by decide⟩
set_option maxHeartbeats 4000000 in
set_option maxRecDepth 100000 in
theorem c_X11_text (l : Launch) (G : Gx) (x1 : Int32) (σ : St) (r0 : Int32) (σ0 : St) (h : f_X11_text x1 σ = some (r0, σ0)) : MI l G yX11_text cX11_text 3 (some .int) 68 [.ref (ga G 0), .int x1] σ (some (.int r0)) σ0 := by
  refine MI_of RX11 rfl (by decide) [(0, .ref (ga G 0)), (1, .int x1)] rfl (Nat.le_of_ble_eq_true rfl) ?_
  intro X hXl C hR
  unfold f_X11_text at h
  refine V_iload_n C (dt_at dt_X11_text_0 0 rfl) 1 rfl rfl ?_
  refine V_iconst C 3 (dt_at dt_X11_text_0 1 rfl) (by decide) ?_
  obtain ⟨r1, e2, h⟩ := bd_s h
  refine cv_X11_isWithin C ww_186 x1 3 e2 (Nat.le_of_ble_eq_true rfl) (Nat.le_of_ble_eq_true rfl) z0 (dt_at dt_X11_text_0 2 rfl) ?_
  refine V_if_ne C 14 (dt_at dt_X11_text_0 3 rfl) (by decide) (fun q4 => ?_) (fun q4 => ?_)
  · have h := ite_f q4 h
    refine V_aload_n C (dt_at dt_X11_text_0 8 rfl) 0 rfl rfl ?_
    refine g_X11_37_0 C (dt_at dt_X11_text_0 9 rfl) ?_
    refine V_aload_n C (dt_at dt_X11_text_0 10 rfl) 0 rfl rfl ?_
    refine g_X11_12_0 C (dt_at dt_X11_text_0 11 rfl) ?_
    refine g_X11_186_1 C (dt_at dt_X11_text_0 12 rfl) ?_
    refine V_iload_n C (dt_at dt_X11_text_0 13 rfl) 1 rfl rfl ?_
    obtain ⟨r5, σ7, e6, h⟩ := bd2_s h
    refine cv_X5_reads C ww_1144 x1 e6 (Nat.le_of_ble_eq_true rfl) (Nat.le_of_ble_eq_true rfl) z0 (dt_at dt_X11_text_0 14 rfl) ?_
    refine V_istore_n C [1, 2, 0] (lv' := [(0, .ref (ga G 0)), (1, .int x1), (2, .int r5)]) (dt_at dt_X11_text_0 15 rfl) rfl (by decide) rfl ?_
    refine V_aload_n C (dt_at dt_X11_text_0 16 rfl) 0 rfl rfl ?_
    refine g_X11_12_0 C (dt_at dt_X11_text_0 17 rfl) ?_
    refine g_X11_186_1 C (dt_at dt_X11_text_0 18 rfl) ?_
    refine V_iconst C 0 (dt_at dt_X11_text_0 19 rfl) (by decide) ?_
    obtain ⟨σ8, eσ8, h⟩ := nm_s h
    refine V_st eσ8 ?_ (fun k => p_X11_189_52 C (dt_at dt_X11_text_0 20 rfl) k)
    refine V_iload_n C (dt_at dt_X11_text_0 21 rfl) 2 rfl rfl ?_
    refine V_if_ne C 56 (dt_at dt_X11_text_0 22 rfl) (by decide) (fun q9 => ?_) (fun q9 => ?_)
    · have h := ite_f q9 h
      refine V_aload_n C (dt_at dt_X11_text_0 29 rfl) 0 rfl rfl ?_
      refine g_X11_12_0 C (dt_at dt_X11_text_0 30 rfl) ?_
      refine g_X11_202_1 C (dt_at dt_X11_text_0 31 rfl) ?_
      refine V_iload_n C (dt_at dt_X11_text_0 32 rfl) 1 rfl rfl ?_
      obtain ⟨h10, h⟩ := chk_s h
      refine V_aa19 C h10 (dt_at dt_X11_text_0 33 rfl) ?_
      have h11 : isRow (56 + 2 * x1.toNatClampNeg) = true := ok_19 h10
      refine V_aload_n C (dt_at dt_X11_text_0 34 rfl) 0 rfl rfl ?_
      refine g_X11_37_0 C (dt_at dt_X11_text_0 35 rfl) ?_
      refine g_X11_205_5 C (dt_at dt_X11_text_0 36 rfl) ?_
      obtain ⟨σ14, e13, h⟩ := bd_s h
      refine cv_X7_become C ww_1147 (56 + 2 * x1.toNatClampNeg) 72 e13 (Nat.le_of_ble_eq_true rfl) (Nat.le_of_ble_eq_true rfl) z0 (dt_at dt_X11_text_0 37 rfl) ?_
      refine V_iconst C 1 (dt_at dt_X11_text_0 38 rfl) (by decide) ?_
      obtain ⟨e1_, e2_⟩ := pin2 h
      subst e1_; subst e2_
      exact V_iret C hR (dt_at dt_X11_text_0 39 rfl)
    · have h := ite_t q9 h
      refine V_bipush C (-10) (dt_at dt_X11_text_0 23 rfl) (by decide) ?_
      refine V_aload_n C (dt_at dt_X11_text_0 24 rfl) 0 rfl rfl ?_
      refine g_X11_37_0 C (dt_at dt_X11_text_0 25 rfl) ?_
      refine g_X11_199_5 C (dt_at dt_X11_text_0 26 rfl) ?_
      refine V_isub C (dt_at dt_X11_text_0 27 rfl) ?_
      obtain ⟨e1_, e2_⟩ := pin2 h
      subst e1_; subst e2_
      exact V_iret C hR (dt_at dt_X11_text_0 28 rfl)
  · have h := ite_t q4 h
    refine V_aload_n C (dt_at dt_X11_text_0 4 rfl) 0 rfl rfl ?_
    refine V_iconst C 1 (dt_at dt_X11_text_0 5 rfl) (by decide) ?_
    obtain ⟨r15, σ17, e16, h⟩ := bd2_s h
    refine cv_X11_error C ww_193 1 e16 (Nat.le_of_ble_eq_true rfl) (Nat.le_of_ble_eq_true rfl) z0 (dt_at dt_X11_text_0 6 rfl) ?_
    obtain ⟨e1_, e2_⟩ := pin2 h
    subst e1_; subst e2_
    exact V_iret C hR (dt_at dt_X11_text_0 7 rfl)
theorem cv_X11_text (C : Ck X G cc own nL d) {idx : Nat} (hlk : Cond.methodLink own idx yX11_text ∈ gtb) (x1 : Int32) {r0 : Int32} {σ0 : St} (e : f_X11_text x1 σ = some (r0, σ0)) (hdd : 69 ≤ d) (hroom : (rest.map fun v => v.category).sum ≤ 8) (hcs : cells ≤ (xR X).cells ∧ slots ≤ (xR X).slots) (hd : decode cc pc = .ok (.invokevirtual idx, 3)) (k : V X G nL cells slots σ0 (pc + 3) lv (.int r0 :: rest)) : V X G nL cells slots σ pc lv (.int x1 :: .ref (ga G 0) :: rest) := V_callV C (As := [.int x1]) (c_X11_text X.2.1 G x1 σ r0 σ0 e) cal_X11_text ww_1150 ww_1151 hlk rfl hdd (lt110 rfl) rfl rfl rfl hroom hcs hd k
end WK
