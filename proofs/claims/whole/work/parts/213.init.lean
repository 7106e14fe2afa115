theorem dt_X7_init_0 : dtab cX7_init [(0, .aload_n 0, 1), (1, .invokespecial 1, 3), (4, .aload_n 0, 1), (5, .iconst 0, 1), (6, .putfield 7, 3), (9, .aload_n 0, 1), (10, .iload_n 1, 1), (11, .newarray .int, 2), (13, .putfield 13, 3), (16, .return_, 1)] = true := by decide +kernel
theorem cal_X7_init : Cal yX7_init cX7_init 2 none 1 := ⟨ww_1203, ww_17, ⟨by decide, by decide, by decide⟩, by decide⟩
set_option maxHeartbeats 4000000 in
set_option maxRecDepth 100000 in
theorem k_X7_init (l : Launch) (G : Gx) (x1 : Int32) (N : Nat) (hn : ¬ x1 < 0) (hN : x1.toNatClampNeg = N) (hb : N * componentBytes .int ≤ 536870912) : KI l G yX7_init cX7_init 2 1 1 N [.int x1] (.inr (7, [.null, .int 0])) (fun a => .inr (7, [.ref (a 0), .int 0])) (fun a => [(a 0, .inl (gc G 0, N, .inl (fun _ => 0)))]) := by
  intro ws p h0 hp0
  have hp : p < ws.length := (List.getElem?_eq_some_iff.mp hp0).1
  refine MC_of RX7 rfl rfl (by decide) [(0, .ref h0), (1, .int x1)] rfl (Nat.le_of_ble_eq_true rfl) hp0 ?_
  intro X hXl C
  subst hXl
  refine C_aload_n C (dt_at dt_X7_init_0 0 rfl) 0 rfl rfl ?_
  refine C_obj C ww_1202 ⟨ww_1152, ww_1153⟩ (Nat.le_of_ble_eq_true rfl) (Nat.le_of_ble_eq_true rfl) (dt_at dt_X7_init_0 1 rfl) ?_
  refine C_aload_n C (dt_at dt_X7_init_0 2 rfl) 0 rfl rfl ?_
  refine C_iconst C 0 (dt_at dt_X7_init_0 3 rfl) (by decide) ?_
  refine C_put C (T := TX7) (N := 2) (j := 1) (ci := 7) (ty := .int) tyX7 tyX7_ok nmX7 hp rfl inX7 (by decide) ww_14 rfl rfl rfl rfl (Nat.le_of_ble_eq_true rfl) (dt_at dt_X7_init_0 4 rfl) ?_
  refine C_aload_n C (dt_at dt_X7_init_0 5 rfl) 0 rfl rfl ?_
  refine C_iload_n C (dt_at dt_X7_init_0 6 rfl) 1 rfl rfl ?_
  refine C_newa C (atype := .int) 0 rfl rfl (fun _ h => h) ww_1199 N (N, .inl (fun _ => 0)) (fun _ => rfl) hn hN hb ⟨Nat.le_refl _, by rw [Nat.zero_add]; exact Nat.le_refl _⟩ (dt_at dt_X7_init_0 7 rfl) (fun q0 => ?_)
  refine C_put C (T := TX7) (N := 2) (j := 0) (ci := 7) (ty := .array .int) tyX7 tyX7_ok nmX7 hp rfl inX7 (by decide) ww_15 rfl rfl rfl rfl (Nat.le_of_ble_eq_true rfl) (dt_at dt_X7_init_0 8 rfl) ?_
  refine C_vret C ⟨Nat.le_refl _, by rw [Nat.zero_add]; exact Nat.le_refl _⟩ ⟨fun _ => q0, rfl⟩ (dt_at dt_X7_init_0 9 rfl)
