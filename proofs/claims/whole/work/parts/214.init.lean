abbrev apw (a b : va_W) : va_W := a ++ b
abbrev stw (a : va_W) (i : Nat) (e : Nat × va_E) : va_W := a.set i e
theorem gl_l {A B : va_W} {r : Nat} {x : Nat × va_E} (h : A[r]? = some x) : (A ++ B)[r]? = some x := by rw [List.getElem?_append_left (List.getElem?_eq_some_iff.mp h).1]; exact h
theorem gl_r {A B : va_W} {r n : Nat} {x : Nat × va_E} (j : Nat) (hl : A.length = n) (h : n + j = r) (hb : B[j]? = some x) : (A ++ B)[r]? = some x := by subst hl; subst h; rw [List.getElem?_append_right (Nat.le_add_right _ _), Nat.add_sub_cancel_left]; exact hb
theorem st_ne {A : va_W} {r i : Nat} {e x : Nat × va_E} (hn : i ≠ r) (h : A[r]? = some x) : (A.set i e)[r]? = some x := by rw [List.getElem?_set_ne hn]; exact h
theorem st_eq {A : va_W} {i n : Nat} {e : Nat × va_E} (hl : A.length = n) (h : i < n) : (A.set i e)[i]? = some e := List.getElem?_set_self (hl ▸ h)
theorem la {A B : va_W} {n : Nat} (m : Nat) (h : A.length = n) (hb : B.length = m) : (A ++ B).length = n + m := by rw [List.length_append, h, hb]
theorem ls {A : va_W} {n i : Nat} {e : Nat × va_E} (h : A.length = n) : (A.set i e).length = n := by rw [List.length_set, h]
theorem lc {B : va_W} {m : Nat} {e : Nat × va_E} (h : B.length = m) : (e :: B).length = m + 1 := by rw [List.length_cons, h]
def nP_X4_init (G : Gx) (a : Nat → Nat) : va_E := .inr (4, [.int 100, .int 0, .int 0, .int 0, .ref (a 0), .ref (a 1), .ref (a 2), .ref (a 3), .ref (a 4), .ref (a 5), .ref (a 6), .ref (a 7), .ref (a 8), .ref (a 9), .ref (a 11), .ref (a 13)])
def nN_X4_init (G : Gx) (a : Nat → Nat) : va_W := (stw (apw (stw (apw (stw (apw (apw (apw (apw (apw (apw (apw (apw (apw (apw (apw (apw (apw [] [((a 0), .inl (gc G 3, 10, .inr (.inr (.inr (.inr (fun _ => none))))))]) [((a 1), .inl (gc G 0, (10, .inl (fun _ => 0))))]) [((a 2), .inl (gc G 0, (40, .inl (fun _ => 0))))]) [((a 3), .inl (gc G 0, (40, .inl (fun _ => 0))))]) [((a 4), .inl (gc G 0, (40, .inl (fun _ => 0))))]) [((a 5), .inl (gc G 0, (40, .inl (fun _ => 0))))]) [((a 6), .inl (gc G 0, (6, .inl (fun _ => 0))))]) [((a 7), .inl (gc G 0, (6, .inl (fun _ => 0))))]) [((a 8), .inl (gc G 0, (6, .inl (fun _ => 0))))]) (((a 9), .inr (7, [.ref (a 10), .int 0])) :: [((a 10), .inl (gc G 0, 50, .inl (fun _ => 0)))])) (((a 11), .inr (7, [.ref (a 12), .int 0])) :: [((a 12), .inl (gc G 0, 20, .inl (fun _ => 0)))])) [((a 13), .inl (gc G 4, 3, .inr (.inr (.inr (.inr (fun _ => none))))))]) (((a 14), .inr (7, [.ref (a 15), .int 0])) :: [((a 15), .inl (gc G 0, 50, .inl (fun _ => 0)))])) 13 ((a 13), .inl (gc G 4, 3, .inr (.inr (.inr (.inr (va_up (fun _ => none) 0 (some (a 14))))))))) (((a 16), .inr (7, [.ref (a 17), .int 0])) :: [((a 17), .inl (gc G 0, 50, .inl (fun _ => 0)))])) 13 ((a 13), .inl (gc G 4, 3, .inr (.inr (.inr (.inr (va_up (va_up (fun _ => none) 0 (some (a 14))) 1 (some (a 16))))))))) (((a 18), .inr (7, [.ref (a 19), .int 0])) :: [((a 19), .inl (gc G 0, 50, .inl (fun _ => 0)))])) 13 ((a 13), .inl (gc G 4, 3, .inr (.inr (.inr (.inr (va_up (va_up (va_up (fun _ => none) 0 (some (a 14))) 1 (some (a 16))) 2 (some (a 18)))))))))
theorem nl_X4_init (G : Gx) (a : Nat → Nat) : (nN_X4_init G a).length = 20 := rfl
theorem dt_X4_init_0 : dtab cX4_init [(0, .aload_n 0, 1), (1, .invokespecial 3, 3), (4, .aload_n 0, 1), (5, .bipush 100, 2), (7, .putfield 9, 3), (10, .aload_n 0, 1), (11, .iconst 0, 1), (12, .putfield 15, 3), (15, .aload_n 0, 1), (16, .iconst 0, 1), (17, .putfield 18, 3), (20, .aload_n 0, 1), (21, .iconst 0, 1), (22, .putfield 21, 3), (25, .aload_n 0, 1), (26, .bipush 10, 2), (28, .anewarray 24, 3), (31, .putfield 26, 3), (34, .aload_n 0, 1), (35, .bipush 10, 2), (37, .newarray .int, 2), (39, .putfield 30, 3), (42, .aload_n 0, 1), (43, .bipush 40, 2), (45, .newarray .int, 2), (47, .putfield 34, 3), (50, .aload_n 0, 1), (51, .bipush 40, 2), (53, .newarray .int, 2), (55, .putfield 37, 3), (58, .aload_n 0, 1), (59, .bipush 40, 2), (61, .newarray .int, 2), (63, .putfield 40, 3), (66, .aload_n 0, 1), (67, .bipush 40, 2), (69, .newarray .int, 2), (71, .putfield 43, 3), (74, .aload_n 0, 1), (75, .bipush 6, 2)] = true := by decide +kernel
theorem dt_X4_init_1 : dtab cX4_init [(77, .newarray .int, 2), (79, .putfield 46, 3), (82, .aload_n 0, 1), (83, .bipush 6, 2), (85, .newarray .int, 2), (87, .putfield 49, 3), (90, .aload_n 0, 1), (91, .bipush 6, 2), (93, .newarray .int, 2), (95, .putfield 52, 3), (98, .aload_n 0, 1), (99, .new 55, 3), (102, .dup, 1), (103, .bipush 50, 2), (105, .invokespecial 57, 3), (108, .putfield 60, 3), (111, .aload_n 0, 1), (112, .new 55, 3), (115, .dup, 1), (116, .bipush 20, 2), (118, .invokespecial 57, 3), (121, .putfield 64, 3), (124, .aload_n 0, 1), (125, .iconst 3, 1), (126, .anewarray 55, 3), (129, .putfield 67, 3), (132, .iconst 0, 1), (133, .istore_n 1, 1), (134, .iload_n 1, 1), (135, .iconst 3, 1), (136, .if_icmp .ge 24, 3), (139, .aload_n 0, 1), (140, .getfield 67, 3), (143, .iload_n 1, 1), (144, .new 55, 3), (147, .dup, 1), (148, .bipush 50, 2), (150, .invokespecial 57, 3), (153, .aastore, 1), (154, .iinc 1 1, 3)] = true := by decide +kernel
theorem dt_X4_init_2 : dtab cX4_init [(157, .goto (-23), 3), (160, .return_, 1)] = true := by decide +kernel
theorem cal_X4_init : Cal yX4_init cX4_init 2 none 0 := ⟨ww_1210, ww_92, ⟨by decide, by decide, by decide⟩, by decide⟩
set_option maxHeartbeats 4000000 in
set_option maxRecDepth 100000 in
theorem k_X4_init (l : Launch) (G : Gx) : KI l G yX4_init cX4_init 2 2 20 431 [] (.inr (4, [.int 0, .int 0, .int 0, .int 0, .null, .null, .null, .null, .null, .null, .null, .null, .null, .null, .null, .null])) (fun a => nP_X4_init G a) (nN_X4_init G) := by
  intro ws p h0 hp0
  have hp : p < ws.length := (List.getElem?_eq_some_iff.mp hp0).1
  refine MC_of RX4 rfl rfl (by decide) [(0, .ref h0)] rfl (Nat.le_of_ble_eq_true rfl) hp0 ?_
  intro X hXl C
  subst hXl
  refine C_aload_n C (dt_at dt_X4_init_0 0 rfl) 0 rfl rfl ?_
  refine C_obj C ww_1204 ⟨ww_1152, ww_1153⟩ (Nat.le_of_ble_eq_true rfl) (Nat.le_of_ble_eq_true rfl) (dt_at dt_X4_init_0 1 rfl) ?_
  refine C_aload_n C (dt_at dt_X4_init_0 2 rfl) 0 rfl rfl ?_
  refine C_bipush C 100 (dt_at dt_X4_init_0 3 rfl) (by decide) ?_
  refine C_put C (T := TX4) (N := 16) (j := 0) (ci := 4) (ty := .int) tyX4 tyX4_ok nmX4 hp rfl inX4 (by decide) ww_267 rfl rfl rfl rfl (Nat.le_of_ble_eq_true rfl) (dt_at dt_X4_init_0 4 rfl) ?_
  refine C_aload_n C (dt_at dt_X4_init_0 5 rfl) 0 rfl rfl ?_
  refine C_iconst C 0 (dt_at dt_X4_init_0 6 rfl) (by decide) ?_
  refine C_put C (T := TX4) (N := 16) (j := 1) (ci := 4) (ty := .int) tyX4 tyX4_ok nmX4 hp rfl inX4 (by decide) ww_102 rfl rfl rfl rfl (Nat.le_of_ble_eq_true rfl) (dt_at dt_X4_init_0 7 rfl) ?_
  refine C_aload_n C (dt_at dt_X4_init_0 8 rfl) 0 rfl rfl ?_
  refine C_iconst C 0 (dt_at dt_X4_init_0 9 rfl) (by decide) ?_
  refine C_put C (T := TX4) (N := 16) (j := 2) (ci := 4) (ty := .int) tyX4 tyX4_ok nmX4 hp rfl inX4 (by decide) ww_87 rfl rfl rfl rfl (Nat.le_of_ble_eq_true rfl) (dt_at dt_X4_init_0 10 rfl) ?_
  refine C_aload_n C (dt_at dt_X4_init_0 11 rfl) 0 rfl rfl ?_
  refine C_iconst C 0 (dt_at dt_X4_init_0 12 rfl) (by decide) ?_
  refine C_put C (T := TX4) (N := 16) (j := 3) (ci := 4) (ty := .int) tyX4 tyX4_ok nmX4 hp rfl inX4 (by decide) ww_111 rfl rfl rfl rfl (Nat.le_of_ble_eq_true rfl) (dt_at dt_X4_init_0 13 rfl) ?_
  refine C_aload_n C (dt_at dt_X4_init_0 14 rfl) 0 rfl rfl ?_
  refine C_bipush C 10 (dt_at dt_X4_init_0 15 rfl) (by decide) ?_
  refine C_newq C 3 rfl ww_1205 C.2.1.1 10 (by decide) (by decide) (Nat.le_of_ble_eq_true rfl) ⟨Nat.le_of_ble_eq_true rfl, Nat.le_of_ble_eq_true rfl⟩ (dt_at dt_X4_init_0 16 rfl) (fun q0 => ?_)
  refine C_put C (T := TX4) (N := 16) (j := 4) (ci := 4) (ty := .array (.object "FivePlayers$Role")) tyX4 tyX4_ok nmX4 hp rfl inX4 (by decide) ww_257 rfl rfl rfl rfl (Nat.le_of_ble_eq_true rfl) (dt_at dt_X4_init_0 17 rfl) ?_
  refine C_aload_n C (dt_at dt_X4_init_0 18 rfl) 0 rfl rfl ?_
  refine C_bipush C 10 (dt_at dt_X4_init_0 19 rfl) (by decide) ?_
  refine C_newa C (atype := .int) 0 rfl rfl (fun _ h => h) ww_1199 10 (10, .inl (fun _ => 0)) (fun _ => rfl) (by decide +kernel) (by decide +kernel) (Nat.le_of_ble_eq_true rfl) ⟨Nat.le_of_ble_eq_true rfl, Nat.le_of_ble_eq_true rfl⟩ (dt_at dt_X4_init_0 20 rfl) (fun q1 => ?_)
  refine C_put C (T := TX4) (N := 16) (j := 5) (ci := 4) (ty := .array .int) tyX4 tyX4_ok nmX4 hp rfl inX4 (by decide) ww_204 rfl rfl rfl rfl (Nat.le_of_ble_eq_true rfl) (dt_at dt_X4_init_0 21 rfl) ?_
  refine C_aload_n C (dt_at dt_X4_init_0 22 rfl) 0 rfl rfl ?_
  refine C_bipush C 40 (dt_at dt_X4_init_0 23 rfl) (by decide) ?_
  refine C_newa C (atype := .int) 0 rfl rfl (fun _ h => h) ww_1199 40 (40, .inl (fun _ => 0)) (fun _ => rfl) (by decide +kernel) (by decide +kernel) (Nat.le_of_ble_eq_true rfl) ⟨Nat.le_of_ble_eq_true rfl, Nat.le_of_ble_eq_true rfl⟩ (dt_at dt_X4_init_0 24 rfl) (fun q2 => ?_)
  refine C_put C (T := TX4) (N := 16) (j := 6) (ci := 4) (ty := .array .int) tyX4 tyX4_ok nmX4 hp rfl inX4 (by decide) ww_88 rfl rfl rfl rfl (Nat.le_of_ble_eq_true rfl) (dt_at dt_X4_init_0 25 rfl) ?_
  refine C_aload_n C (dt_at dt_X4_init_0 26 rfl) 0 rfl rfl ?_
  refine C_bipush C 40 (dt_at dt_X4_init_0 27 rfl) (by decide) ?_
  refine C_newa C (atype := .int) 0 rfl rfl (fun _ h => h) ww_1199 40 (40, .inl (fun _ => 0)) (fun _ => rfl) (by decide +kernel) (by decide +kernel) (Nat.le_of_ble_eq_true rfl) ⟨Nat.le_of_ble_eq_true rfl, Nat.le_of_ble_eq_true rfl⟩ (dt_at dt_X4_init_0 28 rfl) (fun q3 => ?_)
  refine C_put C (T := TX4) (N := 16) (j := 7) (ci := 4) (ty := .array .int) tyX4 tyX4_ok nmX4 hp rfl inX4 (by decide) ww_90 rfl rfl rfl rfl (Nat.le_of_ble_eq_true rfl) (dt_at dt_X4_init_0 29 rfl) ?_
  refine C_aload_n C (dt_at dt_X4_init_0 30 rfl) 0 rfl rfl ?_
  refine C_bipush C 40 (dt_at dt_X4_init_0 31 rfl) (by decide) ?_
  refine C_newa C (atype := .int) 0 rfl rfl (fun _ h => h) ww_1199 40 (40, .inl (fun _ => 0)) (fun _ => rfl) (by decide +kernel) (by decide +kernel) (Nat.le_of_ble_eq_true rfl) ⟨Nat.le_of_ble_eq_true rfl, Nat.le_of_ble_eq_true rfl⟩ (dt_at dt_X4_init_0 32 rfl) (fun q4 => ?_)
  refine C_put C (T := TX4) (N := 16) (j := 8) (ci := 4) (ty := .array .int) tyX4 tyX4_ok nmX4 hp rfl inX4 (by decide) ww_89 rfl rfl rfl rfl (Nat.le_of_ble_eq_true rfl) (dt_at dt_X4_init_0 33 rfl) ?_
  refine C_aload_n C (dt_at dt_X4_init_0 34 rfl) 0 rfl rfl ?_
  refine C_bipush C 40 (dt_at dt_X4_init_0 35 rfl) (by decide) ?_
  refine C_newa C (atype := .int) 0 rfl rfl (fun _ h => h) ww_1199 40 (40, .inl (fun _ => 0)) (fun _ => rfl) (by decide +kernel) (by decide +kernel) (Nat.le_of_ble_eq_true rfl) ⟨Nat.le_of_ble_eq_true rfl, Nat.le_of_ble_eq_true rfl⟩ (dt_at dt_X4_init_0 36 rfl) (fun q5 => ?_)
  refine C_put C (T := TX4) (N := 16) (j := 9) (ci := 4) (ty := .array .int) tyX4 tyX4_ok nmX4 hp rfl inX4 (by decide) ww_274 rfl rfl rfl rfl (Nat.le_of_ble_eq_true rfl) (dt_at dt_X4_init_0 37 rfl) ?_
  refine C_aload_n C (dt_at dt_X4_init_0 38 rfl) 0 rfl rfl ?_
  refine C_bipush C 6 (dt_at dt_X4_init_0 39 rfl) (by decide) ?_
  refine C_newa C (atype := .int) 0 rfl rfl (fun _ h => h) ww_1199 6 (6, .inl (fun _ => 0)) (fun _ => rfl) (by decide +kernel) (by decide +kernel) (Nat.le_of_ble_eq_true rfl) ⟨Nat.le_of_ble_eq_true rfl, Nat.le_of_ble_eq_true rfl⟩ (dt_at dt_X4_init_1 0 rfl) (fun q6 => ?_)
  refine C_put C (T := TX4) (N := 16) (j := 10) (ci := 4) (ty := .array .int) tyX4 tyX4_ok nmX4 hp rfl inX4 (by decide) ww_370 rfl rfl rfl rfl (Nat.le_of_ble_eq_true rfl) (dt_at dt_X4_init_1 1 rfl) ?_
  refine C_aload_n C (dt_at dt_X4_init_1 2 rfl) 0 rfl rfl ?_
  refine C_bipush C 6 (dt_at dt_X4_init_1 3 rfl) (by decide) ?_
  refine C_newa C (atype := .int) 0 rfl rfl (fun _ h => h) ww_1199 6 (6, .inl (fun _ => 0)) (fun _ => rfl) (by decide +kernel) (by decide +kernel) (Nat.le_of_ble_eq_true rfl) ⟨Nat.le_of_ble_eq_true rfl, Nat.le_of_ble_eq_true rfl⟩ (dt_at dt_X4_init_1 4 rfl) (fun q7 => ?_)
  refine C_put C (T := TX4) (N := 16) (j := 11) (ci := 4) (ty := .array .int) tyX4 tyX4_ok nmX4 hp rfl inX4 (by decide) ww_371 rfl rfl rfl rfl (Nat.le_of_ble_eq_true rfl) (dt_at dt_X4_init_1 5 rfl) ?_
  refine C_aload_n C (dt_at dt_X4_init_1 6 rfl) 0 rfl rfl ?_
  refine C_bipush C 6 (dt_at dt_X4_init_1 7 rfl) (by decide) ?_
  refine C_newa C (atype := .int) 0 rfl rfl (fun _ h => h) ww_1199 6 (6, .inl (fun _ => 0)) (fun _ => rfl) (by decide +kernel) (by decide +kernel) (Nat.le_of_ble_eq_true rfl) ⟨Nat.le_of_ble_eq_true rfl, Nat.le_of_ble_eq_true rfl⟩ (dt_at dt_X4_init_1 8 rfl) (fun q8 => ?_)
  refine C_put C (T := TX4) (N := 16) (j := 12) (ci := 4) (ty := .array .int) tyX4 tyX4_ok nmX4 hp rfl inX4 (by decide) ww_118 rfl rfl rfl rfl (Nat.le_of_ble_eq_true rfl) (dt_at dt_X4_init_1 9 rfl) ?_
  refine C_aload_n C (dt_at dt_X4_init_1 10 rfl) 0 rfl rfl ?_
  refine C_new C (T := TX7) (N := 2) (ci := 7) tyX7 tyX7_ok rfl inX7 ww_1206 ww_1207 ww_17 [.null, .int 0] (by decide +kernel) ⟨Nat.le_of_ble_eq_true rfl, Nat.le_of_ble_eq_true rfl⟩ (dt_at dt_X4_init_1 11 rfl) (fun q9 => ?_)
  refine C_dup C (dt_at dt_X4_init_1 12 rfl) rfl ?_
  refine C_bipush C 50 (dt_at dt_X4_init_1 13 rfl) (by decide) ?_
  refine C_callL C (k_X7_init X.2.1 G 50 50 (by decide +kernel) (by decide +kernel) (Nat.le_of_ble_eq_true rfl)) cal_X7_init ww_1208 ww_1209 rfl rfl (Nat.le_of_ble_eq_true rfl) rfl (Nat.le_of_ble_eq_true rfl) ⟨Nat.le_of_ble_eq_true rfl, Nat.le_of_ble_eq_true rfl⟩ (dt_at dt_X4_init_1 14 rfl) (fun a10 => ?_)
  refine C_put C (T := TX4) (N := 16) (j := 13) (ci := 4) (ty := .object "FivePlayers$Row") tyX4 tyX4_ok nmX4 hp rfl inX4 (by decide) ww_1047 rfl rfl rfl rfl (Nat.le_of_ble_eq_true rfl) (dt_at dt_X4_init_1 15 rfl) ?_
  refine C_aload_n C (dt_at dt_X4_init_1 16 rfl) 0 rfl rfl ?_
  refine C_new C (T := TX7) (N := 2) (ci := 7) tyX7 tyX7_ok rfl inX7 ww_1206 ww_1207 ww_17 [.null, .int 0] (by decide +kernel) ⟨Nat.le_of_ble_eq_true rfl, Nat.le_of_ble_eq_true rfl⟩ (dt_at dt_X4_init_1 17 rfl) (fun q11 => ?_)
  refine C_dup C (dt_at dt_X4_init_1 18 rfl) rfl ?_
  refine C_bipush C 20 (dt_at dt_X4_init_1 19 rfl) (by decide) ?_
  refine C_callL C (k_X7_init X.2.1 G 20 20 (by decide +kernel) (by decide +kernel) (Nat.le_of_ble_eq_true rfl)) cal_X7_init ww_1208 ww_1209 rfl rfl (Nat.le_of_ble_eq_true rfl) rfl (Nat.le_of_ble_eq_true rfl) ⟨Nat.le_of_ble_eq_true rfl, Nat.le_of_ble_eq_true rfl⟩ (dt_at dt_X4_init_1 20 rfl) (fun a12 => ?_)
  refine C_put C (T := TX4) (N := 16) (j := 14) (ci := 4) (ty := .object "FivePlayers$Row") tyX4 tyX4_ok nmX4 hp rfl inX4 (by decide) ww_1049 rfl rfl rfl rfl (Nat.le_of_ble_eq_true rfl) (dt_at dt_X4_init_1 21 rfl) ?_
  refine C_aload_n C (dt_at dt_X4_init_1 22 rfl) 0 rfl rfl ?_
  refine C_iconst C 3 (dt_at dt_X4_init_1 23 rfl) (by decide) ?_
  refine C_newq C 4 rfl ww_1206 C.2.1.2.1 3 (by decide) (by decide) (Nat.le_of_ble_eq_true rfl) ⟨Nat.le_of_ble_eq_true rfl, Nat.le_of_ble_eq_true rfl⟩ (dt_at dt_X4_init_1 24 rfl) (fun q13 => ?_)
  refine C_put C (T := TX4) (N := 16) (j := 15) (ci := 4) (ty := .array (.object "FivePlayers$Row")) tyX4 tyX4_ok nmX4 hp rfl inX4 (by decide) ww_239 rfl rfl rfl rfl (Nat.le_of_ble_eq_true rfl) (dt_at dt_X4_init_1 25 rfl) ?_
  refine C_iconst C 0 (dt_at dt_X4_init_1 26 rfl) (by decide) ?_
  refine C_istore_n C [1, 0] (lv' := [(0, .ref h0), (1, .int 0)]) (dt_at dt_X4_init_1 27 rfl) rfl (by decide) rfl ?_
  refine C_iload_n C (dt_at dt_X4_init_1 28 rfl) 1 rfl rfl ?_
  refine C_iconst C 3 (dt_at dt_X4_init_1 29 rfl) (by decide) ?_
  refine C_geF C 160 (dt_at dt_X4_init_1 30 rfl) (by decide) (by decide) ?_
  refine C_aload_n C (dt_at dt_X4_init_1 31 rfl) 0 rfl rfl ?_
  refine C_get C (T := TX4) (N := 16) (j := 15) (ci := 4) hp rfl inX4 (by decide) ww_239 rfl (dt_at dt_X4_init_1 32 rfl) ?_
  refine C_iload_n C (dt_at dt_X4_init_1 33 rfl) 1 rfl rfl ?_
  refine C_new C (T := TX7) (N := 2) (ci := 7) tyX7 tyX7_ok rfl inX7 ww_1206 ww_1207 ww_17 [.null, .int 0] (by decide +kernel) ⟨Nat.le_of_ble_eq_true rfl, Nat.le_of_ble_eq_true rfl⟩ (dt_at dt_X4_init_1 34 rfl) (fun q14 => ?_)
  refine C_dup C (dt_at dt_X4_init_1 35 rfl) rfl ?_
  refine C_bipush C 50 (dt_at dt_X4_init_1 36 rfl) (by decide) ?_
  refine C_callL C (k_X7_init X.2.1 G 50 50 (by decide +kernel) (by decide +kernel) (Nat.le_of_ble_eq_true rfl)) cal_X7_init ww_1208 ww_1209 rfl rfl (Nat.le_of_ble_eq_true rfl) rfl (Nat.le_of_ble_eq_true rfl) ⟨Nat.le_of_ble_eq_true rfl, Nat.le_of_ble_eq_true rfl⟩ (dt_at dt_X4_init_1 37 rfl) (fun a15 => ?_)
  refine C_aast C 4 13 14 rfl (gl_l (gl_r 0 (la 2 (la 2 (la 1 (la 1 (la 1 (la 1 (la 1 (la 1 (la 1 (la 1 (la 1 rfl rfl) rfl) rfl) rfl) rfl) rfl) rfl) rfl) rfl) rfl) rfl) rfl rfl)) (gl_r 0 (la 1 (la 2 (la 2 (la 1 (la 1 (la 1 (la 1 (la 1 (la 1 (la 1 (la 1 (la 1 rfl rfl) rfl) rfl) rfl) rfl) rfl) rfl) rfl) rfl) rfl) rfl) rfl) rfl rfl) rfl (by decide +kernel) (dt_at dt_X4_init_1 38 rfl) ?_
  refine C_iinc C 1 1 [1, 0] (lv' := [(0, .ref h0), (1, .int 1)]) (dt_at dt_X4_init_1 39 rfl) rfl (by decide) (by decide) rfl ?_
  refine C_goto C 134 (dt_at dt_X4_init_2 0 rfl) (by decide) ?_
  refine C_iload_n C (dt_at dt_X4_init_1 28 rfl) 1 rfl rfl ?_
  refine C_iconst C 3 (dt_at dt_X4_init_1 29 rfl) (by decide) ?_
  refine C_geF C 160 (dt_at dt_X4_init_1 30 rfl) (by decide) (by decide) ?_
  refine C_aload_n C (dt_at dt_X4_init_1 31 rfl) 0 rfl rfl ?_
  refine C_get C (T := TX4) (N := 16) (j := 15) (ci := 4) hp rfl inX4 (by decide) ww_239 rfl (dt_at dt_X4_init_1 32 rfl) ?_
  refine C_iload_n C (dt_at dt_X4_init_1 33 rfl) 1 rfl rfl ?_
  refine C_new C (T := TX7) (N := 2) (ci := 7) tyX7 tyX7_ok rfl inX7 ww_1206 ww_1207 ww_17 [.null, .int 0] (by decide +kernel) ⟨Nat.le_of_ble_eq_true rfl, Nat.le_of_ble_eq_true rfl⟩ (dt_at dt_X4_init_1 34 rfl) (fun q16 => ?_)
  refine C_dup C (dt_at dt_X4_init_1 35 rfl) rfl ?_
  refine C_bipush C 50 (dt_at dt_X4_init_1 36 rfl) (by decide) ?_
  refine C_callL C (k_X7_init X.2.1 G 50 50 (by decide +kernel) (by decide +kernel) (Nat.le_of_ble_eq_true rfl)) cal_X7_init ww_1208 ww_1209 rfl rfl (Nat.le_of_ble_eq_true rfl) rfl (Nat.le_of_ble_eq_true rfl) ⟨Nat.le_of_ble_eq_true rfl, Nat.le_of_ble_eq_true rfl⟩ (dt_at dt_X4_init_1 37 rfl) (fun a17 => ?_)
  refine C_aast C 4 13 16 rfl (gl_l (st_eq (la 2 (la 1 (la 2 (la 2 (la 1 (la 1 (la 1 (la 1 (la 1 (la 1 (la 1 (la 1 (la 1 rfl rfl) rfl) rfl) rfl) rfl) rfl) rfl) rfl) rfl) rfl) rfl) rfl) rfl) (Nat.le_of_ble_eq_true rfl))) (gl_r 0 (ls (la 2 (la 1 (la 2 (la 2 (la 1 (la 1 (la 1 (la 1 (la 1 (la 1 (la 1 (la 1 (la 1 rfl rfl) rfl) rfl) rfl) rfl) rfl) rfl) rfl) rfl) rfl) rfl) rfl) rfl)) rfl rfl) rfl (by decide +kernel) (dt_at dt_X4_init_1 38 rfl) ?_
  refine C_iinc C 2 1 [1, 0] (lv' := [(0, .ref h0), (1, .int 2)]) (dt_at dt_X4_init_1 39 rfl) rfl (by decide) (by decide) rfl ?_
  refine C_goto C 134 (dt_at dt_X4_init_2 0 rfl) (by decide) ?_
  refine C_iload_n C (dt_at dt_X4_init_1 28 rfl) 1 rfl rfl ?_
  refine C_iconst C 3 (dt_at dt_X4_init_1 29 rfl) (by decide) ?_
  refine C_geF C 160 (dt_at dt_X4_init_1 30 rfl) (by decide) (by decide) ?_
  refine C_aload_n C (dt_at dt_X4_init_1 31 rfl) 0 rfl rfl ?_
  refine C_get C (T := TX4) (N := 16) (j := 15) (ci := 4) hp rfl inX4 (by decide) ww_239 rfl (dt_at dt_X4_init_1 32 rfl) ?_
  refine C_iload_n C (dt_at dt_X4_init_1 33 rfl) 1 rfl rfl ?_
  refine C_new C (T := TX7) (N := 2) (ci := 7) tyX7 tyX7_ok rfl inX7 ww_1206 ww_1207 ww_17 [.null, .int 0] (by decide +kernel) ⟨Nat.le_of_ble_eq_true rfl, Nat.le_of_ble_eq_true rfl⟩ (dt_at dt_X4_init_1 34 rfl) (fun q18 => ?_)
  refine C_dup C (dt_at dt_X4_init_1 35 rfl) rfl ?_
  refine C_bipush C 50 (dt_at dt_X4_init_1 36 rfl) (by decide) ?_
  refine C_callL C (k_X7_init X.2.1 G 50 50 (by decide +kernel) (by decide +kernel) (Nat.le_of_ble_eq_true rfl)) cal_X7_init ww_1208 ww_1209 rfl rfl (Nat.le_of_ble_eq_true rfl) rfl (Nat.le_of_ble_eq_true rfl) ⟨Nat.le_of_ble_eq_true rfl, Nat.le_of_ble_eq_true rfl⟩ (dt_at dt_X4_init_1 37 rfl) (fun a19 => ?_)
  refine C_aast C 4 13 18 rfl (gl_l (st_eq (la 2 (ls (la 2 (la 1 (la 2 (la 2 (la 1 (la 1 (la 1 (la 1 (la 1 (la 1 (la 1 (la 1 (la 1 rfl rfl) rfl) rfl) rfl) rfl) rfl) rfl) rfl) rfl) rfl) rfl) rfl) rfl)) rfl) (Nat.le_of_ble_eq_true rfl))) (gl_r 0 (ls (la 2 (ls (la 2 (la 1 (la 2 (la 2 (la 1 (la 1 (la 1 (la 1 (la 1 (la 1 (la 1 (la 1 (la 1 rfl rfl) rfl) rfl) rfl) rfl) rfl) rfl) rfl) rfl) rfl) rfl) rfl) rfl)) rfl)) rfl rfl) rfl (by decide +kernel) (dt_at dt_X4_init_1 38 rfl) ?_
  refine C_iinc C 3 1 [1, 0] (lv' := [(0, .ref h0), (1, .int 3)]) (dt_at dt_X4_init_1 39 rfl) rfl (by decide) (by decide) rfl ?_
  refine C_goto C 134 (dt_at dt_X4_init_2 0 rfl) (by decide) ?_
  refine C_iload_n C (dt_at dt_X4_init_1 28 rfl) 1 rfl rfl ?_
  refine C_iconst C 3 (dt_at dt_X4_init_1 29 rfl) (by decide) ?_
  refine C_geT C 160 (dt_at dt_X4_init_1 30 rfl) (by decide) (by decide) ?_
  refine C_vret C ⟨Nat.le_of_ble_eq_true rfl, Nat.le_of_ble_eq_true rfl⟩ ⟨fun i => ([q0, q1, q2, q3, q4, q5, q6, q7, q8, q9, (a10 0), q11, (a12 0), q13, q14, (a15 0), q16, (a17 0), q18, (a19 0)] : List Nat).getD i 0, rfl⟩ (dt_at dt_X4_init_2 1 rfl)
