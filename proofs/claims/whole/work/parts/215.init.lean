def gblk (G : Gx) (q N K : Nat) (r : Nat → Nat) : va_W := [(q, .inl (gc G 5, N, .inr (.inr (.inr (.inr (fun i => if i < N then some (r i) else none))))))] ++ (List.range N).map (fun i => (r i, .inl (gc G 0, K, .inl (fun _ => 0))))
theorem gr_eq {G : Gx} {q N K : Nat} {r a : Nat → Nat} (h : ∀ i, i < N → r i = a i) : gblk G q N K r = gblk G q N K a := by
  unfold gblk
  have e1 : (fun i => if i < N then some (r i) else none) = (fun i => if i < N then some (a i) else none) := funext fun i => by
    by_cases q : i < N
    · rw [if_pos q, if_pos q, h i q]
    · rw [if_neg q, if_neg q]
  rw [e1]
  congr 1
  apply List.map_congr_left
  intro i hi
  rw [h i (List.mem_range.mp hi)]
theorem lt6 {P : Nat → Prop} (h0 : P 0) (h1 : P 1) (h2 : P 2) (h3 : P 3) (h4 : P 4) (h5 : P 5) : ∀ i, i < 6 → P i
  | 0, _ => h0
  | 1, _ => h1
  | 2, _ => h2
  | 3, _ => h3
  | 4, _ => h4
  | 5, _ => h5
theorem C_mnaG {X : Xx} {G : Gx} {cc : ByteArray} {own : String} {nL d mc ms cells slots pc p : Nat} {Post : va_W → Prop} {ws news : va_W} {P : Nat × va_E} {lv : List (Nat × Value)} {rest : List Value} (C : Cc X G cc own nL d mc ms Post) {idx : Nat} (hcl : Cond.classLink own idx "[[I" ∈ gtb) (harr : Cond.arrayClass .int ∈ gtb) {n k : Int32} (N K : Nat) (hn : ¬ n < 0) (hk : ¬ k < 0) (hN : n.toNatClampNeg = N) (hM : k.toNatClampNeg = K) (hb1 : N * 4 ≤ 536870912) (hb2 : K * 4 ≤ 536870912) (hcs : cells + (1 + N) ≤ mc ∧ slots + (N + N * K) ≤ ms) (hd : decode cc pc = .ok (.multianewarray idx 2, 4)) (kk : ∀ (q : Nat) (r : Nat → Nat), VC X G nL (cells + 1 + N) (slots + N + N * K) ws p P (news ++ gblk G q N K r) (pc + 4) lv (.ref q :: rest)) : VC X G nL cells slots ws p P news pc lv (.int k :: .int n :: rest) := C_mna C hcl harr N K hn hk hN hM hb1 hb2 hcs hd (fun q r => kk q r)
theorem C_iastN {X : Xx} {G : Gx} {cc : ByteArray} {own : String} {nL d mc ms cells slots pc p : Nat} {Post : va_W → Prop} {ws news : va_W} {P : Nat × va_E} {lv : List (Nat × Value)} {rest : List Value} (C : Cc X G cc own nL d mc ms Post) {n q : Nat} {f : Nat → Int32} {i x : Int32} (r j : Nat) (hr : news[r]? = some (q, .inl (gc G 0, n, .inl f))) (hin : inb i n = true) (hj : i.toNatClampNeg = j) (hd : decode cc pc = .ok (.iastore, 1)) (k : VC X G nL cells slots ws p P (news.set r (q, .inl (gc G 0, n, .inl (upd f j x)))) (pc + 1) lv rest) : VC X G nL cells slots ws p P news pc lv (.int x :: .int i :: .ref q :: rest) := by
  subst hj
  exact C_iast C r hr hin hd k
def nP_X10_init (G : Gx) (a : Nat → Nat) (b1 : Nat) : va_E := .inr (10, [.ref b1, .ref (a 0), .ref (a 1), .ref (a 2), .int 0, .int 0, .int 0])
def nN_X10_init (G : Gx) (a : Nat → Nat) : va_W := (apw (apw (apw [] [((a 0), .inl (gc G 0, (26, .inl (fun _ => 0))))]) [((a 1), .inl (gc G 0, (50, .inl (fun _ => 0))))]) [((a 2), .inl (gc G 0, (10, .inl (fun _ => 0))))])
theorem nl_X10_init (G : Gx) (a : Nat → Nat) : (nN_X10_init G a).length = 3 := (la 1 (la 1 (la 1 rfl rfl) rfl) rfl)
theorem dt_X10_init_0 : dtab cX10_init [(0, .aload_n 0, 1), (1, .invokespecial 3, 3), (4, .aload_n 0, 1), (5, .bipush 26, 2), (7, .newarray .int, 2), (9, .putfield 9, 3), (12, .aload_n 0, 1), (13, .bipush 50, 2), (15, .newarray .int, 2), (17, .putfield 15, 3), (20, .aload_n 0, 1), (21, .bipush 10, 2), (23, .newarray .int, 2), (25, .putfield 18, 3), (28, .aload_n 0, 1), (29, .iconst 0, 1), (30, .putfield 21, 3), (33, .aload_n 0, 1), (34, .iconst 0, 1), (35, .putfield 25, 3), (38, .aload_n 0, 1), (39, .iconst 0, 1), (40, .putfield 28, 3), (43, .aload_n 0, 1), (44, .aload_n 1, 1), (45, .putfield 31, 3), (48, .return_, 1)] = true := by decide +kernel
theorem cal_X10_init : Cal yX10_init cX10_init 2 none 1 := ⟨ww_1212, ww_24, ⟨by decide, by decide, by decide⟩, by decide⟩
set_option maxHeartbeats 4000000 in
set_option maxRecDepth 100000 in
theorem k_X10_init (l : Launch) (G : Gx) (b1 : Nat) : KI l G yX10_init cX10_init 2 1 3 86 [.ref b1] (.inr (10, [.null, .null, .null, .null, .int 0, .int 0, .int 0])) (fun a => nP_X10_init G a b1) (nN_X10_init G) := by
  intro ws p h0 hp0
  have hp : p < ws.length := (List.getElem?_eq_some_iff.mp hp0).1
  refine MC_of RX10 rfl rfl (by decide) [(0, .ref h0), (1, .ref b1)] rfl (Nat.le_of_ble_eq_true rfl) hp0 ?_
  intro X hXl C
  subst hXl
  refine C_aload_n C (dt_at dt_X10_init_0 0 rfl) 0 rfl rfl ?_
  refine C_obj C ww_1211 ⟨ww_1152, ww_1153⟩ (Nat.le_of_ble_eq_true rfl) (Nat.le_of_ble_eq_true rfl) (dt_at dt_X10_init_0 1 rfl) ?_
  refine C_aload_n C (dt_at dt_X10_init_0 2 rfl) 0 rfl rfl ?_
  refine C_bipush C 26 (dt_at dt_X10_init_0 3 rfl) (by decide) ?_
  refine C_newa C (atype := .int) 0 rfl rfl (fun _ h => h) ww_1199 26 (26, .inl (fun _ => 0)) (fun _ => rfl) (by decide +kernel) (by decide +kernel) (Nat.le_of_ble_eq_true rfl) ⟨Nat.le_of_ble_eq_true rfl, Nat.le_of_ble_eq_true rfl⟩ (dt_at dt_X10_init_0 4 rfl) (fun q0 => ?_)
  refine C_put C (T := TX10) (N := 7) (j := 1) (ci := 10) (ty := .array .int) tyX10 tyX10_ok nmX10 hp rfl inX10 (by decide) ww_27 rfl rfl rfl rfl (Nat.le_of_ble_eq_true rfl) (dt_at dt_X10_init_0 5 rfl) ?_
  refine C_aload_n C (dt_at dt_X10_init_0 6 rfl) 0 rfl rfl ?_
  refine C_bipush C 50 (dt_at dt_X10_init_0 7 rfl) (by decide) ?_
  refine C_newa C (atype := .int) 0 rfl rfl (fun _ h => h) ww_1199 50 (50, .inl (fun _ => 0)) (fun _ => rfl) (by decide +kernel) (by decide +kernel) (Nat.le_of_ble_eq_true rfl) ⟨Nat.le_of_ble_eq_true rfl, Nat.le_of_ble_eq_true rfl⟩ (dt_at dt_X10_init_0 8 rfl) (fun q1 => ?_)
  refine C_put C (T := TX10) (N := 7) (j := 2) (ci := 10) (ty := .array .int) tyX10 tyX10_ok nmX10 hp rfl inX10 (by decide) ww_35 rfl rfl rfl rfl (Nat.le_of_ble_eq_true rfl) (dt_at dt_X10_init_0 9 rfl) ?_
  refine C_aload_n C (dt_at dt_X10_init_0 10 rfl) 0 rfl rfl ?_
  refine C_bipush C 10 (dt_at dt_X10_init_0 11 rfl) (by decide) ?_
  refine C_newa C (atype := .int) 0 rfl rfl (fun _ h => h) ww_1199 10 (10, .inl (fun _ => 0)) (fun _ => rfl) (by decide +kernel) (by decide +kernel) (Nat.le_of_ble_eq_true rfl) ⟨Nat.le_of_ble_eq_true rfl, Nat.le_of_ble_eq_true rfl⟩ (dt_at dt_X10_init_0 12 rfl) (fun q2 => ?_)
  refine C_put C (T := TX10) (N := 7) (j := 3) (ci := 10) (ty := .array .int) tyX10 tyX10_ok nmX10 hp rfl inX10 (by decide) ww_981 rfl rfl rfl rfl (Nat.le_of_ble_eq_true rfl) (dt_at dt_X10_init_0 13 rfl) ?_
  refine C_aload_n C (dt_at dt_X10_init_0 14 rfl) 0 rfl rfl ?_
  refine C_iconst C 0 (dt_at dt_X10_init_0 15 rfl) (by decide) ?_
  refine C_put C (T := TX10) (N := 7) (j := 4) (ci := 10) (ty := .int) tyX10 tyX10_ok nmX10 hp rfl inX10 (by decide) ww_975 rfl rfl rfl rfl (Nat.le_of_ble_eq_true rfl) (dt_at dt_X10_init_0 16 rfl) ?_
  refine C_aload_n C (dt_at dt_X10_init_0 17 rfl) 0 rfl rfl ?_
  refine C_iconst C 0 (dt_at dt_X10_init_0 18 rfl) (by decide) ?_
  refine C_put C (T := TX10) (N := 7) (j := 5) (ci := 10) (ty := .int) tyX10 tyX10_ok nmX10 hp rfl inX10 (by decide) ww_970 rfl rfl rfl rfl (Nat.le_of_ble_eq_true rfl) (dt_at dt_X10_init_0 19 rfl) ?_
  refine C_aload_n C (dt_at dt_X10_init_0 20 rfl) 0 rfl rfl ?_
  refine C_iconst C 0 (dt_at dt_X10_init_0 21 rfl) (by decide) ?_
  refine C_put C (T := TX10) (N := 7) (j := 6) (ci := 10) (ty := .int) tyX10 tyX10_ok nmX10 hp rfl inX10 (by decide) ww_963 rfl rfl rfl rfl (Nat.le_of_ble_eq_true rfl) (dt_at dt_X10_init_0 22 rfl) ?_
  refine C_aload_n C (dt_at dt_X10_init_0 23 rfl) 0 rfl rfl ?_
  refine C_aload_n C (dt_at dt_X10_init_0 24 rfl) 1 rfl rfl ?_
  refine C_put C (T := TX10) (N := 7) (j := 0) (ci := 10) (ty := .object "FivePlayers$Play") tyX10 tyX10_ok nmX10 hp rfl inX10 (by decide) ww_20 rfl rfl rfl rfl (Nat.le_of_ble_eq_true rfl) (dt_at dt_X10_init_0 25 rfl) ?_
  refine C_vret C ⟨Nat.le_of_ble_eq_true rfl, Nat.le_of_ble_eq_true rfl⟩ ⟨fun i => ([q0, q1, q2] : List Nat).getD i 0, rfl⟩ (dt_at dt_X10_init_0 26 rfl)
def nP_X8_init (G : Gx) (a : Nat → Nat) (b1 : Nat) (b2 : Nat) : va_E := .inr (8, [.ref b1, .ref b2, .ref (a 0), .ref (a 1), .ref (a 2), .int 0, .ref (a 3), .ref (a 10), .ref (a 11), .ref (a 12), .ref (a 18), .int 0, .int 0, .int 0])
def nN_X8_init (G : Gx) (a : Nat → Nat) : va_W := (apw (apw (apw (apw (apw (apw (apw [] [((a 0), .inl (gc G 0, (10, .inl (fun _ => 0))))]) [((a 1), .inl (gc G 0, (10, .inl (fun _ => 0))))]) [((a 2), .inl (gc G 0, (6, .inl (fun _ => 0))))]) (gblk G (a 3) 6 10 (fun i => a (4 + i)))) [((a 10), .inl (gc G 0, (1024, .inl (fun _ => 0))))]) (gblk G (a 11) 6 1024 (fun i => a (12 + i)))) [((a 18), .inl (gc G 0, (10, .inl (fun _ => 0))))])
theorem nl_X8_init (G : Gx) (a : Nat → Nat) : (nN_X8_init G a).length = 19 := (la 1 (la 7 (la 1 (la 7 (la 1 (la 1 (la 1 rfl rfl) rfl) rfl) rfl) rfl) rfl) rfl)
theorem dt_X8_init_0 : dtab cX8_init [(0, .aload_n 0, 1), (1, .invokespecial 3, 3), (4, .aload_n 0, 1), (5, .bipush 10, 2), (7, .newarray .int, 2), (9, .putfield 9, 3), (12, .aload_n 0, 1), (13, .bipush 10, 2), (15, .newarray .int, 2), (17, .putfield 15, 3), (20, .aload_n 0, 1), (21, .bipush 6, 2), (23, .newarray .int, 2), (25, .putfield 18, 3), (28, .aload_n 0, 1), (29, .iconst 0, 1), (30, .putfield 21, 3), (33, .aload_n 0, 1), (34, .bipush 6, 2), (36, .bipush 10, 2), (38, .multianewarray 25 2, 4), (42, .putfield 27, 3), (45, .aload_n 0, 1), (46, .sipush 1024, 3), (49, .newarray .int, 2), (51, .putfield 30, 3), (54, .aload_n 0, 1), (55, .bipush 6, 2), (57, .sipush 1024, 3), (60, .multianewarray 25 2, 4), (64, .putfield 33, 3), (67, .aload_n 0, 1), (68, .aload_n 0, 1), (69, .getfield 33, 3), (72, .iconst 0, 1), (73, .aaload, 1), (74, .putfield 36, 3), (77, .aload_n 0, 1), (78, .bipush 10, 2), (80, .newarray .int, 2)] = true := by decide +kernel
theorem dt_X8_init_1 : dtab cX8_init [(82, .putfield 39, 3), (85, .aload_n 0, 1), (86, .iconst 0, 1), (87, .putfield 42, 3), (90, .aload_n 0, 1), (91, .iconst 0, 1), (92, .putfield 45, 3), (95, .aload_n 0, 1), (96, .iconst 0, 1), (97, .putfield 48, 3), (100, .aload_n 0, 1), (101, .aload_n 1, 1), (102, .putfield 51, 3), (105, .aload_n 0, 1), (106, .aload_n 2, 1), (107, .putfield 55, 3), (110, .return_, 1)] = true := by decide +kernel
theorem cal_X8_init : Cal yX8_init cX8_init 3 none 2 := ⟨ww_1215, ww_129, ⟨by decide, by decide, by decide⟩, by decide⟩
set_option maxHeartbeats 4000000 in
set_option maxRecDepth 100000 in
theorem k_X8_init (l : Launch) (G : Gx) (b1 : Nat) (b2 : Nat) : KI l G yX8_init cX8_init 3 1 19 7276 [.ref b1, .ref b2] (.inr (8, [.null, .null, .null, .null, .null, .int 0, .null, .null, .null, .null, .null, .int 0, .int 0, .int 0])) (fun a => nP_X8_init G a b1 b2) (nN_X8_init G) := by
  intro ws p h0 hp0
  have hp : p < ws.length := (List.getElem?_eq_some_iff.mp hp0).1
  refine MC_of RX8 rfl rfl (by decide) [(0, .ref h0), (1, .ref b1), (2, .ref b2)] rfl (Nat.le_of_ble_eq_true rfl) hp0 ?_
  intro X hXl C
  subst hXl
  refine C_aload_n C (dt_at dt_X8_init_0 0 rfl) 0 rfl rfl ?_
  refine C_obj C ww_1213 ⟨ww_1152, ww_1153⟩ (Nat.le_of_ble_eq_true rfl) (Nat.le_of_ble_eq_true rfl) (dt_at dt_X8_init_0 1 rfl) ?_
  refine C_aload_n C (dt_at dt_X8_init_0 2 rfl) 0 rfl rfl ?_
  refine C_bipush C 10 (dt_at dt_X8_init_0 3 rfl) (by decide) ?_
  refine C_newa C (atype := .int) 0 rfl rfl (fun _ h => h) ww_1199 10 (10, .inl (fun _ => 0)) (fun _ => rfl) (by decide +kernel) (by decide +kernel) (Nat.le_of_ble_eq_true rfl) ⟨Nat.le_of_ble_eq_true rfl, Nat.le_of_ble_eq_true rfl⟩ (dt_at dt_X8_init_0 4 rfl) (fun q0 => ?_)
  refine C_put C (T := TX8) (N := 14) (j := 2) (ci := 8) (ty := .array .int) tyX8 tyX8_ok nmX8 hp rfl inX8 (by decide) ww_1104 rfl rfl rfl rfl (Nat.le_of_ble_eq_true rfl) (dt_at dt_X8_init_0 5 rfl) ?_
  refine C_aload_n C (dt_at dt_X8_init_0 6 rfl) 0 rfl rfl ?_
  refine C_bipush C 10 (dt_at dt_X8_init_0 7 rfl) (by decide) ?_
  refine C_newa C (atype := .int) 0 rfl rfl (fun _ h => h) ww_1199 10 (10, .inl (fun _ => 0)) (fun _ => rfl) (by decide +kernel) (by decide +kernel) (Nat.le_of_ble_eq_true rfl) ⟨Nat.le_of_ble_eq_true rfl, Nat.le_of_ble_eq_true rfl⟩ (dt_at dt_X8_init_0 8 rfl) (fun q1 => ?_)
  refine C_put C (T := TX8) (N := 14) (j := 3) (ci := 8) (ty := .array .int) tyX8 tyX8_ok nmX8 hp rfl inX8 (by decide) ww_1103 rfl rfl rfl rfl (Nat.le_of_ble_eq_true rfl) (dt_at dt_X8_init_0 9 rfl) ?_
  refine C_aload_n C (dt_at dt_X8_init_0 10 rfl) 0 rfl rfl ?_
  refine C_bipush C 6 (dt_at dt_X8_init_0 11 rfl) (by decide) ?_
  refine C_newa C (atype := .int) 0 rfl rfl (fun _ h => h) ww_1199 6 (6, .inl (fun _ => 0)) (fun _ => rfl) (by decide +kernel) (by decide +kernel) (Nat.le_of_ble_eq_true rfl) ⟨Nat.le_of_ble_eq_true rfl, Nat.le_of_ble_eq_true rfl⟩ (dt_at dt_X8_init_0 12 rfl) (fun q2 => ?_)
  refine C_put C (T := TX8) (N := 14) (j := 4) (ci := 8) (ty := .array .int) tyX8 tyX8_ok nmX8 hp rfl inX8 (by decide) ww_142 rfl rfl rfl rfl (Nat.le_of_ble_eq_true rfl) (dt_at dt_X8_init_0 13 rfl) ?_
  refine C_aload_n C (dt_at dt_X8_init_0 14 rfl) 0 rfl rfl ?_
  refine C_iconst C 0 (dt_at dt_X8_init_0 15 rfl) (by decide) ?_
  refine C_put C (T := TX8) (N := 14) (j := 5) (ci := 8) (ty := .int) tyX8 tyX8_ok nmX8 hp rfl inX8 (by decide) ww_140 rfl rfl rfl rfl (Nat.le_of_ble_eq_true rfl) (dt_at dt_X8_init_0 16 rfl) ?_
  refine C_aload_n C (dt_at dt_X8_init_0 17 rfl) 0 rfl rfl ?_
  refine C_bipush C 6 (dt_at dt_X8_init_0 18 rfl) (by decide) ?_
  refine C_bipush C 10 (dt_at dt_X8_init_0 19 rfl) (by decide) ?_
  refine C_mnaG C ww_1214 ww_1199 6 10 (by decide +kernel) (by decide +kernel) (by decide +kernel) (by decide +kernel) (Nat.le_of_ble_eq_true rfl) (Nat.le_of_ble_eq_true rfl) ⟨Nat.le_of_ble_eq_true rfl, Nat.le_of_ble_eq_true rfl⟩ (dt_at dt_X8_init_0 20 rfl) (fun q3 r3 => ?_)
  refine C_put C (T := TX8) (N := 14) (j := 6) (ci := 8) (ty := .array (.array .int)) tyX8 tyX8_ok nmX8 hp rfl inX8 (by decide) ww_133 rfl rfl rfl rfl (Nat.le_of_ble_eq_true rfl) (dt_at dt_X8_init_0 21 rfl) ?_
  refine C_aload_n C (dt_at dt_X8_init_0 22 rfl) 0 rfl rfl ?_
  refine C_sipush C 1024 (dt_at dt_X8_init_0 23 rfl) (by decide) ?_
  refine C_newa C (atype := .int) 0 rfl rfl (fun _ h => h) ww_1199 1024 (1024, .inl (fun _ => 0)) (fun _ => rfl) (by decide +kernel) (by decide +kernel) (Nat.le_of_ble_eq_true rfl) ⟨Nat.le_of_ble_eq_true rfl, Nat.le_of_ble_eq_true rfl⟩ (dt_at dt_X8_init_0 24 rfl) (fun q4 => ?_)
  refine C_put C (T := TX8) (N := 14) (j := 7) (ci := 8) (ty := .array .int) tyX8 tyX8_ok nmX8 hp rfl inX8 (by decide) ww_147 rfl rfl rfl rfl (Nat.le_of_ble_eq_true rfl) (dt_at dt_X8_init_0 25 rfl) ?_
  refine C_aload_n C (dt_at dt_X8_init_0 26 rfl) 0 rfl rfl ?_
  refine C_bipush C 6 (dt_at dt_X8_init_0 27 rfl) (by decide) ?_
  refine C_sipush C 1024 (dt_at dt_X8_init_0 28 rfl) (by decide) ?_
  refine C_mnaG C ww_1214 ww_1199 6 1024 (by decide +kernel) (by decide +kernel) (by decide +kernel) (by decide +kernel) (Nat.le_of_ble_eq_true rfl) (Nat.le_of_ble_eq_true rfl) ⟨Nat.le_of_ble_eq_true rfl, Nat.le_of_ble_eq_true rfl⟩ (dt_at dt_X8_init_0 29 rfl) (fun q5 r5 => ?_)
  refine C_put C (T := TX8) (N := 14) (j := 8) (ci := 8) (ty := .array (.array .int)) tyX8 tyX8_ok nmX8 hp rfl inX8 (by decide) ww_155 rfl rfl rfl rfl (Nat.le_of_ble_eq_true rfl) (dt_at dt_X8_init_0 30 rfl) ?_
  refine C_aload_n C (dt_at dt_X8_init_0 31 rfl) 0 rfl rfl ?_
  refine C_aload_n C (dt_at dt_X8_init_0 32 rfl) 0 rfl rfl ?_
  refine C_get C (T := TX8) (N := 14) (j := 8) (ci := 8) hp rfl inX8 (by decide) ww_155 rfl (dt_at dt_X8_init_0 33 rfl) ?_
  refine C_iconst C 0 (dt_at dt_X8_init_0 34 rfl) (by decide) ?_
  refine C_aald C (t := 5) (ty := .array .int) (v := r5 0) 11 rfl rfl (gl_r 0 (la 1 (la 7 (la 1 (la 1 (la 1 rfl rfl) rfl) rfl) rfl) rfl) rfl rfl) (by decide +kernel) rfl (dt_at dt_X8_init_0 35 rfl) ?_
  refine C_put C (T := TX8) (N := 14) (j := 9) (ci := 8) (ty := .array .int) tyX8 tyX8_ok nmX8 hp rfl inX8 (by decide) ww_224 rfl rfl rfl rfl (Nat.le_of_ble_eq_true rfl) (dt_at dt_X8_init_0 36 rfl) ?_
  refine C_aload_n C (dt_at dt_X8_init_0 37 rfl) 0 rfl rfl ?_
  refine C_bipush C 10 (dt_at dt_X8_init_0 38 rfl) (by decide) ?_
  refine C_newa C (atype := .int) 0 rfl rfl (fun _ h => h) ww_1199 10 (10, .inl (fun _ => 0)) (fun _ => rfl) (by decide +kernel) (by decide +kernel) (Nat.le_of_ble_eq_true rfl) ⟨Nat.le_of_ble_eq_true rfl, Nat.le_of_ble_eq_true rfl⟩ (dt_at dt_X8_init_0 39 rfl) (fun q6 => ?_)
  refine C_put C (T := TX8) (N := 14) (j := 10) (ci := 8) (ty := .array .int) tyX8 tyX8_ok nmX8 hp rfl inX8 (by decide) ww_165 rfl rfl rfl rfl (Nat.le_of_ble_eq_true rfl) (dt_at dt_X8_init_1 0 rfl) ?_
  refine C_aload_n C (dt_at dt_X8_init_1 1 rfl) 0 rfl rfl ?_
  refine C_iconst C 0 (dt_at dt_X8_init_1 2 rfl) (by decide) ?_
  refine C_put C (T := TX8) (N := 14) (j := 11) (ci := 8) (ty := .int) tyX8 tyX8_ok nmX8 hp rfl inX8 (by decide) ww_1001 rfl rfl rfl rfl (Nat.le_of_ble_eq_true rfl) (dt_at dt_X8_init_1 3 rfl) ?_
  refine C_aload_n C (dt_at dt_X8_init_1 4 rfl) 0 rfl rfl ?_
  refine C_iconst C 0 (dt_at dt_X8_init_1 5 rfl) (by decide) ?_
  refine C_put C (T := TX8) (N := 14) (j := 12) (ci := 8) (ty := .int) tyX8 tyX8_ok nmX8 hp rfl inX8 (by decide) ww_348 rfl rfl rfl rfl (Nat.le_of_ble_eq_true rfl) (dt_at dt_X8_init_1 6 rfl) ?_
  refine C_aload_n C (dt_at dt_X8_init_1 7 rfl) 0 rfl rfl ?_
  refine C_iconst C 0 (dt_at dt_X8_init_1 8 rfl) (by decide) ?_
  refine C_put C (T := TX8) (N := 14) (j := 13) (ci := 8) (ty := .int) tyX8 tyX8_ok nmX8 hp rfl inX8 (by decide) ww_349 rfl rfl rfl rfl (Nat.le_of_ble_eq_true rfl) (dt_at dt_X8_init_1 9 rfl) ?_
  refine C_aload_n C (dt_at dt_X8_init_1 10 rfl) 0 rfl rfl ?_
  refine C_aload_n C (dt_at dt_X8_init_1 11 rfl) 1 rfl rfl ?_
  refine C_put C (T := TX8) (N := 14) (j := 0) (ci := 8) (ty := .object "FivePlayers$Play") tyX8 tyX8_ok nmX8 hp rfl inX8 (by decide) ww_124 rfl rfl rfl rfl (Nat.le_of_ble_eq_true rfl) (dt_at dt_X8_init_1 12 rfl) ?_
  refine C_aload_n C (dt_at dt_X8_init_1 13 rfl) 0 rfl rfl ?_
  refine C_aload_n C (dt_at dt_X8_init_1 14 rfl) 2 rfl rfl ?_
  refine C_put C (T := TX8) (N := 14) (j := 1) (ci := 8) (ty := .object "FivePlayers$Stage") tyX8 tyX8_ok nmX8 hp rfl inX8 (by decide) ww_122 rfl rfl rfl rfl (Nat.le_of_ble_eq_true rfl) (dt_at dt_X8_init_1 15 rfl) ?_
  refine C_vret C ⟨Nat.le_of_ble_eq_true rfl, Nat.le_of_ble_eq_true rfl⟩ ⟨fun i => ([q0, q1, q2, q3, (r3 0), (r3 1), (r3 2), (r3 3), (r3 4), (r3 5), q4, q5, (r5 0), (r5 1), (r5 2), (r5 3), (r5 4), (r5 5), q6] : List Nat).getD i 0, ?_⟩ (dt_at dt_X8_init_1 16 rfl)
  have gr3 : gblk G q3 6 10 r3 = gblk G q3 6 10 (fun i => ([q0, q1, q2, q3, (r3 0), (r3 1), (r3 2), (r3 3), (r3 4), (r3 5), q4, q5, (r5 0), (r5 1), (r5 2), (r5 3), (r5 4), (r5 5), q6] : List Nat).getD (4 + i) 0) := gr_eq (lt6 rfl rfl rfl rfl rfl rfl)
  have gr5 : gblk G q5 6 1024 r5 = gblk G q5 6 1024 (fun i => ([q0, q1, q2, q3, (r3 0), (r3 1), (r3 2), (r3 3), (r3 4), (r3 5), q4, q5, (r5 0), (r5 1), (r5 2), (r5 3), (r5 4), (r5 5), q6] : List Nat).getD (12 + i) 0) := gr_eq (lt6 rfl rfl rfl rfl rfl rfl)
  show ws.set p (h0, _) ++ (apw (apw (apw (apw (apw (apw (apw [] [(q0, .inl (gc G 0, (10, .inl (fun _ => 0))))]) [(q1, .inl (gc G 0, (10, .inl (fun _ => 0))))]) [(q2, .inl (gc G 0, (6, .inl (fun _ => 0))))]) (gblk G q3 6 10 r3)) [(q4, .inl (gc G 0, (1024, .inl (fun _ => 0))))]) (gblk G q5 6 1024 r5)) [(q6, .inl (gc G 0, (10, .inl (fun _ => 0))))]) = _
  rw [gr3, gr5]
  rfl
def nP_X5_init (G : Gx) (a : Nat → Nat) : va_E := .inr (5, [.ref (a 0), .ref (a 0), .ref (gs G 0), .int 0, .int 0])
def nN_X5_init (G : Gx) (a : Nat → Nat) : va_W := (apw [] (((a 0), .inr (7, [.ref (a 1), .int 0])) :: [((a 1), .inl (gc G 0, 50, .inl (fun _ => 0)))]))
theorem nl_X5_init (G : Gx) (a : Nat → Nat) : (nN_X5_init G a).length = 2 := (la 2 rfl rfl)
theorem dt_X5_init_0 : dtab cX5_init [(0, .aload_n 0, 1), (1, .invokespecial 3, 3), (4, .aload_n 0, 1), (5, .new 9, 3), (8, .dup, 1), (9, .bipush 50, 2), (11, .invokespecial 11, 3), (14, .putfield 14, 3), (17, .aload_n 0, 1), (18, .aload_n 0, 1), (19, .getfield 14, 3), (22, .putfield 20, 3), (25, .aload_n 0, 1), (26, .ldc 23, 2), (28, .putfield 25, 3), (31, .aload_n 0, 1), (32, .iconst 0, 1), (33, .putfield 29, 3), (36, .aload_n 0, 1), (37, .iconst 0, 1), (38, .putfield 33, 3), (41, .return_, 1)] = true := by decide +kernel
theorem cal_X5_init : Cal yX5_init cX5_init 1 none 0 := ⟨ww_1219, ww_400, ⟨by decide, by decide, by decide⟩, by decide⟩
set_option maxHeartbeats 4000000 in
set_option maxRecDepth 100000 in
theorem k_X5_init (l : Launch) (G : Gx) : KI l G yX5_init cX5_init 1 2 2 52 [] (.inr (5, [.null, .null, .null, .int 0, .int 0])) (fun a => nP_X5_init G a) (nN_X5_init G) := by
  intro ws p h0 hp0
  have hp : p < ws.length := (List.getElem?_eq_some_iff.mp hp0).1
  refine MC_of RX5 rfl rfl (by decide) [(0, .ref h0)] rfl (Nat.le_of_ble_eq_true rfl) hp0 ?_
  intro X hXl C
  subst hXl
  refine C_aload_n C (dt_at dt_X5_init_0 0 rfl) 0 rfl rfl ?_
  refine C_obj C ww_1216 ⟨ww_1152, ww_1153⟩ (Nat.le_of_ble_eq_true rfl) (Nat.le_of_ble_eq_true rfl) (dt_at dt_X5_init_0 1 rfl) ?_
  refine C_aload_n C (dt_at dt_X5_init_0 2 rfl) 0 rfl rfl ?_
  refine C_new C (T := TX7) (N := 2) (ci := 7) tyX7 tyX7_ok rfl inX7 ww_1217 ww_1207 ww_17 [.null, .int 0] (by decide +kernel) ⟨Nat.le_of_ble_eq_true rfl, Nat.le_of_ble_eq_true rfl⟩ (dt_at dt_X5_init_0 3 rfl) (fun q0 => ?_)
  refine C_dup C (dt_at dt_X5_init_0 4 rfl) rfl ?_
  refine C_bipush C 50 (dt_at dt_X5_init_0 5 rfl) (by decide) ?_
  refine C_callL C (k_X7_init X.2.1 G 50 50 (by decide +kernel) (by decide +kernel) (Nat.le_of_ble_eq_true rfl)) cal_X7_init ww_1208 ww_1218 rfl rfl (Nat.le_of_ble_eq_true rfl) rfl (Nat.le_of_ble_eq_true rfl) ⟨Nat.le_of_ble_eq_true rfl, Nat.le_of_ble_eq_true rfl⟩ (dt_at dt_X5_init_0 6 rfl) (fun a1 => ?_)
  refine C_put C (T := TX5) (N := 5) (j := 0) (ci := 5) (ty := .object "FivePlayers$Row") tyX5 tyX5_ok nmX5 hp rfl inX5 (by decide) ww_407 rfl rfl rfl rfl (Nat.le_of_ble_eq_true rfl) (dt_at dt_X5_init_0 7 rfl) ?_
  refine C_aload_n C (dt_at dt_X5_init_0 8 rfl) 0 rfl rfl ?_
  refine C_aload_n C (dt_at dt_X5_init_0 9 rfl) 0 rfl rfl ?_
  refine C_get C (T := TX5) (N := 5) (j := 0) (ci := 5) hp rfl inX5 (by decide) ww_407 rfl (dt_at dt_X5_init_0 10 rfl) ?_
  refine C_put C (T := TX5) (N := 5) (j := 1) (ci := 5) (ty := .object "FivePlayers$Row") tyX5 tyX5_ok nmX5 hp rfl inX5 (by decide) ww_396 rfl rfl rfl rfl (Nat.le_of_ble_eq_true rfl) (dt_at dt_X5_init_0 11 rfl) ?_
  refine C_aload_n C (dt_at dt_X5_init_0 12 rfl) 0 rfl rfl ?_
  refine C_ldcS C (q := (23, "", 0)) (by decide) (dt_at dt_X5_init_0 13 rfl) ?_
  refine C_put C (T := TX5) (N := 5) (j := 2) (ci := 5) (ty := .object "java/lang/String") tyX5 tyX5_ok nmX5 hp rfl inX5 (by decide) ww_1132 rfl rfl rfl rfl (Nat.le_of_ble_eq_true rfl) (dt_at dt_X5_init_0 14 rfl) ?_
  refine C_aload_n C (dt_at dt_X5_init_0 15 rfl) 0 rfl rfl ?_
  refine C_iconst C 0 (dt_at dt_X5_init_0 16 rfl) (by decide) ?_
  refine C_put C (T := TX5) (N := 5) (j := 3) (ci := 5) (ty := .int) tyX5 tyX5_ok nmX5 hp rfl inX5 (by decide) ww_395 rfl rfl rfl rfl (Nat.le_of_ble_eq_true rfl) (dt_at dt_X5_init_0 17 rfl) ?_
  refine C_aload_n C (dt_at dt_X5_init_0 18 rfl) 0 rfl rfl ?_
  refine C_iconst C 0 (dt_at dt_X5_init_0 19 rfl) (by decide) ?_
  refine C_put C (T := TX5) (N := 5) (j := 4) (ci := 5) (ty := .boolean) tyX5 tyX5_ok nmX5 hp rfl inX5 (by decide) ww_412 rfl rfl rfl rfl (Nat.le_of_ble_eq_true rfl) (dt_at dt_X5_init_0 20 rfl) ?_
  refine C_vret C ⟨Nat.le_of_ble_eq_true rfl, Nat.le_of_ble_eq_true rfl⟩ ⟨fun i => ([q0, (a1 0)] : List Nat).getD i 0, rfl⟩ (dt_at dt_X5_init_0 21 rfl)
