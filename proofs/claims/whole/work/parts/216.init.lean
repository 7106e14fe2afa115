theorem C_callN {X : Xx} {G : Gx} {cc : ByteArray} {nL d mc ms cells slots pc p : Nat} {Post : va_W → Prop} {ws base : va_W} {P : Nat × va_E} {lv : List (Nat × Value)} {rest : List Value} (C : Cc X G cc RX11 nL d mc ms Post) {bytes : ByteArray} {maxL n d1 mc1 ms1 q : Nat} {As : List Value} {P0 : va_E} {Pf : (Nat → Nat) → va_E} {N : (Nat → Nat) → va_W} {st0 : List Value} (hM : KI X.2.1 G yX5_init bytes maxL d1 mc1 ms1 As P0 Pf N) (hc : Cal yX5_init bytes maxL none n) (hi : Cond.instanceMethod yX5_init ∈ gtb) (hy : yX5_init.name = "<init>") (hn : As.length = n) (hdd : d1 + 1 ≤ d) (hst : st0 = As.reverse ++ .ref q :: rest) (hroom : (rest.map fun v => v.category).sum ≤ 8) (hcs : cells + mc1 ≤ mc ∧ slots + ms1 ≤ ms) (hd : decode cc pc = .ok (.invokespecial 36, 3)) (k : ∀ a : Nat → Nat, VC X G nL (cells + mc1) (slots + ms1) ws p P (base ++ ((q, Pf a) :: N a)) (pc + 3) lv rest) : VC X G nL cells slots ws p P (base ++ [(q, P0)]) pc lv st0 := fun H locs ls hP hD hS hl => by
  have hrr := hR_v C.1 hdd hc.2.2.2
  refine C_ran (a := #[]) (W0 := ws) (fun w hw => ?_) hS hl (va_runIN (As := As) (b := q) (bytes := bytes) (maxL := maxL) (n := n) (host := RX11) ⟨C.1.1, C.1.2.1, C.1.2.2.1, C.1.2.2.2.1, C.1.2.2.2.2.1⟩ (hM (ws.set p P ++ (base ++ [(q, P0)])) (ws.length + base.length) q (nf_new.trans (by rw [List.getElem?_append_right (Nat.le_refl _), Nat.sub_self]; rfl))) ⟨va_cnB n C.1.2.2.2.2.1 (gtb_code hc.1) rfl rfl rfl C.2.1.2.2.2 (C.1.2.2.2.2.1 _ hc.2.1) hc.2.2.1 hrr, hy, C.1.2.2.2.2.1 _ hi⟩ ⟨WpC_blind, WpC_pre C hP hD hS⟩ rfl hn hl.1 hst (lv_room hroom) hd (by rw [C.2.2.2.1]; exact hcs))
  obtain ⟨a, rfl⟩ := hw
  have h9 := k a
  unfold VC at h9
  rw [nf_setN, List.append_assoc, List.set_append_right _ _ (Nat.le_refl _), Nat.sub_self, List.append_assoc]
  exact h9
theorem VC_gen {X : Xx} {G : Gx} {nL cells slots : Nat} {ws : va_W} {p : Nat} {P : Nat × va_E} {news : va_W} {pc : Nat} {lv : List (Nat × Value)} {st : List Value} (k : ∀ B : va_W, B = news → VC X G nL cells slots ws p P B pc lv st) : VC X G nL cells slots ws p P news pc lv st := k news rfl
theorem gl_e {A B : va_W} {r : Nat} {x : Nat × va_E} (h : B = A) (h2 : A[r]? = some x) : B[r]? = some x := h ▸ h2
theorem le_e {A B : va_W} {n : Nat} (h : B = A) (h2 : A.length = n) : B.length = n := h ▸ h2
theorem nc_X4_init {G : Gx} {a b : Nat → Nat} (h : ∀ i, i < 20 → a i = b i) : nN_X4_init G a = nN_X4_init G b := by
  unfold nN_X4_init
  simp only [h 0 (by decide), h 1 (by decide), h 2 (by decide), h 3 (by decide), h 4 (by decide), h 5 (by decide), h 6 (by decide), h 7 (by decide), h 8 (by decide), h 9 (by decide), h 10 (by decide), h 11 (by decide), h 12 (by decide), h 13 (by decide), h 14 (by decide), h 15 (by decide), h 16 (by decide), h 17 (by decide), h 18 (by decide), h 19 (by decide)]
theorem np_X4_init {G : Gx} {a b : Nat → Nat} (h : ∀ i, i < 20 → a i = b i) : nP_X4_init G a = nP_X4_init G b := by
  unfold nP_X4_init
  simp only [h 0 (by decide), h 1 (by decide), h 2 (by decide), h 3 (by decide), h 4 (by decide), h 5 (by decide), h 6 (by decide), h 7 (by decide), h 8 (by decide), h 9 (by decide), h 10 (by decide), h 11 (by decide), h 12 (by decide), h 13 (by decide), h 14 (by decide), h 15 (by decide), h 16 (by decide), h 17 (by decide), h 18 (by decide), h 19 (by decide)]
theorem nc_X10_init {G : Gx} {a b : Nat → Nat} (h : ∀ i, i < 3 → a i = b i) : nN_X10_init G a = nN_X10_init G b := by
  unfold nN_X10_init
  simp only [h 0 (by decide), h 1 (by decide), h 2 (by decide)]
theorem np_X10_init {G : Gx} {a b : Nat → Nat} {x0 : Nat} (h : ∀ i, i < 3 → a i = b i) : nP_X10_init G a x0 = nP_X10_init G b x0 := by
  unfold nP_X10_init
  simp only [h 0 (by decide), h 1 (by decide), h 2 (by decide)]
theorem nc_X8_init {G : Gx} {a b : Nat → Nat} (h : ∀ i, i < 19 → a i = b i) : nN_X8_init G a = nN_X8_init G b := by
  unfold nN_X8_init
  rw [gr_eq (r := fun i => a (4 + i)) (a := fun i => b (4 + i)) (fun i hi => h (4 + i) (by omega))]
  rw [gr_eq (r := fun i => a (12 + i)) (a := fun i => b (12 + i)) (fun i hi => h (12 + i) (by omega))]
  simp only [h 0 (by decide), h 1 (by decide), h 2 (by decide), h 3 (by decide), h 4 (by decide), h 5 (by decide), h 6 (by decide), h 7 (by decide), h 8 (by decide), h 9 (by decide), h 10 (by decide), h 11 (by decide), h 12 (by decide), h 13 (by decide), h 14 (by decide), h 15 (by decide), h 16 (by decide), h 17 (by decide), h 18 (by decide)]
theorem np_X8_init {G : Gx} {a b : Nat → Nat} {x0 : Nat} {x1 : Nat} (h : ∀ i, i < 19 → a i = b i) : nP_X8_init G a x0 x1 = nP_X8_init G b x0 x1 := by
  unfold nP_X8_init
  simp only [h 0 (by decide), h 1 (by decide), h 2 (by decide), h 3 (by decide), h 4 (by decide), h 5 (by decide), h 6 (by decide), h 7 (by decide), h 8 (by decide), h 9 (by decide), h 10 (by decide), h 11 (by decide), h 12 (by decide), h 13 (by decide), h 14 (by decide), h 15 (by decide), h 16 (by decide), h 17 (by decide), h 18 (by decide)]
theorem nc_X5_init {G : Gx} {a b : Nat → Nat} (h : ∀ i, i < 2 → a i = b i) : nN_X5_init G a = nN_X5_init G b := by
  unfold nN_X5_init
  simp only [h 0 (by decide), h 1 (by decide)]
theorem np_X5_init {G : Gx} {a b : Nat → Nat} (h : ∀ i, i < 2 → a i = b i) : nP_X5_init G a = nP_X5_init G b := by
  unfold nP_X5_init
  simp only [h 0 (by decide), h 1 (by decide)]
def nP_X11_init (G : Gx) (a : Nat → Nat) : va_E := .inr (11, [.ref (a 0), .ref (a 21), .ref (a 25), .ref (a 45), .ref (a 48), .ref (a 69), .ref (a 71), .ref (a 72), .ref (a 73), .int 0])
def nN_X11_init (G : Gx) (a : Nat → Nat) : va_W := (stw (apw (stw (apw (stw (apw (stw (apw (apw (apw (apw (apw (apw (apw (apw (apw (apw [] (((a 0), nP_X4_init G (fun i => a (1 + i))) :: nN_X4_init G (fun i => a (1 + i)))) (((a 21), nP_X10_init G (fun i => a (22 + i)) (a 0)) :: nN_X10_init G (fun i => a (22 + i)))) (((a 25), nP_X8_init G (fun i => a (26 + i)) (a 0) (a 21)) :: nN_X8_init G (fun i => a (26 + i)))) (((a 45), nP_X5_init G (fun i => a (46 + i))) :: nN_X5_init G (fun i => a (46 + i)))) (((a 48), nP_X4_init G (fun i => a (49 + i))) :: nN_X4_init G (fun i => a (49 + i)))) (((a 69), .inr (7, [.ref (a 70), .int 0])) :: [((a 70), .inl (gc G 0, 40, .inl (fun _ => 0)))])) [((a 71), .inl (gc G 4, 4, .inr (.inr (.inr (.inr (fun _ => none))))))]) [((a 72), .inl (gc G 0, (4, .inl (fun _ => 0))))]) [((a 73), .inl (gc G 0, (6, .inl (fun _ => 0))))]) (((a 74), .inr (7, [.ref (a 75), .int 0])) :: [((a 75), .inl (gc G 0, 24, .inl (fun _ => 0)))])) 71 ((a 71), .inl (gc G 4, 4, .inr (.inr (.inr (.inr (va_up (fun _ => none) 0 (some (a 74))))))))) (((a 76), .inr (7, [.ref (a 77), .int 0])) :: [((a 77), .inl (gc G 0, 24, .inl (fun _ => 0)))])) 71 ((a 71), .inl (gc G 4, 4, .inr (.inr (.inr (.inr (va_up (va_up (fun _ => none) 0 (some (a 74))) 1 (some (a 76))))))))) (((a 78), .inr (7, [.ref (a 79), .int 0])) :: [((a 79), .inl (gc G 0, 24, .inl (fun _ => 0)))])) 71 ((a 71), .inl (gc G 4, 4, .inr (.inr (.inr (.inr (va_up (va_up (va_up (fun _ => none) 0 (some (a 74))) 1 (some (a 76))) 2 (some (a 78))))))))) (((a 80), .inr (7, [.ref (a 81), .int 0])) :: [((a 81), .inl (gc G 0, 24, .inl (fun _ => 0)))])) 71 ((a 71), .inl (gc G 4, 4, .inr (.inr (.inr (.inr (va_up (va_up (va_up (va_up (fun _ => none) 0 (some (a 74))) 1 (some (a 76))) 2 (some (a 78))) 3 (some (a 80)))))))))
theorem nl_X11_init (G : Gx) (a : Nat → Nat) : (nN_X11_init G a).length = 82 := (ls (la 2 (ls (la 2 (ls (la 2 (ls (la 2 (la 1 (la 1 (la 1 (la 2 (la 21 (la 3 (la 20 (la 4 (la 21 rfl (lc (nl_X4_init _ _))) (lc (nl_X10_init _ _))) (lc (nl_X8_init _ _))) (lc (nl_X5_init _ _))) (lc (nl_X4_init _ _))) rfl) rfl) rfl) rfl) rfl)) rfl)) rfl)) rfl))
theorem dt_X11_init_0 : dtab cX11_init [(0, .aload_n 0, 1), (1, .invokespecial 3, 3), (4, .aload_n 0, 1), (5, .new 9, 3), (8, .dup, 1), (9, .invokespecial 11, 3), (12, .putfield 12, 3), (15, .aload_n 0, 1), (16, .new 16, 3), (19, .dup, 1), (20, .aload_n 0, 1), (21, .getfield 12, 3), (24, .invokespecial 18, 3), (27, .putfield 21, 3), (30, .aload_n 0, 1), (31, .new 25, 3), (34, .dup, 1), (35, .aload_n 0, 1), (36, .getfield 12, 3), (39, .aload_n 0, 1), (40, .getfield 21, 3), (43, .invokespecial 27, 3), (46, .putfield 30, 3), (49, .aload_n 0, 1), (50, .new 34, 3), (53, .dup, 1), (54, .invokespecial 36, 3), (57, .putfield 37, 3), (60, .aload_n 0, 1), (61, .new 9, 3), (64, .dup, 1), (65, .invokespecial 11, 3), (68, .putfield 41, 3), (71, .aload_n 0, 1), (72, .new 44, 3), (75, .dup, 1), (76, .bipush 40, 2), (78, .invokespecial 46, 3), (81, .putfield 49, 3), (84, .aload_n 0, 1)] = true := by decide +kernel
theorem dt_X11_init_1 : dtab cX11_init [(85, .iconst 4, 1), (86, .anewarray 44, 3), (89, .putfield 53, 3), (92, .aload_n 0, 1), (93, .iconst 4, 1), (94, .newarray .int, 2), (96, .putfield 57, 3), (99, .aload_n 0, 1), (100, .bipush 6, 2), (102, .newarray .int, 2), (104, .putfield 61, 3), (107, .aload_n 0, 1), (108, .iconst 0, 1), (109, .putfield 64, 3), (112, .iconst 0, 1), (113, .istore_n 1, 1), (114, .iload_n 1, 1), (115, .iconst 4, 1), (116, .if_icmp .ge 24, 3), (119, .aload_n 0, 1), (120, .getfield 53, 3), (123, .iload_n 1, 1), (124, .new 44, 3), (127, .dup, 1), (128, .bipush 24, 2), (130, .invokespecial 46, 3), (133, .aastore, 1), (134, .iinc 1 1, 3), (137, .goto (-23), 3), (140, .return_, 1)] = true := by decide +kernel
theorem cal_X11_init : Cal yX11_init cX11_init 2 none 0 := ⟨ww_1240, ww_100, ⟨by decide, by decide, by decide⟩, by decide⟩
def aX11 (q0 : Nat) (a1 : Nat → Nat) (q2 : Nat) (a3 : Nat → Nat) (q4 : Nat) (a5 : Nat → Nat) (q6 : Nat) (a7 : Nat → Nat) (q8 : Nat) (a9 : Nat → Nat) (q10 : Nat) (a11 : Nat → Nat) (q12 : Nat) (q13 : Nat) (q14 : Nat) (q15 : Nat) (a16 : Nat → Nat) (q17 : Nat) (a18 : Nat → Nat) (q19 : Nat) (a20 : Nat → Nat) (q21 : Nat) (a22 : Nat → Nat) : Nat → Nat := fun i => if i < 1 then q0 else if i < 21 then a1 (i - 1) else if i < 22 then q2 else if i < 25 then a3 (i - 22) else if i < 26 then q4 else if i < 45 then a5 (i - 26) else if i < 46 then q6 else if i < 48 then a7 (i - 46) else if i < 49 then q8 else if i < 69 then a9 (i - 49) else if i < 70 then q10 else if i < 71 then (a11 0) else if i < 72 then q12 else if i < 73 then q13 else if i < 74 then q14 else if i < 75 then q15 else if i < 76 then (a16 0) else if i < 77 then q17 else if i < 78 then (a18 0) else if i < 79 then q19 else if i < 80 then (a20 0) else if i < 81 then q21 else if i < 82 then (a22 0) else 0
theorem aX11_1 (q0 : Nat) (a1 : Nat → Nat) (q2 : Nat) (a3 : Nat → Nat) (q4 : Nat) (a5 : Nat → Nat) (q6 : Nat) (a7 : Nat → Nat) (q8 : Nat) (a9 : Nat → Nat) (q10 : Nat) (a11 : Nat → Nat) (q12 : Nat) (q13 : Nat) (q14 : Nat) (q15 : Nat) (a16 : Nat → Nat) (q17 : Nat) (a18 : Nat → Nat) (q19 : Nat) (a20 : Nat → Nat) (q21 : Nat) (a22 : Nat → Nat) : ∀ i, i < 20 → a1 i = aX11 q0 a1 q2 a3 q4 a5 q6 a7 q8 a9 q10 a11 q12 q13 q14 q15 a16 q17 a18 q19 a20 q21 a22 (1 + i) := by
  intro i hi
  unfold aX11
  rw [if_neg (show ¬ 1 + i < 1 from by omega), if_pos (show 1 + i < 21 from by omega), Nat.add_sub_cancel_left]
theorem aX11_22 (q0 : Nat) (a1 : Nat → Nat) (q2 : Nat) (a3 : Nat → Nat) (q4 : Nat) (a5 : Nat → Nat) (q6 : Nat) (a7 : Nat → Nat) (q8 : Nat) (a9 : Nat → Nat) (q10 : Nat) (a11 : Nat → Nat) (q12 : Nat) (q13 : Nat) (q14 : Nat) (q15 : Nat) (a16 : Nat → Nat) (q17 : Nat) (a18 : Nat → Nat) (q19 : Nat) (a20 : Nat → Nat) (q21 : Nat) (a22 : Nat → Nat) : ∀ i, i < 3 → a3 i = aX11 q0 a1 q2 a3 q4 a5 q6 a7 q8 a9 q10 a11 q12 q13 q14 q15 a16 q17 a18 q19 a20 q21 a22 (22 + i) := by
  intro i hi
  unfold aX11
  rw [if_neg (show ¬ 22 + i < 1 from by omega), if_neg (show ¬ 22 + i < 21 from by omega), if_neg (show ¬ 22 + i < 22 from by omega), if_pos (show 22 + i < 25 from by omega), Nat.add_sub_cancel_left]
theorem aX11_26 (q0 : Nat) (a1 : Nat → Nat) (q2 : Nat) (a3 : Nat → Nat) (q4 : Nat) (a5 : Nat → Nat) (q6 : Nat) (a7 : Nat → Nat) (q8 : Nat) (a9 : Nat → Nat) (q10 : Nat) (a11 : Nat → Nat) (q12 : Nat) (q13 : Nat) (q14 : Nat) (q15 : Nat) (a16 : Nat → Nat) (q17 : Nat) (a18 : Nat → Nat) (q19 : Nat) (a20 : Nat → Nat) (q21 : Nat) (a22 : Nat → Nat) : ∀ i, i < 19 → a5 i = aX11 q0 a1 q2 a3 q4 a5 q6 a7 q8 a9 q10 a11 q12 q13 q14 q15 a16 q17 a18 q19 a20 q21 a22 (26 + i) := by
  intro i hi
  unfold aX11
  rw [if_neg (show ¬ 26 + i < 1 from by omega), if_neg (show ¬ 26 + i < 21 from by omega), if_neg (show ¬ 26 + i < 22 from by omega), if_neg (show ¬ 26 + i < 25 from by omega), if_neg (show ¬ 26 + i < 26 from by omega), if_pos (show 26 + i < 45 from by omega), Nat.add_sub_cancel_left]
theorem aX11_46 (q0 : Nat) (a1 : Nat → Nat) (q2 : Nat) (a3 : Nat → Nat) (q4 : Nat) (a5 : Nat → Nat) (q6 : Nat) (a7 : Nat → Nat) (q8 : Nat) (a9 : Nat → Nat) (q10 : Nat) (a11 : Nat → Nat) (q12 : Nat) (q13 : Nat) (q14 : Nat) (q15 : Nat) (a16 : Nat → Nat) (q17 : Nat) (a18 : Nat → Nat) (q19 : Nat) (a20 : Nat → Nat) (q21 : Nat) (a22 : Nat → Nat) : ∀ i, i < 2 → a7 i = aX11 q0 a1 q2 a3 q4 a5 q6 a7 q8 a9 q10 a11 q12 q13 q14 q15 a16 q17 a18 q19 a20 q21 a22 (46 + i) := by
  intro i hi
  unfold aX11
  rw [if_neg (show ¬ 46 + i < 1 from by omega), if_neg (show ¬ 46 + i < 21 from by omega), if_neg (show ¬ 46 + i < 22 from by omega), if_neg (show ¬ 46 + i < 25 from by omega), if_neg (show ¬ 46 + i < 26 from by omega), if_neg (show ¬ 46 + i < 45 from by omega), if_neg (show ¬ 46 + i < 46 from by omega), if_pos (show 46 + i < 48 from by omega), Nat.add_sub_cancel_left]
theorem aX11_49 (q0 : Nat) (a1 : Nat → Nat) (q2 : Nat) (a3 : Nat → Nat) (q4 : Nat) (a5 : Nat → Nat) (q6 : Nat) (a7 : Nat → Nat) (q8 : Nat) (a9 : Nat → Nat) (q10 : Nat) (a11 : Nat → Nat) (q12 : Nat) (q13 : Nat) (q14 : Nat) (q15 : Nat) (a16 : Nat → Nat) (q17 : Nat) (a18 : Nat → Nat) (q19 : Nat) (a20 : Nat → Nat) (q21 : Nat) (a22 : Nat → Nat) : ∀ i, i < 20 → a9 i = aX11 q0 a1 q2 a3 q4 a5 q6 a7 q8 a9 q10 a11 q12 q13 q14 q15 a16 q17 a18 q19 a20 q21 a22 (49 + i) := by
  intro i hi
  unfold aX11
  rw [if_neg (show ¬ 49 + i < 1 from by omega), if_neg (show ¬ 49 + i < 21 from by omega), if_neg (show ¬ 49 + i < 22 from by omega), if_neg (show ¬ 49 + i < 25 from by omega), if_neg (show ¬ 49 + i < 26 from by omega), if_neg (show ¬ 49 + i < 45 from by omega), if_neg (show ¬ 49 + i < 46 from by omega), if_neg (show ¬ 49 + i < 48 from by omega), if_neg (show ¬ 49 + i < 49 from by omega), if_pos (show 49 + i < 69 from by omega), Nat.add_sub_cancel_left]
set_option maxHeartbeats 4000000 in
set_option maxRecDepth 100000 in
theorem k_X11_init (l : Launch) (G : Gx) : KI l G yX11_init cX11_init 2 3 82 8494 [] (.inr (11, [.null, .null, .null, .null, .null, .null, .null, .null, .null, .int 0])) (fun a => nP_X11_init G a) (nN_X11_init G) := by
  intro ws p h0 hp0
  have hp : p < ws.length := (List.getElem?_eq_some_iff.mp hp0).1
  refine MC_of RX11 rfl rfl (by decide) [(0, .ref h0)] rfl (Nat.le_of_ble_eq_true rfl) hp0 ?_
  intro X hXl C
  subst hXl
  refine C_aload_n C (dt_at dt_X11_init_0 0 rfl) 0 rfl rfl ?_
  refine C_obj C ww_1222 ⟨ww_1152, ww_1153⟩ (Nat.le_of_ble_eq_true rfl) (Nat.le_of_ble_eq_true rfl) (dt_at dt_X11_init_0 1 rfl) ?_
  refine C_aload_n C (dt_at dt_X11_init_0 2 rfl) 0 rfl rfl ?_
  refine C_new C (T := TX4) (N := 16) (ci := 4) tyX4 tyX4_ok rfl inX4 ww_1223 ww_1224 ww_92 [.int 0, .int 0, .int 0, .int 0, .null, .null, .null, .null, .null, .null, .null, .null, .null, .null, .null, .null] (by decide +kernel) ⟨Nat.le_of_ble_eq_true rfl, Nat.le_of_ble_eq_true rfl⟩ (dt_at dt_X11_init_0 3 rfl) (fun q0 => ?_)
  refine C_dup C (dt_at dt_X11_init_0 4 rfl) rfl ?_
  refine C_callL C (k_X4_init X.2.1 G) cal_X4_init ww_1225 ww_1226 rfl rfl (Nat.le_of_ble_eq_true rfl) rfl (Nat.le_of_ble_eq_true rfl) ⟨Nat.le_of_ble_eq_true rfl, Nat.le_of_ble_eq_true rfl⟩ (dt_at dt_X11_init_0 5 rfl) (fun a1 => ?_)
  refine VC_gen (fun B1 hB1 => ?_)
  refine C_putL C (T := TX11) (N := 10) (j := 0) (ci := 11) (ty := .object "FivePlayers$Play") tyX11 tyX11_ok nmX11 hp rfl inX11 (by decide) ww_190 rfl rfl rfl rfl (Nat.le_of_ble_eq_true rfl) [.ref q0, .null, .null, .null, .null, .null, .null, .null, .null, .int 0] rfl (dt_at dt_X11_init_0 6 rfl) ?_
  refine C_aload_n C (dt_at dt_X11_init_0 7 rfl) 0 rfl rfl ?_
  refine C_new C (T := TX10) (N := 7) (ci := 10) tyX10 tyX10_ok rfl inX10 ww_1227 ww_1228 ww_24 [.null, .null, .null, .null, .int 0, .int 0, .int 0] (by decide +kernel) ⟨Nat.le_of_ble_eq_true rfl, Nat.le_of_ble_eq_true rfl⟩ (dt_at dt_X11_init_0 8 rfl) (fun q2 => ?_)
  refine C_dup C (dt_at dt_X11_init_0 9 rfl) rfl ?_
  refine C_aload_n C (dt_at dt_X11_init_0 10 rfl) 0 rfl rfl ?_
  refine C_get C (T := TX11) (N := 10) (j := 0) (ci := 11) hp rfl inX11 (by decide) ww_190 rfl (dt_at dt_X11_init_0 11 rfl) ?_
  refine C_callL C (k_X10_init X.2.1 G q0) cal_X10_init ww_1229 ww_1230 rfl rfl (Nat.le_of_ble_eq_true rfl) rfl (Nat.le_of_ble_eq_true rfl) ⟨Nat.le_of_ble_eq_true rfl, Nat.le_of_ble_eq_true rfl⟩ (dt_at dt_X11_init_0 12 rfl) (fun a3 => ?_)
  refine VC_gen (fun B2 hB2 => ?_)
  refine C_putL C (T := TX11) (N := 10) (j := 1) (ci := 11) (ty := .object "FivePlayers$Stage") tyX11 tyX11_ok nmX11 hp rfl inX11 (by decide) ww_216 rfl rfl rfl rfl (Nat.le_of_ble_eq_true rfl) [.ref q0, .ref q2, .null, .null, .null, .null, .null, .null, .null, .int 0] rfl (dt_at dt_X11_init_0 13 rfl) ?_
  refine C_aload_n C (dt_at dt_X11_init_0 14 rfl) 0 rfl rfl ?_
  refine C_new C (T := TX8) (N := 14) (ci := 8) tyX8 tyX8_ok rfl inX8 ww_1231 ww_1232 ww_129 [.null, .null, .null, .null, .null, .int 0, .null, .null, .null, .null, .null, .int 0, .int 0, .int 0] (by decide +kernel) ⟨Nat.le_of_ble_eq_true rfl, Nat.le_of_ble_eq_true rfl⟩ (dt_at dt_X11_init_0 15 rfl) (fun q4 => ?_)
  refine C_dup C (dt_at dt_X11_init_0 16 rfl) rfl ?_
  refine C_aload_n C (dt_at dt_X11_init_0 17 rfl) 0 rfl rfl ?_
  refine C_get C (T := TX11) (N := 10) (j := 0) (ci := 11) hp rfl inX11 (by decide) ww_190 rfl (dt_at dt_X11_init_0 18 rfl) ?_
  refine C_aload_n C (dt_at dt_X11_init_0 19 rfl) 0 rfl rfl ?_
  refine C_get C (T := TX11) (N := 10) (j := 1) (ci := 11) hp rfl inX11 (by decide) ww_216 rfl (dt_at dt_X11_init_0 20 rfl) ?_
  refine C_callL C (k_X8_init X.2.1 G q0 q2) cal_X8_init ww_1233 ww_1234 rfl rfl (Nat.le_of_ble_eq_true rfl) rfl (Nat.le_of_ble_eq_true rfl) ⟨Nat.le_of_ble_eq_true rfl, Nat.le_of_ble_eq_true rfl⟩ (dt_at dt_X11_init_0 21 rfl) (fun a5 => ?_)
  refine VC_gen (fun B3 hB3 => ?_)
  refine C_putL C (T := TX11) (N := 10) (j := 2) (ci := 11) (ty := .object "FivePlayers$Solver") tyX11 tyX11_ok nmX11 hp rfl inX11 (by decide) ww_1011 rfl rfl rfl rfl (Nat.le_of_ble_eq_true rfl) [.ref q0, .ref q2, .ref q4, .null, .null, .null, .null, .null, .null, .int 0] rfl (dt_at dt_X11_init_0 22 rfl) ?_
  refine C_aload_n C (dt_at dt_X11_init_0 23 rfl) 0 rfl rfl ?_
  refine C_new C (T := TX5) (N := 5) (ci := 5) tyX5 tyX5_ok rfl inX5 ww_1235 ww_1236 ww_400 [.null, .null, .null, .int 0, .int 0] (by decide +kernel) ⟨Nat.le_of_ble_eq_true rfl, Nat.le_of_ble_eq_true rfl⟩ (dt_at dt_X11_init_0 24 rfl) (fun q6 => ?_)
  refine C_dup C (dt_at dt_X11_init_0 25 rfl) rfl ?_
  refine C_callN C (k_X5_init X.2.1 G) cal_X5_init ww_1237 rfl rfl (Nat.le_of_ble_eq_true rfl) rfl (Nat.le_of_ble_eq_true rfl) ⟨Nat.le_of_ble_eq_true rfl, Nat.le_of_ble_eq_true rfl⟩ (dt_at dt_X11_init_0 26 rfl) (fun a7 => ?_)
  refine VC_gen (fun B4 hB4 => ?_)
  refine C_putL C (T := TX11) (N := 10) (j := 3) (ci := 11) (ty := .object "FivePlayers$Reader") tyX11 tyX11_ok nmX11 hp rfl inX11 (by decide) ww_1143 rfl rfl rfl rfl (Nat.le_of_ble_eq_true rfl) [.ref q0, .ref q2, .ref q4, .ref q6, .null, .null, .null, .null, .null, .int 0] rfl (dt_at dt_X11_init_0 27 rfl) ?_
  refine C_aload_n C (dt_at dt_X11_init_0 28 rfl) 0 rfl rfl ?_
  refine C_new C (T := TX4) (N := 16) (ci := 4) tyX4 tyX4_ok rfl inX4 ww_1223 ww_1224 ww_92 [.int 0, .int 0, .int 0, .int 0, .null, .null, .null, .null, .null, .null, .null, .null, .null, .null, .null, .null] (by decide +kernel) ⟨Nat.le_of_ble_eq_true rfl, Nat.le_of_ble_eq_true rfl⟩ (dt_at dt_X11_init_0 29 rfl) (fun q8 => ?_)
  refine C_dup C (dt_at dt_X11_init_0 30 rfl) rfl ?_
  refine C_callL C (k_X4_init X.2.1 G) cal_X4_init ww_1225 ww_1226 rfl rfl (Nat.le_of_ble_eq_true rfl) rfl (Nat.le_of_ble_eq_true rfl) ⟨Nat.le_of_ble_eq_true rfl, Nat.le_of_ble_eq_true rfl⟩ (dt_at dt_X11_init_0 31 rfl) (fun a9 => ?_)
  refine VC_gen (fun B5 hB5 => ?_)
  refine C_putL C (T := TX11) (N := 10) (j := 4) (ci := 11) (ty := .object "FivePlayers$Play") tyX11 tyX11_ok nmX11 hp rfl inX11 (by decide) ww_1056 rfl rfl rfl rfl (Nat.le_of_ble_eq_true rfl) [.ref q0, .ref q2, .ref q4, .ref q6, .ref q8, .null, .null, .null, .null, .int 0] rfl (dt_at dt_X11_init_0 32 rfl) ?_
  refine C_aload_n C (dt_at dt_X11_init_0 33 rfl) 0 rfl rfl ?_
  refine C_new C (T := TX7) (N := 2) (ci := 7) tyX7 tyX7_ok rfl inX7 ww_1238 ww_1207 ww_17 [.null, .int 0] (by decide +kernel) ⟨Nat.le_of_ble_eq_true rfl, Nat.le_of_ble_eq_true rfl⟩ (dt_at dt_X11_init_0 34 rfl) (fun q10 => ?_)
  refine C_dup C (dt_at dt_X11_init_0 35 rfl) rfl ?_
  refine C_bipush C 40 (dt_at dt_X11_init_0 36 rfl) (by decide) ?_
  refine C_callL C (k_X7_init X.2.1 G 40 40 (by decide +kernel) (by decide +kernel) (Nat.le_of_ble_eq_true rfl)) cal_X7_init ww_1208 ww_1239 rfl rfl (Nat.le_of_ble_eq_true rfl) rfl (Nat.le_of_ble_eq_true rfl) ⟨Nat.le_of_ble_eq_true rfl, Nat.le_of_ble_eq_true rfl⟩ (dt_at dt_X11_init_0 37 rfl) (fun a11 => ?_)
  refine VC_gen (fun B6 hB6 => ?_)
  refine C_putL C (T := TX11) (N := 10) (j := 5) (ci := 11) (ty := .object "FivePlayers$Row") tyX11 tyX11_ok nmX11 hp rfl inX11 (by decide) ww_251 rfl rfl rfl rfl (Nat.le_of_ble_eq_true rfl) [.ref q0, .ref q2, .ref q4, .ref q6, .ref q8, .ref q10, .null, .null, .null, .int 0] rfl (dt_at dt_X11_init_0 38 rfl) ?_
  refine C_aload_n C (dt_at dt_X11_init_0 39 rfl) 0 rfl rfl ?_
  refine C_iconst C 4 (dt_at dt_X11_init_1 0 rfl) (by decide) ?_
  refine C_newq C 4 rfl ww_1238 C.2.1.2.1 4 (by decide) (by decide) (Nat.le_of_ble_eq_true rfl) ⟨Nat.le_of_ble_eq_true rfl, Nat.le_of_ble_eq_true rfl⟩ (dt_at dt_X11_init_1 1 rfl) (fun q12 => ?_)
  refine VC_gen (fun B7 hB7 => ?_)
  refine C_putL C (T := TX11) (N := 10) (j := 6) (ci := 11) (ty := .array (.object "FivePlayers$Row")) tyX11 tyX11_ok nmX11 hp rfl inX11 (by decide) ww_188 rfl rfl rfl rfl (Nat.le_of_ble_eq_true rfl) [.ref q0, .ref q2, .ref q4, .ref q6, .ref q8, .ref q10, .ref q12, .null, .null, .int 0] rfl (dt_at dt_X11_init_1 2 rfl) ?_
  refine C_aload_n C (dt_at dt_X11_init_1 3 rfl) 0 rfl rfl ?_
  refine C_iconst C 4 (dt_at dt_X11_init_1 4 rfl) (by decide) ?_
  refine C_newa C (atype := .int) 0 rfl rfl (fun _ h => h) ww_1199 4 (4, .inl (fun _ => 0)) (fun _ => rfl) (by decide +kernel) (by decide +kernel) (Nat.le_of_ble_eq_true rfl) ⟨Nat.le_of_ble_eq_true rfl, Nat.le_of_ble_eq_true rfl⟩ (dt_at dt_X11_init_1 5 rfl) (fun q13 => ?_)
  refine VC_gen (fun B8 hB8 => ?_)
  refine C_putL C (T := TX11) (N := 10) (j := 7) (ci := 11) (ty := .array .int) tyX11 tyX11_ok nmX11 hp rfl inX11 (by decide) ww_175 rfl rfl rfl rfl (Nat.le_of_ble_eq_true rfl) [.ref q0, .ref q2, .ref q4, .ref q6, .ref q8, .ref q10, .ref q12, .ref q13, .null, .int 0] rfl (dt_at dt_X11_init_1 6 rfl) ?_
  refine C_aload_n C (dt_at dt_X11_init_1 7 rfl) 0 rfl rfl ?_
  refine C_bipush C 6 (dt_at dt_X11_init_1 8 rfl) (by decide) ?_
  refine C_newa C (atype := .int) 0 rfl rfl (fun _ h => h) ww_1199 6 (6, .inl (fun _ => 0)) (fun _ => rfl) (by decide +kernel) (by decide +kernel) (Nat.le_of_ble_eq_true rfl) ⟨Nat.le_of_ble_eq_true rfl, Nat.le_of_ble_eq_true rfl⟩ (dt_at dt_X11_init_1 9 rfl) (fun q14 => ?_)
  refine VC_gen (fun B9 hB9 => ?_)
  refine C_putL C (T := TX11) (N := 10) (j := 8) (ci := 11) (ty := .array .int) tyX11 tyX11_ok nmX11 hp rfl inX11 (by decide) ww_106 rfl rfl rfl rfl (Nat.le_of_ble_eq_true rfl) [.ref q0, .ref q2, .ref q4, .ref q6, .ref q8, .ref q10, .ref q12, .ref q13, .ref q14, .int 0] rfl (dt_at dt_X11_init_1 10 rfl) ?_
  refine C_aload_n C (dt_at dt_X11_init_1 11 rfl) 0 rfl rfl ?_
  refine C_iconst C 0 (dt_at dt_X11_init_1 12 rfl) (by decide) ?_
  refine C_putL C (T := TX11) (N := 10) (j := 9) (ci := 11) (ty := .int) tyX11 tyX11_ok nmX11 hp rfl inX11 (by decide) ww_1058 rfl rfl rfl rfl (Nat.le_of_ble_eq_true rfl) [.ref q0, .ref q2, .ref q4, .ref q6, .ref q8, .ref q10, .ref q12, .ref q13, .ref q14, .int 0] rfl (dt_at dt_X11_init_1 13 rfl) ?_
  refine C_iconst C 0 (dt_at dt_X11_init_1 14 rfl) (by decide) ?_
  refine C_istore_n C [1, 0] (lv' := [(0, .ref h0), (1, .int 0)]) (dt_at dt_X11_init_1 15 rfl) rfl (by decide) rfl ?_
  refine C_iload_n C (dt_at dt_X11_init_1 16 rfl) 1 rfl rfl ?_
  refine C_iconst C 4 (dt_at dt_X11_init_1 17 rfl) (by decide) ?_
  refine C_geF C 140 (dt_at dt_X11_init_1 18 rfl) (by decide) (by decide) ?_
  refine C_aload_n C (dt_at dt_X11_init_1 19 rfl) 0 rfl rfl ?_
  refine C_get C (T := TX11) (N := 10) (j := 6) (ci := 11) hp rfl inX11 (by decide) ww_188 rfl (dt_at dt_X11_init_1 20 rfl) ?_
  refine C_iload_n C (dt_at dt_X11_init_1 21 rfl) 1 rfl rfl ?_
  refine C_new C (T := TX7) (N := 2) (ci := 7) tyX7 tyX7_ok rfl inX7 ww_1238 ww_1207 ww_17 [.null, .int 0] (by decide +kernel) ⟨Nat.le_of_ble_eq_true rfl, Nat.le_of_ble_eq_true rfl⟩ (dt_at dt_X11_init_1 22 rfl) (fun q15 => ?_)
  refine C_dup C (dt_at dt_X11_init_1 23 rfl) rfl ?_
  refine C_bipush C 24 (dt_at dt_X11_init_1 24 rfl) (by decide) ?_
  refine C_callL C (k_X7_init X.2.1 G 24 24 (by decide +kernel) (by decide +kernel) (Nat.le_of_ble_eq_true rfl)) cal_X7_init ww_1208 ww_1239 rfl rfl (Nat.le_of_ble_eq_true rfl) rfl (Nat.le_of_ble_eq_true rfl) ⟨Nat.le_of_ble_eq_true rfl, Nat.le_of_ble_eq_true rfl⟩ (dt_at dt_X11_init_1 25 rfl) (fun a16 => ?_)
  refine VC_gen (fun B10 hB10 => ?_)
  refine C_aast C 4 71 74 rfl (gl_e hB10 (gl_l (gl_e hB9 (gl_l (gl_e hB8 (gl_l (gl_e hB7 (gl_r 0 (le_e hB6 (la 2 (le_e hB5 (la 21 (le_e hB4 (la 3 (le_e hB3 (la 20 (le_e hB2 (la 4 (le_e hB1 (la 21 rfl (lc (nl_X4_init _ _)))) (lc (nl_X10_init _ _)))) (lc (nl_X8_init _ _)))) (lc (nl_X5_init _ _)))) (lc (nl_X4_init _ _)))) rfl)) rfl rfl)))))))) (gl_e hB10 (gl_r 0 (le_e hB9 (la 1 (le_e hB8 (la 1 (le_e hB7 (la 1 (le_e hB6 (la 2 (le_e hB5 (la 21 (le_e hB4 (la 3 (le_e hB3 (la 20 (le_e hB2 (la 4 (le_e hB1 (la 21 rfl (lc (nl_X4_init _ _)))) (lc (nl_X10_init _ _)))) (lc (nl_X8_init _ _)))) (lc (nl_X5_init _ _)))) (lc (nl_X4_init _ _)))) rfl)) rfl)) rfl)) rfl)) rfl rfl)) rfl (by decide +kernel) (dt_at dt_X11_init_1 26 rfl) ?_
  refine VC_gen (fun B11 hB11 => ?_)
  refine C_iinc C 1 1 [1, 0] (lv' := [(0, .ref h0), (1, .int 1)]) (dt_at dt_X11_init_1 27 rfl) rfl (by decide) (by decide) rfl ?_
  refine C_goto C 114 (dt_at dt_X11_init_1 28 rfl) (by decide) ?_
  refine C_iload_n C (dt_at dt_X11_init_1 16 rfl) 1 rfl rfl ?_
  refine C_iconst C 4 (dt_at dt_X11_init_1 17 rfl) (by decide) ?_
  refine C_geF C 140 (dt_at dt_X11_init_1 18 rfl) (by decide) (by decide) ?_
  refine C_aload_n C (dt_at dt_X11_init_1 19 rfl) 0 rfl rfl ?_
  refine C_get C (T := TX11) (N := 10) (j := 6) (ci := 11) hp rfl inX11 (by decide) ww_188 rfl (dt_at dt_X11_init_1 20 rfl) ?_
  refine C_iload_n C (dt_at dt_X11_init_1 21 rfl) 1 rfl rfl ?_
  refine C_new C (T := TX7) (N := 2) (ci := 7) tyX7 tyX7_ok rfl inX7 ww_1238 ww_1207 ww_17 [.null, .int 0] (by decide +kernel) ⟨Nat.le_of_ble_eq_true rfl, Nat.le_of_ble_eq_true rfl⟩ (dt_at dt_X11_init_1 22 rfl) (fun q17 => ?_)
  refine C_dup C (dt_at dt_X11_init_1 23 rfl) rfl ?_
  refine C_bipush C 24 (dt_at dt_X11_init_1 24 rfl) (by decide) ?_
  refine C_callL C (k_X7_init X.2.1 G 24 24 (by decide +kernel) (by decide +kernel) (Nat.le_of_ble_eq_true rfl)) cal_X7_init ww_1208 ww_1239 rfl rfl (Nat.le_of_ble_eq_true rfl) rfl (Nat.le_of_ble_eq_true rfl) ⟨Nat.le_of_ble_eq_true rfl, Nat.le_of_ble_eq_true rfl⟩ (dt_at dt_X11_init_1 25 rfl) (fun a18 => ?_)
  refine VC_gen (fun B12 hB12 => ?_)
  refine C_aast C 4 71 76 rfl (gl_e hB12 (gl_l (gl_e hB11 (st_eq (le_e hB10 (la 2 (le_e hB9 (la 1 (le_e hB8 (la 1 (le_e hB7 (la 1 (le_e hB6 (la 2 (le_e hB5 (la 21 (le_e hB4 (la 3 (le_e hB3 (la 20 (le_e hB2 (la 4 (le_e hB1 (la 21 rfl (lc (nl_X4_init _ _)))) (lc (nl_X10_init _ _)))) (lc (nl_X8_init _ _)))) (lc (nl_X5_init _ _)))) (lc (nl_X4_init _ _)))) rfl)) rfl)) rfl)) rfl)) rfl)) (Nat.le_of_ble_eq_true rfl))))) (gl_e hB12 (gl_r 0 (le_e hB11 (ls (le_e hB10 (la 2 (le_e hB9 (la 1 (le_e hB8 (la 1 (le_e hB7 (la 1 (le_e hB6 (la 2 (le_e hB5 (la 21 (le_e hB4 (la 3 (le_e hB3 (la 20 (le_e hB2 (la 4 (le_e hB1 (la 21 rfl (lc (nl_X4_init _ _)))) (lc (nl_X10_init _ _)))) (lc (nl_X8_init _ _)))) (lc (nl_X5_init _ _)))) (lc (nl_X4_init _ _)))) rfl)) rfl)) rfl)) rfl)) rfl)))) rfl rfl)) rfl (by decide +kernel) (dt_at dt_X11_init_1 26 rfl) ?_
  refine VC_gen (fun B13 hB13 => ?_)
  refine C_iinc C 2 1 [1, 0] (lv' := [(0, .ref h0), (1, .int 2)]) (dt_at dt_X11_init_1 27 rfl) rfl (by decide) (by decide) rfl ?_
  refine C_goto C 114 (dt_at dt_X11_init_1 28 rfl) (by decide) ?_
  refine C_iload_n C (dt_at dt_X11_init_1 16 rfl) 1 rfl rfl ?_
  refine C_iconst C 4 (dt_at dt_X11_init_1 17 rfl) (by decide) ?_
  refine C_geF C 140 (dt_at dt_X11_init_1 18 rfl) (by decide) (by decide) ?_
  refine C_aload_n C (dt_at dt_X11_init_1 19 rfl) 0 rfl rfl ?_
  refine C_get C (T := TX11) (N := 10) (j := 6) (ci := 11) hp rfl inX11 (by decide) ww_188 rfl (dt_at dt_X11_init_1 20 rfl) ?_
  refine C_iload_n C (dt_at dt_X11_init_1 21 rfl) 1 rfl rfl ?_
  refine C_new C (T := TX7) (N := 2) (ci := 7) tyX7 tyX7_ok rfl inX7 ww_1238 ww_1207 ww_17 [.null, .int 0] (by decide +kernel) ⟨Nat.le_of_ble_eq_true rfl, Nat.le_of_ble_eq_true rfl⟩ (dt_at dt_X11_init_1 22 rfl) (fun q19 => ?_)
  refine C_dup C (dt_at dt_X11_init_1 23 rfl) rfl ?_
  refine C_bipush C 24 (dt_at dt_X11_init_1 24 rfl) (by decide) ?_
  refine C_callL C (k_X7_init X.2.1 G 24 24 (by decide +kernel) (by decide +kernel) (Nat.le_of_ble_eq_true rfl)) cal_X7_init ww_1208 ww_1239 rfl rfl (Nat.le_of_ble_eq_true rfl) rfl (Nat.le_of_ble_eq_true rfl) ⟨Nat.le_of_ble_eq_true rfl, Nat.le_of_ble_eq_true rfl⟩ (dt_at dt_X11_init_1 25 rfl) (fun a20 => ?_)
  refine VC_gen (fun B14 hB14 => ?_)
  refine C_aast C 4 71 78 rfl (gl_e hB14 (gl_l (gl_e hB13 (st_eq (le_e hB12 (la 2 (le_e hB11 (ls (le_e hB10 (la 2 (le_e hB9 (la 1 (le_e hB8 (la 1 (le_e hB7 (la 1 (le_e hB6 (la 2 (le_e hB5 (la 21 (le_e hB4 (la 3 (le_e hB3 (la 20 (le_e hB2 (la 4 (le_e hB1 (la 21 rfl (lc (nl_X4_init _ _)))) (lc (nl_X10_init _ _)))) (lc (nl_X8_init _ _)))) (lc (nl_X5_init _ _)))) (lc (nl_X4_init _ _)))) rfl)) rfl)) rfl)) rfl)) rfl)))) rfl)) (Nat.le_of_ble_eq_true rfl))))) (gl_e hB14 (gl_r 0 (le_e hB13 (ls (le_e hB12 (la 2 (le_e hB11 (ls (le_e hB10 (la 2 (le_e hB9 (la 1 (le_e hB8 (la 1 (le_e hB7 (la 1 (le_e hB6 (la 2 (le_e hB5 (la 21 (le_e hB4 (la 3 (le_e hB3 (la 20 (le_e hB2 (la 4 (le_e hB1 (la 21 rfl (lc (nl_X4_init _ _)))) (lc (nl_X10_init _ _)))) (lc (nl_X8_init _ _)))) (lc (nl_X5_init _ _)))) (lc (nl_X4_init _ _)))) rfl)) rfl)) rfl)) rfl)) rfl)))) rfl)))) rfl rfl)) rfl (by decide +kernel) (dt_at dt_X11_init_1 26 rfl) ?_
  refine VC_gen (fun B15 hB15 => ?_)
  refine C_iinc C 3 1 [1, 0] (lv' := [(0, .ref h0), (1, .int 3)]) (dt_at dt_X11_init_1 27 rfl) rfl (by decide) (by decide) rfl ?_
  refine C_goto C 114 (dt_at dt_X11_init_1 28 rfl) (by decide) ?_
  refine C_iload_n C (dt_at dt_X11_init_1 16 rfl) 1 rfl rfl ?_
  refine C_iconst C 4 (dt_at dt_X11_init_1 17 rfl) (by decide) ?_
  refine C_geF C 140 (dt_at dt_X11_init_1 18 rfl) (by decide) (by decide) ?_
  refine C_aload_n C (dt_at dt_X11_init_1 19 rfl) 0 rfl rfl ?_
  refine C_get C (T := TX11) (N := 10) (j := 6) (ci := 11) hp rfl inX11 (by decide) ww_188 rfl (dt_at dt_X11_init_1 20 rfl) ?_
  refine C_iload_n C (dt_at dt_X11_init_1 21 rfl) 1 rfl rfl ?_
  refine C_new C (T := TX7) (N := 2) (ci := 7) tyX7 tyX7_ok rfl inX7 ww_1238 ww_1207 ww_17 [.null, .int 0] (by decide +kernel) ⟨Nat.le_of_ble_eq_true rfl, Nat.le_of_ble_eq_true rfl⟩ (dt_at dt_X11_init_1 22 rfl) (fun q21 => ?_)
  refine C_dup C (dt_at dt_X11_init_1 23 rfl) rfl ?_
  refine C_bipush C 24 (dt_at dt_X11_init_1 24 rfl) (by decide) ?_
  refine C_callL C (k_X7_init X.2.1 G 24 24 (by decide +kernel) (by decide +kernel) (Nat.le_of_ble_eq_true rfl)) cal_X7_init ww_1208 ww_1239 rfl rfl (Nat.le_of_ble_eq_true rfl) rfl (Nat.le_of_ble_eq_true rfl) ⟨Nat.le_of_ble_eq_true rfl, Nat.le_of_ble_eq_true rfl⟩ (dt_at dt_X11_init_1 25 rfl) (fun a22 => ?_)
  refine VC_gen (fun B16 hB16 => ?_)
  refine C_aast C 4 71 80 rfl (gl_e hB16 (gl_l (gl_e hB15 (st_eq (le_e hB14 (la 2 (le_e hB13 (ls (le_e hB12 (la 2 (le_e hB11 (ls (le_e hB10 (la 2 (le_e hB9 (la 1 (le_e hB8 (la 1 (le_e hB7 (la 1 (le_e hB6 (la 2 (le_e hB5 (la 21 (le_e hB4 (la 3 (le_e hB3 (la 20 (le_e hB2 (la 4 (le_e hB1 (la 21 rfl (lc (nl_X4_init _ _)))) (lc (nl_X10_init _ _)))) (lc (nl_X8_init _ _)))) (lc (nl_X5_init _ _)))) (lc (nl_X4_init _ _)))) rfl)) rfl)) rfl)) rfl)) rfl)))) rfl)))) rfl)) (Nat.le_of_ble_eq_true rfl))))) (gl_e hB16 (gl_r 0 (le_e hB15 (ls (le_e hB14 (la 2 (le_e hB13 (ls (le_e hB12 (la 2 (le_e hB11 (ls (le_e hB10 (la 2 (le_e hB9 (la 1 (le_e hB8 (la 1 (le_e hB7 (la 1 (le_e hB6 (la 2 (le_e hB5 (la 21 (le_e hB4 (la 3 (le_e hB3 (la 20 (le_e hB2 (la 4 (le_e hB1 (la 21 rfl (lc (nl_X4_init _ _)))) (lc (nl_X10_init _ _)))) (lc (nl_X8_init _ _)))) (lc (nl_X5_init _ _)))) (lc (nl_X4_init _ _)))) rfl)) rfl)) rfl)) rfl)) rfl)))) rfl)))) rfl)))) rfl rfl)) rfl (by decide +kernel) (dt_at dt_X11_init_1 26 rfl) ?_
  refine VC_gen (fun B17 hB17 => ?_)
  refine C_iinc C 4 1 [1, 0] (lv' := [(0, .ref h0), (1, .int 4)]) (dt_at dt_X11_init_1 27 rfl) rfl (by decide) (by decide) rfl ?_
  refine C_goto C 114 (dt_at dt_X11_init_1 28 rfl) (by decide) ?_
  refine C_iload_n C (dt_at dt_X11_init_1 16 rfl) 1 rfl rfl ?_
  refine C_iconst C 4 (dt_at dt_X11_init_1 17 rfl) (by decide) ?_
  refine C_geT C 140 (dt_at dt_X11_init_1 18 rfl) (by decide) (by decide) ?_
  refine C_vret C ⟨Nat.le_of_ble_eq_true rfl, Nat.le_of_ble_eq_true rfl⟩ ⟨aX11 q0 a1 q2 a3 q4 a5 q6 a7 q8 a9 q10 a11 q12 q13 q14 q15 a16 q17 a18 q19 a20 q21 a22, ?_⟩ (dt_at dt_X11_init_1 29 rfl)
  subst hB1 hB2 hB3 hB4 hB5 hB6 hB7 hB8 hB9 hB10 hB11 hB12 hB13 hB14 hB15 hB16 hB17
  rw [nc_X4_init (aX11_1 q0 a1 q2 a3 q4 a5 q6 a7 q8 a9 q10 a11 q12 q13 q14 q15 a16 q17 a18 q19 a20 q21 a22), np_X4_init (aX11_1 q0 a1 q2 a3 q4 a5 q6 a7 q8 a9 q10 a11 q12 q13 q14 q15 a16 q17 a18 q19 a20 q21 a22)]
  rw [nc_X10_init (aX11_22 q0 a1 q2 a3 q4 a5 q6 a7 q8 a9 q10 a11 q12 q13 q14 q15 a16 q17 a18 q19 a20 q21 a22), np_X10_init (aX11_22 q0 a1 q2 a3 q4 a5 q6 a7 q8 a9 q10 a11 q12 q13 q14 q15 a16 q17 a18 q19 a20 q21 a22)]
  rw [nc_X8_init (aX11_26 q0 a1 q2 a3 q4 a5 q6 a7 q8 a9 q10 a11 q12 q13 q14 q15 a16 q17 a18 q19 a20 q21 a22), np_X8_init (aX11_26 q0 a1 q2 a3 q4 a5 q6 a7 q8 a9 q10 a11 q12 q13 q14 q15 a16 q17 a18 q19 a20 q21 a22)]
  rw [nc_X5_init (aX11_46 q0 a1 q2 a3 q4 a5 q6 a7 q8 a9 q10 a11 q12 q13 q14 q15 a16 q17 a18 q19 a20 q21 a22), np_X5_init (aX11_46 q0 a1 q2 a3 q4 a5 q6 a7 q8 a9 q10 a11 q12 q13 q14 q15 a16 q17 a18 q19 a20 q21 a22)]
  rw [nc_X4_init (aX11_49 q0 a1 q2 a3 q4 a5 q6 a7 q8 a9 q10 a11 q12 q13 q14 q15 a16 q17 a18 q19 a20 q21 a22), np_X4_init (aX11_49 q0 a1 q2 a3 q4 a5 q6 a7 q8 a9 q10 a11 q12 q13 q14 q15 a16 q17 a18 q19 a20 q21 a22)]
  rfl
