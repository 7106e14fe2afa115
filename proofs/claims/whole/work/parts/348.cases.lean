/-! the law: its cases -/
section LD
variable {X : Xx} {G : Gx} {d cells slots : Nat} {σ : St} {b L i : Nat} {ys : Nat → Int32}
set_option maxRecDepth 100000 in
theorem lw_c0 (C : Ck X G code RL 4 d) (hd : 100 ≤ d) (S : Scr X G b L ys) (hL : L ≤ 3072) (hi : i + 6 ≤ L) (hcs : cells ≤ (xR X).cells ∧ slots ≤ (xR X).slots) (hr : Rl σ) (k : ∀ σ' : St, Rl σ' → σ'.1 ≤ σ.1 + 1 → V X G 4 cells slots σ' 1522 (lvL G b i) []) : V X G 4 cells slots σ 212 (lvL G b i) [] := by
  obtain ⟨x, σ1, σ2, e1, e2, r2, n2⟩ := hr.op (fun A h1 h2 h3 => op_lines (ys (i + 1)) h1 h2 h3)
  refine V_aload_n C (n := 1) (i := 1) (dt_at dt_L_0 22 rfl) 1 rfl rfl ?_
  refine V_scr C S 1 rfl (by omega) hL (dt_at dt_L_0 23 rfl) (dt_at dt_L_0 24 rfl) (dt_at dt_L_0 25 rfl) (dt_at dt_L_0 26 rfl) (dt_at dt_L_0 27 rfl) ?_
  refine cv_X11_lines C lwk_13 (ys (i + 1)) e1 (by omega) (Nat.le_of_ble_eq_true rfl) hcs (dt_at dt_L_0 28 rfl) ?_
  refine V_aload_n C (n := 2) (i := 2) (dt_at dt_L_0 29 rfl) 2 rfl rfl ?_
  refine V_scr C S 1 rfl (by omega) hL (dt_at dt_L_0 30 rfl) (dt_at dt_L_0 31 rfl) (dt_at dt_L_0 32 rfl) (dt_at dt_L_0 33 rfl) (dt_at dt_L_0 34 rfl) ?_
  refine cv_X12_lines C lwk_17 (ys (i + 1)) e2 (by omega) (Nat.le_of_ble_eq_true rfl) hcs (dt_at dt_L_0 35 rfl) ?_
  exact V_icmp_eq C 1522 (dt_at dt_L_0 36 rfl) (by decide) (fun _ => k σ2 r2 n2) (fun q => absurd rfl q)
set_option maxRecDepth 100000 in
theorem lw_c2 (C : Ck X G code RL 4 d) (hd : 100 ≤ d) (S : Scr X G b L ys) (hL : L ≤ 3072) (hi : i + 6 ≤ L) (hcs : cells ≤ (xR X).cells ∧ slots ≤ (xR X).slots) (hr : Rl σ) (k : ∀ σ' : St, Rl σ' → σ'.1 ≤ σ.1 + 1 → V X G 4 cells slots σ' 1522 (lvL G b i) []) : V X G 4 cells slots σ 268 (lvL G b i) [] := by
  obtain ⟨x, σ1, σ2, e1, e2, r2, n2⟩ := hr.op (fun A h1 h2 h3 => op_as (ys (i + 1)) (ys (i + 2)) h1 h2 h3)
  refine V_aload_n C (n := 1) (i := 1) (dt_at dt_L_1 6 rfl) 1 rfl rfl ?_
  refine V_scr C S 1 rfl (by omega) hL (dt_at dt_L_1 7 rfl) (dt_at dt_L_1 8 rfl) (dt_at dt_L_1 9 rfl) (dt_at dt_L_1 10 rfl) (dt_at dt_L_1 11 rfl) ?_
  refine V_scr C S 2 rfl (by omega) hL (dt_at dt_L_1 12 rfl) (dt_at dt_L_1 13 rfl) (dt_at dt_L_1 14 rfl) (dt_at dt_L_1 15 rfl) (dt_at dt_L_1 16 rfl) ?_
  refine cv_X11_as C lwk_23 (ys (i + 1)) (ys (i + 2)) e1 (by omega) (Nat.le_of_ble_eq_true rfl) hcs (dt_at dt_L_1 17 rfl) ?_
  refine V_aload_n C (n := 2) (i := 2) (dt_at dt_L_1 18 rfl) 2 rfl rfl ?_
  refine V_scr C S 1 rfl (by omega) hL (dt_at dt_L_1 19 rfl) (dt_at dt_L_1 20 rfl) (dt_at dt_L_1 21 rfl) (dt_at dt_L_1 22 rfl) (dt_at dt_L_1 23 rfl) ?_
  refine V_scr C S 2 rfl (by omega) hL (dt_at dt_L_1 24 rfl) (dt_at dt_L_1 25 rfl) (dt_at dt_L_1 26 rfl) (dt_at dt_L_1 27 rfl) (dt_at dt_L_1 28 rfl) ?_
  refine cv_X12_as C lwk_26 (ys (i + 1)) (ys (i + 2)) e2 (by omega) (Nat.le_of_ble_eq_true rfl) hcs (dt_at dt_L_1 29 rfl) ?_
  exact V_icmp_eq C 1522 (dt_at dt_L_1 30 rfl) (by decide) (fun _ => k σ2 r2 n2) (fun q => absurd rfl q)
set_option maxRecDepth 100000 in
theorem lw_c3 (C : Ck X G code RL 4 d) (hd : 100 ≤ d) (S : Scr X G b L ys) (hL : L ≤ 3072) (hi : i + 6 ≤ L) (hcs : cells ≤ (xR X).cells ∧ slots ≤ (xR X).slots) (hr : Rl σ) (k : ∀ σ' : St, Rl σ' → σ'.1 ≤ σ.1 + 1 → V X G 4 cells slots σ' 1522 (lvL G b i) []) : V X G 4 cells slots σ 301 (lvL G b i) [] := by
  obtain ⟨x, σ1, σ2, e1, e2, r2, n2⟩ := hr.op (fun A h1 h2 h3 => op_partIs (ys (i + 1)) (ys (i + 2)) h1 h2 h3)
  refine V_aload_n C (n := 1) (i := 1) (dt_at dt_L_1 33 rfl) 1 rfl rfl ?_
  refine V_scr C S 1 rfl (by omega) hL (dt_at dt_L_1 34 rfl) (dt_at dt_L_1 35 rfl) (dt_at dt_L_1 36 rfl) (dt_at dt_L_1 37 rfl) (dt_at dt_L_1 38 rfl) ?_
  refine V_scr C S 2 rfl (by omega) hL (dt_at dt_L_1 39 rfl) (dt_at dt_L_1 40 rfl) (dt_at dt_L_1 41 rfl) (dt_at dt_L_1 42 rfl) (dt_at dt_L_1 43 rfl) ?_
  refine cv_X11_partIs C lwk_27 (ys (i + 1)) (ys (i + 2)) e1 (by omega) (Nat.le_of_ble_eq_true rfl) hcs (dt_at dt_L_1 44 rfl) ?_
  refine V_aload_n C (n := 2) (i := 2) (dt_at dt_L_1 45 rfl) 2 rfl rfl ?_
  refine V_scr C S 1 rfl (by omega) hL (dt_at dt_L_1 46 rfl) (dt_at dt_L_1 47 rfl) (dt_at dt_L_1 48 rfl) (dt_at dt_L_1 49 rfl) (dt_at dt_L_1 50 rfl) ?_
  refine V_scr C S 2 rfl (by omega) hL (dt_at dt_L_1 51 rfl) (dt_at dt_L_1 52 rfl) (dt_at dt_L_1 53 rfl) (dt_at dt_L_1 54 rfl) (dt_at dt_L_1 55 rfl) ?_
  refine cv_X12_partIs C lwk_30 (ys (i + 1)) (ys (i + 2)) e2 (by omega) (Nat.le_of_ble_eq_true rfl) hcs (dt_at dt_L_1 56 rfl) ?_
  exact V_icmp_eq C 1522 (dt_at dt_L_1 57 rfl) (by decide) (fun _ => k σ2 r2 n2) (fun q => absurd rfl q)
set_option maxRecDepth 100000 in
theorem lw_c4 (C : Ck X G code RL 4 d) (hd : 100 ≤ d) (S : Scr X G b L ys) (hL : L ≤ 3072) (hi : i + 6 ≤ L) (hcs : cells ≤ (xR X).cells ∧ slots ≤ (xR X).slots) (hr : Rl σ) (k : ∀ σ' : St, Rl σ' → σ'.1 ≤ σ.1 + 1 → V X G 4 cells slots σ' 1522 (lvL G b i) []) : V X G 4 cells slots σ 334 (lvL G b i) [] := by
  obtain ⟨x, σ1, σ2, e1, e2, r2, n2⟩ := hr.op (fun A h1 h2 h3 => op_entry (ys (i + 1)) (ys (i + 2)) (ys (i + 3)) (ys (i + 4)) h1 h2 h3)
  refine V_aload_n C (n := 1) (i := 1) (dt_at dt_L_2 0 rfl) 1 rfl rfl ?_
  refine V_scr C S 1 rfl (by omega) hL (dt_at dt_L_2 1 rfl) (dt_at dt_L_2 2 rfl) (dt_at dt_L_2 3 rfl) (dt_at dt_L_2 4 rfl) (dt_at dt_L_2 5 rfl) ?_
  refine V_scr C S 2 rfl (by omega) hL (dt_at dt_L_2 6 rfl) (dt_at dt_L_2 7 rfl) (dt_at dt_L_2 8 rfl) (dt_at dt_L_2 9 rfl) (dt_at dt_L_2 10 rfl) ?_
  refine V_scr C S 3 rfl (by omega) hL (dt_at dt_L_2 11 rfl) (dt_at dt_L_2 12 rfl) (dt_at dt_L_2 13 rfl) (dt_at dt_L_2 14 rfl) (dt_at dt_L_2 15 rfl) ?_
  refine V_scr C S 4 rfl (by omega) hL (dt_at dt_L_2 16 rfl) (dt_at dt_L_2 17 rfl) (dt_at dt_L_2 18 rfl) (dt_at dt_L_2 19 rfl) (dt_at dt_L_2 20 rfl) ?_
  refine cv_X11_entry C lwk_31 (ys (i + 1)) (ys (i + 2)) (ys (i + 3)) (ys (i + 4)) e1 (by omega) (Nat.le_of_ble_eq_true rfl) hcs (dt_at dt_L_2 21 rfl) ?_
  refine V_aload_n C (n := 2) (i := 2) (dt_at dt_L_2 22 rfl) 2 rfl rfl ?_
  refine V_scr C S 1 rfl (by omega) hL (dt_at dt_L_2 23 rfl) (dt_at dt_L_2 24 rfl) (dt_at dt_L_2 25 rfl) (dt_at dt_L_2 26 rfl) (dt_at dt_L_2 27 rfl) ?_
  refine V_scr C S 2 rfl (by omega) hL (dt_at dt_L_2 28 rfl) (dt_at dt_L_2 29 rfl) (dt_at dt_L_2 30 rfl) (dt_at dt_L_2 31 rfl) (dt_at dt_L_2 32 rfl) ?_
  refine V_scr C S 3 rfl (by omega) hL (dt_at dt_L_2 33 rfl) (dt_at dt_L_2 34 rfl) (dt_at dt_L_2 35 rfl) (dt_at dt_L_2 36 rfl) (dt_at dt_L_2 37 rfl) ?_
  refine V_scr C S 4 rfl (by omega) hL (dt_at dt_L_2 38 rfl) (dt_at dt_L_2 39 rfl) (dt_at dt_L_2 40 rfl) (dt_at dt_L_2 41 rfl) (dt_at dt_L_2 42 rfl) ?_
  refine cv_X12_entry C lwk_35 (ys (i + 1)) (ys (i + 2)) (ys (i + 3)) (ys (i + 4)) e2 (by omega) (Nat.le_of_ble_eq_true rfl) hcs (dt_at dt_L_2 43 rfl) ?_
  exact V_icmp_eq C 1522 (dt_at dt_L_2 44 rfl) (by decide) (fun _ => k σ2 r2 n2) (fun q => absurd rfl q)
set_option maxRecDepth 100000 in
theorem lw_c5 (C : Ck X G code RL 4 d) (hd : 100 ≤ d) (S : Scr X G b L ys) (hL : L ≤ 3072) (hi : i + 6 ≤ L) (hcs : cells ≤ (xR X).cells ∧ slots ≤ (xR X).slots) (hr : Rl σ) (k : ∀ σ' : St, Rl σ' → σ'.1 ≤ σ.1 + 1 → V X G 4 cells slots σ' 1522 (lvL G b i) []) : V X G 4 cells slots σ 387 (lvL G b i) [] := by
  obtain ⟨x, σ1, σ2, e1, e2, r2, n2⟩ := hr.op (fun A h1 h2 h3 => op_entryIs (ys (i + 1)) (ys (i + 2)) h1 h2 h3)
  refine V_aload_n C (n := 1) (i := 1) (dt_at dt_L_2 47 rfl) 1 rfl rfl ?_
  refine V_scr C S 1 rfl (by omega) hL (dt_at dt_L_2 48 rfl) (dt_at dt_L_2 49 rfl) (dt_at dt_L_2 50 rfl) (dt_at dt_L_2 51 rfl) (dt_at dt_L_2 52 rfl) ?_
  refine V_scr C S 2 rfl (by omega) hL (dt_at dt_L_2 53 rfl) (dt_at dt_L_2 54 rfl) (dt_at dt_L_2 55 rfl) (dt_at dt_L_2 56 rfl) (dt_at dt_L_2 57 rfl) ?_
  refine cv_X11_entryIs C lwk_36 (ys (i + 1)) (ys (i + 2)) e1 (by omega) (Nat.le_of_ble_eq_true rfl) hcs (dt_at dt_L_2 58 rfl) ?_
  refine V_aload_n C (n := 2) (i := 2) (dt_at dt_L_2 59 rfl) 2 rfl rfl ?_
  refine V_scr C S 1 rfl (by omega) hL (dt_at dt_L_3 0 rfl) (dt_at dt_L_3 1 rfl) (dt_at dt_L_3 2 rfl) (dt_at dt_L_3 3 rfl) (dt_at dt_L_3 4 rfl) ?_
  refine V_scr C S 2 rfl (by omega) hL (dt_at dt_L_3 5 rfl) (dt_at dt_L_3 6 rfl) (dt_at dt_L_3 7 rfl) (dt_at dt_L_3 8 rfl) (dt_at dt_L_3 9 rfl) ?_
  refine cv_X12_entryIs C lwk_39 (ys (i + 1)) (ys (i + 2)) e2 (by omega) (Nat.le_of_ble_eq_true rfl) hcs (dt_at dt_L_3 10 rfl) ?_
  exact V_icmp_eq C 1522 (dt_at dt_L_3 11 rfl) (by decide) (fun _ => k σ2 r2 n2) (fun q => absurd rfl q)
set_option maxRecDepth 100000 in
theorem lw_c6 (C : Ck X G code RL 4 d) (hd : 100 ≤ d) (S : Scr X G b L ys) (hL : L ≤ 3072) (hi : i + 6 ≤ L) (hcs : cells ≤ (xR X).cells ∧ slots ≤ (xR X).slots) (hr : Rl σ) (k : ∀ σ' : St, Rl σ' → σ'.1 ≤ σ.1 + 1 → V X G 4 cells slots σ' 1522 (lvL G b i) []) : V X G 4 cells slots σ 420 (lvL G b i) [] := by
  obtain ⟨x, σ1, σ2, e1, e2, r2, n2⟩ := hr.op (fun A h1 h2 h3 => op_shift (ys (i + 1)) (ys (i + 2)) h1 h2 h3)
  refine V_aload_n C (n := 1) (i := 1) (dt_at dt_L_3 14 rfl) 1 rfl rfl ?_
  refine V_scr C S 1 rfl (by omega) hL (dt_at dt_L_3 15 rfl) (dt_at dt_L_3 16 rfl) (dt_at dt_L_3 17 rfl) (dt_at dt_L_3 18 rfl) (dt_at dt_L_3 19 rfl) ?_
  refine V_scr C S 2 rfl (by omega) hL (dt_at dt_L_3 20 rfl) (dt_at dt_L_3 21 rfl) (dt_at dt_L_3 22 rfl) (dt_at dt_L_3 23 rfl) (dt_at dt_L_3 24 rfl) ?_
  refine cv_X11_shift C lwk_40 (ys (i + 1)) (ys (i + 2)) e1 (by omega) (Nat.le_of_ble_eq_true rfl) hcs (dt_at dt_L_3 25 rfl) ?_
  refine V_aload_n C (n := 2) (i := 2) (dt_at dt_L_3 26 rfl) 2 rfl rfl ?_
  refine V_scr C S 1 rfl (by omega) hL (dt_at dt_L_3 27 rfl) (dt_at dt_L_3 28 rfl) (dt_at dt_L_3 29 rfl) (dt_at dt_L_3 30 rfl) (dt_at dt_L_3 31 rfl) ?_
  refine V_scr C S 2 rfl (by omega) hL (dt_at dt_L_3 32 rfl) (dt_at dt_L_3 33 rfl) (dt_at dt_L_3 34 rfl) (dt_at dt_L_3 35 rfl) (dt_at dt_L_3 36 rfl) ?_
  refine cv_X12_shift C lwk_43 (ys (i + 1)) (ys (i + 2)) e2 (by omega) (Nat.le_of_ble_eq_true rfl) hcs (dt_at dt_L_3 37 rfl) ?_
  exact V_icmp_eq C 1522 (dt_at dt_L_3 38 rfl) (by decide) (fun _ => k σ2 r2 n2) (fun q => absurd rfl q)
set_option maxRecDepth 100000 in
theorem lw_c7 (C : Ck X G code RL 4 d) (hd : 100 ≤ d) (S : Scr X G b L ys) (hL : L ≤ 3072) (hi : i + 6 ≤ L) (hcs : cells ≤ (xR X).cells ∧ slots ≤ (xR X).slots) (hr : Rl σ) (k : ∀ σ' : St, Rl σ' → σ'.1 ≤ σ.1 + 1 → V X G 4 cells slots σ' 1522 (lvL G b i) []) : V X G 4 cells slots σ 453 (lvL G b i) [] := by
  obtain ⟨x, σ1, σ2, e1, e2, r2, n2⟩ := hr.op (fun A h1 h2 h3 => op_on (ys (i + 1)) h1 h2 h3)
  refine V_aload_n C (n := 1) (i := 1) (dt_at dt_L_3 41 rfl) 1 rfl rfl ?_
  refine V_scr C S 1 rfl (by omega) hL (dt_at dt_L_3 42 rfl) (dt_at dt_L_3 43 rfl) (dt_at dt_L_3 44 rfl) (dt_at dt_L_3 45 rfl) (dt_at dt_L_3 46 rfl) ?_
  refine cv_X11_on C lwk_44 (ys (i + 1)) e1 (by omega) (Nat.le_of_ble_eq_true rfl) hcs (dt_at dt_L_3 47 rfl) ?_
  refine V_aload_n C (n := 2) (i := 2) (dt_at dt_L_3 48 rfl) 2 rfl rfl ?_
  refine V_scr C S 1 rfl (by omega) hL (dt_at dt_L_3 49 rfl) (dt_at dt_L_3 50 rfl) (dt_at dt_L_3 51 rfl) (dt_at dt_L_3 52 rfl) (dt_at dt_L_3 53 rfl) ?_
  refine cv_X12_on C lwk_47 (ys (i + 1)) e2 (by omega) (Nat.le_of_ble_eq_true rfl) hcs (dt_at dt_L_3 54 rfl) ?_
  exact V_icmp_eq C 1522 (dt_at dt_L_3 55 rfl) (by decide) (fun _ => k σ2 r2 n2) (fun q => absurd rfl q)
set_option maxRecDepth 100000 in
theorem lw_c8 (C : Ck X G code RL 4 d) (hd : 100 ≤ d) (S : Scr X G b L ys) (hL : L ≤ 3072) (hi : i + 6 ≤ L) (hcs : cells ≤ (xR X).cells ∧ slots ≤ (xR X).slots) (hr : Rl σ) (k : ∀ σ' : St, Rl σ' → σ'.1 ≤ σ.1 + 1 → V X G 4 cells slots σ' 1522 (lvL G b i) []) : V X G 4 cells slots σ 476 (lvL G b i) [] := by
  obtain ⟨x, σ1, σ2, e1, e2, r2, n2⟩ := hr.op (fun A h1 h2 h3 => op_player (ys (i + 1)) (ys (i + 2)) h1 h2 h3)
  refine V_aload_n C (n := 1) (i := 1) (dt_at dt_L_3 58 rfl) 1 rfl rfl ?_
  refine V_scr C S 1 rfl (by omega) hL (dt_at dt_L_3 59 rfl) (dt_at dt_L_4 0 rfl) (dt_at dt_L_4 1 rfl) (dt_at dt_L_4 2 rfl) (dt_at dt_L_4 3 rfl) ?_
  refine V_scr C S 2 rfl (by omega) hL (dt_at dt_L_4 4 rfl) (dt_at dt_L_4 5 rfl) (dt_at dt_L_4 6 rfl) (dt_at dt_L_4 7 rfl) (dt_at dt_L_4 8 rfl) ?_
  refine cv_X11_player C lwk_48 (ys (i + 1)) (ys (i + 2)) e1 (by omega) (Nat.le_of_ble_eq_true rfl) hcs (dt_at dt_L_4 9 rfl) ?_
  refine V_aload_n C (n := 2) (i := 2) (dt_at dt_L_4 10 rfl) 2 rfl rfl ?_
  refine V_scr C S 1 rfl (by omega) hL (dt_at dt_L_4 11 rfl) (dt_at dt_L_4 12 rfl) (dt_at dt_L_4 13 rfl) (dt_at dt_L_4 14 rfl) (dt_at dt_L_4 15 rfl) ?_
  refine V_scr C S 2 rfl (by omega) hL (dt_at dt_L_4 16 rfl) (dt_at dt_L_4 17 rfl) (dt_at dt_L_4 18 rfl) (dt_at dt_L_4 19 rfl) (dt_at dt_L_4 20 rfl) ?_
  refine cv_X12_player C lwk_51 (ys (i + 1)) (ys (i + 2)) e2 (by omega) (Nat.le_of_ble_eq_true rfl) hcs (dt_at dt_L_4 21 rfl) ?_
  exact V_icmp_eq C 1522 (dt_at dt_L_4 22 rfl) (by decide) (fun _ => k σ2 r2 n2) (fun q => absurd rfl q)
set_option maxRecDepth 100000 in
theorem lw_c10 (C : Ck X G code RL 4 d) (hd : 100 ≤ d) (S : Scr X G b L ys) (hL : L ≤ 3072) (hi : i + 6 ≤ L) (hcs : cells ≤ (xR X).cells ∧ slots ≤ (xR X).slots) (hr : Rl σ) (k : ∀ σ' : St, Rl σ' → σ'.1 ≤ σ.1 + 1 → V X G 4 cells slots σ' 1522 (lvL G b i) []) : V X G 4 cells slots σ 568 (lvL G b i) [] := by
  obtain ⟨x, σ1, σ2, e1, e2, r2, n2⟩ := hr.op (fun A h1 h2 h3 => op_can (ys (i + 1)) (ys (i + 2)) h1 h2 h3)
  refine V_aload_n C (n := 1) (i := 1) (dt_at dt_L_5 10 rfl) 1 rfl rfl ?_
  refine V_scr C S 1 rfl (by omega) hL (dt_at dt_L_5 11 rfl) (dt_at dt_L_5 12 rfl) (dt_at dt_L_5 13 rfl) (dt_at dt_L_5 14 rfl) (dt_at dt_L_5 15 rfl) ?_
  refine V_scr C S 2 rfl (by omega) hL (dt_at dt_L_5 16 rfl) (dt_at dt_L_5 17 rfl) (dt_at dt_L_5 18 rfl) (dt_at dt_L_5 19 rfl) (dt_at dt_L_5 20 rfl) ?_
  refine cv_X11_can C lwk_57 (ys (i + 1)) (ys (i + 2)) e1 (by omega) (Nat.le_of_ble_eq_true rfl) hcs (dt_at dt_L_5 21 rfl) ?_
  refine V_aload_n C (n := 2) (i := 2) (dt_at dt_L_5 22 rfl) 2 rfl rfl ?_
  refine V_scr C S 1 rfl (by omega) hL (dt_at dt_L_5 23 rfl) (dt_at dt_L_5 24 rfl) (dt_at dt_L_5 25 rfl) (dt_at dt_L_5 26 rfl) (dt_at dt_L_5 27 rfl) ?_
  refine V_scr C S 2 rfl (by omega) hL (dt_at dt_L_5 28 rfl) (dt_at dt_L_5 29 rfl) (dt_at dt_L_5 30 rfl) (dt_at dt_L_5 31 rfl) (dt_at dt_L_5 32 rfl) ?_
  refine cv_X12_can C lwk_60 (ys (i + 1)) (ys (i + 2)) e2 (by omega) (Nat.le_of_ble_eq_true rfl) hcs (dt_at dt_L_5 33 rfl) ?_
  exact V_icmp_eq C 1522 (dt_at dt_L_5 34 rfl) (by decide) (fun _ => k σ2 r2 n2) (fun q => absurd rfl q)
set_option maxRecDepth 100000 in
theorem lw_c11 (C : Ck X G code RL 4 d) (hd : 100 ≤ d) (S : Scr X G b L ys) (hL : L ≤ 3072) (hi : i + 6 ≤ L) (hcs : cells ≤ (xR X).cells ∧ slots ≤ (xR X).slots) (hr : Rl σ) (k : ∀ σ' : St, Rl σ' → σ'.1 ≤ σ.1 + 1 → V X G 4 cells slots σ' 1522 (lvL G b i) []) : V X G 4 cells slots σ 601 (lvL G b i) [] := by
  obtain ⟨x, σ1, σ2, e1, e2, r2, n2⟩ := hr.op (fun A h1 h2 h3 => op_wish (ys (i + 1)) (ys (i + 2)) h1 h2 h3)
  refine V_aload_n C (n := 1) (i := 1) (dt_at dt_L_5 37 rfl) 1 rfl rfl ?_
  refine V_scr C S 1 rfl (by omega) hL (dt_at dt_L_5 38 rfl) (dt_at dt_L_5 39 rfl) (dt_at dt_L_5 40 rfl) (dt_at dt_L_5 41 rfl) (dt_at dt_L_5 42 rfl) ?_
  refine V_scr C S 2 rfl (by omega) hL (dt_at dt_L_5 43 rfl) (dt_at dt_L_5 44 rfl) (dt_at dt_L_5 45 rfl) (dt_at dt_L_5 46 rfl) (dt_at dt_L_5 47 rfl) ?_
  refine cv_X11_wish C lwk_61 (ys (i + 1)) (ys (i + 2)) e1 (by omega) (Nat.le_of_ble_eq_true rfl) hcs (dt_at dt_L_5 48 rfl) ?_
  refine V_aload_n C (n := 2) (i := 2) (dt_at dt_L_5 49 rfl) 2 rfl rfl ?_
  refine V_scr C S 1 rfl (by omega) hL (dt_at dt_L_5 50 rfl) (dt_at dt_L_5 51 rfl) (dt_at dt_L_5 52 rfl) (dt_at dt_L_5 53 rfl) (dt_at dt_L_5 54 rfl) ?_
  refine V_scr C S 2 rfl (by omega) hL (dt_at dt_L_5 55 rfl) (dt_at dt_L_5 56 rfl) (dt_at dt_L_5 57 rfl) (dt_at dt_L_5 58 rfl) (dt_at dt_L_5 59 rfl) ?_
  refine cv_X12_wish C lwk_64 (ys (i + 1)) (ys (i + 2)) e2 (by omega) (Nat.le_of_ble_eq_true rfl) hcs (dt_at dt_L_6 0 rfl) ?_
  exact V_icmp_eq C 1522 (dt_at dt_L_6 1 rfl) (by decide) (fun _ => k σ2 r2 n2) (fun q => absurd rfl q)
set_option maxRecDepth 100000 in
theorem lw_c13 (C : Ck X G code RL 4 d) (hd : 100 ≤ d) (S : Scr X G b L ys) (hL : L ≤ 3072) (hi : i + 6 ≤ L) (hcs : cells ≤ (xR X).cells ∧ slots ≤ (xR X).slots) (hr : Rl σ) (k : ∀ σ' : St, Rl σ' → σ'.1 ≤ σ.1 + 1 → V X G 4 cells slots σ' 1522 (lvL G b i) []) : V X G 4 cells slots σ 697 (lvL G b i) [] := by
  obtain ⟨x, σ1, σ2, e1, e2, r2, n2⟩ := hr.op (fun A h1 h2 h3 => op_text (ys (i + 1)) h1 h2 h3)
  refine V_aload_n C (n := 1) (i := 1) (dt_at dt_L_6 55 rfl) 1 rfl rfl ?_
  refine V_scr C S 1 rfl (by omega) hL (dt_at dt_L_6 56 rfl) (dt_at dt_L_6 57 rfl) (dt_at dt_L_6 58 rfl) (dt_at dt_L_6 59 rfl) (dt_at dt_L_7 0 rfl) ?_
  refine cv_X11_text C lwk_72 (ys (i + 1)) e1 (by omega) (Nat.le_of_ble_eq_true rfl) hcs (dt_at dt_L_7 1 rfl) ?_
  refine V_aload_n C (n := 2) (i := 2) (dt_at dt_L_7 2 rfl) 2 rfl rfl ?_
  refine V_scr C S 1 rfl (by omega) hL (dt_at dt_L_7 3 rfl) (dt_at dt_L_7 4 rfl) (dt_at dt_L_7 5 rfl) (dt_at dt_L_7 6 rfl) (dt_at dt_L_7 7 rfl) ?_
  refine cv_X12_text C lwk_75 (ys (i + 1)) e2 (by omega) (Nat.le_of_ble_eq_true rfl) hcs (dt_at dt_L_7 8 rfl) ?_
  exact V_icmp_eq C 1522 (dt_at dt_L_7 9 rfl) (by decide) (fun _ => k σ2 r2 n2) (fun q => absurd rfl q)
set_option maxRecDepth 100000 in
theorem lw_c14 (C : Ck X G code RL 4 d) (hd : 100 ≤ d) (S : Scr X G b L ys) (hL : L ≤ 3072) (hi : i + 6 ≤ L) (hcs : cells ≤ (xR X).cells ∧ slots ≤ (xR X).slots) (hr : Rl σ) (k : ∀ σ' : St, Rl σ' → σ'.1 ≤ σ.1 + 1 → V X G 4 cells slots σ' 1522 (lvL G b i) []) : V X G 4 cells slots σ 720 (lvL G b i) [] := by
  obtain ⟨x, σ1, σ2, e1, e2, r2, n2⟩ := hr.op (fun A h1 h2 h3 => op_change (ys (i + 1)) (ys (i + 2)) (ys (i + 3)) h1 h2 h3)
  refine V_aload_n C (n := 1) (i := 1) (dt_at dt_L_7 12 rfl) 1 rfl rfl ?_
  refine V_scr C S 1 rfl (by omega) hL (dt_at dt_L_7 13 rfl) (dt_at dt_L_7 14 rfl) (dt_at dt_L_7 15 rfl) (dt_at dt_L_7 16 rfl) (dt_at dt_L_7 17 rfl) ?_
  refine V_scr C S 2 rfl (by omega) hL (dt_at dt_L_7 18 rfl) (dt_at dt_L_7 19 rfl) (dt_at dt_L_7 20 rfl) (dt_at dt_L_7 21 rfl) (dt_at dt_L_7 22 rfl) ?_
  refine V_scr C S 3 rfl (by omega) hL (dt_at dt_L_7 23 rfl) (dt_at dt_L_7 24 rfl) (dt_at dt_L_7 25 rfl) (dt_at dt_L_7 26 rfl) (dt_at dt_L_7 27 rfl) ?_
  refine cv_X11_change C lwk_76 (ys (i + 1)) (ys (i + 2)) (ys (i + 3)) e1 (by omega) (Nat.le_of_ble_eq_true rfl) hcs (dt_at dt_L_7 28 rfl) ?_
  refine V_aload_n C (n := 2) (i := 2) (dt_at dt_L_7 29 rfl) 2 rfl rfl ?_
  refine V_scr C S 1 rfl (by omega) hL (dt_at dt_L_7 30 rfl) (dt_at dt_L_7 31 rfl) (dt_at dt_L_7 32 rfl) (dt_at dt_L_7 33 rfl) (dt_at dt_L_7 34 rfl) ?_
  refine V_scr C S 2 rfl (by omega) hL (dt_at dt_L_7 35 rfl) (dt_at dt_L_7 36 rfl) (dt_at dt_L_7 37 rfl) (dt_at dt_L_7 38 rfl) (dt_at dt_L_7 39 rfl) ?_
  refine V_scr C S 3 rfl (by omega) hL (dt_at dt_L_7 40 rfl) (dt_at dt_L_7 41 rfl) (dt_at dt_L_7 42 rfl) (dt_at dt_L_7 43 rfl) (dt_at dt_L_7 44 rfl) ?_
  refine cv_X12_change C lwk_80 (ys (i + 1)) (ys (i + 2)) (ys (i + 3)) e2 (by omega) (Nat.le_of_ble_eq_true rfl) hcs (dt_at dt_L_7 45 rfl) ?_
  exact V_icmp_eq C 1522 (dt_at dt_L_7 46 rfl) (by decide) (fun _ => k σ2 r2 n2) (fun q => absurd rfl q)
set_option maxRecDepth 100000 in
theorem lw_c15 (C : Ck X G code RL 4 d) (hd : 100 ≤ d) (S : Scr X G b L ys) (hL : L ≤ 3072) (hi : i + 6 ≤ L) (hcs : cells ≤ (xR X).cells ∧ slots ≤ (xR X).slots) (hr : Rl σ) (k : ∀ σ' : St, Rl σ' → σ'.1 ≤ σ.1 + 1 → V X G 4 cells slots σ' 1522 (lvL G b i) []) : V X G 4 cells slots σ 763 (lvL G b i) [] := by
  obtain ⟨x, σ1, σ2, e1, e2, r2, n2⟩ := hr.op (fun A h1 h2 h3 => op_two (ys (i + 1)) (ys (i + 2)) (ys (i + 3)) h1 h2 h3)
  refine V_aload_n C (n := 1) (i := 1) (dt_at dt_L_7 49 rfl) 1 rfl rfl ?_
  refine V_scr C S 1 rfl (by omega) hL (dt_at dt_L_7 50 rfl) (dt_at dt_L_7 51 rfl) (dt_at dt_L_7 52 rfl) (dt_at dt_L_7 53 rfl) (dt_at dt_L_7 54 rfl) ?_
  refine V_scr C S 2 rfl (by omega) hL (dt_at dt_L_7 55 rfl) (dt_at dt_L_7 56 rfl) (dt_at dt_L_7 57 rfl) (dt_at dt_L_7 58 rfl) (dt_at dt_L_7 59 rfl) ?_
  refine V_scr C S 3 rfl (by omega) hL (dt_at dt_L_8 0 rfl) (dt_at dt_L_8 1 rfl) (dt_at dt_L_8 2 rfl) (dt_at dt_L_8 3 rfl) (dt_at dt_L_8 4 rfl) ?_
  refine cv_X11_two C lwk_81 (ys (i + 1)) (ys (i + 2)) (ys (i + 3)) e1 (by omega) (Nat.le_of_ble_eq_true rfl) hcs (dt_at dt_L_8 5 rfl) ?_
  refine V_aload_n C (n := 2) (i := 2) (dt_at dt_L_8 6 rfl) 2 rfl rfl ?_
  refine V_scr C S 1 rfl (by omega) hL (dt_at dt_L_8 7 rfl) (dt_at dt_L_8 8 rfl) (dt_at dt_L_8 9 rfl) (dt_at dt_L_8 10 rfl) (dt_at dt_L_8 11 rfl) ?_
  refine V_scr C S 2 rfl (by omega) hL (dt_at dt_L_8 12 rfl) (dt_at dt_L_8 13 rfl) (dt_at dt_L_8 14 rfl) (dt_at dt_L_8 15 rfl) (dt_at dt_L_8 16 rfl) ?_
  refine V_scr C S 3 rfl (by omega) hL (dt_at dt_L_8 17 rfl) (dt_at dt_L_8 18 rfl) (dt_at dt_L_8 19 rfl) (dt_at dt_L_8 20 rfl) (dt_at dt_L_8 21 rfl) ?_
  refine cv_X12_two C lwk_84 (ys (i + 1)) (ys (i + 2)) (ys (i + 3)) e2 (by omega) (Nat.le_of_ble_eq_true rfl) hcs (dt_at dt_L_8 22 rfl) ?_
  exact V_icmp_eq C 1522 (dt_at dt_L_8 23 rfl) (by decide) (fun _ => k σ2 r2 n2) (fun q => absurd rfl q)
set_option maxRecDepth 100000 in
theorem lw_c16 (C : Ck X G code RL 4 d) (hd : 100 ≤ d) (S : Scr X G b L ys) (hL : L ≤ 3072) (hi : i + 6 ≤ L) (hcs : cells ≤ (xR X).cells ∧ slots ≤ (xR X).slots) (hr : Rl σ) (k : ∀ σ' : St, Rl σ' → σ'.1 ≤ σ.1 + 1 → V X G 4 cells slots σ' 1522 (lvL G b i) []) : V X G 4 cells slots σ 806 (lvL G b i) [] := by
  obtain ⟨x, σ1, σ2, e1, e2, r2, n2⟩ := hr.op (fun A h1 h2 h3 => op_cast (ys (i + 1)) (ys (i + 2)) h1 h2 h3)
  refine V_aload_n C (n := 1) (i := 1) (dt_at dt_L_8 26 rfl) 1 rfl rfl ?_
  refine V_scr C S 1 rfl (by omega) hL (dt_at dt_L_8 27 rfl) (dt_at dt_L_8 28 rfl) (dt_at dt_L_8 29 rfl) (dt_at dt_L_8 30 rfl) (dt_at dt_L_8 31 rfl) ?_
  refine V_scr C S 2 rfl (by omega) hL (dt_at dt_L_8 32 rfl) (dt_at dt_L_8 33 rfl) (dt_at dt_L_8 34 rfl) (dt_at dt_L_8 35 rfl) (dt_at dt_L_8 36 rfl) ?_
  refine cv_X11_cast C lwk_85 (ys (i + 1)) (ys (i + 2)) e1 (by omega) (Nat.le_of_ble_eq_true rfl) hcs (dt_at dt_L_8 37 rfl) ?_
  refine V_aload_n C (n := 2) (i := 2) (dt_at dt_L_8 38 rfl) 2 rfl rfl ?_
  refine V_scr C S 1 rfl (by omega) hL (dt_at dt_L_8 39 rfl) (dt_at dt_L_8 40 rfl) (dt_at dt_L_8 41 rfl) (dt_at dt_L_8 42 rfl) (dt_at dt_L_8 43 rfl) ?_
  refine V_scr C S 2 rfl (by omega) hL (dt_at dt_L_8 44 rfl) (dt_at dt_L_8 45 rfl) (dt_at dt_L_8 46 rfl) (dt_at dt_L_8 47 rfl) (dt_at dt_L_8 48 rfl) ?_
  refine cv_X12_cast C lwk_88 (ys (i + 1)) (ys (i + 2)) e2 (by omega) (Nat.le_of_ble_eq_true rfl) hcs (dt_at dt_L_8 49 rfl) ?_
  exact V_icmp_eq C 1522 (dt_at dt_L_8 50 rfl) (by decide) (fun _ => k σ2 r2 n2) (fun q => absurd rfl q)
set_option maxRecDepth 100000 in
theorem lw_c17 (C : Ck X G code RL 4 d) (hd : 100 ≤ d) (S : Scr X G b L ys) (hL : L ≤ 3072) (hi : i + 6 ≤ L) (hcs : cells ≤ (xR X).cells ∧ slots ≤ (xR X).slots) (hr : Rl σ) (k : ∀ σ' : St, Rl σ' → σ'.1 ≤ σ.1 + 1 → V X G 4 cells slots σ' 1522 (lvL G b i) []) : V X G 4 cells slots σ 839 (lvL G b i) [] := by
  obtain ⟨x, σ1, σ2, e1, e2, r2, n2⟩ := hr.op (fun A h1 h2 h3 => op_block (ys (i + 1)) h1 h2 h3)
  refine V_aload_n C (n := 1) (i := 1) (dt_at dt_L_8 53 rfl) 1 rfl rfl ?_
  refine V_scr C S 1 rfl (by omega) hL (dt_at dt_L_8 54 rfl) (dt_at dt_L_8 55 rfl) (dt_at dt_L_8 56 rfl) (dt_at dt_L_8 57 rfl) (dt_at dt_L_8 58 rfl) ?_
  refine cv_X11_block C lwk_89 (ys (i + 1)) e1 (by omega) (Nat.le_of_ble_eq_true rfl) hcs (dt_at dt_L_8 59 rfl) ?_
  refine V_aload_n C (n := 2) (i := 2) (dt_at dt_L_9 0 rfl) 2 rfl rfl ?_
  refine V_scr C S 1 rfl (by omega) hL (dt_at dt_L_9 1 rfl) (dt_at dt_L_9 2 rfl) (dt_at dt_L_9 3 rfl) (dt_at dt_L_9 4 rfl) (dt_at dt_L_9 5 rfl) ?_
  refine cv_X12_block C lwk_92 (ys (i + 1)) e2 (by omega) (Nat.le_of_ble_eq_true rfl) hcs (dt_at dt_L_9 6 rfl) ?_
  exact V_icmp_eq C 1522 (dt_at dt_L_9 7 rfl) (by decide) (fun _ => k σ2 r2 n2) (fun q => absurd rfl q)
set_option maxRecDepth 100000 in
theorem lw_c18 (C : Ck X G code RL 4 d) (hd : 100 ≤ d) (S : Scr X G b L ys) (hL : L ≤ 3072) (hi : i + 6 ≤ L) (hcs : cells ≤ (xR X).cells ∧ slots ≤ (xR X).slots) (hr : Rl σ) (k : ∀ σ' : St, Rl σ' → σ'.1 ≤ σ.1 + 1 → V X G 4 cells slots σ' 1522 (lvL G b i) []) : V X G 4 cells slots σ 862 (lvL G b i) [] := by
  obtain ⟨x, σ1, σ2, e1, e2, r2, n2⟩ := hr.op (fun A h1 h2 h3 => op_bars (ys (i + 1)) h1 h2 h3)
  refine V_aload_n C (n := 1) (i := 1) (dt_at dt_L_9 10 rfl) 1 rfl rfl ?_
  refine V_scr C S 1 rfl (by omega) hL (dt_at dt_L_9 11 rfl) (dt_at dt_L_9 12 rfl) (dt_at dt_L_9 13 rfl) (dt_at dt_L_9 14 rfl) (dt_at dt_L_9 15 rfl) ?_
  refine cv_X11_bars C lwk_93 (ys (i + 1)) e1 (by omega) (Nat.le_of_ble_eq_true rfl) hcs (dt_at dt_L_9 16 rfl) ?_
  refine V_aload_n C (n := 2) (i := 2) (dt_at dt_L_9 17 rfl) 2 rfl rfl ?_
  refine V_scr C S 1 rfl (by omega) hL (dt_at dt_L_9 18 rfl) (dt_at dt_L_9 19 rfl) (dt_at dt_L_9 20 rfl) (dt_at dt_L_9 21 rfl) (dt_at dt_L_9 22 rfl) ?_
  refine cv_X12_bars C lwk_96 (ys (i + 1)) e2 (by omega) (Nat.le_of_ble_eq_true rfl) hcs (dt_at dt_L_9 23 rfl) ?_
  exact V_icmp_eq C 1522 (dt_at dt_L_9 24 rfl) (by decide) (fun _ => k σ2 r2 n2) (fun q => absurd rfl q)
set_option maxRecDepth 100000 in
theorem lw_c19 (C : Ck X G code RL 4 d) (hd : 100 ≤ d) (S : Scr X G b L ys) (hL : L ≤ 3072) (hi : i + 6 ≤ L) (hcs : cells ≤ (xR X).cells ∧ slots ≤ (xR X).slots) (hr : Rl σ) (k : ∀ σ' : St, Rl σ' → σ'.1 ≤ σ.1 + 1 → V X G 4 cells slots σ' 1522 (lvL G b i) []) : V X G 4 cells slots σ 885 (lvL G b i) [] := by
  obtain ⟨x, σ1, σ2, e1, e2, r2, n2⟩ := hr.op (fun A h1 h2 h3 => op_busy (ys (i + 1)) h1 h2 h3)
  refine V_aload_n C (n := 1) (i := 1) (dt_at dt_L_9 27 rfl) 1 rfl rfl ?_
  refine V_scr C S 1 rfl (by omega) hL (dt_at dt_L_9 28 rfl) (dt_at dt_L_9 29 rfl) (dt_at dt_L_9 30 rfl) (dt_at dt_L_9 31 rfl) (dt_at dt_L_9 32 rfl) ?_
  refine cv_X11_busy C lwk_97 (ys (i + 1)) e1 (by omega) (Nat.le_of_ble_eq_true rfl) hcs (dt_at dt_L_9 33 rfl) ?_
  refine V_aload_n C (n := 2) (i := 2) (dt_at dt_L_9 34 rfl) 2 rfl rfl ?_
  refine V_scr C S 1 rfl (by omega) hL (dt_at dt_L_9 35 rfl) (dt_at dt_L_9 36 rfl) (dt_at dt_L_9 37 rfl) (dt_at dt_L_9 38 rfl) (dt_at dt_L_9 39 rfl) ?_
  refine cv_X12_busy C lwk_100 (ys (i + 1)) e2 (by omega) (Nat.le_of_ble_eq_true rfl) hcs (dt_at dt_L_9 40 rfl) ?_
  exact V_icmp_eq C 1522 (dt_at dt_L_9 41 rfl) (by decide) (fun _ => k σ2 r2 n2) (fun q => absurd rfl q)
set_option maxRecDepth 100000 in
theorem lw_c20 (C : Ck X G code RL 4 d) (hd : 100 ≤ d) (S : Scr X G b L ys) (hL : L ≤ 3072) (hi : i + 6 ≤ L) (hcs : cells ≤ (xR X).cells ∧ slots ≤ (xR X).slots) (hr : Rl σ) (k : ∀ σ' : St, Rl σ' → σ'.1 ≤ σ.1 + 1 → V X G 4 cells slots σ' 1522 (lvL G b i) []) : V X G 4 cells slots σ 908 (lvL G b i) [] := by
  obtain ⟨x, σ1, σ2, e1, e2, r2, n2⟩ := hr.op (fun A h1 h2 h3 => op_fewest  h1 h2 h3)
  refine V_aload_n C (n := 1) (i := 1) (dt_at dt_L_9 44 rfl) 1 rfl rfl ?_
  refine cv_X11_fewest C lwk_101  e1 (by omega) (Nat.le_of_ble_eq_true rfl) hcs (dt_at dt_L_9 45 rfl) ?_
  refine V_aload_n C (n := 2) (i := 2) (dt_at dt_L_9 46 rfl) 2 rfl rfl ?_
  refine cv_X12_fewest C lwk_105  e2 (by omega) (Nat.le_of_ble_eq_true rfl) hcs (dt_at dt_L_9 47 rfl) ?_
  exact V_icmp_eq C 1522 (dt_at dt_L_9 48 rfl) (by decide) (fun _ => k σ2 r2 n2) (fun q => absurd rfl q)
set_option maxRecDepth 100000 in
theorem lw_c21 (C : Ck X G code RL 4 d) (hd : 100 ≤ d) (S : Scr X G b L ys) (hL : L ≤ 3072) (hi : i + 6 ≤ L) (hcs : cells ≤ (xR X).cells ∧ slots ≤ (xR X).slots) (hr : Rl σ) (k : ∀ σ' : St, Rl σ' → σ'.1 ≤ σ.1 + 1 → V X G 4 cells slots σ' 1522 (lvL G b i) []) : V X G 4 cells slots σ 921 (lvL G b i) [] := by
  obtain ⟨x, σ1, σ2, e1, e2, r2, n2⟩ := hr.op (fun A h1 h2 h3 => op_group (ys (i + 1)) h1 h2 h3)
  refine V_aload_n C (n := 1) (i := 1) (dt_at dt_L_9 51 rfl) 1 rfl rfl ?_
  refine V_scr C S 1 rfl (by omega) hL (dt_at dt_L_9 52 rfl) (dt_at dt_L_9 53 rfl) (dt_at dt_L_9 54 rfl) (dt_at dt_L_9 55 rfl) (dt_at dt_L_9 56 rfl) ?_
  refine cv_X11_group C lwk_106 (ys (i + 1)) e1 (by omega) (Nat.le_of_ble_eq_true rfl) hcs (dt_at dt_L_9 57 rfl) ?_
  refine V_aload_n C (n := 2) (i := 2) (dt_at dt_L_9 58 rfl) 2 rfl rfl ?_
  refine V_scr C S 1 rfl (by omega) hL (dt_at dt_L_9 59 rfl) (dt_at dt_L_10 0 rfl) (dt_at dt_L_10 1 rfl) (dt_at dt_L_10 2 rfl) (dt_at dt_L_10 3 rfl) ?_
  refine cv_X12_group C lwk_109 (ys (i + 1)) e2 (by omega) (Nat.le_of_ble_eq_true rfl) hcs (dt_at dt_L_10 4 rfl) ?_
  exact V_icmp_eq C 1522 (dt_at dt_L_10 5 rfl) (by decide) (fun _ => k σ2 r2 n2) (fun q => absurd rfl q)
set_option maxRecDepth 100000 in
theorem lw_c23 (C : Ck X G code RL 4 d) (hd : 100 ≤ d) (S : Scr X G b L ys) (hL : L ≤ 3072) (hi : i + 6 ≤ L) (hcs : cells ≤ (xR X).cells ∧ slots ≤ (xR X).slots) (hr : Rl σ) (k : ∀ σ' : St, Rl σ' → σ'.1 ≤ σ.1 + 1 → V X G 4 cells slots σ' 1522 (lvL G b i) []) : V X G 4 cells slots σ 957 (lvL G b i) [] := by
  obtain ⟨x, σ1, σ2, e1, e2, r2, n2⟩ := hr.op (fun A h1 h2 h3 => op_helps (ys (i + 1)) (ys (i + 2)) h1 h2 h3)
  refine V_aload_n C (n := 1) (i := 1) (dt_at dt_L_10 15 rfl) 1 rfl rfl ?_
  refine V_scr C S 1 rfl (by omega) hL (dt_at dt_L_10 16 rfl) (dt_at dt_L_10 17 rfl) (dt_at dt_L_10 18 rfl) (dt_at dt_L_10 19 rfl) (dt_at dt_L_10 20 rfl) ?_
  refine V_scr C S 2 rfl (by omega) hL (dt_at dt_L_10 21 rfl) (dt_at dt_L_10 22 rfl) (dt_at dt_L_10 23 rfl) (dt_at dt_L_10 24 rfl) (dt_at dt_L_10 25 rfl) ?_
  refine cv_X11_helps C lwk_114 (ys (i + 1)) (ys (i + 2)) e1 (by omega) (Nat.le_of_ble_eq_true rfl) hcs (dt_at dt_L_10 26 rfl) ?_
  refine V_aload_n C (n := 2) (i := 2) (dt_at dt_L_10 27 rfl) 2 rfl rfl ?_
  refine V_scr C S 1 rfl (by omega) hL (dt_at dt_L_10 28 rfl) (dt_at dt_L_10 29 rfl) (dt_at dt_L_10 30 rfl) (dt_at dt_L_10 31 rfl) (dt_at dt_L_10 32 rfl) ?_
  refine V_scr C S 2 rfl (by omega) hL (dt_at dt_L_10 33 rfl) (dt_at dt_L_10 34 rfl) (dt_at dt_L_10 35 rfl) (dt_at dt_L_10 36 rfl) (dt_at dt_L_10 37 rfl) ?_
  refine cv_X12_helps C lwk_117 (ys (i + 1)) (ys (i + 2)) e2 (by omega) (Nat.le_of_ble_eq_true rfl) hcs (dt_at dt_L_10 38 rfl) ?_
  exact V_icmp_eq C 1522 (dt_at dt_L_10 39 rfl) (by decide) (fun _ => k σ2 r2 n2) (fun q => absurd rfl q)
set_option maxRecDepth 100000 in
theorem lw_c24 (C : Ck X G code RL 4 d) (hd : 100 ≤ d) (S : Scr X G b L ys) (hL : L ≤ 3072) (hi : i + 6 ≤ L) (hcs : cells ≤ (xR X).cells ∧ slots ≤ (xR X).slots) (hr : Rl σ) (k : ∀ σ' : St, Rl σ' → σ'.1 ≤ σ.1 + 1 → V X G 4 cells slots σ' 1522 (lvL G b i) []) : V X G 4 cells slots σ 990 (lvL G b i) [] := by
  obtain ⟨x, σ1, σ2, e1, e2, r2, n2⟩ := hr.op (fun A h1 h2 h3 => op_without (ys (i + 1)) h1 h2 h3)
  refine V_aload_n C (n := 1) (i := 1) (dt_at dt_L_10 42 rfl) 1 rfl rfl ?_
  refine V_scr C S 1 rfl (by omega) hL (dt_at dt_L_10 43 rfl) (dt_at dt_L_10 44 rfl) (dt_at dt_L_10 45 rfl) (dt_at dt_L_10 46 rfl) (dt_at dt_L_10 47 rfl) ?_
  refine cv_X11_without C lwk_118 (ys (i + 1)) e1 (by omega) (Nat.le_of_ble_eq_true rfl) hcs (dt_at dt_L_10 48 rfl) ?_
  refine V_aload_n C (n := 2) (i := 2) (dt_at dt_L_10 49 rfl) 2 rfl rfl ?_
  refine V_scr C S 1 rfl (by omega) hL (dt_at dt_L_10 50 rfl) (dt_at dt_L_10 51 rfl) (dt_at dt_L_10 52 rfl) (dt_at dt_L_10 53 rfl) (dt_at dt_L_10 54 rfl) ?_
  refine cv_X12_without C lwk_121 (ys (i + 1)) e2 (by omega) (Nat.le_of_ble_eq_true rfl) hcs (dt_at dt_L_10 55 rfl) ?_
  exact V_icmp_eq C 1522 (dt_at dt_L_10 56 rfl) (by decide) (fun _ => k σ2 r2 n2) (fun q => absurd rfl q)
set_option maxRecDepth 100000 in
theorem lw_c25 (C : Ck X G code RL 4 d) (hd : 100 ≤ d) (S : Scr X G b L ys) (hL : L ≤ 3072) (hi : i + 6 ≤ L) (hcs : cells ≤ (xR X).cells ∧ slots ≤ (xR X).slots) (hr : Rl σ) (k : ∀ σ' : St, Rl σ' → σ'.1 ≤ σ.1 + 1 → V X G 4 cells slots σ' 1522 (lvL G b i) []) : V X G 4 cells slots σ 1013 (lvL G b i) [] := by
  obtain ⟨x, σ1, σ2, e1, e2, r2, n2⟩ := hr.op (fun A h1 h2 h3 => op_best (ys (i + 1)) (ys (i + 2)) (ys (i + 3)) h1 h2 h3)
  refine V_aload_n C (n := 1) (i := 1) (dt_at dt_L_10 59 rfl) 1 rfl rfl ?_
  refine V_scr C S 1 rfl (by omega) hL (dt_at dt_L_11 0 rfl) (dt_at dt_L_11 1 rfl) (dt_at dt_L_11 2 rfl) (dt_at dt_L_11 3 rfl) (dt_at dt_L_11 4 rfl) ?_
  refine V_scr C S 2 rfl (by omega) hL (dt_at dt_L_11 5 rfl) (dt_at dt_L_11 6 rfl) (dt_at dt_L_11 7 rfl) (dt_at dt_L_11 8 rfl) (dt_at dt_L_11 9 rfl) ?_
  refine V_scr C S 3 rfl (by omega) hL (dt_at dt_L_11 10 rfl) (dt_at dt_L_11 11 rfl) (dt_at dt_L_11 12 rfl) (dt_at dt_L_11 13 rfl) (dt_at dt_L_11 14 rfl) ?_
  refine cv_X11_best C lwk_122 (ys (i + 1)) (ys (i + 2)) (ys (i + 3)) e1 (by omega) (Nat.le_of_ble_eq_true rfl) hcs (dt_at dt_L_11 15 rfl) ?_
  refine V_aload_n C (n := 2) (i := 2) (dt_at dt_L_11 16 rfl) 2 rfl rfl ?_
  refine V_scr C S 1 rfl (by omega) hL (dt_at dt_L_11 17 rfl) (dt_at dt_L_11 18 rfl) (dt_at dt_L_11 19 rfl) (dt_at dt_L_11 20 rfl) (dt_at dt_L_11 21 rfl) ?_
  refine V_scr C S 2 rfl (by omega) hL (dt_at dt_L_11 22 rfl) (dt_at dt_L_11 23 rfl) (dt_at dt_L_11 24 rfl) (dt_at dt_L_11 25 rfl) (dt_at dt_L_11 26 rfl) ?_
  refine V_scr C S 3 rfl (by omega) hL (dt_at dt_L_11 27 rfl) (dt_at dt_L_11 28 rfl) (dt_at dt_L_11 29 rfl) (dt_at dt_L_11 30 rfl) (dt_at dt_L_11 31 rfl) ?_
  refine cv_X12_best C lwk_125 (ys (i + 1)) (ys (i + 2)) (ys (i + 3)) e2 (by omega) (Nat.le_of_ble_eq_true rfl) hcs (dt_at dt_L_11 32 rfl) ?_
  exact V_icmp_eq C 1522 (dt_at dt_L_11 33 rfl) (by decide) (fun _ => k σ2 r2 n2) (fun q => absurd rfl q)
set_option maxRecDepth 100000 in
theorem lw_c26 (C : Ck X G code RL 4 d) (hd : 100 ≤ d) (S : Scr X G b L ys) (hL : L ≤ 3072) (hi : i + 6 ≤ L) (hcs : cells ≤ (xR X).cells ∧ slots ≤ (xR X).slots) (hr : Rl σ) (k : ∀ σ' : St, Rl σ' → σ'.1 ≤ σ.1 + 1 → V X G 4 cells slots σ' 1522 (lvL G b i) []) : V X G 4 cells slots σ 1056 (lvL G b i) [] := by
  obtain ⟨x, σ1, σ2, e1, e2, r2, n2⟩ := hr.op (fun A h1 h2 h3 => op_take (ys (i + 1)) (ys (i + 2)) h1 h2 h3)
  refine V_aload_n C (n := 1) (i := 1) (dt_at dt_L_11 36 rfl) 1 rfl rfl ?_
  refine V_scr C S 1 rfl (by omega) hL (dt_at dt_L_11 37 rfl) (dt_at dt_L_11 38 rfl) (dt_at dt_L_11 39 rfl) (dt_at dt_L_11 40 rfl) (dt_at dt_L_11 41 rfl) ?_
  refine V_scr C S 2 rfl (by omega) hL (dt_at dt_L_11 42 rfl) (dt_at dt_L_11 43 rfl) (dt_at dt_L_11 44 rfl) (dt_at dt_L_11 45 rfl) (dt_at dt_L_11 46 rfl) ?_
  refine cv_X11_take C lwk_126 (ys (i + 1)) (ys (i + 2)) e1 (by omega) (Nat.le_of_ble_eq_true rfl) hcs (dt_at dt_L_11 47 rfl) ?_
  refine V_aload_n C (n := 2) (i := 2) (dt_at dt_L_11 48 rfl) 2 rfl rfl ?_
  refine V_scr C S 1 rfl (by omega) hL (dt_at dt_L_11 49 rfl) (dt_at dt_L_11 50 rfl) (dt_at dt_L_11 51 rfl) (dt_at dt_L_11 52 rfl) (dt_at dt_L_11 53 rfl) ?_
  refine V_scr C S 2 rfl (by omega) hL (dt_at dt_L_11 54 rfl) (dt_at dt_L_11 55 rfl) (dt_at dt_L_11 56 rfl) (dt_at dt_L_11 57 rfl) (dt_at dt_L_11 58 rfl) ?_
  refine cv_X12_take C lwk_129 (ys (i + 1)) (ys (i + 2)) e2 (by omega) (Nat.le_of_ble_eq_true rfl) hcs (dt_at dt_L_11 59 rfl) ?_
  exact V_icmp_eq C 1522 (dt_at dt_L_12 0 rfl) (by decide) (fun _ => k σ2 r2 n2) (fun q => absurd rfl q)
set_option maxRecDepth 100000 in
theorem lw_c28 (C : Ck X G code RL 4 d) (hd : 100 ≤ d) (S : Scr X G b L ys) (hL : L ≤ 3072) (hi : i + 6 ≤ L) (hcs : cells ≤ (xR X).cells ∧ slots ≤ (xR X).slots) (hr : Rl σ) (k : ∀ σ' : St, Rl σ' → σ'.1 ≤ σ.1 + 1 → V X G 4 cells slots σ' 1522 (lvL G b i) []) : V X G 4 cells slots σ 1113 (lvL G b i) [] := by
  obtain ⟨x, σ1, σ2, e1, e2, r2, n2⟩ := hr.op (fun A h1 h2 h3 => op_leave (ys (i + 1)) (ys (i + 2)) h1 h2 h3)
  refine V_aload_n C (n := 1) (i := 1) (dt_at dt_L_12 21 rfl) 1 rfl rfl ?_
  refine V_scr C S 1 rfl (by omega) hL (dt_at dt_L_12 22 rfl) (dt_at dt_L_12 23 rfl) (dt_at dt_L_12 24 rfl) (dt_at dt_L_12 25 rfl) (dt_at dt_L_12 26 rfl) ?_
  refine V_scr C S 2 rfl (by omega) hL (dt_at dt_L_12 27 rfl) (dt_at dt_L_12 28 rfl) (dt_at dt_L_12 29 rfl) (dt_at dt_L_12 30 rfl) (dt_at dt_L_12 31 rfl) ?_
  refine cv_X11_leave C lwk_135 (ys (i + 1)) (ys (i + 2)) e1 (by omega) (Nat.le_of_ble_eq_true rfl) hcs (dt_at dt_L_12 32 rfl) ?_
  refine V_aload_n C (n := 2) (i := 2) (dt_at dt_L_12 33 rfl) 2 rfl rfl ?_
  refine V_scr C S 1 rfl (by omega) hL (dt_at dt_L_12 34 rfl) (dt_at dt_L_12 35 rfl) (dt_at dt_L_12 36 rfl) (dt_at dt_L_12 37 rfl) (dt_at dt_L_12 38 rfl) ?_
  refine V_scr C S 2 rfl (by omega) hL (dt_at dt_L_12 39 rfl) (dt_at dt_L_12 40 rfl) (dt_at dt_L_12 41 rfl) (dt_at dt_L_12 42 rfl) (dt_at dt_L_12 43 rfl) ?_
  refine cv_X12_leave C lwk_138 (ys (i + 1)) (ys (i + 2)) e2 (by omega) (Nat.le_of_ble_eq_true rfl) hcs (dt_at dt_L_12 44 rfl) ?_
  exact V_icmp_eq C 1522 (dt_at dt_L_12 45 rfl) (by decide) (fun _ => k σ2 r2 n2) (fun q => absurd rfl q)
set_option maxRecDepth 100000 in
theorem lw_c29 (C : Ck X G code RL 4 d) (hd : 100 ≤ d) (S : Scr X G b L ys) (hL : L ≤ 3072) (hi : i + 6 ≤ L) (hcs : cells ≤ (xR X).cells ∧ slots ≤ (xR X).slots) (hr : Rl σ) (k : ∀ σ' : St, Rl σ' → σ'.1 ≤ σ.1 + 1 → V X G 4 cells slots σ' 1522 (lvL G b i) []) : V X G 4 cells slots σ 1146 (lvL G b i) [] := by
  obtain ⟨x, σ1, σ2, e1, e2, r2, n2⟩ := hr.op (fun A h1 h2 h3 => op_never (ys (i + 1)) (ys (i + 2)) (ys (i + 3)) h1 h2 h3)
  refine V_aload_n C (n := 1) (i := 1) (dt_at dt_L_12 48 rfl) 1 rfl rfl ?_
  refine V_scr C S 1 rfl (by omega) hL (dt_at dt_L_12 49 rfl) (dt_at dt_L_12 50 rfl) (dt_at dt_L_12 51 rfl) (dt_at dt_L_12 52 rfl) (dt_at dt_L_12 53 rfl) ?_
  refine V_scr C S 2 rfl (by omega) hL (dt_at dt_L_12 54 rfl) (dt_at dt_L_12 55 rfl) (dt_at dt_L_12 56 rfl) (dt_at dt_L_12 57 rfl) (dt_at dt_L_12 58 rfl) ?_
  refine V_scr C S 3 rfl (by omega) hL (dt_at dt_L_12 59 rfl) (dt_at dt_L_13 0 rfl) (dt_at dt_L_13 1 rfl) (dt_at dt_L_13 2 rfl) (dt_at dt_L_13 3 rfl) ?_
  refine cv_X11_never C lwk_139 (ys (i + 1)) (ys (i + 2)) (ys (i + 3)) e1 (by omega) (Nat.le_of_ble_eq_true rfl) hcs (dt_at dt_L_13 4 rfl) ?_
  refine V_aload_n C (n := 2) (i := 2) (dt_at dt_L_13 5 rfl) 2 rfl rfl ?_
  refine V_scr C S 1 rfl (by omega) hL (dt_at dt_L_13 6 rfl) (dt_at dt_L_13 7 rfl) (dt_at dt_L_13 8 rfl) (dt_at dt_L_13 9 rfl) (dt_at dt_L_13 10 rfl) ?_
  refine V_scr C S 2 rfl (by omega) hL (dt_at dt_L_13 11 rfl) (dt_at dt_L_13 12 rfl) (dt_at dt_L_13 13 rfl) (dt_at dt_L_13 14 rfl) (dt_at dt_L_13 15 rfl) ?_
  refine V_scr C S 3 rfl (by omega) hL (dt_at dt_L_13 16 rfl) (dt_at dt_L_13 17 rfl) (dt_at dt_L_13 18 rfl) (dt_at dt_L_13 19 rfl) (dt_at dt_L_13 20 rfl) ?_
  refine cv_X12_never C lwk_142 (ys (i + 1)) (ys (i + 2)) (ys (i + 3)) e2 (by omega) (Nat.le_of_ble_eq_true rfl) hcs (dt_at dt_L_13 21 rfl) ?_
  exact V_icmp_eq C 1522 (dt_at dt_L_13 22 rfl) (by decide) (fun _ => k σ2 r2 n2) (fun q => absurd rfl q)
set_option maxRecDepth 100000 in
theorem lw_c30 (C : Ck X G code RL 4 d) (hd : 100 ≤ d) (S : Scr X G b L ys) (hL : L ≤ 3072) (hi : i + 6 ≤ L) (hcs : cells ≤ (xR X).cells ∧ slots ≤ (xR X).slots) (hr : Rl σ) (k : ∀ σ' : St, Rl σ' → σ'.1 ≤ σ.1 + 1 → V X G 4 cells slots σ' 1522 (lvL G b i) []) : V X G 4 cells slots σ 1189 (lvL G b i) [] := by
  obtain ⟨x, σ1, σ2, e1, e2, r2, n2⟩ := hr.op (fun A h1 h2 h3 => op_voice (ys (i + 1)) (ys (i + 2)) (ys (i + 3)) h1 h2 h3)
  refine V_aload_n C (n := 1) (i := 1) (dt_at dt_L_13 25 rfl) 1 rfl rfl ?_
  refine V_scr C S 1 rfl (by omega) hL (dt_at dt_L_13 26 rfl) (dt_at dt_L_13 27 rfl) (dt_at dt_L_13 28 rfl) (dt_at dt_L_13 29 rfl) (dt_at dt_L_13 30 rfl) ?_
  refine V_scr C S 2 rfl (by omega) hL (dt_at dt_L_13 31 rfl) (dt_at dt_L_13 32 rfl) (dt_at dt_L_13 33 rfl) (dt_at dt_L_13 34 rfl) (dt_at dt_L_13 35 rfl) ?_
  refine V_scr C S 3 rfl (by omega) hL (dt_at dt_L_13 36 rfl) (dt_at dt_L_13 37 rfl) (dt_at dt_L_13 38 rfl) (dt_at dt_L_13 39 rfl) (dt_at dt_L_13 40 rfl) ?_
  refine cv_X11_voice C lwk_143 (ys (i + 1)) (ys (i + 2)) (ys (i + 3)) e1 (by omega) (Nat.le_of_ble_eq_true rfl) hcs (dt_at dt_L_13 41 rfl) ?_
  refine V_aload_n C (n := 2) (i := 2) (dt_at dt_L_13 42 rfl) 2 rfl rfl ?_
  refine V_scr C S 1 rfl (by omega) hL (dt_at dt_L_13 43 rfl) (dt_at dt_L_13 44 rfl) (dt_at dt_L_13 45 rfl) (dt_at dt_L_13 46 rfl) (dt_at dt_L_13 47 rfl) ?_
  refine V_scr C S 2 rfl (by omega) hL (dt_at dt_L_13 48 rfl) (dt_at dt_L_13 49 rfl) (dt_at dt_L_13 50 rfl) (dt_at dt_L_13 51 rfl) (dt_at dt_L_13 52 rfl) ?_
  refine V_scr C S 3 rfl (by omega) hL (dt_at dt_L_13 53 rfl) (dt_at dt_L_13 54 rfl) (dt_at dt_L_13 55 rfl) (dt_at dt_L_13 56 rfl) (dt_at dt_L_13 57 rfl) ?_
  refine cv_X12_voice C lwk_146 (ys (i + 1)) (ys (i + 2)) (ys (i + 3)) e2 (by omega) (Nat.le_of_ble_eq_true rfl) hcs (dt_at dt_L_13 58 rfl) ?_
  exact V_icmp_eq C 1522 (dt_at dt_L_13 59 rfl) (by decide) (fun _ => k σ2 r2 n2) (fun q => absurd rfl q)
set_option maxRecDepth 100000 in
theorem lw_c31 (C : Ck X G code RL 4 d) (hd : 100 ≤ d) (S : Scr X G b L ys) (hL : L ≤ 3072) (hi : i + 6 ≤ L) (hcs : cells ≤ (xR X).cells ∧ slots ≤ (xR X).slots) (hr : Rl σ) (k : ∀ σ' : St, Rl σ' → σ'.1 ≤ σ.1 + 1 → V X G 4 cells slots σ' 1522 (lvL G b i) []) : V X G 4 cells slots σ 1232 (lvL G b i) [] := by
  obtain ⟨x, σ1, σ2, e1, e2, r2, n2⟩ := hr.op (fun A h1 h2 h3 => op_trace (ys (i + 1)) h1 h2 h3)
  refine V_aload_n C (n := 1) (i := 1) (dt_at dt_L_14 2 rfl) 1 rfl rfl ?_
  refine V_scr C S 1 rfl (by omega) hL (dt_at dt_L_14 3 rfl) (dt_at dt_L_14 4 rfl) (dt_at dt_L_14 5 rfl) (dt_at dt_L_14 6 rfl) (dt_at dt_L_14 7 rfl) ?_
  refine cv_X11_trace C lwk_147 (ys (i + 1)) e1 (by omega) (Nat.le_of_ble_eq_true rfl) hcs (dt_at dt_L_14 8 rfl) ?_
  refine V_aload_n C (n := 2) (i := 2) (dt_at dt_L_14 9 rfl) 2 rfl rfl ?_
  refine V_scr C S 1 rfl (by omega) hL (dt_at dt_L_14 10 rfl) (dt_at dt_L_14 11 rfl) (dt_at dt_L_14 12 rfl) (dt_at dt_L_14 13 rfl) (dt_at dt_L_14 14 rfl) ?_
  refine cv_X12_trace C lwk_150 (ys (i + 1)) e2 (by omega) (Nat.le_of_ble_eq_true rfl) hcs (dt_at dt_L_14 15 rfl) ?_
  exact V_icmp_eq C 1522 (dt_at dt_L_14 16 rfl) (by decide) (fun _ => k σ2 r2 n2) (fun q => absurd rfl q)
set_option maxRecDepth 100000 in
theorem lw_c32 (C : Ck X G code RL 4 d) (hd : 100 ≤ d) (S : Scr X G b L ys) (hL : L ≤ 3072) (hi : i + 6 ≤ L) (hcs : cells ≤ (xR X).cells ∧ slots ≤ (xR X).slots) (hr : Rl σ) (k : ∀ σ' : St, Rl σ' → σ'.1 ≤ σ.1 + 1 → V X G 4 cells slots σ' 1522 (lvL G b i) []) : V X G 4 cells slots σ 1255 (lvL G b i) [] := by
  obtain ⟨x, σ1, σ2, e1, e2, r2, n2⟩ := hr.op (fun A h1 h2 h3 => op_sheet (ys (i + 1)) (ys (i + 2)) (ys (i + 3)) h1 h2 h3)
  refine V_aload_n C (n := 1) (i := 1) (dt_at dt_L_14 19 rfl) 1 rfl rfl ?_
  refine V_scr C S 1 rfl (by omega) hL (dt_at dt_L_14 20 rfl) (dt_at dt_L_14 21 rfl) (dt_at dt_L_14 22 rfl) (dt_at dt_L_14 23 rfl) (dt_at dt_L_14 24 rfl) ?_
  refine V_scr C S 2 rfl (by omega) hL (dt_at dt_L_14 25 rfl) (dt_at dt_L_14 26 rfl) (dt_at dt_L_14 27 rfl) (dt_at dt_L_14 28 rfl) (dt_at dt_L_14 29 rfl) ?_
  refine V_scr C S 3 rfl (by omega) hL (dt_at dt_L_14 30 rfl) (dt_at dt_L_14 31 rfl) (dt_at dt_L_14 32 rfl) (dt_at dt_L_14 33 rfl) (dt_at dt_L_14 34 rfl) ?_
  refine cv_X11_sheet C lwk_151 (ys (i + 1)) (ys (i + 2)) (ys (i + 3)) e1 (by omega) (Nat.le_of_ble_eq_true rfl) hcs (dt_at dt_L_14 35 rfl) ?_
  refine V_aload_n C (n := 2) (i := 2) (dt_at dt_L_14 36 rfl) 2 rfl rfl ?_
  refine V_scr C S 1 rfl (by omega) hL (dt_at dt_L_14 37 rfl) (dt_at dt_L_14 38 rfl) (dt_at dt_L_14 39 rfl) (dt_at dt_L_14 40 rfl) (dt_at dt_L_14 41 rfl) ?_
  refine V_scr C S 2 rfl (by omega) hL (dt_at dt_L_14 42 rfl) (dt_at dt_L_14 43 rfl) (dt_at dt_L_14 44 rfl) (dt_at dt_L_14 45 rfl) (dt_at dt_L_14 46 rfl) ?_
  refine V_scr C S 3 rfl (by omega) hL (dt_at dt_L_14 47 rfl) (dt_at dt_L_14 48 rfl) (dt_at dt_L_14 49 rfl) (dt_at dt_L_14 50 rfl) (dt_at dt_L_14 51 rfl) ?_
  refine cv_X12_sheet C lwk_154 (ys (i + 1)) (ys (i + 2)) (ys (i + 3)) e2 (by omega) (Nat.le_of_ble_eq_true rfl) hcs (dt_at dt_L_14 52 rfl) ?_
  exact V_icmp_eq C 1522 (dt_at dt_L_14 53 rfl) (by decide) (fun _ => k σ2 r2 n2) (fun q => absurd rfl q)
set_option maxRecDepth 100000 in
theorem lw_c33 (C : Ck X G code RL 4 d) (hd : 100 ≤ d) (S : Scr X G b L ys) (hL : L ≤ 3072) (hi : i + 6 ≤ L) (hcs : cells ≤ (xR X).cells ∧ slots ≤ (xR X).slots) (hr : Rl σ) (k : ∀ σ' : St, Rl σ' → σ'.1 ≤ σ.1 + 1 → V X G 4 cells slots σ' 1522 (lvL G b i) []) : V X G 4 cells slots σ 1298 (lvL G b i) [] := by
  obtain ⟨x, σ1, σ2, e1, e2, r2, n2⟩ := hr.op (fun A h1 h2 h3 => op_put (ys (i + 1)) (ys (i + 2)) (ys (i + 3)) h1 h2 h3)
  refine V_aload_n C (n := 1) (i := 1) (dt_at dt_L_14 56 rfl) 1 rfl rfl ?_
  refine V_scr C S 1 rfl (by omega) hL (dt_at dt_L_14 57 rfl) (dt_at dt_L_14 58 rfl) (dt_at dt_L_14 59 rfl) (dt_at dt_L_15 0 rfl) (dt_at dt_L_15 1 rfl) ?_
  refine V_scr C S 2 rfl (by omega) hL (dt_at dt_L_15 2 rfl) (dt_at dt_L_15 3 rfl) (dt_at dt_L_15 4 rfl) (dt_at dt_L_15 5 rfl) (dt_at dt_L_15 6 rfl) ?_
  refine V_scr C S 3 rfl (by omega) hL (dt_at dt_L_15 7 rfl) (dt_at dt_L_15 8 rfl) (dt_at dt_L_15 9 rfl) (dt_at dt_L_15 10 rfl) (dt_at dt_L_15 11 rfl) ?_
  refine cv_X11_put C lwk_155 (ys (i + 1)) (ys (i + 2)) (ys (i + 3)) e1 (by omega) (Nat.le_of_ble_eq_true rfl) hcs (dt_at dt_L_15 12 rfl) ?_
  refine V_aload_n C (n := 2) (i := 2) (dt_at dt_L_15 13 rfl) 2 rfl rfl ?_
  refine V_scr C S 1 rfl (by omega) hL (dt_at dt_L_15 14 rfl) (dt_at dt_L_15 15 rfl) (dt_at dt_L_15 16 rfl) (dt_at dt_L_15 17 rfl) (dt_at dt_L_15 18 rfl) ?_
  refine V_scr C S 2 rfl (by omega) hL (dt_at dt_L_15 19 rfl) (dt_at dt_L_15 20 rfl) (dt_at dt_L_15 21 rfl) (dt_at dt_L_15 22 rfl) (dt_at dt_L_15 23 rfl) ?_
  refine V_scr C S 3 rfl (by omega) hL (dt_at dt_L_15 24 rfl) (dt_at dt_L_15 25 rfl) (dt_at dt_L_15 26 rfl) (dt_at dt_L_15 27 rfl) (dt_at dt_L_15 28 rfl) ?_
  refine cv_X12_put C lwk_158 (ys (i + 1)) (ys (i + 2)) (ys (i + 3)) e2 (by omega) (Nat.le_of_ble_eq_true rfl) hcs (dt_at dt_L_15 29 rfl) ?_
  exact V_icmp_eq C 1522 (dt_at dt_L_15 30 rfl) (by decide) (fun _ => k σ2 r2 n2) (fun q => absurd rfl q)
set_option maxRecDepth 100000 in
theorem lw_c34 (C : Ck X G code RL 4 d) (hd : 100 ≤ d) (S : Scr X G b L ys) (hL : L ≤ 3072) (hi : i + 6 ≤ L) (hcs : cells ≤ (xR X).cells ∧ slots ≤ (xR X).slots) (hr : Rl σ) (k : ∀ σ' : St, Rl σ' → σ'.1 ≤ σ.1 + 1 → V X G 4 cells slots σ' 1522 (lvL G b i) []) : V X G 4 cells slots σ 1341 (lvL G b i) [] := by
  obtain ⟨x, σ1, σ2, e1, e2, r2, n2⟩ := hr.op (fun A h1 h2 h3 => op_move (ys (i + 1)) (ys (i + 2)) (ys (i + 3)) (ys (i + 4)) (ys (i + 5)) h1 h2 h3)
  refine V_aload_n C (n := 1) (i := 1) (dt_at dt_L_15 33 rfl) 1 rfl rfl ?_
  refine V_scr C S 1 rfl (by omega) hL (dt_at dt_L_15 34 rfl) (dt_at dt_L_15 35 rfl) (dt_at dt_L_15 36 rfl) (dt_at dt_L_15 37 rfl) (dt_at dt_L_15 38 rfl) ?_
  refine V_scr C S 2 rfl (by omega) hL (dt_at dt_L_15 39 rfl) (dt_at dt_L_15 40 rfl) (dt_at dt_L_15 41 rfl) (dt_at dt_L_15 42 rfl) (dt_at dt_L_15 43 rfl) ?_
  refine V_scr C S 3 rfl (by omega) hL (dt_at dt_L_15 44 rfl) (dt_at dt_L_15 45 rfl) (dt_at dt_L_15 46 rfl) (dt_at dt_L_15 47 rfl) (dt_at dt_L_15 48 rfl) ?_
  refine V_scr C S 4 rfl (by omega) hL (dt_at dt_L_15 49 rfl) (dt_at dt_L_15 50 rfl) (dt_at dt_L_15 51 rfl) (dt_at dt_L_15 52 rfl) (dt_at dt_L_15 53 rfl) ?_
  refine V_scr C S 5 rfl (by omega) hL (dt_at dt_L_15 54 rfl) (dt_at dt_L_15 55 rfl) (dt_at dt_L_15 56 rfl) (dt_at dt_L_15 57 rfl) (dt_at dt_L_15 58 rfl) ?_
  refine cv_X11_move C lwk_159 (ys (i + 1)) (ys (i + 2)) (ys (i + 3)) (ys (i + 4)) (ys (i + 5)) e1 (by omega) (Nat.le_of_ble_eq_true rfl) hcs (dt_at dt_L_15 59 rfl) ?_
  refine V_aload_n C (n := 2) (i := 2) (dt_at dt_L_16 0 rfl) 2 rfl rfl ?_
  refine V_scr C S 1 rfl (by omega) hL (dt_at dt_L_16 1 rfl) (dt_at dt_L_16 2 rfl) (dt_at dt_L_16 3 rfl) (dt_at dt_L_16 4 rfl) (dt_at dt_L_16 5 rfl) ?_
  refine V_scr C S 2 rfl (by omega) hL (dt_at dt_L_16 6 rfl) (dt_at dt_L_16 7 rfl) (dt_at dt_L_16 8 rfl) (dt_at dt_L_16 9 rfl) (dt_at dt_L_16 10 rfl) ?_
  refine V_scr C S 3 rfl (by omega) hL (dt_at dt_L_16 11 rfl) (dt_at dt_L_16 12 rfl) (dt_at dt_L_16 13 rfl) (dt_at dt_L_16 14 rfl) (dt_at dt_L_16 15 rfl) ?_
  refine V_scr C S 4 rfl (by omega) hL (dt_at dt_L_16 16 rfl) (dt_at dt_L_16 17 rfl) (dt_at dt_L_16 18 rfl) (dt_at dt_L_16 19 rfl) (dt_at dt_L_16 20 rfl) ?_
  refine V_scr C S 5 rfl (by omega) hL (dt_at dt_L_16 21 rfl) (dt_at dt_L_16 22 rfl) (dt_at dt_L_16 23 rfl) (dt_at dt_L_16 24 rfl) (dt_at dt_L_16 25 rfl) ?_
  refine cv_X12_move C lwk_163 (ys (i + 1)) (ys (i + 2)) (ys (i + 3)) (ys (i + 4)) (ys (i + 5)) e2 (by omega) (Nat.le_of_ble_eq_true rfl) hcs (dt_at dt_L_16 26 rfl) ?_
  exact V_icmp_eq C 1522 (dt_at dt_L_16 27 rfl) (by decide) (fun _ => k σ2 r2 n2) (fun q => absurd rfl q)
set_option maxRecDepth 100000 in
theorem lw_c35 (C : Ck X G code RL 4 d) (hd : 100 ≤ d) (S : Scr X G b L ys) (hL : L ≤ 3072) (hi : i + 6 ≤ L) (hcs : cells ≤ (xR X).cells ∧ slots ≤ (xR X).slots) (hr : Rl σ) (k : ∀ σ' : St, Rl σ' → σ'.1 ≤ σ.1 + 1 → V X G 4 cells slots σ' 1522 (lvL G b i) []) : V X G 4 cells slots σ 1404 (lvL G b i) [] := by
  obtain ⟨x, σ1, σ2, e1, e2, r2, n2⟩ := hr.op (fun A h1 h2 h3 => op_image  h1 h2 h3)
  refine V_aload_n C (n := 1) (i := 1) (dt_at dt_L_16 30 rfl) 1 rfl rfl ?_
  refine cv_X11_image C lwk_164  e1 (by omega) (Nat.le_of_ble_eq_true rfl) hcs (dt_at dt_L_16 31 rfl) ?_
  refine V_aload_n C (n := 2) (i := 2) (dt_at dt_L_16 32 rfl) 2 rfl rfl ?_
  refine cv_X12_image C lwk_167  e2 (by omega) (Nat.le_of_ble_eq_true rfl) hcs (dt_at dt_L_16 33 rfl) ?_
  exact V_icmp_eq C 1522 (dt_at dt_L_16 34 rfl) (by decide) (fun _ => k σ2 r2 n2) (fun q => absurd rfl q)
set_option maxRecDepth 100000 in
theorem lw_c36 (C : Ck X G code RL 4 d) (hd : 100 ≤ d) (S : Scr X G b L ys) (hL : L ≤ 3072) (hi : i + 6 ≤ L) (hcs : cells ≤ (xR X).cells ∧ slots ≤ (xR X).slots) (hr : Rl σ) (k : ∀ σ' : St, Rl σ' → σ'.1 ≤ σ.1 + 1 → V X G 4 cells slots σ' 1522 (lvL G b i) []) : V X G 4 cells slots σ 1417 (lvL G b i) [] := by
  obtain ⟨x, σ1, σ2, e1, e2, r2, n2⟩ := hr.op (fun A h1 h2 h3 => op_restore  h1 h2 h3)
  refine V_aload_n C (n := 1) (i := 1) (dt_at dt_L_16 37 rfl) 1 rfl rfl ?_
  refine cv_X11_restore C lwk_168  e1 (by omega) (Nat.le_of_ble_eq_true rfl) hcs (dt_at dt_L_16 38 rfl) ?_
  refine V_aload_n C (n := 2) (i := 2) (dt_at dt_L_16 39 rfl) 2 rfl rfl ?_
  refine cv_X12_restore C lwk_171  e2 (by omega) (Nat.le_of_ble_eq_true rfl) hcs (dt_at dt_L_16 40 rfl) ?_
  exact V_icmp_eq C 1522 (dt_at dt_L_16 41 rfl) (by decide) (fun _ => k σ2 r2 n2) (fun q => absurd rfl q)
set_option maxRecDepth 100000 in
theorem lw_c37 (C : Ck X G code RL 4 d) (hd : 100 ≤ d) (S : Scr X G b L ys) (hL : L ≤ 3072) (hi : i + 6 ≤ L) (hcs : cells ≤ (xR X).cells ∧ slots ≤ (xR X).slots) (hr : Rl σ) (k : ∀ σ' : St, Rl σ' → σ'.1 ≤ σ.1 + 1 → V X G 4 cells slots σ' 1522 (lvL G b i) []) : V X G 4 cells slots σ 1430 (lvL G b i) [] := by
  obtain ⟨x, σ1, σ2, e1, e2, r2, n2⟩ := hr.op (fun A h1 h2 h3 => op_tell (ys (i + 1)) h1 h2 h3)
  refine V_aload_n C (n := 1) (i := 1) (dt_at dt_L_16 44 rfl) 1 rfl rfl ?_
  refine V_scr C S 1 rfl (by omega) hL (dt_at dt_L_16 45 rfl) (dt_at dt_L_16 46 rfl) (dt_at dt_L_16 47 rfl) (dt_at dt_L_16 48 rfl) (dt_at dt_L_16 49 rfl) ?_
  refine cv_X11_tell C lwk_172 (ys (i + 1)) e1 (by omega) (Nat.le_of_ble_eq_true rfl) hcs (dt_at dt_L_16 50 rfl) ?_
  refine V_aload_n C (n := 2) (i := 2) (dt_at dt_L_16 51 rfl) 2 rfl rfl ?_
  refine V_scr C S 1 rfl (by omega) hL (dt_at dt_L_16 52 rfl) (dt_at dt_L_16 53 rfl) (dt_at dt_L_16 54 rfl) (dt_at dt_L_16 55 rfl) (dt_at dt_L_16 56 rfl) ?_
  refine cv_X12_tell C lwk_175 (ys (i + 1)) e2 (by omega) (Nat.le_of_ble_eq_true rfl) hcs (dt_at dt_L_16 57 rfl) ?_
  exact V_icmp_eq C 1522 (dt_at dt_L_16 58 rfl) (by decide) (fun _ => k σ2 r2 n2) (fun q => absurd rfl q)
set_option maxRecDepth 100000 in
theorem lw_c38 (C : Ck X G code RL 4 d) (hd : 100 ≤ d) (S : Scr X G b L ys) (hL : L ≤ 3072) (hi : i + 6 ≤ L) (hcs : cells ≤ (xR X).cells ∧ slots ≤ (xR X).slots) (hr : Rl σ) (k : ∀ σ' : St, Rl σ' → σ'.1 ≤ σ.1 + 1 → V X G 4 cells slots σ' 1522 (lvL G b i) []) : V X G 4 cells slots σ 1453 (lvL G b i) [] := by
  obtain ⟨x, σ1, σ2, e1, e2, r2, n2⟩ := hr.op (fun A h1 h2 h3 => op_check (ys (i + 1)) h1 h2 h3)
  refine V_aload_n C (n := 1) (i := 1) (dt_at dt_L_17 1 rfl) 1 rfl rfl ?_
  refine V_scr C S 1 rfl (by omega) hL (dt_at dt_L_17 2 rfl) (dt_at dt_L_17 3 rfl) (dt_at dt_L_17 4 rfl) (dt_at dt_L_17 5 rfl) (dt_at dt_L_17 6 rfl) ?_
  refine cv_X11_check C lwk_176 (ys (i + 1)) e1 (by omega) (Nat.le_of_ble_eq_true rfl) hcs (dt_at dt_L_17 7 rfl) ?_
  refine V_aload_n C (n := 2) (i := 2) (dt_at dt_L_17 8 rfl) 2 rfl rfl ?_
  refine V_scr C S 1 rfl (by omega) hL (dt_at dt_L_17 9 rfl) (dt_at dt_L_17 10 rfl) (dt_at dt_L_17 11 rfl) (dt_at dt_L_17 12 rfl) (dt_at dt_L_17 13 rfl) ?_
  refine cv_X12_check C lwk_179 (ys (i + 1)) e2 (by omega) (Nat.le_of_ble_eq_true rfl) hcs (dt_at dt_L_17 14 rfl) ?_
  exact V_icmp_eq C 1522 (dt_at dt_L_17 15 rfl) (by decide) (fun _ => k σ2 r2 n2) (fun q => absurd rfl q)
set_option maxRecDepth 100000 in
theorem lw_c39 (C : Ck X G code RL 4 d) (hd : 100 ≤ d) (S : Scr X G b L ys) (hL : L ≤ 3072) (hi : i + 6 ≤ L) (hcs : cells ≤ (xR X).cells ∧ slots ≤ (xR X).slots) (hr : Rl σ) (k : ∀ σ' : St, Rl σ' → σ'.1 ≤ σ.1 + 1 → V X G 4 cells slots σ' 1522 (lvL G b i) []) : V X G 4 cells slots σ 1476 (lvL G b i) [] := by
  obtain ⟨x, σ1, σ2, e1, e2, r2, n2⟩ := hr.op (fun A h1 h2 h3 => op_count (ys (i + 1)) h1 h2 h3)
  refine V_aload_n C (n := 1) (i := 1) (dt_at dt_L_17 18 rfl) 1 rfl rfl ?_
  refine V_scr C S 1 rfl (by omega) hL (dt_at dt_L_17 19 rfl) (dt_at dt_L_17 20 rfl) (dt_at dt_L_17 21 rfl) (dt_at dt_L_17 22 rfl) (dt_at dt_L_17 23 rfl) ?_
  refine cv_X11_count C lwk_180 (ys (i + 1)) e1 (by omega) (Nat.le_of_ble_eq_true rfl) hcs (dt_at dt_L_17 24 rfl) ?_
  refine V_aload_n C (n := 2) (i := 2) (dt_at dt_L_17 25 rfl) 2 rfl rfl ?_
  refine V_scr C S 1 rfl (by omega) hL (dt_at dt_L_17 26 rfl) (dt_at dt_L_17 27 rfl) (dt_at dt_L_17 28 rfl) (dt_at dt_L_17 29 rfl) (dt_at dt_L_17 30 rfl) ?_
  refine cv_X12_count C lwk_183 (ys (i + 1)) e2 (by omega) (Nat.le_of_ble_eq_true rfl) hcs (dt_at dt_L_17 31 rfl) ?_
  exact V_icmp_eq C 1522 (dt_at dt_L_17 32 rfl) (by decide) (fun _ => k σ2 r2 n2) (fun q => absurd rfl q)
set_option maxRecDepth 100000 in
theorem lw_c40 (C : Ck X G code RL 4 d) (hd : 100 ≤ d) (S : Scr X G b L ys) (hL : L ≤ 3072) (hi : i + 6 ≤ L) (hcs : cells ≤ (xR X).cells ∧ slots ≤ (xR X).slots) (hr : Rl σ) (k : ∀ σ' : St, Rl σ' → σ'.1 ≤ σ.1 + 1 → V X G 4 cells slots σ' 1522 (lvL G b i) []) : V X G 4 cells slots σ 1499 (lvL G b i) [] := by
  obtain ⟨x, σ1, σ2, e1, e2, r2, n2⟩ := hr.op (fun A h1 h2 h3 => op_told (ys (i + 1)) h1 h2 h3)
  refine V_aload_n C (n := 1) (i := 1) (dt_at dt_L_17 35 rfl) 1 rfl rfl ?_
  refine V_scr C S 1 rfl (by omega) hL (dt_at dt_L_17 36 rfl) (dt_at dt_L_17 37 rfl) (dt_at dt_L_17 38 rfl) (dt_at dt_L_17 39 rfl) (dt_at dt_L_17 40 rfl) ?_
  refine cv_X11_told C lwk_184 (ys (i + 1)) e1 (by omega) (Nat.le_of_ble_eq_true rfl) hcs (dt_at dt_L_17 41 rfl) ?_
  refine V_aload_n C (n := 2) (i := 2) (dt_at dt_L_17 42 rfl) 2 rfl rfl ?_
  refine V_scr C S 1 rfl (by omega) hL (dt_at dt_L_17 43 rfl) (dt_at dt_L_17 44 rfl) (dt_at dt_L_17 45 rfl) (dt_at dt_L_17 46 rfl) (dt_at dt_L_17 47 rfl) ?_
  refine cv_X12_told C lwk_187 (ys (i + 1)) e2 (by omega) (Nat.le_of_ble_eq_true rfl) hcs (dt_at dt_L_17 48 rfl) ?_
  exact V_icmp_eq C 1522 (dt_at dt_L_17 49 rfl) (by decide) (fun _ => k σ2 r2 n2) (fun q => absurd rfl q)
end LD
