/-! the law: cases apart -/
section LE
variable {X : Xx} {G : Gx} {d cells slots : Nat} {σ : St} {b L i : Nat} {ys : Nat → Int32}
theorem lw_c22 (C : Ck X G code RL 4 d) (hd : 100 ≤ d) (S : Scr X G b L ys) (hL : L ≤ 3072) (hi : i + 6 ≤ L) (hcs : cells ≤ (xR X).cells ∧ slots ≤ (xR X).slots) (hr : Rl σ) (k : ∀ σ' : St, Rl σ' → σ'.1 ≤ σ.1 + 1 → V X G 4 cells slots σ' 1522 (lvL G b i) []) : V X G 4 cells slots σ 944 (lvL G b i) [] := by
  obtain ⟨x, e1, e2⟩ := hr.crowd
  refine V_aload_n C (n := 1) (i := 1) (dt_at dt_L_10 8 rfl) 1 rfl rfl ?_
  refine cv_X11_crowd C lwk_110 e1 (by omega) (Nat.le_of_ble_eq_true rfl) hcs (dt_at dt_L_10 9 rfl) ?_
  refine V_aload_n C (n := 2) (i := 2) (dt_at dt_L_10 10 rfl) 2 rfl rfl ?_
  refine cv_X12_crowd C lwk_113 e2 (by omega) (Nat.le_of_ble_eq_true rfl) hcs (dt_at dt_L_10 11 rfl) ?_
  exact V_icmp_eq C 1522 (dt_at dt_L_10 12 rfl) (by decide) (fun _ => k σ hr (Nat.le_succ _)) (fun q => absurd rfl q)
theorem lw_c27 (C : Ck X G code RL 4 d) (hd : 100 ≤ d) (S : Scr X G b L ys) (hL : L ≤ 3072) (hi : i + 6 ≤ L) (hcs : cells ≤ (xR X).cells ∧ slots ≤ (xR X).slots) (hr : Rl σ) (k : ∀ σ' : St, Rl σ' → σ'.1 ≤ σ.1 + 1 → V X G 4 cells slots σ' 1522 (lvL G b i) []) : V X G 4 cells slots σ 1089 (lvL G b i) [] := by
  obtain ⟨x, σ1, σ2, e1, e2, r2, n2⟩ := hr.opL (fun A h1 h2 h3 => op_castings (ys (i + 1)) h1 h2 h3)
  refine V_aload_n C (n := 1) (i := 1) (dt_at dt_L_12 3 rfl) 1 rfl rfl ?_
  refine V_scr C S 1 rfl (by omega) hL (dt_at dt_L_12 4 rfl) (dt_at dt_L_12 5 rfl) (dt_at dt_L_12 6 rfl) (dt_at dt_L_12 7 rfl) (dt_at dt_L_12 8 rfl) ?_
  refine cv_X11_castings C lwk_130 (ys (i + 1)) e1 (by omega) (Nat.le_of_ble_eq_true rfl) hcs (dt_at dt_L_12 9 rfl) ?_
  refine V_aload_n C (n := 2) (i := 2) (dt_at dt_L_12 10 rfl) 2 rfl rfl ?_
  refine V_scr C S 1 rfl (by omega) hL (dt_at dt_L_12 11 rfl) (dt_at dt_L_12 12 rfl) (dt_at dt_L_12 13 rfl) (dt_at dt_L_12 14 rfl) (dt_at dt_L_12 15 rfl) ?_
  refine cv_X12_castings C lwk_134 (ys (i + 1)) e2 (by omega) (Nat.le_of_ble_eq_true rfl) hcs (dt_at dt_L_12 16 rfl) ?_
  refine V_lcmp C (dt_at dt_L_12 17 rfl) ?_
  exact V_if_eq C 1522 (dt_at dt_L_12 18 rfl) (by decide) (fun _ => k σ2 r2 n2) (fun q => absurd (by rw [lg_cmp_eq]) q)
end LE
