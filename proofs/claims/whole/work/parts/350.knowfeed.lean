/-! the law: know, feed -/
section LF
variable {X : Xx} {G : Gx} {d cells slots : Nat} {σ : St} {b L i : Nat} {ys : Nat → Int32}
theorem lw_c9 (C : Ck X G code RL 4 d) (hd : 100 ≤ d) (S : Scr X G b L ys) (hL : L ≤ 3072) (hi : i + 6 ≤ L) (hcs : cells ≤ (xR X).cells ∧ slots ≤ (xR X).slots) (hr : Rl σ) (k : ∀ σ' : St, Rl σ' → σ'.1 ≤ σ.1 + 1 → V X G 4 cells slots σ' 1522 (lvL G b i) []) : V X G 4 cells slots σ 509 (lvL G b i) [] := by
  have h0 :  ys (i + 3) = 0 → V X G 4 cells slots σ 509 (lvL G b i) [] := fun q0 => by
    obtain ⟨x, σ1, σ2, e1, e2, r2, n2⟩ := hr.op (fun A h1 h2 h3 => op_know (ys (i + 1)) (ys (i + 2)) 0 (by decide) h1 h2 h3)
    refine V_aload_n C (n := 1) (i := 1) (dt_at dt_L_4 25 rfl) 1 rfl rfl ?_
    refine V_scr C S 1 rfl (by omega) hL (dt_at dt_L_4 26 rfl) (dt_at dt_L_4 27 rfl) (dt_at dt_L_4 28 rfl) (dt_at dt_L_4 29 rfl) (dt_at dt_L_4 30 rfl) ?_
    refine V_scr C S 2 rfl (by omega) hL (dt_at dt_L_4 31 rfl) (dt_at dt_L_4 32 rfl) (dt_at dt_L_4 33 rfl) (dt_at dt_L_4 34 rfl) (dt_at dt_L_4 35 rfl) ?_
    refine V_scr C S 3 rfl (by omega) hL (dt_at dt_L_4 36 rfl) (dt_at dt_L_4 37 rfl) (dt_at dt_L_4 38 rfl) (dt_at dt_L_4 39 rfl) (dt_at dt_L_4 40 rfl) ?_
    refine V_if_eq C 532 (dt_at dt_L_4 41 rfl) (by decide) (fun _ => ?_) (fun q => absurd q0 q)
    refine V_iconst C 0 (dt_at dt_L_4 44 rfl) (by decide) ?_
    refine cv_X11_know C lwk_52 (ys (i + 1)) (ys (i + 2)) 0 e1 (by omega) (Nat.le_of_ble_eq_true rfl) hcs (dt_at dt_L_4 45 rfl) ?_
    refine V_aload_n C (n := 2) (i := 2) (dt_at dt_L_4 46 rfl) 2 rfl rfl ?_
    refine V_scr C S 1 rfl (by omega) hL (dt_at dt_L_4 47 rfl) (dt_at dt_L_4 48 rfl) (dt_at dt_L_4 49 rfl) (dt_at dt_L_4 50 rfl) (dt_at dt_L_4 51 rfl) ?_
    refine V_scr C S 2 rfl (by omega) hL (dt_at dt_L_4 52 rfl) (dt_at dt_L_4 53 rfl) (dt_at dt_L_4 54 rfl) (dt_at dt_L_4 55 rfl) (dt_at dt_L_4 56 rfl) ?_
    refine V_scr C S 3 rfl (by omega) hL (dt_at dt_L_4 57 rfl) (dt_at dt_L_4 58 rfl) (dt_at dt_L_4 59 rfl) (dt_at dt_L_5 0 rfl) (dt_at dt_L_5 1 rfl) ?_
    refine V_if_eq C 559 (dt_at dt_L_5 2 rfl) (by decide) (fun _ => ?_) (fun q => absurd q0 q)
    refine V_iconst C 0 (dt_at dt_L_5 5 rfl) (by decide) ?_
    refine cv_X12_know C lwk_56 (ys (i + 1)) (ys (i + 2)) 0 e2 (by omega) (Nat.le_of_ble_eq_true rfl) hcs (dt_at dt_L_5 6 rfl) ?_
    exact V_icmp_eq C 1522 (dt_at dt_L_5 7 rfl) (by decide) (fun _ => k σ2 r2 n2) (fun q => absurd rfl q)
  have h1 : ¬ ys (i + 3) = 0 → V X G 4 cells slots σ 509 (lvL G b i) [] := fun q0 => by
    obtain ⟨x, σ1, σ2, e1, e2, r2, n2⟩ := hr.op (fun A h1 h2 h3 => op_know (ys (i + 1)) (ys (i + 2)) 1 (by decide) h1 h2 h3)
    refine V_aload_n C (n := 1) (i := 1) (dt_at dt_L_4 25 rfl) 1 rfl rfl ?_
    refine V_scr C S 1 rfl (by omega) hL (dt_at dt_L_4 26 rfl) (dt_at dt_L_4 27 rfl) (dt_at dt_L_4 28 rfl) (dt_at dt_L_4 29 rfl) (dt_at dt_L_4 30 rfl) ?_
    refine V_scr C S 2 rfl (by omega) hL (dt_at dt_L_4 31 rfl) (dt_at dt_L_4 32 rfl) (dt_at dt_L_4 33 rfl) (dt_at dt_L_4 34 rfl) (dt_at dt_L_4 35 rfl) ?_
    refine V_scr C S 3 rfl (by omega) hL (dt_at dt_L_4 36 rfl) (dt_at dt_L_4 37 rfl) (dt_at dt_L_4 38 rfl) (dt_at dt_L_4 39 rfl) (dt_at dt_L_4 40 rfl) ?_
    refine V_if_eq C 532 (dt_at dt_L_4 41 rfl) (by decide) (fun q => absurd q q0) (fun _ => ?_)
    refine V_iconst C 1 (dt_at dt_L_4 42 rfl) (by decide) ?_
    refine V_goto C 533 (dt_at dt_L_4 43 rfl) (by decide) ?_
    refine cv_X11_know C lwk_52 (ys (i + 1)) (ys (i + 2)) 1 e1 (by omega) (Nat.le_of_ble_eq_true rfl) hcs (dt_at dt_L_4 45 rfl) ?_
    refine V_aload_n C (n := 2) (i := 2) (dt_at dt_L_4 46 rfl) 2 rfl rfl ?_
    refine V_scr C S 1 rfl (by omega) hL (dt_at dt_L_4 47 rfl) (dt_at dt_L_4 48 rfl) (dt_at dt_L_4 49 rfl) (dt_at dt_L_4 50 rfl) (dt_at dt_L_4 51 rfl) ?_
    refine V_scr C S 2 rfl (by omega) hL (dt_at dt_L_4 52 rfl) (dt_at dt_L_4 53 rfl) (dt_at dt_L_4 54 rfl) (dt_at dt_L_4 55 rfl) (dt_at dt_L_4 56 rfl) ?_
    refine V_scr C S 3 rfl (by omega) hL (dt_at dt_L_4 57 rfl) (dt_at dt_L_4 58 rfl) (dt_at dt_L_4 59 rfl) (dt_at dt_L_5 0 rfl) (dt_at dt_L_5 1 rfl) ?_
    refine V_if_eq C 559 (dt_at dt_L_5 2 rfl) (by decide) (fun q => absurd q q0) (fun _ => ?_)
    refine V_iconst C 1 (dt_at dt_L_5 3 rfl) (by decide) ?_
    refine V_goto C 560 (dt_at dt_L_5 4 rfl) (by decide) ?_
    refine cv_X12_know C lwk_56 (ys (i + 1)) (ys (i + 2)) 1 e2 (by omega) (Nat.le_of_ble_eq_true rfl) hcs (dt_at dt_L_5 6 rfl) ?_
    exact V_icmp_eq C 1522 (dt_at dt_L_5 7 rfl) (by decide) (fun _ => k σ2 r2 n2) (fun q => absurd rfl q)
  by_cases q : ys (i + 3) = 0
  · exact h0 q
  · exact h1 q
theorem lwc_65 : Cond.constantLong RL 65 4294967295 ∈ gtb := mg7 (i := 178) rfl rfl
theorem lw_c12 (C : Ck X G code RL 4 d) (hd : 100 ≤ d) (S : Scr X G b L ys) (hL : L ≤ 3072) (hi : i + 6 ≤ L) (hcs : cells ≤ (xR X).cells ∧ slots ≤ (xR X).slots) (hr : Rl σ) (k : ∀ σ' : St, Rl σ' → σ'.1 ≤ σ.1 + 1 → V X G 4 cells slots σ' 1522 (lvL G b i) []) : V X G 4 cells slots σ 634 (lvL G b i) [] := by
  obtain ⟨w, hw⟩ : ∃ w : Int64, w = ((ys (i + 1)).toInt64 <<< ((32 : Int32).toInt64 &&& 63)) ||| ((ys (i + 2)).toInt64 &&& 4294967295) := ⟨_, rfl⟩
  obtain ⟨x, σ1, σ2, e1, e2, r2, n2⟩ := hr.op (fun A h1 h2 h3 => op_feed w (ys (i + 3)) h1 h2 h3)
  refine V_aload_n C (n := 1) (i := 1) (dt_at dt_L_6 4 rfl) 1 rfl rfl ?_
  refine V_scr C S 1 rfl (by omega) hL (dt_at dt_L_6 5 rfl) (dt_at dt_L_6 6 rfl) (dt_at dt_L_6 7 rfl) (dt_at dt_L_6 8 rfl) (dt_at dt_L_6 9 rfl) ?_
  refine V_i2l C (dt_at dt_L_6 10 rfl) ?_
  refine V_bipush C 32 (dt_at dt_L_6 11 rfl) (by decide) ?_
  refine V_lshl C (dt_at dt_L_6 12 rfl) ?_
  refine V_scr C S 2 rfl (by omega) hL (dt_at dt_L_6 13 rfl) (dt_at dt_L_6 14 rfl) (dt_at dt_L_6 15 rfl) (dt_at dt_L_6 16 rfl) (dt_at dt_L_6 17 rfl) ?_
  refine V_i2l C (dt_at dt_L_6 18 rfl) ?_
  refine V_ldc2 C 4294967295 (dt_at dt_L_6 19 rfl) lwc_65 ?_
  refine V_land C (dt_at dt_L_6 20 rfl) ?_
  refine V_lor C (dt_at dt_L_6 21 rfl) ?_
  rw [← hw]
  refine V_scr C S 3 rfl (by omega) hL (dt_at dt_L_6 22 rfl) (dt_at dt_L_6 23 rfl) (dt_at dt_L_6 24 rfl) (dt_at dt_L_6 25 rfl) (dt_at dt_L_6 26 rfl) ?_
  refine cv_X11_feed C lwk_67 w (ys (i + 3)) e1 (by omega) (Nat.le_of_ble_eq_true rfl) hcs (dt_at dt_L_6 27 rfl) ?_
  refine V_aload_n C (n := 2) (i := 2) (dt_at dt_L_6 28 rfl) 2 rfl rfl ?_
  refine V_scr C S 1 rfl (by omega) hL (dt_at dt_L_6 29 rfl) (dt_at dt_L_6 30 rfl) (dt_at dt_L_6 31 rfl) (dt_at dt_L_6 32 rfl) (dt_at dt_L_6 33 rfl) ?_
  refine V_i2l C (dt_at dt_L_6 34 rfl) ?_
  refine V_bipush C 32 (dt_at dt_L_6 35 rfl) (by decide) ?_
  refine V_lshl C (dt_at dt_L_6 36 rfl) ?_
  refine V_scr C S 2 rfl (by omega) hL (dt_at dt_L_6 37 rfl) (dt_at dt_L_6 38 rfl) (dt_at dt_L_6 39 rfl) (dt_at dt_L_6 40 rfl) (dt_at dt_L_6 41 rfl) ?_
  refine V_i2l C (dt_at dt_L_6 42 rfl) ?_
  refine V_ldc2 C 4294967295 (dt_at dt_L_6 43 rfl) lwc_65 ?_
  refine V_land C (dt_at dt_L_6 44 rfl) ?_
  refine V_lor C (dt_at dt_L_6 45 rfl) ?_
  rw [← hw]
  refine V_scr C S 3 rfl (by omega) hL (dt_at dt_L_6 46 rfl) (dt_at dt_L_6 47 rfl) (dt_at dt_L_6 48 rfl) (dt_at dt_L_6 49 rfl) (dt_at dt_L_6 50 rfl) ?_
  refine cv_X12_feed C lwk_71 w (ys (i + 3)) e2 (by omega) (Nat.le_of_ble_eq_true rfl) hcs (dt_at dt_L_6 51 rfl) ?_
  exact V_icmp_eq C 1522 (dt_at dt_L_6 52 rfl) (by decide) (fun _ => k σ2 r2 n2) (fun q => absurd rfl q)
end LF
