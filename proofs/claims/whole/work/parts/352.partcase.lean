/-! the law: the case that may make a role -/
section LQ
variable {X : Xx} {G G2 : Gx} {cc : ByteArray} {own : String} {nL d cells slots : Nat} {σ : St} {b L i : Nat} {ys : Nat → Int32}
theorem lwi_part : Cond.instanceMethod yX11_part ∈ gtb := mg2 (i := 65) rfl rfl
theorem lws_part : Cond.selects RX11 yX11_part yX11_part ∈ gtb := mg2 (i := 66) rfl rfl
theorem Ck.sim (h : Gsim G G2) (C : Ck X G cc own nL d) : Ck X G2 cc own nL d := by
  obtain ⟨h1, h2, h3, h4⟩ := h
  obtain ⟨a1, a2, a3, a4⟩ := G
  obtain ⟨b1, b2, b3, b4⟩ := G2
  cases h1; cases h2; cases h3
  exact C
theorem Scr.sim (h : Gsim G G2) (S : Scr X G b L ys) : Scr X G2 b L ys := by
  unfold Scr
  rw [h.gA]
  exact S
theorem lvL_sim (h : Gsim G G2) (i : Nat) : lvL G2 b i = lvL G b i := by
  unfold lvL
  rw [h.2.2.2 0 (by omega), h.2.2.2 6 (by omega)]
theorem lw_c1 (C : Ck X G code RL 4 d) (hd : 100 ≤ d) (S : Scr X G b L ys) (hL : L ≤ 3072) (hi : i + 6 ≤ L) (hcs : cells + 1 ≤ (xR X).cells ∧ slots + 5 ≤ (xR X).slots) (hr : Rl σ) (hn : σ.1 < 2 ^ 30) (k : ∀ (G2 : Gx) (σ' : St), Gsim G G2 → Rl σ' → σ'.1 ≤ σ.1 + 1 → V X G2 4 (cells + 1) (slots + 5) σ' 1522 (lvL G2 b i) []) : V X G 4 cells slots σ 235 (lvL G b i) [] := by
  obtain ⟨x, σ1, σ2, e1, e2, r2, n2⟩ := hr.op (fun A h1 h2 h3 => op_part (ys (i + 1)) (ys (i + 2)) hn h1 h2 h3)
  refine V_aload_n C (n := 1) (i := 1) (dt_at dt_L_0 39 rfl) 1 rfl rfl ?_
  refine V_scr C S 1 rfl (by omega) hL (dt_at dt_L_0 40 rfl) (dt_at dt_L_0 41 rfl) (dt_at dt_L_0 42 rfl) (dt_at dt_L_0 43 rfl) (dt_at dt_L_0 44 rfl) ?_
  refine V_scr C S 2 rfl (by omega) hL (dt_at dt_L_0 45 rfl) (dt_at dt_L_0 46 rfl) (dt_at dt_L_0 47 rfl) (dt_at dt_L_0 48 rfl) (dt_at dt_L_0 49 rfl) ?_
  intro H locs ls hH hl
  have hcb := hR_v C (d1 := 7) (maxL := 3) (by omega) (by decide)
  refine V_ranS (a := #[]) (σ0 := σ1) (r0 := x) (rest := []) (lv := lvL G b i) ?_ hH hl (va_runV (As := [.int (ys (i + 1)), .int (ys (i + 2))]) (C := RX11) (b := ga G 0) (bytes := cX11_part) (maxL := 3) (ret := some .int) (n := 2) ⟨C.1, C.2.1, C.2.2.1, C.2.2.2.1, C.2.2.2.2.1⟩ (c_X11_part X.2.1 G (ys (i + 1)) (ys (i + 2)) σ x σ1 e1) ⟨callB_of 2 C.2.2.2.2.1 (gtb_code cal_X11_part.1) rfl rfl rfl (C.2.2.2.2.1 _ cal_X11_part.2.1) (C.2.2.2.2.1 _ lwk_18) cal_X11_part.2.2.1 hcb, C.2.2.2.2.1 _ lwi_part, C.2.2.2.2.1 _ lws_part⟩ ⟨Wp_blind, va_recv C.2.2.2.2.2.1.1 hH.1 (ci := 11) (q0 := 0) rfl (wsl_at (lt110 rfl)), Wp_pre C hH⟩ rfl rfl hl.1 rfl (lv_room (Nat.le_of_ble_eq_true rfl)) (dt_at dt_L_0 50 rfl) hcs)
  intro G2 hs
  have C2 := C.sim hs
  have S2 := S.sim hs
  rw [← lvL_sim hs i]
  refine V_aload_n C2 (n := 2) (i := 2) (dt_at dt_L_0 51 rfl) 2 rfl rfl ?_
  refine V_scr C2 S2 1 rfl (by omega) hL (dt_at dt_L_0 52 rfl) (dt_at dt_L_0 53 rfl) (dt_at dt_L_0 54 rfl) (dt_at dt_L_0 55 rfl) (dt_at dt_L_0 56 rfl) ?_
  refine V_scr C2 S2 2 rfl (by omega) hL (dt_at dt_L_0 57 rfl) (dt_at dt_L_0 58 rfl) (dt_at dt_L_0 59 rfl) (dt_at dt_L_1 0 rfl) (dt_at dt_L_1 1 rfl) ?_
  refine cv_X12_part C2 lwk_22 (ys (i + 1)) (ys (i + 2)) e2 (by omega) (Nat.le_of_ble_eq_true rfl) hcs (dt_at dt_L_1 2 rfl) ?_
  exact V_icmp_eq C2 1522 (dt_at dt_L_1 3 rfl) (by decide) (fun _ => k G2 σ2 hs r2 n2) (fun q => absurd rfl q)
end LQ
