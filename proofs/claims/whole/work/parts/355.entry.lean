/-! the law's entry -/
section LN
variable {X : Xx} {G : Gx} {cc : ByteArray} {own : String} {nL d cells slots pc : Nat} {ws : va_W} {lv : List (Nat × Value)} {rest : List Value}
theorem L_iconst (C : Ck X G cc own nL d) {n : Int} (v : Int32) (hd : decode cc pc = .ok (.iconst n, 1)) (hv : Int32.ofInt n = v) (k : VL X G nL cells slots ws (pc + 1) lv (.int v :: rest)) : VL X G nL cells slots ws pc lv rest := fun H locs ls hP hD hS hl => lv_iconst C.1 C.2.1 hd hv (k H locs ls hP hD hS hl)
theorem L_dup (C : Ck X G cc own nL d) {v : Value} (hd : decode cc pc = .ok (.dup, 1)) (hc : v.category = 1) (k : VL X G nL cells slots ws (pc + 1) lv (v :: v :: rest)) : VL X G nL cells slots ws pc lv (v :: rest) := fun H locs ls hP hD hS hl => lv_dup C.1 C.2.1 hd hc (k H locs ls hP hD hS hl)
theorem L_istore_n (C : Ck X G cc own nL d) {n : Fin 4} {i : Nat} {x : Int32} (ks : List Nat) {lv' : List (Nat × Value)} (hd : decode cc pc = .ok (.istore_n n, 1)) (hi : (n : Nat) = i) (hn : i < nL) (hl2 : lv_pick ((i, Value.int x) :: lv.filter (fun q => !(q.1 == i) && !(q.1 + 1 == i && q.2.category == 2))) ks = lv') (k : VL X G nL cells slots ws (pc + 1) lv' rest) : VL X G nL cells slots ws pc lv (.int x :: rest) := fun H locs ls hP hD hS hl => lv_istore_n C.1 C.2.1 hd hi hl hn rfl (fun ls' h' => k H locs ls' hP hD hS (lv_sub h' ks hl2))
theorem L_astore_n (C : Ck X G cc own nL d) {n : Fin 4} {i : Nat} {x : Nat} (ks : List Nat) {lv' : List (Nat × Value)} (hd : decode cc pc = .ok (.astore_n n, 1)) (hi : (n : Nat) = i) (hn : i < nL) (hl2 : lv_pick ((i, Value.ref x) :: lv.filter (fun q => (!(q.1 == i) && !(q.1 + 1 == i && q.2.category == 2)))) ks = lv') (k : VL X G nL cells slots ws (pc + 1) lv' rest) : VL X G nL cells slots ws pc lv (.ref x :: rest) := fun H locs ls hP hD hS hl => lv_astore_n C.1 C.2.1 hd hi hl hn rfl (fun ls' h' => k H locs ls' hP hD hS (lv_sub h' ks hl2))
theorem L_new (C : Ck X G cc own nL d) {Cn : String} {T : u_T} {N ci idx : Nat} (ty : Nat → FieldType) (hty : ∀ k, k < N → parseFieldDescriptor (T k).2.2.1 = some (ty k)) (hc : vwCl[ci]? = some (Cn, T, N)) (hin : ∀ w ∈ u_ws Cn T N, w ∈ gtb) (hcl : Cond.classLink own idx Cn ∈ gtb) (hinst : Cond.instantiable Cn N ∈ gtb) (hini : Cond.initialized Cn ∈ gtb) (fs : List Value) (hfs : ∀ j, j < N → defaultValue (ty j) = vp_V fs j) (hcs : cells + 1 ≤ (xR X).cells ∧ slots + N ≤ (xR X).slots) (hd : decode cc pc = .ok (.new idx, 3)) (k : ∀ q : Nat, VL X G nL (cells + 1) (slots + N) (ws ++ [(q, .inr (ci, fs))]) (pc + 3) lv (.ref q :: rest)) : VL X G nL cells slots ws pc lv rest := fun H locs ls hP hD hS hl =>
  va_new (ci := ci) (fs := fs) C.1 C.2.1 C.2.2.2.2.1 hin ty hty C.2.2.2.1 (C.2.2.2.2.1 _ hcl) (C.2.2.2.2.1 _ hinst) (C.2.2.2.2.1 _ hini) C.2.2.2.2.2.1.1 hP hD hS (fun q hq => Nat.le_trans C.2.2.2.2.2.2.1 hq) hc hfs hcs.1 hcs.2 hd (fun q H1 hP hD hS => k q H1 locs ls hP hD hS hl)
theorem L_callL (C : Ck X G cc own nL d) (K : Kc (xs X)) {base : va_W} {y : MethodName} {bytes : ByteArray} {maxL n idx d1 mc1 ms1 q : Nat} {As : List Value} {P0 : va_E} {Pf : (Nat → Nat) → va_E} {N : (Nat → Nat) → va_W} {st0 : List Value} (hM : KI X.2.1 G y bytes maxL d1 mc1 ms1 As P0 Pf N) (hc : Cal y bytes maxL none n) (hi : Cond.instanceMethod y ∈ gtb) (hlk : Cond.methodLink own idx y ∈ gtb) (hy : y.name = "<init>") (hn : As.length = n) (hdd : d1 + 1 ≤ d) (hst : st0 = As.reverse ++ .ref q :: rest) (hroom : (rest.map fun v => v.category).sum ≤ 8) (hcs : cells + mc1 ≤ (xR X).cells ∧ slots + ms1 ≤ (xR X).slots) (hd : decode cc pc = .ok (.invokespecial idx, 3)) (k : ∀ a : Nat → Nat, VL X G nL (cells + mc1) (slots + ms1) (base ++ ((q, Pf a) :: N a)) (pc + 3) lv rest) : VL X G nL cells slots (base ++ [(q, P0)]) pc lv st0 := fun H locs ls hP hD hS hl => by
  have hrr := hR_v C hdd hc.2.2.2
  refine C_ran (a := #[]) (W0 := base) (fun w hw => ?_) hS hl (va_runI (As := As) (b := q) (bytes := bytes) (maxL := maxL) (n := n) ⟨C.1, C.2.1, C.2.2.1, C.2.2.2.1, C.2.2.2.2.1⟩ (hM (base ++ [(q, P0)]) base.length q (by rw [List.getElem?_append_right (Nat.le_refl _), Nat.sub_self]; rfl)) ⟨callB_of n C.2.2.2.2.1 (gtb_code hc.1) rfl rfl rfl (C.2.2.2.2.1 _ hc.2.1) (C.2.2.2.2.1 _ hlk) hc.2.2.1 hrr, hy, C.2.2.2.2.1 _ hi⟩ ⟨WpC_blind, fun U hU hW => ⟨rfl, by rw [hU]; exact Nat.le_trans C.2.2.2.2.2.2.1 hS.1, by rw [hU]; exact hP, hD, Kx.warm hW (by rw [hU]; exact hS.2.1) C.2.2.2.2.2.1, Kc.warm hW K⟩⟩ rfl hn hl.1 hst (lv_room hroom) hd hcs)
  obtain ⟨a, rfl⟩ := hw
  have h9 := k a
  rw [List.set_append_right _ _ (Nat.le_refl _), Nat.sub_self, List.append_assoc]
  exact h9
theorem lwn_c11 : Cond.classLink RL 7 RX11 ∈ gtb := mg1 (i := 23) rfl rfl
theorem lwn_i11 : Cond.instantiable RX11 10 ∈ gtb := mg1 (i := 24) rfl rfl
theorem lwn_l11 : Cond.methodLink RL 9 yX11_init ∈ gtb := mg1 (i := 25) rfl rfl
theorem lwn_m11 : Cond.instanceMethod yX11_init ∈ gtb := mg1 (i := 26) rfl rfl
theorem lwn_c12 : Cond.classLink RL 10 RX12 ∈ gtb := mg5 (i := 129) rfl rfl
theorem lwn_i12 : Cond.instantiable RX12 35 ∈ gtb := mg5 (i := 130) rfl rfl
theorem lwn_l12 : Cond.methodLink RL 12 yX12_init ∈ gtb := mg5 (i := 131) rfl rfl
theorem lwn_m12 : Cond.instanceMethod yX12_init ∈ gtb := mg5 (i := 132) rfl rfl
theorem lw_enter (C : Ck X G code RL 4 d) (K : Kc (xs X)) (hd : 100 ≤ d) (hRm : 4000 ≤ (xR X).cells ∧ 40000 ≤ (xR X).slots) {b : Nat} (k : ∀ (p q : Nat) (a c : Nat → Nat), V X (gIn G p q a c) 4 110 21347 σi 18 (lvL (gIn G p q a c) b 0) []) : VL X G 4 0 0 [] 0 [(0, .ref b)] [] := by
  refine L_new C (T := TX11) (N := 10) (ci := 11) tyX11 tyX11_ok rfl inX11 lwn_c11 lwn_i11 ww_100 [.null, .null, .null, .null, .null, .null, .null, .null, .null, .int 0] (by decide +kernel) ⟨by omega, by omega⟩ (dt_at dt_L_0 0 rfl) (fun p => ?_)
  refine L_dup C (dt_at dt_L_0 1 rfl) rfl ?_
  refine L_callL C K (base := []) (k_X11_init X.2.1 G) cal_X11_init lwn_m11 lwn_l11 rfl rfl (by omega) rfl (Nat.le_of_ble_eq_true rfl) ⟨by omega, by omega⟩ (dt_at dt_L_0 2 rfl) (fun a => ?_)
  refine L_astore_n C [0, 1] (n := 1) (i := 1) (lv' := [(1, .ref p), (0, .ref b)]) (dt_at dt_L_0 3 rfl) rfl (by decide) rfl ?_
  refine L_new C (T := TX12) (N := 35) (ci := 12) tyX12 tyX12_ok rfl inX12 lwn_c12 lwn_i12 ww_429 [.null, .null, .int 0, .null, .int 0, .null, .null, .null, .null, .null, .int 0, .null, .int 0, .int 0, .null, .null, .null, .null, .null, .null, .null, .null, .null, .null, .null, .null, .null, .int 0, .int 0, .int 0, .int 0, .null, .null, .null, .null] (by decide +kernel) ⟨by omega, by omega⟩ (dt_at dt_L_0 4 rfl) (fun q => ?_)
  refine L_dup C (dt_at dt_L_0 5 rfl) rfl ?_
  refine L_callL C K (k_X12_init X.2.1 G) cal_X12_init lwn_m12 lwn_l12 rfl rfl (by omega) rfl (Nat.le_of_ble_eq_true rfl) ⟨by omega, by omega⟩ (dt_at dt_L_0 6 rfl) (fun c => ?_)
  refine L_astore_n C [0, 1, 2] (n := 2) (i := 2) (lv' := [(2, .ref q), (1, .ref p), (0, .ref b)]) (dt_at dt_L_0 7 rfl) rfl (by decide) rfl ?_
  refine L_iconst C (nI 0) (dt_at dt_L_0 8 rfl) rfl ?_
  refine L_istore_n C [3, 2, 1, 0] (n := 3) (i := 3) (lv' := lvL (gIn G p q a c) b 0) (dt_at dt_L_0 9 rfl) rfl (by decide) rfl ?_
  exact V_in (k p q a c)
end LN
