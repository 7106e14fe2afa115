section V2
variable {X : Xx} {G : Gx} {cc : ByteArray} {own : String} {nL d cells slots pc : Nat} {σ : St} {lv : List (Nat × Value)} {rest : List Value}
theorem hR_v (C : Ck X G cc own nL d) {d1 maxL : Nat} (hdd : d1 + 1 ≤ d) (hm : maxL ≤ 21) : d1 + 1 ≤ (xR X).frames ∧ 8 + (maxL + 11) + 40 * d1 ≤ (xR X).locals := ⟨Nat.le_trans hdd C.2.2.2.2.2.2.2.2.1, by
    have h2 := C.2.2.2.2.2.2.2.2.2
    omega⟩
/-- a call whose receiver's class selects the method -/
theorem V_callU (C : Ck X G cc own nL d) {x y : MethodName} {Cn owner : String} {bytes b0 : ByteArray} {maxL m0 n idx d1 K ci N : Nat} {T : u_T} {fs : List Value} {ret r0 : Option FieldType} {As : List Value} {o : Option Value} {σ0 : St} {st0 : List Value} (hM : MI X.2.1 G y bytes maxL ret d1 (.ref (ga G K) :: As) σ o σ0) (hc : Cal y bytes maxL ret n) (hi : Cond.instanceMethod y ∈ gtb) (hs : Cond.selects Cn x y ∈ gtb) (hlk : Cond.methodLink own idx x ∈ gtb) (hsm : Cond.sameMethod x.cls owner x.name x.desc ∈ gtb) (hio : Cond.instanceMethod ⟨owner, x.name, x.desc⟩ ∈ gtb) (hco : Cond.code ⟨owner, x.name, x.desc⟩ b0 m0 r0 ∈ gtb) (hx : owner ≠ "java/lang/invoke/MethodHandle" ∧ owner ≠ "java/lang/invoke/VarHandle" ∧ (parseMethodDescriptor x.desc).map (fun d => d.parameters.length) = some n) (hn : As.length = n) (hdd : d1 + 1 ≤ d) (hK : K < 110 + σ.1) (hlay : lay G K (σ.2.1 K) σ.2.2 = .inr (ci, fs)) (hcl : vwCl[ci]? = some (Cn, T, N)) (hst : st0 = As.reverse ++ .ref (ga G K) :: rest) (hroom : (rest.map fun v => v.category).sum ≤ 8) (hcs : cells ≤ (xR X).cells ∧ slots ≤ (xR X).slots) (hd : decode cc pc = .ok (.invokevirtual idx, 3)) (k : V X G nL cells slots σ0 (pc + 3) lv (o.toList ++ rest)) : V X G nL cells slots σ pc lv st0 := fun H locs ls hH hl => by
  have ht := C.2.2.2.2.1
  have hr := hR_v C hdd hc.2.2.2
  refine V_ran (a := #[]) k hH hl (va_runU (As := As) (C := Cn) (owner := owner) (x := x) (b := ga G K) (bytes := bytes) (maxL := maxL) (ret := ret) (n := n) ⟨C.1, C.2.1, C.2.2.1, C.2.2.2.1, C.2.2.2.2.1⟩ hM ⟨⟨rfl, rfl, hr.1, hr.2, pay_in ht (gtb_code hc.1), List.mem_cons_self⟩, ht _ hc.1, ht _ hc.2.1, ⟨hx.1, hx.2.1⟩, fun sig h => ?_, ht _ hlk, ht _ hsm, va_Decl.of (ht _ hio) (ht _ hco), ht _ hs, ht _ hi⟩ ⟨Wp_blind, va_recv C.2.2.2.2.2.1.1 hH.1 (ci := ci) (q0 := K) hcl ((wsl_at hK).trans (by rw [hlay])), Wp_pre C hH⟩ rfl hn hl.1 hst (lv_room hroom) hd hcs)
  have h2 := hx.2.2
  rw [h] at h2
  exact (Option.some.inj h2).symm
/-- super.m(..): the class above the own one is named, the method stands there or one above -/
theorem va_runSU2 {p : Program} {l : Launch} {e : Env} {R : Room} {s : State} {m : MethodId} {args : Array Value} {below : List Frame} {meth : Method} {c : Code} {H : Heap} {locs : List Loc} {cells slots : Nat} {x y : MethodName} {bytes cc : ByteArray} {maxL nL mc ms n index : Nat} {ret : Option FieldType} {ws : List Cond} {rm : Room} {Pc : Array Value → State → Prop} {Qc : Array Value → State → Outcome → State → Prop} {free : Addr → Prop} {Ts : List Cond} {own C : String} {cC : ClassId} {b : Addr} {As rest : List Value} {g : JFrame}
    (hat : ClassAt s C cC) (S : CallFix p m c cc nL s args Ts own) (hM : Met l y ws rm Pc Qc mc ms free) (hb1 : rm.cells = mc ∧ rm.slots = ms ∧ rm.frames + 1 ≤ R.frames ∧ 8 + (maxL + 11) + rm.locals ≤ R.locals ∧ (∀ w ∈ ws, ∀ (a' : Array Value) (U : State), s.WarmedH U.vm → w.before a' U = true) ∧ Cond.code y bytes maxL ret ∈ ws)
    (hlink : (Cond.methodLink own index x).before args s = true) (hyx : y.name = x.name ∧ y.desc = x.desc) (hsame : (Cond.sameMethod x.cls y.cls x.name x.desc).before args s = true) (hsup : (Cond.superclass own x.cls).before args s = true) (hsub : x.cls = y.cls ∨ (Cond.superclass x.cls y.cls).before args s = true) (hinst : (Cond.instanceMethod y).before args s = true) (hini : (Cond.initialized y.cls).before args s = true) (hcode : (Cond.code y bytes maxL ret).before args s = true) (hno : x.name ≠ "<init>") (hlen : ∀ sig, parseMethodDescriptor y.desc = some sig → n = sig.parameters.length) (hp : PreV s H C b Pc As)
    (hg : g.method = m) (hn : As.length = n) (hsize : g.locals.size = nL) (hstack : g.stack = As.reverse ++ .ref b :: rest) (hW : 2 * g.monitorRoom + (rest.map fun v => v.category).sum ≤ 8) (hdg : decode cc g.pc = .ok (.invokespecial index, 3)) (hf : cells + mc ≤ R.cells ∧ slots + ms ≤ R.slots) :
    va_Run p l e R s m args below meth c H locs cells slots mc ms g rest (Qc (Value.ref b :: As).toArray) (free) := by
  obtain ⟨hrc, hrs, hfr, hlo, hws, hcw⟩ := hb1
  have hK : Back l R p e below s args y 3 8 (PreOf R mc ms Pc) (PostOf Qc mc ms free) := back_of (bytes := bytes) (maxL := maxL) (ret := ret) hM hp.1 hrc hrs hfr hlo hws hcw (fun a' U hW => word_at hW (Or.inl (by first | rfl | simp [Cond.onTables, Cond.keeps, Cond.steady])) hini)
  obtain ⟨hx, hb, hml, ho, -⟩ := S
  obtain ⟨-, ⟨cellB, hcB, hoB, hclB⟩, hPc⟩ := hp
  obtain ⟨hfc, kB, hkB, -⟩ := hat
  cases hfc.symm.trans hclB
  obtain ⟨mk, methM, hnamed, hmethM, hstM, habM⟩ := Cond.instanceMethod_spec hinst
  obtain ⟨methM', cM, hmethM', -, -, -, -, -, -, hsigM⟩ := Cond.code_spec hnamed hcode
  cases hmethM.symm.trans hmethM'
  obtain ⟨ps, dk, kp, hps, hdk, hkp, hsuper, -, -, hnid⟩ := Cond.superclass_spec ho hsup
  have hn0 : s.methodNamed? ⟨y.cls, x.name, x.desc⟩ = some mk := by rw [← hyx.1, ← hyx.2]; exact hnamed
  have hsubc : s.vm.isSubclass ps mk.cls = true := by
    rcases hsub with h | h
    · have hpm : ps = mk.cls := Option.some.inj (hps.symm.trans (by rw [h]; exact findClass_of_methodNamed hnamed))
      rw [hpm]; simp [Vm.isSubclass, Vm.isSubclassAux]
    · obtain ⟨p2, k2, kp2, h1, h2, h3, h4, -, -, -⟩ := Cond.superclass_spec hps h
      have hpm : p2 = mk.cls := Option.some.inj (h1.symm.trans (findClass_of_methodNamed hnamed))
      have hsz : ∃ z, s.vm.classes.size = z + 1 := by
        have h9 : 0 < s.vm.classes.size := Nat.lt_of_le_of_lt (Nat.zero_le _) (Array.getElem?_eq_some_iff.mp h3).1
        exact ⟨s.vm.classes.size - 1, by omega⟩
      obtain ⟨z, hz⟩ := hsz
      rw [← hpm]
      simp [Vm.isSubclass, hz, Vm.isSubclassAux, h2, h4]
  intro T hT X
  obtain ⟨vm₁, X₁, hstep₁⟩ := X.invokespecialUp hx (owner := y.cls) ho hlink hsame hn0 hmethM hstM habM hno hdk hnid hps hsuper hsubc (a := b) (cell := cellB) (by rw [hT]; exact hcB)
    (fun z h => by rw [h] at hoB; cases hoB) hkB (g := g) hg (argsL := As) (rest := rest) (hn.trans (hlen _ hsigM)) hstack (by rw [hb]; exact hdg)
  obtain ⟨v, B, X', hpost, hsteps⟩ := hK m meth c ⟨T.setVm vm₁, locs, cells, slots⟩ { g with stack := rest } (.invokespecial index) mk (Value.ref b :: As).toArray X₁ hg (hsize.trans hml.symm) (by rw [hb]; exact hdg) hW (X₁.named hnamed) ⟨hf.1, hf.2, hPc (T.setVm vm₁) hT X₁.warmed⟩
  obtain ⟨g', mk', t, L, e1, e2, hq, h1, hL, h2, h3⟩ := hpost
  obtain ⟨U', l2, c2, s2⟩ := B
  dsimp only [Pt.U, Pt.locs, Pt.cells, Pt.slots] at X' e1 e2 h1 h2 h3 hsteps
  subst h1; subst h2; subst h3
  exact ⟨v, (T.setVm vm₁).calling g' mk' (Value.ref b :: As).toArray, t, U', L, hT, X', hL, e1, e2, hq, fun target h => hstep₁ _ (by rw [doInvoke_state]; exact hsteps.trans h)⟩
theorem V_callSU (C : Ck X G cc own nL d) {x y : MethodName} {Cn : String} {bytes : ByteArray} {maxL n idx d1 K ci N : Nat} {T : u_T} {fs : List Value} {ret : Option FieldType} {As : List Value} {o : Option Value} {σ0 : St} {st0 : List Value} (hM : MI X.2.1 G y bytes maxL ret d1 (.ref (ga G K) :: As) σ o σ0) (hc : Cal y bytes maxL ret n) (hi : Cond.instanceMethod y ∈ gtb) (hlk : Cond.methodLink own idx x ∈ gtb) (hyx : y.name = x.name ∧ y.desc = x.desc) (hsm : Cond.sameMethod x.cls y.cls x.name x.desc ∈ gtb) (hsup : Cond.superclass own x.cls ∈ gtb) (hsub : x.cls = y.cls ∨ Cond.superclass x.cls y.cls ∈ gtb) (hno : x.name ≠ "<init>") (hn : As.length = n) (hdd : d1 + 1 ≤ d) (hK : K < 110 + σ.1) (hlay : lay G K (σ.2.1 K) σ.2.2 = .inr (ci, fs)) (hcl : vwCl[ci]? = some (Cn, T, N)) (hst : st0 = As.reverse ++ .ref (ga G K) :: rest) (hroom : (rest.map fun v => v.category).sum ≤ 8) (hcs : cells ≤ (xR X).cells ∧ slots ≤ (xR X).slots) (hd : decode cc pc = .ok (.invokespecial idx, 3)) (k : V X G nL cells slots σ0 (pc + 3) lv (o.toList ++ rest)) : V X G nL cells slots σ pc lv st0 := fun H locs ls hH hl => by
  have ht := C.2.2.2.2.1
  have hr := hR_v C hdd hc.2.2.2
  refine V_ran (a := #[]) k hH hl (va_runSU2 (As := As) (C := Cn) (x := x) (b := ga G K) (bytes := bytes) (maxL := maxL) (ret := ret) (n := n) (C.2.2.2.2.2.1.1.1 ci _ hcl).2 ⟨C.1, C.2.1, C.2.2.1, C.2.2.2.1, C.2.2.2.2.1⟩ hM ⟨rfl, rfl, hr.1, hr.2, pay_in ht (gtb_code hc.1), List.mem_cons_self⟩ (ht _ hlk) hyx (ht _ hsm) (ht _ hsup) (hsub.imp id (fun h => ht _ h)) (ht _ hi) (ht _ hc.2.1) (ht _ hc.1) hno (fun sig h => ?_) ⟨Wp_blind, va_recv C.2.2.2.2.2.1.1 hH.1 (ci := ci) (q0 := K) hcl ((wsl_at hK).trans (by rw [hlay])), Wp_pre C hH⟩ rfl hn hl.1 hst (lv_room hroom) hd hcs)
  have h2 := hc.2.2.1.2.2
  rw [h] at h2
  exact (Option.some.inj h2).symm
/-! instanceof -/
theorem V_instY (C : Ck X G cc own nL d) {K ci N idx : Nat} {T : u_T} {Cn nm : String} {fs : List Value} (hK : K < 110 + σ.1) (hlay : lay G K (σ.2.1 K) σ.2.2 = .inr (ci, fs)) (hcl : vwCl[ci]? = some (Cn, T, N)) (hlk : Cond.classLink own idx nm ∈ gtb) (hca : (Cn, nm) ∈ ycl) (hd : decode cc pc = .ok (.instanceof idx, 3)) (k : V X G nL cells slots σ (pc + 3) lv (.int 1 :: rest)) : V X G nL cells slots σ pc lv (.ref (ga G K) :: rest) := fun H locs ls hH hl =>
  va_instY C.1 C.2.1 C.2.2.2.1 (C.2.2.2.2.1 _ hlk) (C.2.2.2.2.2.1.2.2.2.2.2.2 _ hca) (va_recv C.2.2.2.2.2.1.1 hH.1 (ci := ci) (q0 := K) hcl ((wsl_at hK).trans (by rw [hlay]))) hd (k H locs ls hH hl)
theorem V_instS (C : Ck X G cc own nL d) {K ci N idx : Nat} {T : u_T} {Cn : String} {fs : List Value} (hK : K < 110 + σ.1) (hlay : lay G K (σ.2.1 K) σ.2.2 = .inr (ci, fs)) (hcl : vwCl[ci]? = some (Cn, T, N)) (hlk : Cond.classLink own idx Cn ∈ gtb) (hd : decode cc pc = .ok (.instanceof idx, 3)) (k : V X G nL cells slots σ (pc + 3) lv (.int 1 :: rest)) : V X G nL cells slots σ pc lv (.ref (ga G K) :: rest) := fun H locs ls hH hl =>
  va_instS C.1 C.2.1 C.2.2.2.1 (C.2.2.2.2.1 _ hlk) (C.2.2.2.2.2.1.1.1 ci _ hcl).2 (va_recv C.2.2.2.2.2.1.1 hH.1 (ci := ci) (q0 := K) hcl ((wsl_at hK).trans (by rw [hlay]))) hd (k H locs ls hH hl)
theorem V_instN (C : Ck X G cc own nL d) {K ci N idx : Nat} {T : u_T} {Cn nm : String} {fs : List Value} (hK : K < 110 + σ.1) (hlay : lay G K (σ.2.1 K) σ.2.2 = .inr (ci, fs)) (hcl : vwCl[ci]? = some (Cn, T, N)) (hlk : Cond.classLink own idx nm ∈ gtb) (hca : (Cn, nm) ∈ ncl) (hd : decode cc pc = .ok (.instanceof idx, 3)) (k : V X G nL cells slots σ (pc + 3) lv (.int 0 :: rest)) : V X G nL cells slots σ pc lv (.ref (ga G K) :: rest) := fun H locs ls hH hl =>
  va_instNo C.1 C.2.1 C.2.2.2.1 (C.2.2.2.2.1 _ hlk) (C.2.2.2.2.2.1.2.2.1 _ hca) (va_recv C.2.2.2.2.2.1.1 hH.1 (ci := ci) (q0 := K) hcl ((wsl_at hK).trans (by rw [hlay]))) hd (k H locs ls hH hl)
/-! a role into an array of roles -/
theorem V_aastO (C : Ck X G cc own nL d) {A K ci N : Nat} {T : u_T} {Cn : String} {fs : List Value} {i : Int32} (hA : A < 110 + σ.1) (hlayA : ∀ f, lay G A f σ.2.2 = .inl (gc G 3, 10, .inr (.inr (.inr (.inr (fun j => if j < 10 ∧ f j ≠ 0 then some (ga G (f j).toNatClampNeg) else none)))))) (hK : K < 110 + σ.1) (hb : 0 < K ∧ K < 2 ^ 31) (hlay : lay G K (σ.2.1 K) σ.2.2 = .inr (ci, fs)) (hcl : vwCl[ci]? = some (Cn, T, N)) (hca : Cn = "FivePlayers$Role" ∨ (Cn, "FivePlayers$Role") ∈ ycl) (hin : inb i 10 = true) (hd : decode cc pc = .ok (.aastore, 1)) (k : V X G nL cells slots (wr σ A i (nI K)) (pc + 1) lv rest) : V X G nL cells slots σ pc lv (.ref (ga G K) :: .int i :: .ref (ga G A) :: rest) := fun H locs ls hH hl => by
  have hA0 := (wsl_at (G := G) hA).trans (by rw [hlayA])
  have hK0 := (wsl_at (G := G) hK).trans (by rw [hlay])
  have ef : va_up (fun j => if j < 10 ∧ σ.2.1 A j ≠ 0 then some (ga G (σ.2.1 A j).toNatClampNeg) else none) i.toNatClampNeg (some (ga G K)) = (fun j => if j < 10 ∧ upd (σ.2.1 A) i.toNatClampNeg (nI K) j ≠ 0 then some (ga G (upd (σ.2.1 A) i.toNatClampNeg (nI K) j).toNatClampNeg) else none) := by
    funext j
    by_cases hj : j = i.toNatClampNeg
    · subst hj
      rw [va_up_self, pk_us, if_pos ⟨inb_lt hin, nI_ne0 hb.1 hb.2⟩, nI_clamp hb.2]
    · rw [va_up_ne _ _ hj, pk_un hj]
  have go : ∀ (H1 : Heap) (locs1 : List Loc), va_P G.1 vwCl ((wsl G σ).set A (ga G A, .inl (gc G 3, 10, .inr (.inr (.inr (.inr (va_up (fun j => if j < 10 ∧ σ.2.1 A j ≠ 0 then some (ga G (σ.2.1 A j).toNatClampNeg) else none) i.toNatClampNeg (some (ga G K)))))))) ) H1 → va_D (gA G) ((wsl G σ).set A (ga G A, .inl (gc G 3, 10, .inr (.inr (.inr (.inr (va_up (fun j => if j < 10 ∧ σ.2.1 A j ≠ 0 then some (ga G (σ.2.1 A j).toNatClampNeg) else none) i.toNatClampNeg (some (ga G K)))))))) ) → va_S (gA G) (xs X).heap H1 locs1 → W X.1 X.2.1 X.2.2.1 (xR X) (xs X) (xm X) (xa X) (xb X) (xM X) (xc X) H1 locs1 cells slots X.2.2.2.2.2.2.2.2.2.2 (F0 (xm X) (pc + 1) ls rest) := fun H1 locs1 hP hD hS => k H1 locs1 ls ⟨by
      show va_P _ _ (wsl G (σ.1, va_up σ.2.1 A (upd (σ.2.1 A) i.toNatClampNeg (nI K)), σ.2.2)) _
      rw [← wsl_set hA, hlayA, ← ef]; exact hP, by
      show va_D _ (wsl G (σ.1, va_up σ.2.1 A (upd (σ.2.1 A) i.toNatClampNeg (nI K)), σ.2.2))
      rw [← wsl_set hA, hlayA, ← ef]; exact hD, hS⟩ hl
  rcases hca with rfl | hca
  · exact va_astq (r := ("FivePlayers$Role", T, N)) C.1 C.2.1 C.2.2.2.2.2.1.1 hH.1 hH.2.1 hH.2.2 A 3 K ci hA0 rfl hK0 hcl (inb_in hin) hd go
  · exact va_astqO (r := (Cn, T, N)) C.1 C.2.1 C.2.2.2.2.2.1.1 hH.1 hH.2.1 hH.2.2 A 3 K ci hA0 rfl (C.2.2.2.2.2.1.2.2.2.2.2.2 _ hca) hK0 hcl (inb_in hin) hd go
theorem role_lay {K t : Nat} (h : 110 ≤ K) (e : rc σ K 5 = t) : lay G K (σ.2.1 K) σ.2.2 = .inr (t, [.int (σ.2.1 K 0), .int (σ.2.1 K 1), .int (σ.2.1 K 2), .int (σ.2.1 K 3), .int (σ.2.1 K 4)]) := (lay_role G h _ _).trans (congrArg (fun z => Sum.inr (z, _)) e)
theorem V_ldcS (C : Ck X G cc RX5 nL d) {q : Nat × String × Nat} (hq : q ∈ stl) (hd : decode cc pc = .ok (.ldc q.1, 2)) (k : V X G nL cells slots σ (pc + 2) lv (.ref (gs G q.2.2) :: rest)) : V X G nL cells slots σ pc lv rest := fun H locs ls hH hl => va_ldcS C.1 C.2.1 C.2.2.2.1 (C.2.2.2.2.2.1.2.2.2.1 q hq) hd (k H locs ls hH hl)
theorem V_sret (C : Ck X G cc own nL d) {r : Nat} {n : String} (hR : Rt X G (some (.object n)) (some (.ref (gs G r))) σ) (hd : decode cc pc = .ok (.areturn, 1)) : V X G nL 0 0 σ pc lv [.ref (gs G r)] := fun H locs ls hH hl => by
  rw [hR.2]
  exact W.aret C.1 C.2.1 hR.1 (Or.inl ⟨_, rfl⟩) (Or.inr ⟨_, rfl⟩) (V_ends hH) hH.2.2.2.2 hd C.2.2.2.2.2.2.2.1
end V2
theorem V_aastR10 {X : Xx} {G : Gx} {cc : ByteArray} {own : String} {nL d cells slots pc : Nat} {σ : St} {lv : List (Nat × Value)} {rest : List Value} (C : Ck X G cc own nL d) {K : Nat} {i : Int32} (hr : isRole σ K = true) (hb : K < 2 ^ 31) (hin : inb i 10 = true) (hd : decode cc pc = .ok (.aastore, 1)) (k : V X G nL cells slots (wr σ 10 i (nI K)) (pc + 1) lv rest) : V X G nL cells slots σ pc lv (.ref (ga G K) :: .int i :: .ref (ga G 10) :: rest) := by
  have h := of_decide_eq_true hr
  have hK : K < 110 + σ.1 := h.2.1
  have h110 := h.1
  rcases h.2.2 with e | e | e | e | e | e
  · exact V_aastO C (lt110 rfl) (fun _ => rfl) hK ⟨by omega, hb⟩ (role_lay h.1 e) (T := TX0) (N := 5) rfl (Or.inr (by decide)) hin hd k
  · exact V_aastO C (lt110 rfl) (fun _ => rfl) hK ⟨by omega, hb⟩ (role_lay h.1 e) (T := TX1) (N := 5) rfl (Or.inr (by decide)) hin hd k
  · exact V_aastO C (lt110 rfl) (fun _ => rfl) hK ⟨by omega, hb⟩ (role_lay h.1 e) (T := TX2) (N := 5) rfl (Or.inr (by decide)) hin hd k
  · exact V_aastO C (lt110 rfl) (fun _ => rfl) hK ⟨by omega, hb⟩ (role_lay h.1 e) (T := TX3) (N := 5) rfl (Or.inr (by decide)) hin hd k
  · exact V_aastO C (lt110 rfl) (fun _ => rfl) hK ⟨by omega, hb⟩ (role_lay h.1 e) (T := TX6) (N := 5) rfl (Or.inl rfl) hin hd k
  · exact V_aastO C (lt110 rfl) (fun _ => rfl) hK ⟨by omega, hb⟩ (role_lay h.1 e) (T := TX9) (N := 5) rfl (Or.inr (by decide)) hin hd k
theorem V_aastR20 {X : Xx} {G : Gx} {cc : ByteArray} {own : String} {nL d cells slots pc : Nat} {σ : St} {lv : List (Nat × Value)} {rest : List Value} (C : Ck X G cc own nL d) {K : Nat} {i : Int32} (hr : isRole σ K = true) (hb : K < 2 ^ 31) (hin : inb i 10 = true) (hd : decode cc pc = .ok (.aastore, 1)) (k : V X G nL cells slots (wr σ 20 i (nI K)) (pc + 1) lv rest) : V X G nL cells slots σ pc lv (.ref (ga G K) :: .int i :: .ref (ga G 20) :: rest) := by
  have h := of_decide_eq_true hr
  have hK : K < 110 + σ.1 := h.2.1
  have h110 := h.1
  rcases h.2.2 with e | e | e | e | e | e
  · exact V_aastO C (lt110 rfl) (fun _ => rfl) hK ⟨by omega, hb⟩ (role_lay h.1 e) (T := TX0) (N := 5) rfl (Or.inr (by decide)) hin hd k
  · exact V_aastO C (lt110 rfl) (fun _ => rfl) hK ⟨by omega, hb⟩ (role_lay h.1 e) (T := TX1) (N := 5) rfl (Or.inr (by decide)) hin hd k
  · exact V_aastO C (lt110 rfl) (fun _ => rfl) hK ⟨by omega, hb⟩ (role_lay h.1 e) (T := TX2) (N := 5) rfl (Or.inr (by decide)) hin hd k
  · exact V_aastO C (lt110 rfl) (fun _ => rfl) hK ⟨by omega, hb⟩ (role_lay h.1 e) (T := TX3) (N := 5) rfl (Or.inr (by decide)) hin hd k
  · exact V_aastO C (lt110 rfl) (fun _ => rfl) hK ⟨by omega, hb⟩ (role_lay h.1 e) (T := TX6) (N := 5) rfl (Or.inl rfl) hin hd k
  · exact V_aastO C (lt110 rfl) (fun _ => rfl) hK ⟨by omega, hb⟩ (role_lay h.1 e) (T := TX9) (N := 5) rfl (Or.inr (by decide)) hin hd k
