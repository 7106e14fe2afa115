/-- what the constructors need besides -/
def Kc (U : State) : Prop := va_AO "FivePlayers$Role" U ∧ va_AO "FivePlayers$Row" U ∧ (Cond.arrayOver (.array .int)).before #[] U = true ∧ va_Nw (.methodLinkNest RX11 36 yX5_init RX11) U
theorem Kc.same {u U : State} (hv : u.vm = U.vm) (h : Kc u) : Kc U := by
  have ha : u.vm.Alike U.vm := by rw [hv]; exact Vm.Alike.refl _
  exact ⟨h.1.moved ha, h.2.1.moved ha, over_moved ha h.2.2.1, va_Nw.same rfl hv h.2.2.2⟩
theorem Kc.warm {u U : State} (hW : u.WarmedH U.vm) (h : Kc u) : Kc U := ⟨h.1.moved hW.alike, h.2.1.moved hW.alike, over_moved hW.alike h.2.2.1, va_Nw.warmM hW h.2.2.2⟩
def WpC (G : Gx) (ws : va_W) (U : State) : Prop := gh G ≤ U.heap.size ∧ va_P G.1 vwCl ws U.heap ∧ va_D (gA G) ws ∧ Kx G U ∧ Kc U
def QcC (G : Gx) (Post : va_W → Prop) : Array Value → State → Outcome → State → Prop := fun _ st oc t => oc = .returned none ∧ ∃ ws2, Post ws2 ∧ va_P G.1 vwCl ws2 t.heap ∧ va_D (gA G) ws2 ∧ va_F (gA G) st t
def MC (l : Launch) (G : Gx) (y : MethodName) (cc : ByteArray) (maxL d mc ms : Nat) (vals : List Value) (ws : va_W) (Post : va_W → Prop) : Prop :=
  Met l y (.code y cc maxL none :: gtb) (rmD d mc ms) (va_Pc vals (WpC G ws)) (QcC G Post) mc ms (gA G)
def VL (X : Xx) (G : Gx) (nL cells slots : Nat) (ws : va_W) (pc : Nat) (lv : List (Nat × Value)) (st : List Value) : Prop :=
  ∀ (H : Heap) (locs : List Loc) (ls : Array Slot), va_P G.1 vwCl ws H → va_D (gA G) ws → va_S (gA G) (xs X).heap H locs → lv_has ls nL lv → W X.1 X.2.1 X.2.2.1 (xR X) (xs X) (xm X) (xa X) (xb X) (xM X) (xc X) H locs cells slots X.2.2.2.2.2.2.2.2.2.2 (F0 (xm X) pc ls st)
/-- the world of a constructor: the cells that were there, the own one at place p, the new ones -/
def VC (X : Xx) (G : Gx) (nL cells slots : Nat) (ws : va_W) (p : Nat) (P : Nat × va_E) (news : va_W) (pc : Nat) (lv : List (Nat × Value)) (st : List Value) : Prop := VL X G nL cells slots (ws.set p P ++ news) pc lv st
def Cc (X : Xx) (G : Gx) (cc : ByteArray) (own : String) (nL d mc ms : Nat) (Post : va_W → Prop) : Prop := Ck X G cc own nL d ∧ Kc (xs X) ∧ (xM X).name = "<init>" ∧ xR X = rmD d mc ms ∧ (xM X).sig.returnType = none ∧ X.2.2.2.2.2.2.2.2.2.2 = MQ (xb X) (QcC G Post) (xa X) (xs X) mc ms (gA G)
theorem set_get {α : Type} {l : List α} {p : Nat} {x : α} (h : l[p]? = some x) : l.set p x = l := by
  apply List.ext_getElem?
  intro i
  rw [List.getElem?_set]
  by_cases e : p = i
  · subst e
    rw [if_pos rfl, if_pos (List.getElem?_eq_some_iff.mp h).1, h]
  · rw [if_neg e]
theorem MC_of {l : Launch} {G : Gx} {y : MethodName} {cc : ByteArray} {maxL d mc ms p : Nat} {vals : List Value} {ws : va_W} {P0 : Nat × va_E} {Post : va_W → Prop} (own : String) (hw : y.cls = own) (hn0 : y.name = "<init>") (hy : plainName y.cls = true) (lv : List (Nat × Value)) (hlv : lv_args 0 vals = lv) (hn : (lg_sl vals).length ≤ maxL) (hp : ws[p]? = some P0)
    (h : ∀ X : Xx, X.2.1 = l → Cc X G cc own maxL d mc ms Post → VC X G maxL 0 0 ws p P0 [] 0 lv []) : MC l G y cc maxL d mc ms vals ws Post := by
  refine Met.ofW (cc := cc) (maxL := maxL) (ret := none) hy rfl ?_
  intro p0 e s m args below meth c s₁ B hml hv
  obtain ⟨rfl, hsz, hP, hD, hK, hKc⟩ := hv
  have hts := atoms_spec (ws := .code y cc maxL none :: gtb) B.pre
  have hown : s.vm.findClass own = some m.cls := by rw [← hw]; exact findClass_of_methodNamed B.named
  have hl := lv_entry vals (n := maxL) hn
  rw [lg_entry_eq]
  subst hlv
  have hq := h (p0, l, e, rmD d mc ms, s, m, vals.toArray, below, meth, c, MQ below (QcC G Post) vals.toArray s mc ms (gA G)) rfl
    ⟨⟨B.exec, B.bytes, hml, hown, fun w hw => hts w (List.mem_cons_of_mem _ hw), hK, hsz, B.notSynchronized, Nat.le_refl _, Nat.le_refl _⟩, hKc, (name_of_methodNamed B.named B.method).1.trans hn0, rfl, B.returns, rfl⟩
  unfold VC at hq
  rw [set_get hp, List.append_nil] at hq
  exact hq s.heap [] _ hP hD va_S.rf hl
theorem nf_this {ws : va_W} {p : Nat} {P : Nat × va_E} {news : va_W} (hp : p < ws.length) : (ws.set p P ++ news)[p]? = some P := by
  rw [List.getElem?_append_left (by simpa using hp), List.getElem?_set, if_pos rfl, if_pos hp]
theorem nf_new {ws : va_W} {p r : Nat} {P : Nat × va_E} {news : va_W} : (ws.set p P ++ news)[ws.length + r]? = news[r]? := by
  rw [List.getElem?_append_right (by simp), List.length_set]
  congr 1
  omega
theorem nf_setT {ws : va_W} {p : Nat} {P Q : Nat × va_E} {news : va_W} (hp : p < ws.length) : (ws.set p P ++ news).set p Q = ws.set p Q ++ news := by
  rw [List.set_append_left _ _ (by simpa using hp), List.set_set]
theorem nf_setN {ws : va_W} {p r : Nat} {P z : Nat × va_E} {news : va_W} : (ws.set p P ++ news).set (ws.length + r) z = ws.set p P ++ news.set r z := by
  rw [List.set_append_right _ _ (by simp), List.length_set]
  congr 2
  omega
section CC
variable {X : Xx} {G : Gx} {cc : ByteArray} {own : String} {nL d mc ms cells slots pc p : Nat} {Post : va_W → Prop} {ws news : va_W} {P : Nat × va_E} {lv : List (Nat × Value)} {rest : List Value}
theorem C_iconst (C : Cc X G cc own nL d mc ms Post) {n : Int} (v : Int32) (hd : decode cc pc = .ok (.iconst n, 1)) (hv : Int32.ofInt n = v) (k : VC X G nL cells slots ws p P news (pc + 1) lv (.int v :: rest)) : VC X G nL cells slots ws p P news pc lv (rest) := fun H locs ls hP hD hS hl => lv_iconst C.1.1 C.1.2.1 hd hv (k H locs ls hP hD hS hl)
theorem C_bipush (C : Cc X G cc own nL d mc ms Post) {n : Int} (v : Int32) (hd : decode cc pc = .ok (.bipush n, 2)) (hv : (Int8.ofInt n).toInt32 = v) (k : VC X G nL cells slots ws p P news (pc + 2) lv (.int v :: rest)) : VC X G nL cells slots ws p P news pc lv (rest) := fun H locs ls hP hD hS hl => lv_bipush C.1.1 C.1.2.1 hd hv (k H locs ls hP hD hS hl)
theorem C_sipush (C : Cc X G cc own nL d mc ms Post) {n : Int} (v : Int32) (hd : decode cc pc = .ok (.sipush n, 3)) (hv : (Int16.ofInt n).toInt32 = v) (k : VC X G nL cells slots ws p P news (pc + 3) lv (.int v :: rest)) : VC X G nL cells slots ws p P news pc lv (rest) := fun H locs ls hP hD hS hl => lv_sipush C.1.1 C.1.2.1 hd hv (k H locs ls hP hD hS hl)
theorem C_iload_n (C : Cc X G cc own nL d mc ms Post) {n : Fin 4} {i : Nat} {x : Int32} (hd : decode cc pc = .ok (.iload_n n, 1)) (j : Nat) (hi : (n : Nat) = i) (hj : lv[j]? = some (i, .int x)) (k : VC X G nL cells slots ws p P news (pc + 1) lv (.int x :: rest)) : VC X G nL cells slots ws p P news pc lv (rest) := fun H locs ls hP hD hS hl => lv_iload_n C.1.1 C.1.2.1 hd hi (lv_at hl j hj) (k H locs ls hP hD hS hl)
theorem C_aload_n (C : Cc X G cc own nL d mc ms Post) {n : Fin 4} {i : Nat} {x : Nat} (hd : decode cc pc = .ok (.aload_n n, 1)) (j : Nat) (hi : (n : Nat) = i) (hj : lv[j]? = some (i, .ref x)) (k : VC X G nL cells slots ws p P news (pc + 1) lv (.ref x :: rest)) : VC X G nL cells slots ws p P news pc lv (rest) := fun H locs ls hP hD hS hl => lv_aload_n C.1.1 C.1.2.1 hd hi (lv_at hl j hj) (k H locs ls hP hD hS hl)
theorem C_dup (C : Cc X G cc own nL d mc ms Post) {v : Value} (hd : decode cc pc = .ok (.dup, 1)) (hc : v.category = 1) (k : VC X G nL cells slots ws p P news (pc + 1) lv (v :: v :: rest)) : VC X G nL cells slots ws p P news pc lv (v :: rest) := fun H locs ls hP hD hS hl => lv_dup C.1.1 C.1.2.1 hd hc (k H locs ls hP hD hS hl)
theorem C_istore_n (C : Cc X G cc own nL d mc ms Post) {n : Fin 4} {i : Nat} {x : Int32} (ks : List Nat) {lv' : List (Nat × Value)} (hd : decode cc pc = .ok (.istore_n n, 1)) (hi : (n : Nat) = i) (hn : i < nL) (hl2 : lv_pick ((i, Value.int x) :: lv.filter (fun q => !(q.1 == i) && !(q.1 + 1 == i && q.2.category == 2))) ks = lv') (k : VC X G nL cells slots ws p P news (pc + 1) lv' rest) : VC X G nL cells slots ws p P news pc lv (.int x :: rest) := fun H locs ls hP hD hS hl => lv_istore_n C.1.1 C.1.2.1 hd hi hl hn rfl (fun ls' h' => k H locs ls' hP hD hS (lv_sub h' ks hl2))
theorem C_iinc (C : Cc X G cc own nL d mc ms Post) {i : Nat} {n : Int} {x : Int32} (v : Int32) (j : Nat) (ks : List Nat) {lv' : List (Nat × Value)} (hd : decode cc pc = .ok (.iinc i n, 3)) (hj : lv[j]? = some (i, .int x)) (hv : x + Int32.ofInt n = v) (hn : i < nL) (hl2 : lv_pick ((i, Value.int v) :: lv.filter (fun q => !(q.1 == i) && !(q.1 + 1 == i && q.2.category == 2))) ks = lv') (k : VC X G nL cells slots ws p P news (pc + 3) lv' rest) : VC X G nL cells slots ws p P news pc lv rest := fun H locs ls hP hD hS hl => lv_iinc C.1.1 C.1.2.1 hd hl hj hv hn rfl (fun ls' h' => k H locs ls' hP hD hS (lv_sub h' ks hl2))
theorem C_goto (C : Cc X G cc own nL d mc ms Post) {off : Int} (tgt : Nat) {st : List Value} (hd : decode cc pc = .ok (.goto off, 3)) (ht : (pc : Int) + off = (tgt : Int)) (k : VC X G nL cells slots ws p P news tgt lv st) : VC X G nL cells slots ws p P news pc lv st := fun H locs ls hP hD hS hl => lv_goto C.1.1 C.1.2.1 hd ht (k H locs ls hP hD hS hl)
theorem C_geT (C : Cc X G cc own nL d mc ms Post) {x y : Int32} {off : Int} (tgt : Nat) (hd : decode cc pc = .ok (.if_icmp .ge off, 3)) (ht : (pc : Int) + off = (tgt : Int)) (q : y ≤ x) (k : VC X G nL cells slots ws p P news tgt lv rest) : VC X G nL cells slots ws p P news pc lv (.int y :: .int x :: rest) := fun H locs ls hP hD hS hl => lv_icmp_ge C.1.1 C.1.2.1 hd ht (fun _ => k H locs ls hP hD hS hl) (fun z => absurd q z)
theorem C_geF (C : Cc X G cc own nL d mc ms Post) {x y : Int32} {off : Int} (tgt : Nat) (hd : decode cc pc = .ok (.if_icmp .ge off, 3)) (ht : (pc : Int) + off = (tgt : Int)) (q : ¬ y ≤ x) (k : VC X G nL cells slots ws p P news (pc + 3) lv rest) : VC X G nL cells slots ws p P news pc lv (.int y :: .int x :: rest) := fun H locs ls hP hD hS hl => lv_icmp_ge C.1.1 C.1.2.1 hd ht (fun z => absurd z q) (fun _ => k H locs ls hP hD hS hl)
theorem C_obj (C : Cc X G cc own nL d mc ms Post) {idx a : Nat} (hlk : Cond.methodLink own idx Lib.objectInit ∈ gtb) (hw : Cond.instanceMethod Lib.objectInit ∈ gtb ∧ Cond.code Lib.objectInit ⟨#[0xb1]⟩ 1 none ∈ gtb) (hdd : 1 ≤ d) (hroom : (rest.map fun v => v.category).sum ≤ 8) (hd : decode cc pc = .ok (.invokespecial idx, 3)) (k : VC X G nL cells slots ws p P news (pc + 3) lv rest) : VC X G nL cells slots ws p P news pc lv (.ref a :: rest) := fun H locs ls hP hD hS hl =>
  W.objInit (rest := rest) C.1.1 C.1.2.1 C.1.2.2.2.1 (C.1.2.2.2.2.1 _ hlk) (C.1.2.2.2.2.1 _ hw.1) (C.1.2.2.2.2.1 _ hw.2) rfl (by rw [C.1.2.2.1]; exact hl.1) rfl hd (Nat.le_trans hdd C.1.2.2.2.2.2.2.2.2.1) (by
    have h2 := C.1.2.2.2.2.2.2.2.2.2
    show 2 * 0 + _ + 12 ≤ _
    omega) (k H locs ls hP hD hS hl)
theorem C_get (C : Cc X G cc own nL d mc ms Post) {h0 ci j idx N : Nat} {Cn : String} {T : u_T} {fs : List Value} {v : Value} (hp : p < ws.length) (hc : vwCl[ci]? = some (Cn, T, N)) (hin : ∀ w ∈ u_ws Cn T N, w ∈ gtb) (hj : j < N) (hlink : Cond.fieldLink own idx (T j).1 (T j).2.1 (T j).2.2.1 ∈ gtb) (hv : fs[j]? = some v) (hd : decode cc pc = .ok (.getfield idx, 3)) (k : VC X G nL cells slots ws p (h0, .inr (ci, fs)) news (pc + 3) lv (v :: rest)) : VC X G nL cells slots ws p (h0, .inr (ci, fs)) news pc lv (.ref h0 :: rest) := fun H locs ls hP hD hS hl =>
  va_get (D := G.1) C.1.1 C.1.2.1 C.1.2.2.2.2.1 hin C.1.2.2.2.1 C.1.2.2.2.2.2.1.1 hP p (nf_this hp) hc j hj (C.1.2.2.2.2.1 _ hlink) (fun _ h => h) hv hd (k H locs ls hP hD hS hl)
theorem C_put (C : Cc X G cc own nL d mc ms Post) {h0 ci j idx N : Nat} {Cn : String} {T : u_T} {fs : List Value} {v : Value} {ty : FieldType} (ty0 : Nat → FieldType) (hty : ∀ k, k < N → parseFieldDescriptor (T k).2.2.1 = some (ty0 k)) (hnm : ∀ a, a < N → ∀ b, b < N → a ≠ b → (T a).2.1 ≠ (T b).2.1) (hp : p < ws.length) (hc : vwCl[ci]? = some (Cn, T, N)) (hin : ∀ w ∈ u_ws Cn T N, w ∈ gtb) (hj : j < N) (hlink : Cond.fieldLink own idx (T j).1 (T j).2.1 (T j).2.2.1 ∈ gtb) (hdecl : (T j).1 = own) (hpd : parseFieldDescriptor (T j).2.2.1 = some ty) (hnar : narrow ty v = v) (hfit : fits ty v = true) (hjl : j < fs.length) (hd : decode cc pc = .ok (.putfield idx, 3)) (k : VC X G nL cells slots ws p (h0, .inr (ci, fs.set j v)) news (pc + 3) lv rest) : VC X G nL cells slots ws p (h0, .inr (ci, fs)) news pc lv (v :: .ref h0 :: rest) := fun H locs ls hP hD hS hl => by
  by_cases hf : (T j).2.2.2 = true
  · exact va_putF (D := G.1) C.1.1 C.1.2.1 C.1.2.2.2.2.1 hin ty0 hty hnm C.1.2.2.2.1 C.1.2.2.2.2.2.1.1 hP hD hS p (nf_this hp) hc j hj (C.1.2.2.2.2.1 _ hlink) (fun _ h => h) hf C.2.2.1 hdecl hpd hnar hfit hjl hd (fun H1 locs1 hP hD hS => k H1 locs1 ls (by rw [nf_setT hp] at hP; exact hP) (by rw [nf_setT hp] at hD; exact hD) hS hl)
  · exact va_put (D := G.1) C.1.1 C.1.2.1 C.1.2.2.2.2.1 hin ty0 hty hnm C.1.2.2.2.1 C.1.2.2.2.2.2.1.1 hP hD hS p (nf_this hp) hc j hj (C.1.2.2.2.2.1 _ hlink) (fun _ h => h) (by simpa using hf) hpd hnar hfit hjl hd (fun H1 locs1 hP hD hS => k H1 locs1 ls (by rw [nf_setT hp] at hP; exact hP) (by rw [nf_setT hp] at hD; exact hD) hS hl)
theorem C_newa (C : Cc X G cc own nL d mc ms Post) {atype : ArrayType} {ty : FieldType} (t : Nat) (ht : (tyl G)[t]? = some (gc G t, ty)) (hty : newarray.typeOf atype = ty) (hra : ∀ cA : ClassId, va_RA (xs X) cA ty → (xs X).vm.findClass ("[" ++ ty.toString) = some cA) (harr : Cond.arrayClass (newarray.typeOf atype) ∈ gtb) {n : Int32} (N : Nat) (a0 : vp_A) (ha : ∀ cA : ClassId, vp_cell cA a0 = arrV cA N (fun _ => defaultValue ty)) (hn : ¬ n < 0) (hN : n.toNatClampNeg = N) (hbytes : N * componentBytes ty ≤ 536870912) (hcs : cells + 1 ≤ mc ∧ slots + N ≤ ms) (hd : decode cc pc = .ok (.newarray atype, 2)) (k : ∀ q : Nat, VC X G nL (cells + 1) (slots + N) ws p P (news ++ [(q, .inl (gc G t, a0))]) (pc + 2) lv (.ref q :: rest)) : VC X G nL cells slots ws p P news pc lv (.int n :: rest) := fun H locs ls hP hD hS hl => by
  refine va_newa (atype := atype) C.1.1 C.1.2.1 (C.1.2.2.2.2.1 _ harr) hty C.1.2.2.2.2.2.1.1 hP hD hS (fun q hq => Nat.le_trans C.1.2.2.2.2.2.2.1 hq) ha hn hN hbytes (by rw [C.2.2.2.1]; exact hcs.1) (by rw [C.2.2.2.1]; exact hcs.2) hd (fun q cA H1 hK hP hD hS => ?_)
  have e1 := hra _ (C.1.2.2.2.2.2.1.1.2 t _ ht).2
  have e2 := hra _ (hK.2 (tyl G).length (cA, ty) (by rw [List.getElem?_append_right (Nat.le_refl _), Nat.sub_self]; rfl)).2
  have e3 : cA = gc G t := Option.some.inj (e2.symm.trans e1)
  subst e3
  rw [List.append_assoc] at hP hD
  exact k q H1 locs ls hP hD hS hl
theorem C_newq (C : Cc X G cc own nL d mc ms Post) {Cn : String} {idx : Nat} (t : Nat) (ht : (tyl G)[t]? = some (gc G t, .object Cn)) (hcl : Cond.classLink own idx Cn ∈ gtb) (hover : va_AO Cn (xs X)) {n : Int32} (N : Nat) (hn : ¬ n < 0) (hN : n.toNatClampNeg = N) (hbytes : N * 4 ≤ 536870912) (hcs : cells + 1 ≤ mc ∧ slots + N ≤ ms) (hd : decode cc pc = .ok (.anewarray idx, 3)) (k : ∀ q : Nat, VC X G nL (cells + 1) (slots + N) ws p P (news ++ [(q, .inl (gc G t, N, .inr (.inr (.inr (.inr (fun _ => none))))))]) (pc + 3) lv (.ref q :: rest)) : VC X G nL cells slots ws p P news pc lv (.int n :: rest) := fun H locs ls hP hD hS hl => by
  refine va_newq C.1.1 C.1.2.1 C.1.2.2.2.1 (C.1.2.2.2.2.1 _ hcl) hover C.1.2.2.2.2.2.1.1 hP hD hS (fun q hq => Nat.le_trans C.1.2.2.2.2.2.2.1 hq) hn hN hbytes (by rw [C.2.2.2.1]; exact hcs.1) (by rw [C.2.2.2.1]; exact hcs.2) hd (fun q cA H1 hK hP hD hS => ?_)
  obtain ⟨_, _, _, _, _, e1⟩ := (C.1.2.2.2.2.2.1.1.2 t _ ht).2
  obtain ⟨_, _, _, _, _, e2⟩ := (hK.2 (tyl G).length (cA, .object Cn) (by rw [List.getElem?_append_right (Nat.le_refl _), Nat.sub_self]; rfl)).2
  have e3 : cA = gc G t := Option.some.inj (e2.symm.trans e1)
  subst e3
  rw [List.append_assoc] at hP hD
  exact k q H1 locs ls hP hD hS hl
theorem C_new (C : Cc X G cc own nL d mc ms Post) {Cn : String} {T : u_T} {N ci idx : Nat} (ty : Nat → FieldType) (hty : ∀ k, k < N → parseFieldDescriptor (T k).2.2.1 = some (ty k)) (hc : vwCl[ci]? = some (Cn, T, N)) (hin : ∀ w ∈ u_ws Cn T N, w ∈ gtb) (hcl : Cond.classLink own idx Cn ∈ gtb) (hinst : Cond.instantiable Cn N ∈ gtb) (hini : Cond.initialized Cn ∈ gtb) (fs : List Value) (hfs : ∀ j, j < N → defaultValue (ty j) = vp_V fs j) (hcs : cells + 1 ≤ mc ∧ slots + N ≤ ms) (hd : decode cc pc = .ok (.new idx, 3)) (k : ∀ q : Nat, VC X G nL (cells + 1) (slots + N) ws p P (news ++ [(q, .inr (ci, fs))]) (pc + 3) lv (.ref q :: rest)) : VC X G nL cells slots ws p P news pc lv rest := fun H locs ls hP hD hS hl => by
  refine va_new (ci := ci) (fs := fs) C.1.1 C.1.2.1 C.1.2.2.2.2.1 hin ty hty C.1.2.2.2.1 (C.1.2.2.2.2.1 _ hcl) (C.1.2.2.2.2.1 _ hinst) (C.1.2.2.2.2.1 _ hini) C.1.2.2.2.2.2.1.1 hP hD hS (fun q hq => Nat.le_trans C.1.2.2.2.2.2.2.1 hq) hc hfs (by rw [C.2.2.2.1]; exact hcs.1) (by rw [C.2.2.2.1]; exact hcs.2) hd (fun q H1 hP hD hS => ?_)
  rw [List.append_assoc] at hP hD
  exact k q H1 locs ls hP hD hS hl
theorem C_vret (C : Cc X G cc own nL d mc ms Post) (hcs : cells ≤ mc ∧ slots ≤ ms) (hpost : Post (ws.set p P ++ news)) (hd : decode cc pc = .ok (.return_, 1)) : VC X G nL cells slots ws p P news pc lv [] := fun H locs ls hP hD hS hl => by
  rw [C.2.2.2.2.2]
  exact W.widen hcs.1 hcs.2 (W.vret C.1.1 C.1.2.1 C.2.2.2.2.1 (fun t ht _ => ⟨rfl, _, hpost, by rw [ht]; exact hP, hD, hS.F ht⟩) hS.2.2 hd C.1.2.2.2.2.2.2.2.1)
/-- a constructor's contract: in every world -/
def KI (l : Launch) (G : Gx) (y : MethodName) (cc : ByteArray) (maxL d mc ms : Nat) (As : List Value) (P0 : va_E) (Pf : (Nat → Nat) → va_E) (N : (Nat → Nat) → va_W) : Prop := ∀ (ws : va_W) (p h0 : Nat), ws[p]? = some (h0, P0) → MC l G y cc maxL d mc ms (.ref h0 :: As) ws (fun w => ∃ a : Nat → Nat, w = ws.set p (h0, Pf a) ++ N a)
theorem WpC_blind {vals : List Value} : FrameBlind (va_Pc vals (WpC G ws)) := fun a U g mk q => ⟨q.1, q.2.1, q.2.2.1, q.2.2.2.1, Kx.same (u := U) (U := U.calling g mk a) rfl rfl q.2.2.2.2.1, Kc.same (u := U) (U := U.calling g mk a) rfl q.2.2.2.2.2⟩
theorem WpC_pre {vals : List Value} {H : Heap} {locs : List Loc} (C : Cc X G cc own nL d mc ms Post) (hP : va_P G.1 vwCl ws H) (hD : va_D (gA G) ws) (hS : va_S (gA G) (xs X).heap H locs) : ∀ U : State, U.heap = H → (xs X).WarmedH U.vm → va_Pc vals (WpC G ws) vals.toArray U := fun U hU hW => ⟨rfl, by rw [hU]; exact Nat.le_trans C.1.2.2.2.2.2.2.1 hS.1, by rw [hU]; exact hP, hD, Kx.warm hW (by rw [hU]; exact hS.2.1) C.1.2.2.2.2.2.1, Kc.warm hW C.2.1⟩
theorem C_ran {mc1 ms1 : Nat} {Po : va_W → Prop} {st0 : List Value} {a : Array Value} (k : ∀ w : va_W, Po w → VL X G nL (cells + mc1) (slots + ms1) w (pc + 3) lv rest) {W0 : va_W} {H : Heap} {locs : List Loc} {ls : Array Slot} (hS : va_S (gA G) (xs X).heap H locs) (hl : lv_has ls nL lv)
    (hr : va_Run X.1 X.2.1 X.2.2.1 (xR X) (xs X) (xm X) (xa X) (xb X) (xM X) (xc X) H locs cells slots mc1 ms1 (F0 (xm X) pc ls st0) rest (QcC G Po a) (gA G)) :
    W X.1 X.2.1 X.2.2.1 (xR X) (xs X) (xm X) (xa X) (xb X) (xM X) (xc X) H locs cells slots X.2.2.2.2.2.2.2.2.2.2 (F0 (xm X) pc ls st0) := by
  intro T hT Y
  obtain ⟨v, st₀, t, T', L, h0, Y', hL, e1, e2, ⟨hv, w, hw, hP1, hD1, hz, hk⟩, st⟩ := hr T hT Y
  cases hv
  rw [h0] at hz hk
  obtain ⟨t2, a1, b1⟩ := k w hw T'.heap (locs ++ L) ls (by rw [e1]; exact hP1) hD1 ⟨Nat.le_trans hS.1 (by rw [e1]; exact hz), fun z h1 h2 => by rw [e1, hk z (Nat.lt_of_lt_of_le h1 hS.1) h2]; exact hS.2.1 z h1 h2, fun z hq => by
      rcases List.mem_append.mp hq with h | h
      · exact hS.2.2 z h
      · exact hL z h⟩ hl T' rfl Y'
  exact ⟨t2, st t2 a1, b1⟩
theorem C_call (C : Cc X G cc own nL d mc ms Post) {y : MethodName} {bytes : ByteArray} {maxL n idx d1 mc1 ms1 q : Nat} {As : List Value} {P0 : va_E} {Pf : (Nat → Nat) → va_E} {N : (Nat → Nat) → va_W} {st0 : List Value} (r : Nat) (hM : KI X.2.1 G y bytes maxL d1 mc1 ms1 As P0 Pf N) (hr : news[r]? = some (q, P0)) (hc : Cal y bytes maxL none n) (hi : Cond.instanceMethod y ∈ gtb) (hlk : Cond.methodLink own idx y ∈ gtb) (hy : y.name = "<init>") (hn : As.length = n) (hdd : d1 + 1 ≤ d) (hst : st0 = As.reverse ++ .ref q :: rest) (hroom : (rest.map fun v => v.category).sum ≤ 8) (hcs : cells + mc1 ≤ mc ∧ slots + ms1 ≤ ms) (hd : decode cc pc = .ok (.invokespecial idx, 3)) (k : ∀ a : Nat → Nat, VC X G nL (cells + mc1) (slots + ms1) ws p P (news.set r (q, Pf a) ++ N a) (pc + 3) lv rest) : VC X G nL cells slots ws p P news pc lv st0 := fun H locs ls hP hD hS hl => by
  have hrr := hR_v C.1 hdd hc.2.2.2
  refine C_ran (a := #[]) (W0 := ws) (fun w hw => ?_) hS hl (va_runI (As := As) (b := q) (bytes := bytes) (maxL := maxL) (n := n) ⟨C.1.1, C.1.2.1, C.1.2.2.1, C.1.2.2.2.1, C.1.2.2.2.2.1⟩ (hM (ws.set p P ++ news) (ws.length + r) q (nf_new.trans hr)) ⟨callB_of n C.1.2.2.2.2.1 (gtb_code hc.1) rfl rfl rfl (C.1.2.2.2.2.1 _ hc.2.1) (C.1.2.2.2.2.1 _ hlk) hc.2.2.1 hrr, hy, C.1.2.2.2.2.1 _ hi⟩ ⟨WpC_blind, WpC_pre C hP hD hS⟩ rfl hn hl.1 hst (lv_room hroom) hd (by rw [C.2.2.2.1]; exact hcs))
  obtain ⟨a, rfl⟩ := hw
  have h9 := k a
  unfold VC at h9
  rw [nf_setN, List.append_assoc]
  exact h9
/-- the receiver is the newest cell -/
theorem C_callL (C : Cc X G cc own nL d mc ms Post) {base : va_W} {y : MethodName} {bytes : ByteArray} {maxL n idx d1 mc1 ms1 q : Nat} {As : List Value} {P0 : va_E} {Pf : (Nat → Nat) → va_E} {N : (Nat → Nat) → va_W} {st0 : List Value} (hM : KI X.2.1 G y bytes maxL d1 mc1 ms1 As P0 Pf N) (hc : Cal y bytes maxL none n) (hi : Cond.instanceMethod y ∈ gtb) (hlk : Cond.methodLink own idx y ∈ gtb) (hy : y.name = "<init>") (hn : As.length = n) (hdd : d1 + 1 ≤ d) (hst : st0 = As.reverse ++ .ref q :: rest) (hroom : (rest.map fun v => v.category).sum ≤ 8) (hcs : cells + mc1 ≤ mc ∧ slots + ms1 ≤ ms) (hd : decode cc pc = .ok (.invokespecial idx, 3)) (k : ∀ a : Nat → Nat, VC X G nL (cells + mc1) (slots + ms1) ws p P (base ++ ((q, Pf a) :: N a)) (pc + 3) lv rest) : VC X G nL cells slots ws p P (base ++ [(q, P0)]) pc lv st0 :=
  C_call C base.length hM (by rw [List.getElem?_append_right (Nat.le_refl _), Nat.sub_self]; rfl) hc hi hlk hy hn hdd hst hroom hcs hd (fun a => by
    rw [List.set_append_right _ _ (Nat.le_refl _), Nat.sub_self, List.append_assoc]
    exact k a)
theorem C_iast (C : Cc X G cc own nL d mc ms Post) {n q : Nat} {f : Nat → Int32} {i x : Int32} (r : Nat) (hr : news[r]? = some (q, .inl (gc G 0, n, .inl f))) (hin : inb i n = true) (hd : decode cc pc = .ok (.iastore, 1)) (k : VC X G nL cells slots ws p P (news.set r (q, .inl (gc G 0, n, .inl (upd f i.toNatClampNeg x)))) (pc + 1) lv rest) : VC X G nL cells slots ws p P news pc lv (.int x :: .int i :: .ref q :: rest) := fun H locs ls hP hD hS hl =>
  va_iast C.1.1 C.1.2.1 C.1.2.2.2.2.2.1.1 hP hD hS (ws.length + r) 0 (nf_new.trans hr) rfl (inb_in hin) hd (fun H1 locs1 hP hD hS => k H1 locs1 ls (by rw [nf_setN] at hP; exact hP) (by rw [nf_setN] at hD; exact hD) hS hl)
theorem C_aast (C : Cc X G cc own nL d mc ms Post) {n q v ci N : Nat} {Cn : String} {T : u_T} {vs : List Value} {f : Nat → Option Nat} {i : Int32} (t r r2 : Nat) (ht : (tyl G)[t]? = some (gc G t, .object Cn)) (hr : news[r]? = some (q, .inl (gc G t, n, .inr (.inr (.inr (.inr f)))))) (hr2 : news[r2]? = some (v, .inr (ci, vs))) (hc : vwCl[ci]? = some (Cn, T, N)) (hin : inb i n = true) (hd : decode cc pc = .ok (.aastore, 1)) (k : VC X G nL cells slots ws p P (news.set r (q, .inl (gc G t, n, .inr (.inr (.inr (.inr (va_up f i.toNatClampNeg (some v)))))))) (pc + 1) lv rest) : VC X G nL cells slots ws p P news pc lv (.ref v :: .int i :: .ref q :: rest) := fun H locs ls hP hD hS hl =>
  va_astq (r := (Cn, T, N)) C.1.1 C.1.2.1 C.1.2.2.2.2.2.1.1 hP hD hS (ws.length + r) t (ws.length + r2) ci (nf_new.trans hr) ht (nf_new.trans hr2) hc (inb_in hin) hd (fun H1 locs1 hP hD hS => k H1 locs1 ls (by rw [nf_setN] at hP; exact hP) (by rw [nf_setN] at hD; exact hD) hS hl)
theorem C_aald (C : Cc X G cc own nL d mc ms Post) {n q v t : Nat} {ty : FieldType} {f : Nat → Option Nat} {i : Int32} (r : Nat) (ht : (tyl G)[t]? = some (gc G t, ty)) (hrf : ty.isReference = true) (hr : news[r]? = some (q, .inl (gc G t, n, .inr (.inr (.inr (.inr f)))))) (hin : inb i n = true) (hf : f i.toNatClampNeg = some v) (hd : decode cc pc = .ok (.aaload, 1)) (k : VC X G nL cells slots ws p P news (pc + 1) lv (.ref v :: rest)) : VC X G nL cells slots ws p P news pc lv (.int i :: .ref q :: rest) := fun H locs ls hP hD hS hl => by
  have h1 := inb_in hin
  have hlt : i.toNatClampNeg < n := Nat.not_le.mp fun q => h1 (Or.inr q)
  have hcell : H[q]? = some (vp_cell (gc G t) (n, .inr (.inr (.inr (.inr f))))) := hP (ws.length + r) (q, .inl (gc G t, n, .inr (.inr (.inr (.inr f))))) (nf_new.trans hr)
  refine W.aald (v := .ref v) (ty := ty) C.1.1 C.1.2.1 hcell ((C.1.2.2.2.2.2.1.1.2 t _ ht).1 n (fun j => va_rf (f j))) hrf (fun q => by cases q) (by show ¬ (i < 0 ∨ (arrV _ _ _).slots.size ≤ _); rw [arrV_size]; exact h1) ?_ rfl rfl hd (k H locs ls hP hD hS hl)
  show (arrV _ _ _).slots[_]? = _
  rw [arrV_read _ _ hlt, hf]
  rfl
theorem C_ldcS (C : Cc X G cc RX5 nL d mc ms Post) {q : Nat × String × Nat} (hq : q ∈ stl) (hd : decode cc pc = .ok (.ldc q.1, 2)) (k : VC X G nL cells slots ws p P news (pc + 2) lv (.ref (gs G q.2.2) :: rest)) : VC X G nL cells slots ws p P news pc lv rest := fun H locs ls hP hD hS hl => va_ldcS C.1.1 C.1.2.1 C.1.2.2.2.1 (C.1.2.2.2.2.2.1.2.2.2.1 q hq) hd (k H locs ls hP hD hS hl)
end CC
