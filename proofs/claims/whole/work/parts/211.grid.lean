/-! An array of arrays of ints made in one step (two dimensions), from the machine's own words: the heap behind it is told by what lies where (gm_H), not by a state's formula. -/
/-- the outer array when the rows below i are made: row j lies at h + 1 + j -/
def gm_o (cA : ClassId) (N h i : Nat) : Cell := arrV cA N (fun j => va_rf (if j < i then some (h + 1 + j) else none))
/-- a row of K zeros -/
def gm_r (cI : ClassId) (K : Nat) : Cell := arrV cI K (fun _ => .int 0)
theorem gm_o0 (cA : ClassId) (N h : Nat) : arrV cA N (fun _ => .null) = gm_o cA N h 0 := congrArg (arrV cA N) (funext fun j => by rw [if_neg (Nat.not_lt_zero j)]; rfl)
theorem gm_oS (cA : ClassId) (N h i : Nat) : (gm_o cA N h i).setSlot i (.ref (h + 1 + i)) = gm_o cA N h (i + 1) := by
  unfold gm_o
  rw [arrV_store]
  refine congrArg (arrV cA N) (funext fun j => ?_)
  show (if j = i then Value.ref (h + 1 + i) else va_rf (if j < i then some (h + 1 + j) else none)) = va_rf (if j < i + 1 then some (h + 1 + j) else none)
  rcases Nat.lt_trichotomy j i with q | q | q
  · rw [if_neg (Nat.ne_of_lt q), if_pos q, if_pos (Nat.lt_succ_of_lt q)]
  · subst q
    rw [if_pos rfl, if_pos (Nat.lt_succ_self _)]
    rfl
  · rw [if_neg (Nat.ne_of_gt q), if_neg (by omega), if_neg (by omega)]
/-- behind the heap H lie the outer array and i of its rows; the rest is as it was -/
def gm_H (H H1 : Heap) (cA cI : ClassId) (N K i : Nat) : Prop :=
  H1.size = H.size + 1 + i ∧ H1[H.size]? = some (gm_o cA N H.size i) ∧ (∀ j : Nat, j < i → H1[H.size + 1 + j]? = some (gm_r cI K)) ∧ ∀ x : Nat, x < H.size → H1[x]? = H[x]?
theorem gm_H.zero (T : State) (cA cI : ClassId) (N K : Nat) : gm_H T.heap (T.pushCell (gm_o cA N T.heap.size 0)).heap cA cI N K 0 :=
  ⟨size_pushCell _ _, State.heap_pushCell_size _ _, fun j hj => absurd hj (Nat.not_lt_zero j), fun x hx => State.heap_pushCell_of_lt _ _ hx⟩
theorem gm_H.outer {H : Heap} {U : State} {cA cI : ClassId} {N K i : Nat} (h : gm_H H U.heap cA cI N K i) : (U.pushCell (gm_r cI K)).heap[H.size]? = some (gm_o cA N H.size i) := by
  have hl : H.size < U.heap.size := by rw [h.1]; omega
  rw [State.heap_pushCell_of_lt _ _ hl]
  exact h.2.1
theorem gm_H.succ {H : Heap} {U : State} {cA cI : ClassId} {N K i : Nat} (h : gm_H H U.heap cA cI N K i) : gm_H H ((U.pushCell (gm_r cI K)).setCell H.size (gm_o cA N H.size (i + 1))).heap cA cI N K (i + 1) := by
  refine ⟨by rw [size_setCell, size_pushCell, h.1]; omega, State.heap_setCell_self h.outer, fun j hj => ?_, fun x hx => ?_⟩
  · rw [State.heap_setCell_other (show H.size ≠ H.size + 1 + j by omega)]
    by_cases q : j = i
    · subst q
      rw [← h.1]
      exact State.heap_pushCell_size _ _
    · have hl : H.size + 1 + j < U.heap.size := by rw [h.1]; omega
      rw [State.heap_pushCell_of_lt _ _ hl]
      exact h.2.2.1 j (by omega)
  · have hl : x < U.heap.size := by rw [h.1]; omega
    rw [State.heap_setCell_other (Nat.ne_of_gt hx), State.heap_pushCell_of_lt _ _ hl]
    exact h.2.2.2 x hx
section GM
variable {p : Program} {l : Launch} {e : Env} {R : Room} {s : State} {m : MethodId} {args : Array Value} {below : List Frame} {meth : Method} {c : Code} {T : State} {locs : List Loc} {cells slots : Nat}
variable {cA cI x : ClassId} {N K : Nat} {H : Heap} {kA kI : Class}
theorem gm_X {U : State} {i : Nat} (X : Stand p l e R s m args below meth c U locs cells slots) (hs : s.heap.size ≤ H.size) (h : gm_H H U.heap cA cI N K i) : Stand p l e R s m args below meth c ((U.pushCell (gm_r cI K)).setCell H.size (gm_o cA N H.size (i + 1))) locs (cells + 1) (slots + K) := by
  have h1 := (X.pushed (gm_r cI K)).stored h.outer i (.ref (H.size + 1 + i))
  rw [gm_oS, show (gm_r cI K).slots.size = K from arrV_size cI K _] at h1
  exact h1.dropFresh (fun y hy => by
    rw [List.mem_singleton] at hy
    subst hy
    exact hs)
/-- the inner dimension -/
theorem gm_one {U : State} (X : Stand p l e R s m args below meth c U locs cells slots) (hkI : s.vm.classes[cI]? = some kI) (hI : kI.kind = .array x .int) {n : Int32} (hn : ¬ n < 0) (hK : n.toNatClampNeg = K) (hb : K * 4 ≤ 536870912) (hc : cells + 1 ≤ R.cells) (hs : slots + K ≤ R.slots)
    {g : JFrame} {Q : Addr → Pre} {E : CtlPost} {d : Bool} {acts : List Action} (hq : ∀ acts', Q U.heap.size d acts' ((U.pushCell (gm_r cI K)).setTop g)) : wp (multianewarray.make cI [n]) Q E e d acts (U.setTop g) := by
  subst hK
  obtain ⟨k1, hk1, he⟩ := X.warmed.alike.2.2 _ _ hkI
  have hI1 : k1.kind = .array x .int := by rw [he]; exact hI
  obtain ⟨r1, r2⟩ := X.roomAbove hc hs
  rw [multianewarray.make]
  simp only [wp_bind', W.ite, hn, if_false, wp_pure', W.theClass, State.vm_setTop, hk1, hI1, Option.some.injEq, exists_eq_left']
  refine W.newArray_of (k := k1) (comp := x) (type := .int) hk1 hI1 ?_ ?_ r1 r2 rfl (fun acts' => ?_)
  · rw [Launch.admits_arrayLengthLimit X.admits]; omega
  · rw [Launch.admits_maxHeapBytes X.admits]
    show ¬ n.toNatClampNeg * 4 > 536870912
    omega
  · have h := hq acts'
    rw [gm_r, ← arrV_new] at h
    exact h
/-- the outer dimension's turns: where they end is known before the loop's own words are -/
theorem gm_loop (hkA : s.vm.classes[cA]? = some kA) (hA : kA.kind = .array cI (.array .int)) (hkI : s.vm.classes[cI]? = some kI) (hI : kI.kind = .array x .int) {n : Int32} (hn : ¬ n < 0) (hK : n.toNatClampNeg = K) (hb : K * 4 ≤ 536870912)
    (hs0 : s.heap.size ≤ H.size) (hc : cells + (1 + N) ≤ R.cells) (hs : slots + (N + N * K) ≤ R.slots) (g : JFrame) : ∀ (q i : Nat) (U : State), i + q = N → gm_H H U.heap cA cI N K i → Stand p l e R s m args below meth c U locs (cells + 1 + i) (slots + N + i * K) →
      ∃ V : State, gm_H H V.heap cA cI N K N ∧ Stand p l e R s m args below meth c V locs (cells + 1 + N) (slots + N + N * K) ∧
        ∀ (b : Nat → PUnit → Sem (ForInStep PUnit)), (∀ (j : Nat) (Q : ForInStep PUnit → Pre) (E : CtlPost) (d : Bool) (acts : List Action) (S : State), wp (multianewarray.make cI [n]) (fun r => wp (Jvm.writeLoc H.size j (.ref r)) (fun _ => Q (.yield PUnit.unit)) E e) E e d acts S → wp (b j PUnit.unit) Q E e d acts S) →
          ∀ (Q : PUnit → Pre) (E : CtlPost) (d : Bool) (acts : List Action), (∀ d' acts', Q PUnit.unit d' acts' (V.setTop g)) → wp (forIn (List.range' i q) PUnit.unit b) Q E e d acts (U.setTop g)
  | 0, i, U, hi, h, X => by
    have e0 : i = N := hi
    subst e0
    refine ⟨U, h, X, fun b _ Q E d acts hq => ?_⟩
    simp only [List.range'_zero, List.forIn_nil, wp_pure']
    exact hq _ _
  | q + 1, i, U, hi, h, X => by
    have hm : i * K + K ≤ N * K := by
      rw [← Nat.succ_mul]
      exact Nat.mul_le_mul_right K (by omega)
    have X1 := gm_X X hs0 h
    rw [show slots + N + i * K + K = slots + N + (i + 1) * K by rw [Nat.succ_mul]; omega] at X1
    obtain ⟨V, hV, XV, w⟩ := gm_loop hkA hA hkI hI hn hK hb hs0 hc hs g q (i + 1) _ (by omega) h.succ X1
    refine ⟨V, hV, XV, fun b hbody Q E d acts hq => ?_⟩
    rw [List.range'_succ]
    simp only [List.forIn_cons, wp_bind']
    apply hbody
    refine gm_one X hkI hI hn hK hb (by omega) (by omega) (fun acts' => ?_)
    obtain ⟨k1, hk1, he⟩ := X.warmed.alike.2.2 _ _ hkA
    have hA1 : k1.kind = .array cI (.array .int) := by rw [he]; exact hA
    have es : (gm_o cA N H.size i).setSlot i (.ref U.heap.size) = gm_o cA N H.size (i + 1) := by
      rw [h.1]
      exact gm_oS cA N H.size i
    rw [W.writeLoc]
    refine ⟨gm_o cA N H.size i, h.outer, (by intro q9; cases q9), (by rw [show (gm_o cA N H.size i).slots.size = N from arrV_size cA N _]; omega), ?_, ?_⟩
    · show (U.pushCell (gm_r cI K)).fitsSlot cA .none i (.ref U.heap.size) = true
      simp [State.fitsSlot, State.slotType?, hk1, hA1, fits]
    · rw [es]
      exact w b hbody Q E _ _ hq
theorem gm_step (X : Stand p l e R s m args below meth c T locs cells slots) (hexec : p.tables.exec = Jvm.exec) {own : String} {index : Nat} (hown : s.vm.findClass own = some m.cls) (hlink : (Cond.classLink own index ("[" ++ (FieldType.array .int).toString)).before args s = true) (hover : (Cond.arrayOver (.array .int)).before args s = true) (harr : (Cond.arrayClass .int).before args s = true)
    {g : JFrame} (hg : g.method = m) (hdg : decode c.code g.pc = .ok (.multianewarray index 2, 4)) {n k : Int32} {rest : List Value} (hst : g.stack = .int k :: .int n :: rest) (hn : ¬ n < 0) (hk : ¬ k < 0) (hN : n.toNatClampNeg = N) (hK : k.toNatClampNeg = K) (hb1 : N * 4 ≤ 536870912) (hb2 : K * 4 ≤ 536870912) (hc : cells + (1 + N) ≤ R.cells) (hs : slots + (N + N * K) ≤ R.slots) :
    ∃ (cA cI : ClassId) (V : State), s.vm.findClass ("[" ++ (FieldType.array .int).toString) = some cA ∧ s.vm.findClass (FieldType.array .int).toString = some cI ∧ ArrOfT s cA (.array .int) ∧ gm_H T.heap V.heap cA cI N K N ∧ Stand p l e R s m args below meth c V locs (cells + 1 + N) (slots + N + N * K) ∧
      ∀ t, Steps p.tables e below (V.setTop { g with pc := g.pc + 4, stack := .ref T.heap.size :: rest }) t → Steps p.tables e below (T.setTop g) t := by
  subst hg
  have hpl : e.platform.magicAccessors = ({} : Platform).magicAccessors := by rw [X.admits.platform]
  obtain ⟨cI, cA, kA, fI, -, hkA, hA, fA⟩ := arrayOverA_spec hover
  obtain ⟨cJ, kI, x, fJ, hkI, hI⟩ := Cond.arrayClass_spec harr
  cases Option.some.inj (fJ.symm.trans fI)
  obtain ⟨c0, f0, hl⟩ := Cond.classLink_spec hown hlink e.platform hpl
  cases Option.some.inj (fA.symm.trans f0)
  obtain ⟨hr, hw, -⟩ := State.classEntry (e := e) X.warmed hl
  generalize T.vm.noted g.method.cls index (.cls cA) = vm1 at hr hw
  have X1 := X.noted hw
  have X2 := X1.pushed (gm_o cA N T.heap.size 0)
  rw [show (gm_o cA N T.heap.size 0).slots.size = N from arrV_size cA N _] at X2
  obtain ⟨V, hV, XV, w⟩ := gm_loop (H := T.heap) (N := N) (cells := cells) (slots := slots) hkA hA hkI hI hk hK hb2 X.heapGrown hc hs { g with stack := rest } N 0 _ (Nat.zero_add N) (gm_H.zero (T.setVm vm1) cA cI N K) (by rw [Nat.zero_mul]; exact X2)
  refine ⟨cA, cI, V, fA, fI, fun n9 z9 => ⟨fun q9 h9 => (by cases h9), kA, hkA, cI, hA⟩, hV, XV, fun t ht => ?_⟩
  obtain ⟨k1, hk1, he⟩ := X1.warmed.alike.2.2 _ _ hkA
  have hA1 : k1.kind = .array cI (.array .int) := by rw [he]; exact hA
  have hs1 : slots + N ≤ R.slots := by omega
  obtain ⟨r1, r2⟩ := X1.roomAbove (a := 1) (b := N) (by omega) hs1
  have hf : ([k].find? (· < 0)) = none := by simp [hk]
  jvm_step X.here [hexec, hdg]
  simp only [multianewarray.sem, wp_bind', W.resolveClassAt_links (State.method?_setTop g X.here.top) hr]
  show wp (Jvm.popN [Value.int n, .int k].length) _ _ e _ _ ((T.setVm vm1).setTop g)
  rw [popN_top X1.here.top (by rw [hst]; rfl)]
  simp only [List.mapM_cons, List.mapM_nil, wp_bind', wp_pure']
  rw [multianewarray.make]
  simp only [wp_bind', W.ite, hn, if_false, wp_pure', W.theClass, State.vm_setTop, hk1, hA1, Option.some.injEq, exists_eq_left']
  refine W.newArray_of (k := k1) (comp := cI) (type := .array .int) hk1 hA1 ?_ ?_ r1 (by rw [hN]; exact r2) rfl (fun acts' => ?_)
  · rw [Launch.admits_arrayLengthLimit X.admits, hN]; omega
  · rw [Launch.admits_maxHeapBytes X.admits, hN]
    show ¬ N * 4 > 536870912
    omega
  · have eo : ({ cls := cA, slots := Array.replicate n.toNatClampNeg .null, vm := .none } : Cell) = gm_o cA N T.heap.size 0 := by
      rw [hN, arrV_new]
      exact gm_o0 cA N T.heap.size
    have ez : ([:n.toNatClampNeg] : Std.Legacy.Range).size = N := by simp [Std.Legacy.Range.size, hN]
    simp only [hf]
    rw [ite_self, wp_bind', Std.Legacy.Range.forIn_eq_forIn_range', ez]
    show wp (forIn (List.range' 0 N 1) PUnit.unit _) _ _ e _ _ (((T.setVm vm1).pushCell { cls := cA, slots := Array.replicate n.toNatClampNeg .null, vm := .none }).setTop { g with stack := rest })
    rw [eo]
    refine w _ (fun j Q9 E9 d9 acts9 S9 h9 => ?_) _ _ _ _ (fun d9 acts9 => ?_)
    · simp only [wp_bind', wp_pure']
      exact h9
    · simp only [wp_bind', wp_pure', W.mark, W.pushRef, State.topJava?_setTop' _ XV.here.top, Option.some.injEq, exists_eq_left', State.setTop_setTop, State.heap_setTop]
      intro acts0
      simp [jvm, XV.here.top]
      exact ht
end GM
def va_AOA (ty : FieldType) (U : State) : Prop := (Cond.arrayOver (.array ty)).before #[] U = true
theorem va_AOA.use {ty : FieldType} {A : Array Value} {U : State} (h : va_AOA ty U) : (Cond.arrayOver (.array ty)).before A U = true := h
/-- f, but v at every address of l -/
def vr_up {α : Type} (f : Nat → α) (l : List Nat) (v : α) : Nat → α := fun a => if a ∈ l then v else f a
theorem vr_up_in {α : Type} {f : Nat → α} {l : List Nat} {v : α} {a : Nat} (h : a ∈ l) : vr_up f l v a = v := if_pos h
theorem vr_up_ne {α : Type} {f : Nat → α} {l : List Nat} {v : α} {a : Nat} (h : a ∉ l) : vr_up f l v a = f a := if_neg h
theorem vr_rows {L l : List Nat} {f : Nat → va_E} {e : va_E} (h : ∀ a, a ∈ l → a ∉ L) : va_pl L f ++ l.map (fun a => (a, e)) = va_pl (L ++ l) (vr_up f l e) := by
  unfold va_pl
  rw [List.map_append]
  congr 1
  · apply List.map_congr_left
    intro a ha
    rw [vr_up_ne (fun q => h a q ha)]
  · apply List.map_congr_left
    intro a ha
    rw [vr_up_in ha]
theorem vr_lay {X rows : va_W} {x : Nat × va_E} {pl : va_W} {D : va_G} {cl : List vw_C} {H : Heap} (hP : va_P D cl (((X ++ pl) ++ [x]) ++ rows) H) : va_P D cl ((X ++ [x]) ++ (pl ++ rows)) H := by
  rw [List.append_assoc (X ++ pl)] at hP
  have h := va_P.swap hP
  rw [← List.append_assoc X] at h
  have h2 := va_P.swap h
  rw [List.append_assoc (X ++ [x])] at h2
  exact h2
theorem vr_layD {X rows : va_W} {x : Nat × va_E} {pl : va_W} {A : Nat → Prop} (hD : va_D A (((X ++ pl) ++ [x]) ++ rows)) : va_D A ((X ++ [x]) ++ (pl ++ rows)) := by
  rw [List.append_assoc (X ++ pl)] at hD
  have h := va_D.swap hD
  rw [← List.append_assoc X] at h
  have h2 := va_D.swap h
  rw [List.append_assoc (X ++ [x])] at h2
  exact h2
section VGM
variable {p : Program} {l : Launch} {e : Env} {R : Room} {s : State} {m : MethodId} {args : Array Value} {below : List Frame} {meth : Method} {c : Code} {H : Heap} {locs : List Loc} {cells slots : Nat} {Q : State → Prop}
variable {cc : ByteArray} {pc : Nat} {ls : Array Slot} {rest : List Value} {D : va_G} {cl : List vw_C} {A : Nat → Prop} {a : Nat} {tys : List (ClassId × FieldType)} {ws : va_W} {H0 : Heap}
theorem va_mna {X : va_W} {L : List Nat} {f : Nat → va_E} {cc : ByteArray} (hexec : p.tables.exec = Jvm.exec) (hb : c.code = cc) {own : String} {index : Nat} {cy : ClassId} (hown : s.vm.findClass own = some m.cls) (hclink : (Cond.classLink own index ("[" ++ (FieldType.array .int).toString)).before args s = true) (hover : va_AOA .int s) (harr : (Cond.arrayClass .int).before args s = true) (hcy : s.vm.findClass (FieldType.array .int).toString = some cy)
    (hK : va_K D cl tys s) (hP : va_P D cl (X ++ va_pl L f) H) (hD : va_D A (X ++ va_pl L f)) (hS : va_S A H0 H locs) (hA : ∀ q, H0.size ≤ q → A q) {n k : Int32} {N' K' : Nat} {z : vp_A} (hn : ¬ n < 0) (hk : ¬ k < 0) (hN : n.toNatClampNeg = N') (hM : k.toNatClampNeg = K')
    (hb1 : N' * 4 ≤ 536870912) (hb2 : K' * 4 ≤ 536870912) (hcells : cells + (1 + N') ≤ R.cells) (hslots : slots + (N' + N' * K') ≤ R.slots) (hz : ∀ c : ClassId, gm_r c K' = vp_cell c z) (hdg : decode cc pc = .ok (.multianewarray index 2, 4))
    (kk : ∀ (q : Nat) (r : Nat → Nat) (cA : ClassId) (H1 : Heap), (∀ i j : Nat, i < N' → j < N' → r i = r j → i = j) → (∀ i : Nat, i < N' → r i ∉ L) → va_K D cl (tys ++ [(cA, .array .int)]) s →
      va_P D cl ((X ++ [(q, .inl (cA, N', .inr (.inr (.inr (.inr (fun i => if i < N' then some (r i) else none))))))]) ++ va_pl (L ++ (List.range N').map r) (vr_up f ((List.range N').map r) (.inl (cy, z)))) H1 → va_D A ((X ++ [(q, .inl (cA, N', .inr (.inr (.inr (.inr (fun i => if i < N' then some (r i) else none))))))]) ++ va_pl (L ++ (List.range N').map r) (vr_up f ((List.range N').map r) (.inl (cy, z)))) → va_S A H0 H1 locs →
      W p l e R s m args below meth c H1 locs (cells + 1 + N') (slots + N' + N' * K') Q (F0 m (pc + 4) ls (.ref q :: rest))) : W p l e R s m args below meth c H locs cells slots Q (F0 m pc ls (.int k :: .int n :: rest)) := by
  subst hN
  subst hM
  intro T hT Xs
  obtain ⟨cA, comp, F, fA, fC, hAr, hG, X', step⟩ := gm_step Xs hexec hown hclink (va_AOA.use hover) harr (g := F0 m pc ls (.int k :: .int n :: rest)) rfl (by rw [hb]; exact hdg) rfl hn hk rfl rfl hb1 hb2 hcells hslots
  have ec : some cy = some comp := hcy.symm.trans fC
  cases ec
  have hT1 : T.heap = H := hT
  rw [hT1] at hG
  obtain ⟨f1, f2, f3, hold⟩ := hG
  have hrow : ∀ j : Nat, j < n.toNatClampNeg → F.heap[H.size + 1 + j]? = some (vp_cell cy z) := fun j hj => (f3 j hj).trans (congrArg some (hz cy))
  have hout : gm_o cA n.toNatClampNeg H.size n.toNatClampNeg = vp_cell cA (n.toNatClampNeg, .inr (.inr (.inr (.inr (fun i => if i < n.toNatClampNeg then some (H.size + 1 + i) else none))))) := by
    rw [vp_cell_q]
    rfl
  rw [hout] at f2
  have hlt : ∀ a, a ∈ L → a < H.size := fun a ha => by
    obtain ⟨k9, hk9⟩ := va_pl_get (X := X) (f := f) ha
    exact (hP k9 _ hk9).lt
  have hnl : ∀ i : Nat, i < n.toNatClampNeg → H.size + 1 + i ∉ L := fun i _ h => by
    have := hlt _ h
    omega
  have hnm : ∀ a, a ∈ (List.range n.toNatClampNeg).map (fun i => H.size + 1 + i) → a ∉ L := fun a ha h => by
    obtain ⟨i, -, rfl⟩ := List.mem_map.mp ha
    have := hlt _ h
    omega
  have hP0 : va_P D cl (X ++ va_pl L f) F.heap := hP.kept (fun k9 x hx => hold x.1 ((hP k9 x hx).lt))
  have hP1 : va_P D cl ((X ++ va_pl L f) ++ [(H.size, .inl (cA, n.toNatClampNeg, .inr (.inr (.inr (.inr (fun i => if i < n.toNatClampNeg then some (H.size + 1 + i) else none))))))]) F.heap := hP0.app (fun k9 x hx => by
    have h0 : k9 < 1 := (List.getElem?_eq_some_iff.mp hx).1
    rw [show k9 = 0 by omega] at hx
    cases hx
    exact f2)
  have hP2 : va_P D cl (((X ++ va_pl L f) ++ [(H.size, .inl (cA, n.toNatClampNeg, .inr (.inr (.inr (.inr (fun i => if i < n.toNatClampNeg then some (H.size + 1 + i) else none))))))]) ++ ((List.range n.toNatClampNeg).map (fun i => H.size + 1 + i)).map (fun a => (a, .inl (cy, z)))) F.heap := hP1.app (fun k9 x hx => by
    obtain ⟨a, ha, rfl⟩ := List.mem_map.mp (List.mem_of_getElem? hx)
    obtain ⟨i, hi, rfl⟩ := List.mem_map.mp ha
    exact hrow i (List.mem_range.mp hi))
  have hD2 : va_D A (((X ++ va_pl L f) ++ [(H.size, .inl (cA, n.toNatClampNeg, .inr (.inr (.inr (.inr (fun i => if i < n.toNatClampNeg then some (H.size + 1 + i) else none))))))]) ++ ((List.range n.toNatClampNeg).map (fun i => H.size + 1 + i)).map (fun a => (a, .inl (cy, z)))) := by
    have hD1 := hD.push (e := .inl (cA, n.toNatClampNeg, .inr (.inr (.inr (.inr (fun i => if i < n.toNatClampNeg then some (H.size + 1 + i) else none)))))) hP rfl (hA _ hS.1)
    generalize hW1 : (X ++ va_pl L f) ++ [(H.size, .inl (cA, n.toNatClampNeg, .inr (.inr (.inr (.inr (fun i => if i < n.toNatClampNeg then some (H.size + 1 + i) else none))))))] = W1 at hD1 hP1 ⊢
    have hle : ∀ (k9 : Nat) (x : Nat × va_E), W1[k9]? = some x → x.1 ≤ H.size := fun k9 x hx => by
      rw [← hW1] at hx
      by_cases hl : k9 < (X ++ va_pl L f).length
      · rw [List.getElem?_append_left hl] at hx
        exact Nat.le_of_lt ((hP k9 x hx).lt)
      · rw [List.getElem?_append_right (by omega)] at hx
        have h0 : k9 - (X ++ va_pl L f).length < 1 := (List.getElem?_eq_some_iff.mp hx).1
        rw [show k9 - (X ++ va_pl L f).length = 0 by omega] at hx
        cases hx
        exact Nat.le_refl _
    have hr : ∀ (k9 : Nat) (x : Nat × va_E), (((List.range n.toNatClampNeg).map (fun i => H.size + 1 + i)).map (fun a => ((a, .inl (cy, z)) : Nat × va_E)))[k9]? = some x → x.1 = H.size + 1 + k9 := fun k9 x hx => by
      rw [List.getElem?_map, List.getElem?_map] at hx
      by_cases h9 : k9 < n.toNatClampNeg
      · rw [List.getElem?_range h9] at hx
        cases hx
        rfl
      · have hn0 : (List.range n.toNatClampNeg)[k9]? = none := List.getElem?_eq_none (by rw [List.length_range]; omega)
        rw [hn0] at hx
        cases hx
    refine ⟨fun i j x y hi hj hxy => ?_, fun k9 x hx => ?_⟩
    · by_cases h1 : i < W1.length <;> by_cases h2 : j < W1.length
      · rw [List.getElem?_append_left h1] at hi
        rw [List.getElem?_append_left h2] at hj
        exact hD1.1 i j x y hi hj hxy
      · rw [List.getElem?_append_left h1] at hi
        rw [List.getElem?_append_right (by omega)] at hj
        have := hle _ _ hi
        have := hr _ _ hj
        omega
      · rw [List.getElem?_append_right (by omega)] at hi
        rw [List.getElem?_append_left h2] at hj
        have := hle _ _ hj
        have := hr _ _ hi
        omega
      · rw [List.getElem?_append_right (by omega)] at hi hj
        have := hr _ _ hi
        have := hr _ _ hj
        omega
    · by_cases h1 : k9 < W1.length
      · rw [List.getElem?_append_left h1] at hx
        exact hD1.2 k9 x hx
      · rw [List.getElem?_append_right (by omega)] at hx
        have := hr _ _ hx
        exact hA _ (by have := hS.1; omega)
  have hK2 : va_K D cl (tys ++ [(cA, .array .int)]) s := ⟨hK.1, fun k9 x hx => by
    by_cases hl : k9 < tys.length
    · rw [List.getElem?_append_left hl] at hx
      exact hK.2 k9 x hx
    · rw [List.getElem?_append_right (by omega)] at hx
      have h0 : k9 - tys.length < 1 := (List.getElem?_eq_some_iff.mp hx).1
      rw [show k9 - tys.length = 0 by omega] at hx
      cases hx
      exact ⟨hAr, fA⟩⟩
  obtain ⟨t, a1, b1⟩ := kk H.size (fun i => H.size + 1 + i) cA F.heap (fun i j _ _ h => by have h9 : H.size + 1 + i = H.size + 1 + j := h; omega) hnl hK2 (by rw [← vr_rows hnm]; exact vr_lay hP2) (by rw [← vr_rows hnm]; exact vr_layD hD2) ⟨by rw [f1]; have := hS.1; omega, fun x h1 h2 => (hold x (Nat.lt_of_lt_of_le h1 hS.1)).trans (hS.2.1 x h1 h2), hS.2.2⟩ F rfl X'
  refine ⟨t, step t ?_, b1⟩
  have e : T.heap.size = H.size := by rw [hT]
  rw [e]
  exact a1
end VGM
section CM
variable {X : Xx} {G : Gx} {cc : ByteArray} {own : String} {nL d mc ms cells slots pc p : Nat} {Post : va_W → Prop} {ws news : va_W} {P : Nat × va_E} {lv : List (Nat × Value)} {rest : List Value}
theorem pl_rows (r : Nat → Nat) (f : Nat → va_E) (e : va_E) (l : List Nat) : va_pl ([] ++ l.map r) (vr_up f (l.map r) e) = l.map (fun i => (r i, e)) := by
  unfold va_pl
  rw [List.nil_append, List.map_map]
  apply List.map_congr_left
  intro a ha
  show (r a, vr_up f (l.map r) e (r a)) = _
  rw [vr_up_in (List.mem_map.mpr ⟨a, ha, rfl⟩)]
theorem C_mna (C : Cc X G cc own nL d mc ms Post) {idx : Nat} (hcl : Cond.classLink own idx "[[I" ∈ gtb) (harr : Cond.arrayClass .int ∈ gtb) {n k : Int32} (N K : Nat) (hn : ¬ n < 0) (hk : ¬ k < 0) (hN : n.toNatClampNeg = N) (hM : k.toNatClampNeg = K) (hb1 : N * 4 ≤ 536870912) (hb2 : K * 4 ≤ 536870912) (hcs : cells + (1 + N) ≤ mc ∧ slots + (N + N * K) ≤ ms) (hd : decode cc pc = .ok (.multianewarray idx 2, 4)) (kk : ∀ (q : Nat) (r : Nat → Nat), VC X G nL (cells + 1 + N) (slots + N + N * K) ws p P (news ++ ([(q, .inl (gc G 5, N, .inr (.inr (.inr (.inr (fun i => if i < N then some (r i) else none))))))] ++ (List.range N).map (fun i => (r i, .inl (gc G 0, K, .inl (fun _ => 0)))))) (pc + 4) lv (.ref q :: rest)) : VC X G nL cells slots ws p P news pc lv (.int k :: .int n :: rest) := fun H locs ls hP hD hS hl => by
  have hcy : (xs X).vm.findClass (FieldType.array .int).toString = some (gc G 0) := (C.1.2.2.2.2.2.1.1.2 0 _ rfl).2
  have hP0 : va_P G.1 vwCl ((ws.set p P ++ news) ++ va_pl [] (fun _ => P.2)) H := by
    show va_P G.1 vwCl ((ws.set p P ++ news) ++ []) H
    rw [List.append_nil]; exact hP
  have hD0 : va_D (gA G) ((ws.set p P ++ news) ++ va_pl [] (fun _ => P.2)) := by
    show va_D (gA G) ((ws.set p P ++ news) ++ [])
    rw [List.append_nil]; exact hD
  refine va_mna (z := (K, .inl (fun _ => 0))) C.1.1 C.1.2.1 C.1.2.2.2.1 (C.1.2.2.2.2.1 _ hcl) C.2.1.2.2.1 (C.1.2.2.2.2.1 _ harr) hcy C.1.2.2.2.2.2.1.1 hP0 hD0 hS (fun q hq => Nat.le_trans C.1.2.2.2.2.2.2.1 hq) hn hk hN hM hb1 hb2 (by rw [C.2.2.2.1]; exact hcs.1) (by rw [C.2.2.2.1]; exact hcs.2) (fun c => ?_) hd (fun q r cA H1 hr1 hr2 hK hP hD hS => ?_)
  · rw [vp_cell_i]
    rfl
  · have e1 : (xs X).vm.findClass ("[" ++ (FieldType.array .int).toString) = some (gc G 5) := (C.1.2.2.2.2.2.1.1.2 5 _ rfl).2
    have e2 : (xs X).vm.findClass ("[" ++ (FieldType.array .int).toString) = some cA := (hK.2 (tyl G).length (cA, .array .int) (by rw [List.getElem?_append_right (Nat.le_refl _), Nat.sub_self]; rfl)).2
    have e3 : cA = gc G 5 := Option.some.inj (e2.symm.trans e1)
    subst e3
    rw [pl_rows, List.append_assoc, List.append_assoc] at hP hD
    exact kk q r H1 locs ls hP hD hS hl
end CM
