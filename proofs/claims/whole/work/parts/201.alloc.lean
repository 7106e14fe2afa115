theorem MI_ofI {l : Launch} {G : Gx} {y : MethodName} {cc : ByteArray} {maxL : Nat} {ret : Option FieldType} {d : Nat} {vals : List Value} {σ : St} {o : Option Value} {σ0 : St} (own : String) (hw : y.cls = own) (hy : plainName y.cls = true) (lv : List (Nat × Value)) (hlv : lv_args 0 vals = lv) (hn : (lg_sl vals).length ≤ maxL)
    (h : ∀ X : Xx, X.2.1 = l → Ck X G cc own maxL d → Rt X G ret o σ0 → (xM X).name = y.name → V X G maxL 0 0 σ 0 lv []) : MI l G y cc maxL ret d vals σ o σ0 := by
  refine Met.ofW (cc := cc) (maxL := maxL) (ret := ret) hy rfl ?_
  intro p e s m args below meth c s₁ B hml hv
  obtain ⟨rfl, hsz, hP, hD, hK⟩ := hv
  have hts := atoms_spec (ws := .code y cc maxL ret :: gtb) B.pre
  have hown : s.vm.findClass own = some m.cls := by rw [← hw]; exact findClass_of_methodNamed B.named
  have hl := lv_entry vals (n := maxL) hn
  rw [lg_entry_eq]
  subst hlv
  exact h (p, l, e, rmD d 0 0, s, m, vals.toArray, below, meth, c, MQ below (fun _ st oc t => oc = .returned o ∧ Wq G σ0 st t) vals.toArray s 0 0 (gA G)) rfl
    ⟨B.exec, B.bytes, hml, hown, fun w hw => hts w (List.mem_cons_of_mem _ hw), hK, hsz, B.notSynchronized, Nat.le_refl _, Nat.le_refl _⟩ ⟨B.returns, rfl⟩ (name_of_methodNamed B.named B.method).1 s.heap [] _ ⟨hP, hD, va_S.rf⟩ hl
/-- a contract with any end -/
theorem Met_of {l : Launch} {G : Gx} {y : MethodName} {cc : ByteArray} {maxL : Nat} {ret : Option FieldType} {d mc ms : Nat} {vals : List Value} {σ : St} {Qc : Array Value → State → Outcome → State → Prop} (own : String) (hw : y.cls = own) (hy : plainName y.cls = true) (lv : List (Nat × Value)) (hlv : lv_args 0 vals = lv) (hn : (lg_sl vals).length ≤ maxL)
    (h : ∀ X : Xx, X.2.1 = l → Ck X G cc own maxL d → (xM X).sig.returnType = ret → X.2.2.2.2.2.2.2.2.2.2 = MQ (xb X) Qc (xa X) (xs X) mc ms (gA G) → xR X = rmD d mc ms → V X G maxL 0 0 σ 0 lv []) : Met l y (.code y cc maxL ret :: gtb) (rmD d mc ms) (va_Pc vals (Wp G σ)) Qc mc ms (gA G) := by
  refine Met.ofW (cc := cc) (maxL := maxL) (ret := ret) hy rfl ?_
  intro p e s m args below meth c s₁ B hml hv
  obtain ⟨rfl, hsz, hP, hD, hK⟩ := hv
  have hts := atoms_spec (ws := .code y cc maxL ret :: gtb) B.pre
  have hown : s.vm.findClass own = some m.cls := by rw [← hw]; exact findClass_of_methodNamed B.named
  have hl := lv_entry vals (n := maxL) hn
  rw [lg_entry_eq]
  subst hlv
  exact h (p, l, e, rmD d mc ms, s, m, vals.toArray, below, meth, c, MQ below Qc vals.toArray s mc ms (gA G)) rfl
    ⟨B.exec, B.bytes, hml, hown, fun w hw => hts w (List.mem_cons_of_mem _ hw), hK, hsz, B.notSynchronized, Nat.le_refl _, Nat.le_refl _⟩ B.returns rfl rfl s.heap [] _ ⟨hP, hD, va_S.rf⟩ hl
def gset (G : Gx) (k q : Nat) : Gx := (G.1, G.2.1, va_up G.2.2.1 k q, G.2.2.2)
theorem gset_ne {G : Gx} {k q j : Nat} (h : j ≠ k) : ga (gset G k q) j = ga G j := va_up_ne _ _ h
theorem gset_self {G : Gx} {k q : Nat} : ga (gset G k q) k = q := va_up_self _ _ _
def spc : List Nat := [0, 1, 2, 3, 4, 5, 6, 7, 10, 19, 20, 29, 36, 38, 98, 101]
theorem lay_d (G : Gx) {k : Nat} (hs : ¬ k ∈ spc) (f : Nat → Int32) (w : Nat → Int64) : lay G k f w = if k < 110 then (if 52 ≤ k ∧ k < 84 ∧ k % 2 = 0 then .inr (7, [.ref (ga G (k + 1)), .int (f 1)]) else .inl (gc G 0, alen k, .inl f)) else .inr ((f 5).toNatClampNeg, [.int (f 0), .int (f 1), .int (f 2), .int (f 3), .int (f 4)]) := by
  unfold lay
  split <;> first | exact absurd (by decide) hs | rfl
theorem lay_gset {G : Gx} {σ : St} {q : Nat} (h : okR σ = true) {k : Nat} (hk : k < 110 + σ.1) : lay (gset G (110 + σ.1) q) k (σ.2.1 k) σ.2.2 = lay G k (σ.2.1 k) σ.2.2 := by
  have h0 := h
  unfold okR at h0
  simp only [Bool.and_eq_true] at h0
  obtain ⟨h1, h2⟩ := h0
  obtain ⟨h3, h4⟩ := of_decide_eq_true h1
  have h5 : ∀ j, j < 10 → rc σ 10 j < 110 + σ.1 ∧ rc σ 20 j < 110 + σ.1 := fun j hj => of_decide_eq_true (List.all_eq_true.mp h2 j (List.mem_range.mpr hj))
  have g1 : ∀ j, j < 110 → ga (gset G (110 + σ.1) q) j = ga G j := fun j hj => gset_ne (by omega)
  have g2 : ga (gset G (110 + σ.1) q) (σ.2.1 4 9).toNatClampNeg = ga G (σ.2.1 4 9).toNatClampNeg := g1 _ h3
  have g3 : ga (gset G (110 + σ.1) q) (σ.2.1 5 1).toNatClampNeg = ga G (σ.2.1 5 1).toNatClampNeg := g1 _ h4
  have g4 : ∀ j, (if j < 10 ∧ σ.2.1 10 j ≠ 0 then some (ga (gset G (110 + σ.1) q) (σ.2.1 10 j).toNatClampNeg) else none) = (if j < 10 ∧ σ.2.1 10 j ≠ 0 then some (ga G (σ.2.1 10 j).toNatClampNeg) else none) := fun j => by
    by_cases hj : j < 10
    · rw [gset_ne (by have := (h5 j hj).1; unfold rc at this; omega)]
    · rw [if_neg (fun z => hj z.1), if_neg (fun z => hj z.1)]
  have g5 : ∀ j, (if j < 10 ∧ σ.2.1 20 j ≠ 0 then some (ga (gset G (110 + σ.1) q) (σ.2.1 20 j).toNatClampNeg) else none) = (if j < 10 ∧ σ.2.1 20 j ≠ 0 then some (ga G (σ.2.1 20 j).toNatClampNeg) else none) := fun j => by
    by_cases hj : j < 10
    · rw [gset_ne (by have := (h5 j hj).2; unfold rc at this; omega)]
    · rw [if_neg (fun z => hj z.1), if_neg (fun z => hj z.1)]
  have ga7 : ∀ j, (if j < 4 then some (ga (gset G (110 + σ.1) q) (76 + 2 * j)) else none) = (if j < 4 then some (ga G (76 + 2 * j)) else none) := fun j => by
    by_cases hj : j < 4
    · rw [if_pos hj, if_pos hj, g1 _ (by omega)]
    · rw [if_neg hj, if_neg hj]
  have ga19 : ∀ j, (if j < 3 then some (ga (gset G (110 + σ.1) q) (56 + 2 * j)) else none) = (if j < 3 then some (ga G (56 + 2 * j)) else none) := fun j => by
    by_cases hj : j < 3
    · rw [if_pos hj, if_pos hj, g1 _ (by omega)]
    · rw [if_neg hj, if_neg hj]
  have ga29 : ∀ j, (if j < 3 then some (ga (gset G (110 + σ.1) q) (66 + 2 * j)) else none) = (if j < 3 then some (ga G (66 + 2 * j)) else none) := fun j => by
    by_cases hj : j < 3
    · rw [if_pos hj, if_pos hj, g1 _ (by omega)]
    · rw [if_neg hj, if_neg hj]
  have ga36 : ∀ j, (if j < 6 then some (ga (gset G (110 + σ.1) q) (40 + j)) else none) = (if j < 6 then some (ga G (40 + j)) else none) := fun j => by
    by_cases hj : j < 6
    · rw [if_pos hj, if_pos hj, g1 _ (by omega)]
    · rw [if_neg hj, if_neg hj]
  have ga38 : ∀ j, (if j < 6 then some (ga (gset G (110 + σ.1) q) (46 + j)) else none) = (if j < 6 then some (ga G (46 + j)) else none) := fun j => by
    by_cases hj : j < 6
    · rw [if_pos hj, if_pos hj, g1 _ (by omega)]
    · rw [if_neg hj, if_neg hj]
  have gg : ∀ j, gc (gset G (110 + σ.1) q) j = gc G j := fun _ => rfl
  have gg2 : ∀ j, gs (gset G (110 + σ.1) q) j = gs G j := fun _ => rfl
  have u_1 : ga (gset G (110 + σ.1) q) 1 = ga G 1 := g1 1 (by decide)
  have u_2 : ga (gset G (110 + σ.1) q) 2 = ga G 2 := g1 2 (by decide)
  have u_3 : ga (gset G (110 + σ.1) q) 3 = ga G 3 := g1 3 (by decide)
  have u_4 : ga (gset G (110 + σ.1) q) 4 = ga G 4 := g1 4 (by decide)
  have u_5 : ga (gset G (110 + σ.1) q) 5 = ga G 5 := g1 5 (by decide)
  have u_7 : ga (gset G (110 + σ.1) q) 7 = ga G 7 := g1 7 (by decide)
  have u_8 : ga (gset G (110 + σ.1) q) 8 = ga G 8 := g1 8 (by decide)
  have u_9 : ga (gset G (110 + σ.1) q) 9 = ga G 9 := g1 9 (by decide)
  have u_74 : ga (gset G (110 + σ.1) q) 74 = ga G 74 := g1 74 (by decide)
  have u_10 : ga (gset G (110 + σ.1) q) 10 = ga G 10 := g1 10 (by decide)
  have u_11 : ga (gset G (110 + σ.1) q) 11 = ga G 11 := g1 11 (by decide)
  have u_12 : ga (gset G (110 + σ.1) q) 12 = ga G 12 := g1 12 (by decide)
  have u_13 : ga (gset G (110 + σ.1) q) 13 = ga G 13 := g1 13 (by decide)
  have u_14 : ga (gset G (110 + σ.1) q) 14 = ga G 14 := g1 14 (by decide)
  have u_15 : ga (gset G (110 + σ.1) q) 15 = ga G 15 := g1 15 (by decide)
  have u_16 : ga (gset G (110 + σ.1) q) 16 = ga G 16 := g1 16 (by decide)
  have u_17 : ga (gset G (110 + σ.1) q) 17 = ga G 17 := g1 17 (by decide)
  have u_18 : ga (gset G (110 + σ.1) q) 18 = ga G 18 := g1 18 (by decide)
  have u_19 : ga (gset G (110 + σ.1) q) 19 = ga G 19 := g1 19 (by decide)
  have u_20 : ga (gset G (110 + σ.1) q) 20 = ga G 20 := g1 20 (by decide)
  have u_21 : ga (gset G (110 + σ.1) q) 21 = ga G 21 := g1 21 (by decide)
  have u_22 : ga (gset G (110 + σ.1) q) 22 = ga G 22 := g1 22 (by decide)
  have u_23 : ga (gset G (110 + σ.1) q) 23 = ga G 23 := g1 23 (by decide)
  have u_24 : ga (gset G (110 + σ.1) q) 24 = ga G 24 := g1 24 (by decide)
  have u_25 : ga (gset G (110 + σ.1) q) 25 = ga G 25 := g1 25 (by decide)
  have u_26 : ga (gset G (110 + σ.1) q) 26 = ga G 26 := g1 26 (by decide)
  have u_27 : ga (gset G (110 + σ.1) q) 27 = ga G 27 := g1 27 (by decide)
  have u_28 : ga (gset G (110 + σ.1) q) 28 = ga G 28 := g1 28 (by decide)
  have u_29 : ga (gset G (110 + σ.1) q) 29 = ga G 29 := g1 29 (by decide)
  have u_30 : ga (gset G (110 + σ.1) q) 30 = ga G 30 := g1 30 (by decide)
  have u_31 : ga (gset G (110 + σ.1) q) 31 = ga G 31 := g1 31 (by decide)
  have u_32 : ga (gset G (110 + σ.1) q) 32 = ga G 32 := g1 32 (by decide)
  have u_33 : ga (gset G (110 + σ.1) q) 33 = ga G 33 := g1 33 (by decide)
  have u_34 : ga (gset G (110 + σ.1) q) 34 = ga G 34 := g1 34 (by decide)
  have u_35 : ga (gset G (110 + σ.1) q) 35 = ga G 35 := g1 35 (by decide)
  have u_36 : ga (gset G (110 + σ.1) q) 36 = ga G 36 := g1 36 (by decide)
  have u_37 : ga (gset G (110 + σ.1) q) 37 = ga G 37 := g1 37 (by decide)
  have u_38 : ga (gset G (110 + σ.1) q) 38 = ga G 38 := g1 38 (by decide)
  have u_39 : ga (gset G (110 + σ.1) q) 39 = ga G 39 := g1 39 (by decide)
  have u_52 : ga (gset G (110 + σ.1) q) 52 = ga G 52 := g1 52 (by decide)
  have u_54 : ga (gset G (110 + σ.1) q) 54 = ga G 54 := g1 54 (by decide)
  have u_62 : ga (gset G (110 + σ.1) q) 62 = ga G 62 := g1 62 (by decide)
  have u_64 : ga (gset G (110 + σ.1) q) 64 = ga G 64 := g1 64 (by decide)
  have u_72 : ga (gset G (110 + σ.1) q) 72 = ga G 72 := g1 72 (by decide)
  have u_84 : ga (gset G (110 + σ.1) q) 84 = ga G 84 := g1 84 (by decide)
  have u_85 : ga (gset G (110 + σ.1) q) 85 = ga G 85 := g1 85 (by decide)
  have u_86 : ga (gset G (110 + σ.1) q) 86 = ga G 86 := g1 86 (by decide)
  have u_87 : ga (gset G (110 + σ.1) q) 87 = ga G 87 := g1 87 (by decide)
  have u_88 : ga (gset G (110 + σ.1) q) 88 = ga G 88 := g1 88 (by decide)
  have u_89 : ga (gset G (110 + σ.1) q) 89 = ga G 89 := g1 89 (by decide)
  have u_90 : ga (gset G (110 + σ.1) q) 90 = ga G 90 := g1 90 (by decide)
  have u_91 : ga (gset G (110 + σ.1) q) 91 = ga G 91 := g1 91 (by decide)
  have u_92 : ga (gset G (110 + σ.1) q) 92 = ga G 92 := g1 92 (by decide)
  have u_93 : ga (gset G (110 + σ.1) q) 93 = ga G 93 := g1 93 (by decide)
  have u_94 : ga (gset G (110 + σ.1) q) 94 = ga G 94 := g1 94 (by decide)
  have u_95 : ga (gset G (110 + σ.1) q) 95 = ga G 95 := g1 95 (by decide)
  have u_96 : ga (gset G (110 + σ.1) q) 96 = ga G 96 := g1 96 (by decide)
  have u_97 : ga (gset G (110 + σ.1) q) 97 = ga G 97 := g1 97 (by decide)
  have u_98 : ga (gset G (110 + σ.1) q) 98 = ga G 98 := g1 98 (by decide)
  have u_99 : ga (gset G (110 + σ.1) q) 99 = ga G 99 := g1 99 (by decide)
  have u_100 : ga (gset G (110 + σ.1) q) 100 = ga G 100 := g1 100 (by decide)
  have u_101 : ga (gset G (110 + σ.1) q) 101 = ga G 101 := g1 101 (by decide)
  have u_102 : ga (gset G (110 + σ.1) q) 102 = ga G 102 := g1 102 (by decide)
  have u_103 : ga (gset G (110 + σ.1) q) 103 = ga G 103 := g1 103 (by decide)
  have u_104 : ga (gset G (110 + σ.1) q) 104 = ga G 104 := g1 104 (by decide)
  have u_105 : ga (gset G (110 + σ.1) q) 105 = ga G 105 := g1 105 (by decide)
  have u_106 : ga (gset G (110 + σ.1) q) 106 = ga G 106 := g1 106 (by decide)
  have u_107 : ga (gset G (110 + σ.1) q) 107 = ga G 107 := g1 107 (by decide)
  have u_108 : ga (gset G (110 + σ.1) q) 108 = ga G 108 := g1 108 (by decide)
  have u_109 : ga (gset G (110 + σ.1) q) 109 = ga G 109 := g1 109 (by decide)
  by_cases hs : k ∈ spc
  · simp only [spc, List.mem_cons, List.not_mem_nil, or_false] at hs
    rcases hs with rfl | rfl | rfl | rfl | rfl | rfl | rfl | rfl | rfl | rfl | rfl | rfl | rfl | rfl | rfl | rfl
    all_goals simp only [lay, gg, gg2, g4, g5, g2, g3, ga7, ga19, ga29, ga36, ga38, u_1, u_2, u_3, u_4, u_5, u_7, u_8, u_9, u_74, u_10, u_11, u_12, u_13, u_14, u_15, u_16, u_17, u_18, u_19, u_20, u_21, u_22, u_23, u_24, u_25, u_26, u_27, u_28, u_29, u_30, u_31, u_32, u_33, u_34, u_35, u_36, u_37, u_38, u_39, u_52, u_54, u_62, u_64, u_72, u_84, u_85, u_86, u_87, u_88, u_89, u_90, u_91, u_92, u_93, u_94, u_95, u_96, u_97, u_98, u_99, u_100, u_101, u_102, u_103, u_104, u_105, u_106, u_107, u_108, u_109]
  · rw [lay_d _ hs, lay_d _ hs]
    by_cases h9 : k < 110
    · rw [if_pos h9, if_pos h9]
      by_cases h8 : 52 ≤ k ∧ k < 84 ∧ k % 2 = 0
      · rw [if_pos h8, if_pos h8, g1 (k + 1) (by omega)]
      · rw [if_neg h8, if_neg h8]
        rfl
    · rw [if_neg h9, if_neg h9]
theorem wsl_new {G : Gx} {σ : St} {q t : Nat} (h : okR σ = true) (ht : t < 2 ^ 31) : wsl (gset G (110 + σ.1) q) (nrole σ t) = wsl G σ ++ [(q, .inr (t, [.int 0, .int 0, .int 0, .int 0, .int 0]))] := by
  apply List.ext_getElem?
  intro i
  have hlen : (wsl G σ).length = 110 + σ.1 := by unfold wsl; simp
  by_cases hi : i < 110 + σ.1
  · rw [List.getElem?_append_left (by omega), wsl_at hi, wsl_at (σ := nrole σ t) (show i < 110 + (σ.1 + 1) by omega)]
    show some (ga (gset G (110 + σ.1) q) i, lay (gset G (110 + σ.1) q) i (va_up σ.2.1 (110 + σ.1) _ i) σ.2.2) = _
    rw [va_up_ne _ _ (by omega), gset_ne (by omega), lay_gset h hi]
  · by_cases hk : i = 110 + σ.1
    · subst hk
      rw [List.getElem?_append_right (by omega), wsl_at (σ := nrole σ t) (show 110 + σ.1 < 110 + (σ.1 + 1) by omega), hlen, Nat.sub_self]
      show some (ga (gset G (110 + σ.1) q) (110 + σ.1), lay (gset G (110 + σ.1) q) (110 + σ.1) (va_up σ.2.1 (110 + σ.1) _ (110 + σ.1)) σ.2.2) = some (q, _)
      rw [va_up_self, gset_self, lay_role _ (by omega)]
      simp [nI_clamp ht]
    · rw [List.getElem?_eq_none (by unfold wsl nrole; simp; omega), List.getElem?_eq_none (by simp [hlen]; omega)]
section V5
variable {X : Xx} {G : Gx} {cc : ByteArray} {own : String} {nL d cells slots pc : Nat} {σ : St} {lv : List (Nat × Value)} {rest : List Value}
theorem V_widen {k n : Nat} {st : List Value} (h1 : cells ≤ k) (h2 : slots ≤ n) (kk : V X G nL k n σ pc lv st) : V X G nL cells slots σ pc lv st := fun H locs ls hH hl => W.widen h1 h2 (kk H locs ls hH hl)
theorem V_newR (C : Ck X G cc own nL d) {ci idx : Nat} {Cn : String} {T : u_T} (ty : Nat → FieldType) (hty : ∀ k, k < 5 → parseFieldDescriptor (T k).2.2.1 = some (ty k)) (hint : ∀ j, j < 5 → ty j = .int) (hok : okR σ = true) (hci : ci < 2 ^ 31) (hc : vwCl[ci]? = some (Cn, T, 5)) (hin : ∀ w ∈ u_ws Cn T 5, w ∈ gtb) (hcl : Cond.classLink own idx Cn ∈ gtb) (hinst : Cond.instantiable Cn 5 ∈ gtb) (hini : Cond.initialized Cn ∈ gtb) (hcells : cells + 1 ≤ (xR X).cells ∧ slots + 5 ≤ (xR X).slots) (hd : decode cc pc = .ok (.new idx, 3)) (k : ∀ q, V X (gset G (110 + σ.1) q) nL (cells + 1) (slots + 5) (nrole σ ci) (pc + 3) lv (.ref q :: rest)) : V X G nL cells slots σ pc lv rest := fun H locs ls hH hl => by
  refine va_new (ci := ci) (fs := [.int 0, .int 0, .int 0, .int 0, .int 0]) (C := Cn) (T := T) (N := 5) C.1 C.2.1 C.2.2.2.2.1 hin ty hty C.2.2.2.1 (C.2.2.2.2.1 _ hcl) (C.2.2.2.2.1 _ hinst) (C.2.2.2.2.1 _ hini) C.2.2.2.2.2.1.1 hH.1 hH.2.1 hH.2.2 (fun q hq => Nat.le_trans C.2.2.2.2.2.2.1 hq) hc (fun j hj => ?_) hcells.1 hcells.2 hd (fun q H1 hP hD hS => ?_)
  · rw [hint j hj]
    match j, hj with
    | 0, _ => rfl
    | 1, _ => rfl
    | 2, _ => rfl
    | 3, _ => rfl
    | 4, _ => rfl
  · exact k q H1 locs ls ⟨by rw [wsl_new hok hci]; exact hP, by rw [wsl_new hok hci]; exact hD, hS⟩ hl
theorem Ck.gset {k q : Nat} (C : Ck X G cc own nL d) : Ck X (gset G k q) cc own nL d := C
theorem V_obj (C : Ck X G cc own nL d) {idx a : Nat} (hlk : Cond.methodLink own idx Lib.objectInit ∈ gtb) (hw : Cond.instanceMethod Lib.objectInit ∈ gtb ∧ Cond.code Lib.objectInit ⟨#[0xb1]⟩ 1 none ∈ gtb) (hdd : 1 ≤ d) (hroom : (rest.map fun v => v.category).sum ≤ 8) (hd : decode cc pc = .ok (.invokespecial idx, 3)) (k : V X G nL cells slots σ (pc + 3) lv rest) : V X G nL cells slots σ pc lv (.ref a :: rest) := fun H locs ls hH hl =>
  W.objInit (rest := rest) C.1 C.2.1 C.2.2.2.1 (C.2.2.2.2.1 _ hlk) (C.2.2.2.2.1 _ hw.1) (C.2.2.2.2.1 _ hw.2) rfl (by rw [C.2.2.1]; exact hl.1) rfl hd (Nat.le_trans hdd C.2.2.2.2.2.2.2.2.1) (by
    have h2 := C.2.2.2.2.2.2.2.2.2
    show 2 * 0 + _ + 12 ≤ _
    omega) (k H locs ls hH hl)
theorem V_putF (C : Ck X G cc own nL d) {K ci j idx N : Nat} {Cn rf : String} {T : u_T} {fs : List Value} {v : Value} {ty : FieldType} (g : Nat → Int32) (ty0 : Nat → FieldType) (hty : ∀ k, k < N → parseFieldDescriptor (T k).2.2.1 = some (ty0 k)) (hnm : ∀ a, a < N → ∀ b, b < N → a ≠ b → (T a).2.1 ≠ (T b).2.1) (hK : K < 110 + σ.1) (hlay : lay G K (σ.2.1 K) σ.2.2 = .inr (ci, fs)) (hc : vwCl[ci]? = some (Cn, T, N)) (hin : ∀ w ∈ u_ws Cn T N, w ∈ gtb) (hj : j < N) (hlink : Cond.fieldLink own idx rf (T j).2.1 (T j).2.2.1 ∈ gtb) (hsame : ∀ x, (xs X).fieldFound? (T j).1 (T j).2.1 (T j).2.2.1 = some x → (xs X).fieldFound? rf (T j).2.1 (T j).2.2.1 = some x) (hfin : (T j).2.2.2 = true) (hin2 : (xM X).name = "<init>") (hdecl : (T j).1 = own) (hpd : parseFieldDescriptor (T j).2.2.1 = some ty) (hnar : narrow ty v = v) (hfit : fits ty v = true) (hjl : j < fs.length) (hlay2 : lay G K g σ.2.2 = .inr (ci, fs.set j v)) (hd : decode cc pc = .ok (.putfield idx, 3)) (k : V X G nL cells slots (σ.1, va_up σ.2.1 K g, σ.2.2) (pc + 3) lv rest) : V X G nL cells slots σ pc lv (v :: .ref (ga G K) :: rest) := fun H locs ls hH hl =>
  va_putF (D := G.1) C.1 C.2.1 C.2.2.2.2.1 hin ty0 hty hnm C.2.2.2.1 C.2.2.2.2.2.1.1 hH.1 hH.2.1 hH.2.2 K ((wsl_at hK).trans (by rw [hlay])) hc j hj (C.2.2.2.2.1 _ hlink) hsame hfin hin2 hdecl hpd hnar hfit hjl hd (fun H1 locs1 hP hD hS => k H1 locs1 ls ⟨by rw [← wsl_set hK, hlay2]; exact hP, by rw [← wsl_set hK, hlay2]; exact hD, hS⟩ hl)
theorem V_callI (C : Ck X G cc own nL d) {y : MethodName} {bytes : ByteArray} {maxL n idx d1 a : Nat} {As : List Value} {σ0 : St} {st0 : List Value} (hM : MI X.2.1 G y bytes maxL none d1 (.ref a :: As) σ none σ0) (hc : Cal y bytes maxL none n) (hi : Cond.instanceMethod y ∈ gtb) (hlk : Cond.methodLink own idx y ∈ gtb) (hy : y.name = "<init>") (hn : As.length = n) (hdd : d1 + 1 ≤ d) (hst : st0 = As.reverse ++ .ref a :: rest) (hroom : (rest.map fun v => v.category).sum ≤ 8) (hcs : cells ≤ (xR X).cells ∧ slots ≤ (xR X).slots) (hd : decode cc pc = .ok (.invokespecial idx, 3)) (k : V X G nL cells slots σ0 (pc + 3) lv rest) : V X G nL cells slots σ pc lv st0 := fun H locs ls hH hl => by
  refine V_ran (a := #[]) (o := none) k hH hl (va_runI (As := As) (b := a) (bytes := bytes) (maxL := maxL) (n := n) ⟨C.1, C.2.1, C.2.2.1, C.2.2.2.1, C.2.2.2.2.1⟩ hM ⟨callB_v C hc hlk hdd, hy, C.2.2.2.2.1 _ hi⟩ ⟨Wp_blind, Wp_pre C hH⟩ rfl hn hl.1 hst (lv_room hroom) hd hcs)
end V5
def Gsim (G G' : Gx) : Prop := G'.1 = G.1 ∧ G'.2.1 = G.2.1 ∧ G'.2.2.2 = G.2.2.2 ∧ ∀ k : Nat, k < 110 → ga G' k = ga G k
section V6
variable {X : Xx} {G : Gx} {cc : ByteArray} {own : String} {nL d cells slots pc : Nat} {σ : St} {lv : List (Nat × Value)} {rest : List Value}
theorem V_ranG {σ0 : St} {K : Nat} {st0 : List Value} {a : Array Value} (k : ∀ q : Nat, V X (gset G K q) nL (cells + 1) (slots + 5) σ0 (pc + 3) lv (.ref q :: rest)) {H : Heap} {locs : List Loc} {ls : Array Slot} (hH : Hd G σ (xs X).heap H locs) (hl : lv_has ls nL lv)
    (hr : va_Run X.1 X.2.1 X.2.2.1 (xR X) (xs X) (xm X) (xa X) (xb X) (xM X) (xc X) H locs cells slots 1 5 (F0 (xm X) pc ls st0) rest ((fun (_ : Array Value) (st : State) (oc : Outcome) (t : State) => ∃ q, oc = .returned (some (.ref q)) ∧ Wq (gset G K q) σ0 st t) a) (gA G)) :
    W X.1 X.2.1 X.2.2.1 (xR X) (xs X) (xm X) (xa X) (xb X) (xM X) (xc X) H locs cells slots X.2.2.2.2.2.2.2.2.2.2 (F0 (xm X) pc ls st0) := by
  intro T hT Y
  obtain ⟨v, st₀, t, T', L, h0, Y', hL, e1, e2, ⟨q, hv, hP1, hD1, hz, hk⟩, st⟩ := hr T hT Y
  cases hv
  rw [h0] at hz hk
  have hS := hH.2.2
  obtain ⟨t2, a1, b1⟩ := k q T'.heap (locs ++ L) ls ⟨by rw [e1]; exact hP1, hD1, ⟨Nat.le_trans hS.1 (by rw [e1]; exact hz), fun z h1 h2 => by rw [e1, hk z (Nat.lt_of_lt_of_le h1 hS.1) h2]; exact hS.2.1 z h1 h2, fun z hq => by
      rcases List.mem_append.mp hq with h | h
      · exact hS.2.2 z h
      · exact hL z h⟩⟩ hl T' rfl Y'
  exact ⟨t2, st t2 a1, b1⟩
end V6
