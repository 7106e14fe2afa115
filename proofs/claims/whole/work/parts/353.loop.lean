/-! the law: its loop -/
section LL
variable {X : Xx} {d b L : Nat} {ys : Nat → Int32}
/-- what stands at the loop's head -/
def LI (X : Xx) (d b L : Nat) (ys : Nat → Int32) (G : Gx) (σ : St) (i cells slots : Nat) : Prop := Ck X G code RL 4 d ∧ Scr X G b L ys ∧ Rl σ ∧ 6 * σ.1 ≤ i ∧ cells ≤ 110 + i ∧ slots ≤ 21347 + i ∧ (xs X).heap.size ≤ gh G
theorem lw_six {L i : Nat} (hL : L ≤ 3072) (hi : i ≤ 3072) (h : ¬ (Int32.ofNat L - 6 < nI i)) : i + 6 ≤ L := by
  have h1 : (nI L).toInt = (L : Int) := nI_toInt (by omega)
  have h2 : (nI i).toInt = (i : Int) := nI_toInt (by omega)
  have h3 : ¬ ((nI L - 6).toInt < (nI i).toInt) := fun q => h (Int32.lt_iff_toInt_lt.mpr q)
  rw [Int32.toInt_sub, h1, h2, show (6 : Int32).toInt = 6 from rfl, Int.bmod_eq_of_le (by omega) (by omega)] at h3
  omega
def lwT : List Nat := [212, 235, 268, 301, 334, 387, 420, 453, 476, 509, 568, 601, 634, 697, 720, 763, 806, 839, 862, 885, 908, 921, 944, 957, 990, 1013, 1056, 1089, 1113, 1146, 1189, 1232, 1255, 1298, 1341, 1404, 1417, 1430, 1453, 1476, 1499]
set_option maxHeartbeats 4000000 in
theorem lw_case (hd : 100 ≤ d) (hL : L ≤ 3072) (hRm : 4000 ≤ (xR X).cells ∧ 40000 ≤ (xR X).slots) {G : Gx} {σ : St} {i cells slots : Nat} (I : LI X d b L ys G σ i cells slots) (hi : i + 6 ≤ L) (kk : ∀ (G2 : Gx) (σ' : St) (cells' slots' : Nat), LI X d b L ys G2 σ' (i + 6) cells' slots' → V X G2 4 cells' slots' σ' 1522 (lvL G2 b i) []) : ∀ n : Nat, n ≤ 40 → V X G 4 cells slots σ (lwT.getD n 0) (lvL G b i) [] := by
  obtain ⟨C, S, hr, hn, hc1, hc2, hg⟩ := I
  have hcs : cells ≤ (xR X).cells ∧ slots ≤ (xR X).slots := ⟨by omega, by omega⟩
  have k : ∀ σ' : St, Rl σ' → σ'.1 ≤ σ.1 + 1 → V X G 4 cells slots σ' 1522 (lvL G b i) [] := fun σ' r n' => kk G σ' cells slots ⟨C, S, r, by omega, by omega, by omega, hg⟩
  intro n hn2
  match n, hn2 with
  | 0, _ => exact lw_c0 C hd S hL hi hcs hr k
  | 1, _ => exact lw_c1 C hd S hL hi ⟨by omega, by omega⟩ hr (by omega) (fun G2 σ' hs r n' => kk G2 σ' (cells + 1) (slots + 5) ⟨C.sim hs, S.sim hs, r, by omega, by omega, by omega, by rw [show gh G2 = gh G by show G2.2.2.2.1 = G.2.2.2.1; rw [hs.2.2.1]]; exact hg⟩)
  | 2, _ => exact lw_c2 C hd S hL hi hcs hr k
  | 3, _ => exact lw_c3 C hd S hL hi hcs hr k
  | 4, _ => exact lw_c4 C hd S hL hi hcs hr k
  | 5, _ => exact lw_c5 C hd S hL hi hcs hr k
  | 6, _ => exact lw_c6 C hd S hL hi hcs hr k
  | 7, _ => exact lw_c7 C hd S hL hi hcs hr k
  | 8, _ => exact lw_c8 C hd S hL hi hcs hr k
  | 9, _ => exact lw_c9 C hd S hL hi hcs hr k
  | 10, _ => exact lw_c10 C hd S hL hi hcs hr k
  | 11, _ => exact lw_c11 C hd S hL hi hcs hr k
  | 12, _ => exact lw_c12 C hd S hL hi hcs hr k
  | 13, _ => exact lw_c13 C hd S hL hi hcs hr k
  | 14, _ => exact lw_c14 C hd S hL hi hcs hr k
  | 15, _ => exact lw_c15 C hd S hL hi hcs hr k
  | 16, _ => exact lw_c16 C hd S hL hi hcs hr k
  | 17, _ => exact lw_c17 C hd S hL hi hcs hr k
  | 18, _ => exact lw_c18 C hd S hL hi hcs hr k
  | 19, _ => exact lw_c19 C hd S hL hi hcs hr k
  | 20, _ => exact lw_c20 C hd S hL hi hcs hr k
  | 21, _ => exact lw_c21 C hd S hL hi hcs hr k
  | 22, _ => exact lw_c22 C hd S hL hi hcs hr k
  | 23, _ => exact lw_c23 C hd S hL hi hcs hr k
  | 24, _ => exact lw_c24 C hd S hL hi hcs hr k
  | 25, _ => exact lw_c25 C hd S hL hi hcs hr k
  | 26, _ => exact lw_c26 C hd S hL hi hcs hr k
  | 27, _ => exact lw_c27 C hd S hL hi hcs hr k
  | 28, _ => exact lw_c28 C hd S hL hi hcs hr k
  | 29, _ => exact lw_c29 C hd S hL hi hcs hr k
  | 30, _ => exact lw_c30 C hd S hL hi hcs hr k
  | 31, _ => exact lw_c31 C hd S hL hi hcs hr k
  | 32, _ => exact lw_c32 C hd S hL hi hcs hr k
  | 33, _ => exact lw_c33 C hd S hL hi hcs hr k
  | 34, _ => exact lw_c34 C hd S hL hi hcs hr k
  | 35, _ => exact lw_c35 C hd S hL hi hcs hr k
  | 36, _ => exact lw_c36 C hd S hL hi hcs hr k
  | 37, _ => exact lw_c37 C hd S hL hi hcs hr k
  | 38, _ => exact lw_c38 C hd S hL hi hcs hr k
  | 39, _ => exact lw_c39 C hd S hL hi hcs hr k
  | 40, _ => exact lw_c40 C hd S hL hi hcs hr k
  | n + 41, h => exact absurd h (by omega)
theorem lwT_off : ∀ n : Nat, n ≤ 40 → ∃ off : Int, (#[179, 202, 235, 268, 301, 354, 387, 420, 443, 476, 535, 568, 601, 664, 687, 730, 773, 806, 829, 852, 875, 888, 911, 924, 957, 980, 1023, 1056, 1080, 1113, 1156, 1199, 1222, 1265, 1308, 1371, 1384, 1397, 1420, 1443, 1466] : Array Int)[n]? = some off ∧ ((33 : Nat) : Int) + off = ((lwT.getD n 0 : Nat) : Int) := by
  intro n hn
  match n, hn with
  | 0, _ => exact ⟨179, rfl, rfl⟩
  | 1, _ => exact ⟨202, rfl, rfl⟩
  | 2, _ => exact ⟨235, rfl, rfl⟩
  | 3, _ => exact ⟨268, rfl, rfl⟩
  | 4, _ => exact ⟨301, rfl, rfl⟩
  | 5, _ => exact ⟨354, rfl, rfl⟩
  | 6, _ => exact ⟨387, rfl, rfl⟩
  | 7, _ => exact ⟨420, rfl, rfl⟩
  | 8, _ => exact ⟨443, rfl, rfl⟩
  | 9, _ => exact ⟨476, rfl, rfl⟩
  | 10, _ => exact ⟨535, rfl, rfl⟩
  | 11, _ => exact ⟨568, rfl, rfl⟩
  | 12, _ => exact ⟨601, rfl, rfl⟩
  | 13, _ => exact ⟨664, rfl, rfl⟩
  | 14, _ => exact ⟨687, rfl, rfl⟩
  | 15, _ => exact ⟨730, rfl, rfl⟩
  | 16, _ => exact ⟨773, rfl, rfl⟩
  | 17, _ => exact ⟨806, rfl, rfl⟩
  | 18, _ => exact ⟨829, rfl, rfl⟩
  | 19, _ => exact ⟨852, rfl, rfl⟩
  | 20, _ => exact ⟨875, rfl, rfl⟩
  | 21, _ => exact ⟨888, rfl, rfl⟩
  | 22, _ => exact ⟨911, rfl, rfl⟩
  | 23, _ => exact ⟨924, rfl, rfl⟩
  | 24, _ => exact ⟨957, rfl, rfl⟩
  | 25, _ => exact ⟨980, rfl, rfl⟩
  | 26, _ => exact ⟨1023, rfl, rfl⟩
  | 27, _ => exact ⟨1056, rfl, rfl⟩
  | 28, _ => exact ⟨1080, rfl, rfl⟩
  | 29, _ => exact ⟨1113, rfl, rfl⟩
  | 30, _ => exact ⟨1156, rfl, rfl⟩
  | 31, _ => exact ⟨1199, rfl, rfl⟩
  | 32, _ => exact ⟨1222, rfl, rfl⟩
  | 33, _ => exact ⟨1265, rfl, rfl⟩
  | 34, _ => exact ⟨1308, rfl, rfl⟩
  | 35, _ => exact ⟨1371, rfl, rfl⟩
  | 36, _ => exact ⟨1384, rfl, rfl⟩
  | 37, _ => exact ⟨1397, rfl, rfl⟩
  | 38, _ => exact ⟨1420, rfl, rfl⟩
  | 39, _ => exact ⟨1443, rfl, rfl⟩
  | 40, _ => exact ⟨1466, rfl, rfl⟩
  | n + 41, h => exact absurd h (by omega)
theorem lw_loop (hd : 100 ≤ d) (hL : L ≤ 3072) (hRm : 4000 ≤ (xR X).cells ∧ 40000 ≤ (xR X).slots) (kE : ∀ (G : Gx) (σ : St) (i cells slots : Nat), Ck X G code RL 4 d → (xs X).heap.size ≤ gh G → cells ≤ 4000 → slots ≤ 40000 → V X G 4 cells slots σ 1528 (lvL G b i) []) :
    ∀ (n i : Nat) (G : Gx) (σ : St) (cells slots : Nat), i ≤ L → L < i + n → LI X d b L ys G σ i cells slots → V X G 4 cells slots σ 18 (lvL G b i) [] := by
  intro n
  induction n with
  | zero => intro i G σ cells slots h1 h2; omega
  | succ n ih =>
    intro i G σ cells slots h1 h2 I
    have C := I.1
    have S := I.2.1
    refine V_iload_n C (n := 3) (i := 3) (dt_at dt_L_0 10 rfl) 3 rfl rfl ?_
    refine V_aload_n C (n := 0) (i := 0) (dt_at dt_L_0 11 rfl) 0 rfl rfl ?_
    refine V_sln C S (dt_at dt_L_0 12 rfl) ?_
    refine V_bipush C 6 (dt_at dt_L_0 13 rfl) (by decide) ?_
    refine V_isub C (dt_at dt_L_0 14 rfl) ?_
    refine V_icmp_gt C 1528 (dt_at dt_L_0 15 rfl) (by decide) (fun _ => kE G σ i cells slots C I.2.2.2.2.2.2 (by have := I.2.2.2.2.1; omega) (by have := I.2.2.2.2.2.1; omega)) (fun q => ?_)
    have hi : i + 6 ≤ L := lw_six hL (by omega) q
    have hin : vp_in (nI i) L := vp_in_nI (by omega) (by omega)
    refine V_aload_n C (n := 0) (i := 0) (dt_at dt_L_0 16 rfl) 0 rfl rfl ?_
    refine V_iload_n C (n := 3) (i := 3) (dt_at dt_L_0 17 rfl) 3 rfl rfl ?_
    refine V_sld C S hin (dt_at dt_L_0 18 rfl) ?_
    refine V_bipush C 63 (dt_at dt_L_0 19 rfl) (by decide) ?_
    refine V_iand C (dt_at dt_L_0 20 rfl) ?_
    have kk : ∀ (G2 : Gx) (σ' : St) (cells' slots' : Nat), LI X d b L ys G2 σ' (i + 6) cells' slots' → V X G2 4 cells' slots' σ' 1522 (lvL G2 b i) [] := fun G2 σ' c2 s2 I2 => by
      refine V_iinc I2.1 (nI (i + 6)) 3 [1, 2, 3, 0] (dt_at dt_L_17 52 rfl) rfl (nI_add i 6) (by decide) rfl ?_
      refine V_goto I2.1 18 (dt_at dt_L_17 53 rfl) (by decide) ?_
      exact ih (i + 6) G2 σ' c2 s2 hi (by omega) I2
    generalize ys (nI i).toNatClampNeg &&& 63 = x
    by_cases hx : 0 ≤ x.toInt ∧ x.toInt ≤ 40
    · obtain ⟨off, h3, h4⟩ := lwT_off x.toInt.toNat (by omega)
      exact V_tin C x.toInt.toNat (lwT.getD x.toInt.toNat 0) (dt_at dt_L_0 21 rfl) ⟨by omega, by omega⟩ h3 h4 (lw_case hd hL hRm I hi kk _ (by omega))
    · exact V_tout C 1522 (dt_at dt_L_0 21 rfl) (by omega) (by decide) (kk G σ cells slots ⟨C, S, I.2.2.1, by have := I.2.2.2.1; omega, by have := I.2.2.2.2.1; omega, by have := I.2.2.2.2.2.1; omega, I.2.2.2.2.2.2⟩)
end LL
