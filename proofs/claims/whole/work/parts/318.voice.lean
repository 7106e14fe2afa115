/-! voices -/
def trw (f : Nat → Int32) (L : List Int32) : Nat → Int32 := fun j => if j < L.length then L.getD j 0 else f j
theorem trw_s (f : Nat → Int32) (L : List Int32) (b : Int32) : upd (trw f L) L.length b = trw f (L ++ [b]) := funext fun j => by
  unfold trw upd
  have e : (L ++ [b]).length = L.length + 1 := by simp
  rw [e]
  by_cases q : j = L.length
  · rw [if_pos q, if_pos (by omega), q]
    simp
  · rw [if_neg q]
    show (if j < L.length then L.getD j 0 else f j) = _
    by_cases q2 : j < L.length
    · rw [if_pos q2, if_pos (by omega), List.getD_eq_getElem?_getD, List.getD_eq_getElem?_getD, List.getElem?_append_left q2]
    · rw [if_neg q2, if_neg (by omega)]
theorem trw_0 (f : Nat → Int32) : trw f [] = f := funext fun j => if_neg (Nat.not_lt_zero j)
def cvo (σ : St) (L : List Int32) : St := fw (stG σ 75 (trw (ar σ 75) L)) 74 1 (nI L.length)
def mvo (σ : St) (L : List Int32) : St := fw (stG σ 105 (trw (ar σ 105) L)) 6 27 (nI L.length)
theorem len1 (L : List Int32) (b : Int32) : (L ++ [b]).length = L.length + 1 := by simp
theorem e_tr {σ : St} {L : List Int32} {b : Int32} (h : L.length < 40) : f_X7_add 74 b (cvo σ L) = some (cvo σ (L ++ [b])) := by
  rw [e_add (c := 74) (n := L.length) (by decide) (by unfold cvo; rw [ar_fw_eq, upd_eq]) (show L.length < 40 from h) (by decide)]
  unfold cvo
  rw [fw3 (by decide), trw_s, len1]
theorem m_tr {σ : St} {L : List Int32} {b : Int32} (h : L.length < 40) : f_X12_runs b (mvo σ L) = some (mvo σ (L ++ [b])) := by
  have e27 : fd (mvo σ L) 6 27 = nI L.length := by unfold mvo; rw [fd_ar, ar_fw_eq, upd_eq]
  unfold f_X12_runs
  rw [e27, if_pos (show nI L.length < 40 from nI_lt h (by decide)), inb_nI h (by decide), chk_so, nm_so, wr_nI _ (by omega), nm_so, fd_ar, ar_fw_ne (by omega), ← fd_ar, e27, nI_1]
  unfold mvo
  rw [fw3 (by decide), trw_s, len1]
theorem e_vro {σ : St} {L : List Int32} {c : Nat} (h : 110 ≤ c) : isRole (cvo σ L) c = isRole σ c := by
  unfold isRole
  rw [rc_ar, rc_ar]
  unfold cvo
  rw [ar_fw_ne (by omega), ar_stG_ne (by omega)]
  rfl
theorem e_vrc {σ : St} {L : List Int32} {c j : Nat} (h : 110 ≤ c) : rc (cvo σ L) c j = rc σ c j := by
  rw [rc_ar, rc_ar]
  unfold cvo
  rw [ar_fw_ne (by omega), ar_stG_ne (by omega)]
theorem e_vfd {σ : St} {L : List Int32} {c j : Nat} (h : 110 ≤ c) : fd (cvo σ L) c j = ar σ c j := by
  unfold cvo
  rw [fd_ar, ar_fw_ne (by omega), ar_stG_ne (by omega)]
theorem m_v28 {σ : St} {L : List Int32} : fd (mvo σ L) 6 28 = ar σ 6 28 := by
  unfold mvo; rw [fd_ar, ar_fw_eq, upd_ne (by omega), ar_stG_ne (by omega)]
theorem m_v29 {σ : St} {L : List Int32} : fd (mvo σ L) 6 29 = ar σ 6 29 := by
  unfold mvo; rw [fd_ar, ar_fw_eq, upd_ne (by omega), ar_stG_ne (by omega)]
theorem m_v30 {σ : St} {L : List Int32} : fd (mvo σ L) 6 30 = ar σ 6 30 := by
  unfold mvo; rw [fd_ar, ar_fw_eq, upd_ne (by omega), ar_stG_ne (by omega)]
def vsp (k p x : Int32) : Int32 := if k = 2 then (x + p) - 1 else if k = 4 then (x + p) - 1 else if k = 5 then (x + p) ^^^ 5 else x + p
def tsp (k : Int32) : List Int32 := if k = 2 then [30, 10] else if k = 4 then [30, 10] else if k = 5 then [60, 10] else [10]
def vdi (k w x : Int32) : Int32 := if k = 3 then (x - w) * 3 else x - w
def tdi (k : Int32) : List Int32 := if k = 3 then [40, 12] else [12]
def vws (k p w x : Int32) : Int32 := vsp k p x * 2 + vdi k w x
def tws (k : Int32) : List Int32 := [20, 11] ++ (tsp k ++ tdi k)
def vwk (k p w x : Int32) : Int32 := if k = 3 then vws k p w (x - w) else if k = 5 then vws k p w x + vsp k p 1 else if k = 1 then vws k p w x else vsp k p x * 2
def twk (k : Int32) : List Int32 := if k = 3 then [41] ++ tws k else if k = 5 then [61] ++ (tws k ++ tsp k) else if k = 1 then tws k else [11] ++ tsp k
def vbp (k p w x : Int32) : Int32 := vwk k p w x ^^^ vdi k w x
def tbp (k : Int32) : List Int32 := [13] ++ (twk k ++ tdi k)
def vbo (k p w x : Int32) : Int32 := if k = 4 then vdi k w x - vbp k p w (x + 1) else if k = 2 then vbp k p w (x + 1) else vbp k p w x
def tbo (k : Int32) : List Int32 := if k = 4 then [50] ++ (tdi k ++ ([31] ++ tbp k)) else if k = 2 then [31] ++ tbp k else tbp k
def knd (k : Int32) : Prop := k = 0 ∨ k = 1 ∨ k = 2 ∨ k = 3 ∨ k = 4 ∨ k = 5
def CV (σ : St) (c : Nat) (k p w : Int32) : Prop := 110 ≤ c ∧ isRole σ c = true ∧ rc σ c 5 = tg k ∧ ar σ c 0 = p ∧ ar σ c 4 = w
def MV (σ : St) (k p w : Int32) : Prop := ar σ 6 28 = k ∧ ar σ 6 29 = p ∧ ar σ 6 30 = w
theorem t_len {k : Int32} (h : knd k) : (tsp k).length ≤ 2 ∧ (tdi k).length ≤ 2 ∧ (tws k).length ≤ 6 ∧ (twk k).length ≤ 9 ∧ (tbp k).length ≤ 12 ∧ (tbo k).length ≤ 16 := by
  rcases h with rfl | rfl | rfl | rfl | rfl | rfl <;> decide
section VC
variable {σ : St} {c : Nat} {k p w x : Int32} {L : List Int32}
theorem ap1 (L : List Int32) (a : Int32) (M : List Int32) : (L ++ [a]) ++ M = L ++ (a :: M) := by simp
theorem e_6speak (h : CV σ c k p w) (hL : L.length < 39) : f_X6_speak c x (cvo σ L) = some (x + p, cvo σ (L ++ [10])) := by
  obtain ⟨h1, h2, h3, h4, h5⟩ := h
  unfold f_X6_speak
  rw [e_tr (by omega), bd_so, e_vro h1, h2, chk_so, e_vfd h1, h4]
theorem e_0speak (h : CV σ c k p w) (hL : L.length < 38) : f_X0_speak c x (cvo σ L) = some ((x + p) ^^^ 5, cvo σ (L ++ [60, 10])) := by
  unfold f_X0_speak
  rw [e_tr (by omega), bd_so, e_vro h.1, h.2.1, chk_so, e_6speak h (by rw [len1]; omega), bd2_so, ap1]
theorem e_2speak (h : CV σ c k p w) (hL : L.length < 38) : f_X2_speak c x (cvo σ L) = some ((x + p) - 1, cvo σ (L ++ [30, 10])) := by
  unfold f_X2_speak
  rw [e_tr (by omega), bd_so, e_vro h.1, h.2.1, chk_so, e_6speak h (by rw [len1]; omega), bd2_so, ap1]
theorem e_speak (hk : knd k) (h : CV σ c k p w) (hL : L.length < 38) : fv_X6_speak c x (cvo σ L) = some (vsp k p x, cvo σ (L ++ tsp k)) := by
  unfold fv_X6_speak vsp tsp
  rw [e_vrc h.1, h.2.2.1, e_0speak h hL, e_2speak h hL, e_6speak h (by omega)]
  rcases hk with rfl | rfl | rfl | rfl | rfl | rfl <;> rfl
theorem e_6die (h : CV σ c k p w) (hL : L.length < 39) : f_X6_die c x (cvo σ L) = some (x - w, cvo σ (L ++ [12])) := by
  obtain ⟨h1, h2, h3, h4, h5⟩ := h
  unfold f_X6_die
  rw [e_tr (by omega), bd_so, e_vro h1, h2, chk_so, e_vfd h1, h5]
theorem e_3die (h : CV σ c k p w) (hL : L.length < 38) : f_X3_die c x (cvo σ L) = some ((x - w) * 3, cvo σ (L ++ [40, 12])) := by
  unfold f_X3_die
  rw [e_tr (by omega), bd_so, e_vro h.1, h.2.1, chk_so, e_6die h (by rw [len1]; omega), bd2_so, ap1]
theorem e_die (hk : knd k) (h : CV σ c k p w) (hL : L.length < 38) : fv_X6_die c x (cvo σ L) = some (vdi k w x, cvo σ (L ++ tdi k)) := by
  unfold fv_X6_die vdi tdi
  rw [e_vrc h.1, h.2.2.1, e_3die h hL, e_6die h (by omega)]
  rcases hk with rfl | rfl | rfl | rfl | rfl | rfl <;> rfl
theorem e_9die (hk : k = 1 ∨ k = 3 ∨ k = 5) (h : CV σ c k p w) (hL : L.length < 38) : fv_X9_die c x (cvo σ L) = some (vdi k w x, cvo σ (L ++ tdi k)) := by
  unfold fv_X9_die vdi tdi
  rw [e_vrc h.1, h.2.2.1, e_3die h hL, e_6die h (by omega)]
  rcases hk with rfl | rfl | rfl <;> rfl
theorem e_1die (hk : k = 4) (h : CV σ c k p w) (hL : L.length < 38) : fv_X1_die c x (cvo σ L) = some (vdi k w x, cvo σ (L ++ tdi k)) := by
  unfold fv_X1_die vdi tdi
  rw [e_vrc h.1, h.2.2.1, e_6die h (by omega)]
  subst hk; rfl
theorem e_6walk (hk : knd k) (h : CV σ c k p w) (hL : L.length < 36) : f_X6_walk c x (cvo σ L) = some (vsp k p x * 2, cvo σ (L ++ ([11] ++ tsp k))) := by
  unfold f_X6_walk
  rw [e_tr (by omega), bd_so, e_vro h.1, h.2.1, chk_so, e_speak hk h (by rw [len1]; omega), bd2_so, ap1]
  rfl
theorem e_9walk (hk : k = 1 ∨ k = 3 ∨ k = 5) (h : CV σ c k p w) (hL : L.length < 32) : f_X9_walk c x (cvo σ L) = some (vws k p w x, cvo σ (L ++ tws k)) := by
  have hk' : knd k := by rcases hk with rfl | rfl | rfl <;> unfold knd <;> decide
  have ht := t_len hk'
  unfold f_X9_walk
  rw [e_tr (by omega), bd_so, e_vro h.1, h.2.1, chk_so, e_6walk hk' h (by rw [len1]; omega), bd2_so, e_vro h.1, h.2.1, chk_so, e_9die hk h (by simp only [List.length_append, List.length_cons, List.length_nil]; omega), bd2_so]
  unfold vws tws
  simp
theorem e_walk (hk : knd k) (h : CV σ c k p w) (hL : L.length < 24) : fv_X6_walk c x (cvo σ L) = some (vwk k p w x, cvo σ (L ++ twk k)) := by
  have ht := t_len hk
  have k3 : k = 3 → f_X3_walk c x (cvo σ L) = some (vws k p w (x - w), cvo σ (L ++ ([41] ++ tws k))) := fun e => by
    unfold f_X3_walk
    rw [e_tr (by omega), bd_so, e_vro h.1, h.2.1, chk_so, e_vfd h.1, h.2.2.2.2, e_9walk (Or.inr (Or.inl e)) h (by rw [len1]; omega), bd2_so, ap1]
    rfl
  have k0 : k = 5 → f_X0_walk c x (cvo σ L) = some (vws k p w x + vsp k p 1, cvo σ (L ++ ([61] ++ (tws k ++ tsp k)))) := fun e => by
    unfold f_X0_walk fv_X0_speak
    rw [e_tr (by omega), bd_so, e_vro h.1, h.2.1, chk_so, e_9walk (Or.inr (Or.inr e)) h (by rw [len1]; omega), bd2_so, e_vro h.1, h.2.1, chk_so, e_vrc h.1, h.2.2.1, if_pos (by rw [e]; decide), e_0speak h (by simp only [List.length_append, List.length_cons, List.length_nil]; omega), bd2_so]
    subst e
    simp [vsp, tsp]
  have k9 : k = 1 → f_X9_walk c x (cvo σ L) = some (vws k p w x, cvo σ (L ++ tws k)) := fun e => e_9walk (Or.inl e) h (by omega)
  unfold fv_X6_walk vwk twk
  rw [e_vrc h.1, h.2.2.1, e_6walk hk h (by omega)]
  rcases hk with rfl | rfl | rfl | rfl | rfl | rfl
  · rfl
  · exact k9 rfl
  · rfl
  · exact k3 rfl
  · rfl
  · exact k0 rfl
theorem e_6bow (hk : knd k) (h : CV σ c k p w) (hL : L.length < 20) : f_X6_bow c x (cvo σ L) = some (vbp k p w x, cvo σ (L ++ tbp k)) := by
  have ht := t_len hk
  unfold f_X6_bow
  rw [e_tr (by omega), bd_so, e_vro h.1, h.2.1, chk_so, e_walk hk h (by rw [len1]; omega), bd2_so, e_vro h.1, h.2.1, chk_so, e_die hk h (by simp only [List.length_append, List.length_cons, List.length_nil]; omega), bd2_so]
  unfold vbp tbp
  simp
theorem e_2bow (hk : knd k) (h : CV σ c k p w) (hL : L.length < 18) : f_X2_bow c x (cvo σ L) = some (vbp k p w (x + 1), cvo σ (L ++ ([31] ++ tbp k))) := by
  unfold f_X2_bow
  rw [e_tr (by omega), bd_so, e_vro h.1, h.2.1, chk_so, e_6bow hk h (by rw [len1]; omega), bd2_so, ap1]
  rfl
theorem e_bow (hk : knd k) (h : CV σ c k p w) (hL : L.length < 10) : fv_X6_bow c x (cvo σ L) = some (vbo k p w x, cvo σ (L ++ tbo k)) := by
  have ht := t_len hk
  have k1 : k = 4 → f_X1_bow c x (cvo σ L) = some (vdi k w x - vbp k p w (x + 1), cvo σ (L ++ ([50] ++ (tdi k ++ ([31] ++ tbp k))))) := fun e => by
    unfold f_X1_bow
    rw [e_tr (by omega), bd_so, e_vro h.1, h.2.1, chk_so, e_1die e h (by rw [len1]; omega), bd2_so, e_vro h.1, h.2.1, chk_so, e_2bow hk h (by simp only [List.length_append, List.length_cons, List.length_nil]; omega), bd2_so]
    simp
  unfold fv_X6_bow vbo tbo
  rw [e_vrc h.1, h.2.2.1, e_6bow hk h (by omega), e_2bow hk h (by omega)]
  rcases hk with rfl | rfl | rfl | rfl | rfl | rfl
  · rfl
  · rfl
  · rfl
  · rfl
  · exact k1 rfl
  · rfl
/-! the model -/
theorem m_speaks (h : MV σ k p w) (hL : L.length < 38) : f_X12_speaks x (mvo σ L) = some (vsp k p x, mvo σ (L ++ tsp k)) := by
  unfold f_X12_speaks f_X12_speaks_16 vsp tsp
  rw [m_v28, h.1, m_tr (by omega), m_tr (by omega), m_tr (by omega), bd_so, bd_so, bd_so, m_tr (by rw [len1]; omega), m_tr (by rw [len1]; omega), bd_so, bd_so, m_v29, m_v29, m_v29, h.2.1, ap1, ap1]
  by_cases q1 : k = 2
  · rw [if_pos q1, if_pos q1, if_pos q1]
  · rw [if_neg q1, if_neg q1, if_neg q1]
    by_cases q2 : k = 4
    · rw [if_pos q2, if_pos q2, if_pos q2]
    · rw [if_neg q2, if_neg q2, if_neg q2]
      by_cases q3 : k = 5
      · rw [if_pos q3, if_pos q3, if_pos q3]
      · rw [if_neg q3, if_neg q3, if_neg q3]
theorem m_dies (h : MV σ k p w) (hL : L.length < 38) : f_X12_dies x (mvo σ L) = some (vdi k w x, mvo σ (L ++ tdi k)) := by
  unfold f_X12_dies vdi tdi
  rw [m_v28, h.1, m_tr (by omega), m_tr (by omega), bd_so, bd_so, m_tr (by rw [len1]; omega), bd_so, m_v30, m_v30, h.2.2, ap1]
  by_cases q1 : k = 3
  · rw [if_pos q1, if_pos q1, if_pos q1]
  · rw [if_neg q1, if_neg q1, if_neg q1]
theorem m_walksPart (h : MV σ k p w) (hL : L.length < 36) : f_X12_walksPart x (mvo σ L) = some (vsp k p x * 2, mvo σ (L ++ ([11] ++ tsp k))) := by
  unfold f_X12_walksPart
  rw [m_tr (by omega), bd_so, m_speaks h (by rw [len1]; omega), bd2_so, ap1]
  rfl
theorem m_walksSpoken (hk : knd k) (h : MV σ k p w) (hL : L.length < 32) : f_X12_walksSpoken x (mvo σ L) = some (vws k p w x, mvo σ (L ++ tws k)) := by
  have ht := t_len hk
  unfold f_X12_walksSpoken
  rw [m_tr (by omega), bd_so, m_walksPart h (by rw [len1]; omega), bd2_so, m_dies h (by simp only [List.length_append, List.length_cons, List.length_nil]; omega), bd2_so]
  unfold vws tws
  simp
theorem m_walks (hk : knd k) (h : MV σ k p w) (hL : L.length < 24) : f_X12_walks x (mvo σ L) = some (vwk k p w x, mvo σ (L ++ twk k)) := by
  have ht := t_len hk
  unfold f_X12_walks vwk twk
  rw [m_v28, h.1]
  by_cases q1 : k = 3
  · rw [if_pos q1, if_pos q1, if_pos q1, m_tr (by omega), bd_so, m_v30, h.2.2, m_walksSpoken hk h (by rw [len1]; omega), bd2_so, ap1]; rfl
  · rw [if_neg q1, if_neg q1, if_neg q1]
    by_cases q2 : k = 5
    · rw [if_pos q2, if_pos q2, if_pos q2, m_tr (by omega), bd_so, m_walksSpoken hk h (by rw [len1]; omega), bd2_so, m_speaks h (by simp only [List.length_append, List.length_cons, List.length_nil]; omega), bd2_so]
      simp
    · rw [if_neg q2, if_neg q2, if_neg q2]
      by_cases q3 : k = 1
      · rw [if_pos q3, if_pos q3, if_pos q3, m_walksSpoken hk h (by omega), bd2_so]
      · rw [if_neg q3, if_neg q3, if_neg q3, m_walksPart h (by omega), bd2_so]
theorem m_bowsPart (hk : knd k) (h : MV σ k p w) (hL : L.length < 20) : f_X12_bowsPart x (mvo σ L) = some (vbp k p w x, mvo σ (L ++ tbp k)) := by
  have ht := t_len hk
  unfold f_X12_bowsPart
  rw [m_tr (by omega), bd_so, m_walks hk h (by rw [len1]; omega), bd2_so, m_dies h (by simp only [List.length_append, List.length_cons, List.length_nil]; omega), bd2_so]
  unfold vbp tbp
  simp
theorem m_bowsMute (hk : knd k) (h : MV σ k p w) (hL : L.length < 18) : f_X12_bowsMute x (mvo σ L) = some (vbp k p w (x + 1), mvo σ (L ++ ([31] ++ tbp k))) := by
  unfold f_X12_bowsMute
  rw [m_tr (by omega), bd_so, m_bowsPart hk h (by rw [len1]; omega), bd2_so, ap1]
  rfl
theorem m_bows (hk : knd k) (h : MV σ k p w) (hL : L.length < 10) : f_X12_bows x (mvo σ L) = some (vbo k p w x, mvo σ (L ++ tbo k)) := by
  have ht := t_len hk
  unfold f_X12_bows vbo tbo
  rw [m_v28, h.1]
  by_cases q1 : k = 4
  · rw [if_pos q1, if_pos q1, if_pos q1, m_tr (by omega), bd_so, m_dies h (by rw [len1]; omega), bd2_so, m_bowsMute hk h (by simp only [List.length_append, List.length_cons, List.length_nil]; omega), bd2_so]
    simp
  · rw [if_neg q1, if_neg q1, if_neg q1]
    by_cases q2 : k = 2
    · rw [if_pos q2, if_pos q2, if_pos q2, m_bowsMute hk h (by omega), bd2_so]
    · rw [if_neg q2, if_neg q2, if_neg q2, m_bowsPart hk h (by omega), bd2_so]
end VC
def sT (A : AS) (n : Int32) (t : Nat → Int32) : AS := (A.1, A.2.1, A.2.2.1, A.2.2.2.1, (n, t), A.2.2.2.2.2)
theorem CR.tr' {A : AS} {σ : St} {L : List Int32} (h : CR A σ) (hL : L.length < 2 ^ 31) : CR (sT A (nI L.length) (trw (aT A) L)) (cvo σ L) := by
  have hu : ∀ k, k ≠ 74 → k ≠ 75 → ar (cvo σ L) k = ar σ k := fun k h1 h2 => by unfold cvo; rw [ar_fw_ne h1, ar_stG_ne h2]
  obtain ⟨h1, h2, h3, h4, h5, h6, h7⟩ := h
  refine ⟨h1.ag (hu 1 (by omega) (by omega)) (fun k _ _ => hu k (by omega) (by omega)) (fun k _ _ => hu k (by omega) (by omega)) (fun k _ _ => hu k (by omega) (by omega)) (Nat.le_refl _), fun q => (h2 q).ag (hu 2 (by omega) (by omega)) (fun k _ _ => hu k (by omega) (by omega)) (fun k _ _ => hu k (by omega) (by omega)) (fun k _ _ => hu k (by omega) (by omega)) (Nat.le_refl _), ?_, ?_, ?_, ?_, ?_⟩
  · rw [hu 0 (by omega) (by omega)]; exact h3
  · rw [hu 9 (by omega) (by omega)]; exact h4
  · refine ⟨?_, fun i hi => ?_⟩
    · unfold cvo; rw [ar_fw_eq, upd_eq]; rfl
    · have hi' : i < L.length := by
        have e : (aTn (sT A (nI L.length) (trw (aT A) L))).toNatClampNeg = L.length := nI_clamp hL
        rw [e] at hi; exact hi
      show ar (cvo σ L) 75 i = trw (aT A) L i
      unfold cvo
      rw [ar_fw_ne (by omega), ar_stG_eq]
      unfold trw
      rw [if_pos hi', if_pos hi']
  · intro s hs; rw [hu 8 (by omega) (by omega), hu (76 + 2 * s) (by omega) (by omega), hu (77 + 2 * s) (by omega) (by omega)]; exact h6 s hs
  · unfold CSl
    simp only [rc_ar]
    rw [hu 10 (by omega) (by omega), hu 20 (by omega) (by omega), hu 4 (by omega) (by omega), hu 5 (by omega) (by omega)]
    exact h7
theorem MR.tr' {A : AS} {σ : St} {L : List Int32} (h : MR A σ) : MR (sT A (nI L.length) (trw (aT A) L)) (mvo σ L) := by
  obtain ⟨g1, g2, g3, g4, g5, g6, g7, g8, g9, g10⟩ := h
  have hu : ∀ k, k ≠ 6 → k ≠ 105 → ar (mvo σ L) k = ar σ k := fun k h1 h2 => by unfold mvo; rw [ar_fw_ne h1, ar_stG_ne h2]
  have h6 : ∀ j, j ≠ 27 → ar (mvo σ L) 6 j = ar σ 6 j := fun j hj => by unfold mvo; rw [ar_fw_eq, upd_ne hj, ar_stG_ne (by omega)]
  unfold MR
  rw [hu 84 (by omega) (by omega), hu 85 (by omega) (by omega), hu 86 (by omega) (by omega), hu 87 (by omega) (by omega), hu 88 (by omega) (by omega), hu 89 (by omega) (by omega), hu 106 (by omega) (by omega), hu 107 (by omega) (by omega), hu 108 (by omega) (by omega), h6 2 (by omega), h6 4 (by omega)]
  refine ⟨g1, g2, g3, g4, ?_, ?_, g7, g8, g9, g10⟩
  · unfold mvo; rw [ar_fw_eq, upd_eq]; rfl
  · unfold mvo; rw [ar_fw_ne (by omega), ar_stG_eq, g6]; rfl
theorem op_voice {A : AS} {σ : St} (x y z : Int32) (hI : Inv A) (hC : CR A σ) (hM : MR A σ) : Opn A σ (f_X11_voice x y z) (f_X12_voice x y z) := by
  have hi := hI.1.1
  have b1 := hi.2.1.2
  have hc := hC.1.1
  rcases wi_cases x (n := cn (aR A) 1) (by omega) with h0 | ⟨h1, p, hp, rfl⟩
  · refine Opn.err 1 (by decide) hI hC hM ?_ (fun σ hm => ?_)
    · unfold f_X11_voice f_X11_voice_19; rw [e_hasPart _ hi hc, bd_so, h0, if_pos rfl]; exact bd2_id _
    · unfold f_X12_voice f_X12_voice_17; rw [m_isPart _ hi hm.1, bd_so, h0, if_pos rfl]; exact bd2_id _
  rcases wi_cases y (n := 4) (by omega) with g0 | ⟨g1, a, ha, rfl⟩
  · refine Opn.err 1 (by decide) hI hC hM ?_ (fun σ hm => ?_)
    · unfold f_X11_voice f_X11_voice_19; rw [e_hasPart _ hi hc, bd_so, h1, if_neg (by decide), w_4, bd_so, g0, if_pos rfl]; exact bd2_id _
    · unfold f_X12_voice f_X12_voice_17; rw [m_isPart _ hi hm.1, bd_so, h1, if_neg (by decide), m_in4, bd_so, g0, if_pos rfl]; exact bd2_id _
  obtain ⟨r0, r1, r2, r3, r4, r5, r6⟩ := hC.1.2.2.2.2.2.1 p hp
  have ek : (rd σ 10 (nI p)).toNatClampNeg = rc σ 10 p := by rw [rd_ar (by omega)]; rfl
  have hk110 := (of_decide_eq_true r0).1
  have hkn : knd (aR A (10 + 5 * p)) := by
    obtain ⟨e, hl⟩ := (hI.1.2.1 p hp).1
    rw [e]
    have h6 : ∀ n, n < 6 → knd (nI n) := by unfold knd; decide
    exact h6 _ hl
  have e0 : fw σ 74 1 0 = cvo σ [] := by unfold cvo; rw [trw_0, stG_id]; rfl
  have hcv : CV σ (rc σ 10 p) (aR A (10 + 5 * p)) (nI p) (aR A (13 + 5 * p)) := ⟨hk110, r0, r6, r1, r5⟩
  have ht := t_len hkn
  have key : ∀ (v : Int32) (L : List Int32), L.length ≤ 40 → f_X11_voice (nI p) (nI a) z σ = some (v, cvo σ L) → (∀ τ, MV τ (aR A (10 + 5 * p)) (nI p) (aR A (13 + 5 * p)) → (if nI a = 0 then (bd2 (f_X12_speaks z (mvo τ [])) fun r31 σ33 => some (r31, σ33)) else if nI a = 1 then (bd2 (f_X12_walks z (mvo τ [])) fun r28 σ30 => some (r28, σ30)) else if nI a = 2 then (bd2 (f_X12_dies z (mvo τ [])) fun r25 σ27 => some (r25, σ27)) else (bd2 (f_X12_bows z (mvo τ [])) fun r22 σ24 => some (r22, σ24))) = some (v, mvo τ L)) → Opn A σ (f_X11_voice (nI p) (nI a) z) (f_X12_voice (nI p) (nI a) z) := by
    intro v L hL k11 k12
    refine Opn.mk' v (sT A (nI L.length) (trw (aT A) L)) _ k11 (hC.tr' (by omega)) ((FrC.stG (by omega)).tr (FrC.fw (by omega))) (Nat.le_succ _) ⟨hI.1, hI.2.1, ⟨L.length, hL, rfl⟩, hI.2.2.2⟩ hM (fun σ1 hm => ⟨mvo (fw (fw (fw σ1 6 28 (aR A (10 + 5 * p))) 6 29 (nI p)) 6 30 (aR A (13 + 5 * p))) L, ?_, ?_, ?_⟩)
    · unfold f_X12_voice
      rw [m_isPart _ hi hm.1, bd_so, h1, if_neg (by decide), m_in4, bd_so, g1, if_neg (by decide), nm_so, m_it0 (r := aR A) (by omega) (by rw [ar_fw_ne (by omega)]; exact hm.1), bd_so, nm_so, nm_so, m_it3 (r := aR A) (by omega) (by rw [ar_fw_ne (by omega), ar_fw_ne (by omega), ar_fw_ne (by omega)]; exact hm.1), bd_so, nm_so]
      have e6 : fw (fw (fw (fw σ1 6 27 0) 6 28 (aR A (10 + 5 * p))) 6 29 (nI p)) 6 30 (aR A (13 + 5 * p)) = mvo (fw (fw (fw σ1 6 28 (aR A (10 + 5 * p))) 6 29 (nI p)) 6 30 (aR A (13 + 5 * p))) [] := by
        unfold mvo
        rw [trw_0, stG_id]
        unfold fw
        refine Prod.ext rfl (Prod.ext (funext fun a => funext fun b => ?_) rfl)
        show va_up (va_up (va_up (va_up σ1.2.1 6 _) 6 _) 6 _) 6 _ a b = va_up (va_up (va_up (va_up σ1.2.1 6 _) 6 _) 6 _) 6 _ a b
        simp only [va_up_up, va_up_self]
        by_cases q : a = 6
        · subst q
          rw [va_up_self, va_up_self]
          unfold upd
          by_cases q27 : b = 27
          · subst q27; simp [nI_0]
          · simp [q27]
        · rw [va_up_ne _ _ q, va_up_ne _ _ q]
      rw [e6]
      refine k12 _ ⟨?_, ?_, ?_⟩
      · rw [ar_fw_eq, upd_ne (by omega), ar_fw_eq, upd_ne (by omega), ar_fw_eq, upd_eq]
      · rw [ar_fw_eq, upd_ne (by omega), ar_fw_eq, upd_eq]
      · rw [ar_fw_eq, upd_eq]
    · exact (((hm.frq (FrQ.w6 (by omega))).frq (FrQ.w6 (by omega))).frq (FrQ.w6 (by omega))).tr'
    · exact ((((FrM.fw (by omega)).tr (FrM.fw (by omega))).tr (FrM.fw (by omega))).tr (FrM.stG (by omega))).tr (FrM.fw (by omega))
  have s11 : f_X11_voice (nI p) (nI a) z σ = (if nI a = 0 then (bd2 (fv_X6_speak (rc σ 10 p) z (cvo σ [])) fun r14 σ16 => some (r14, σ16)) else if nI a = 1 then (bd2 (fv_X6_walk (rc σ 10 p) z (cvo σ [])) fun r14 σ16 => some (r14, σ16)) else if nI a = 2 then (bd2 (fv_X6_die (rc σ 10 p) z (cvo σ [])) fun r14 σ16 => some (r14, σ16)) else (bd2 (fv_X6_bow (rc σ 10 p) z (cvo σ [])) fun r14 σ16 => some (r14, σ16))) := by
    unfold f_X11_voice
    rw [e_hasPart _ hi hc, bd_so, h1, if_neg (by decide), w_4, bd_so, g1, if_neg (by decide), inb_nI (show p < 10 by omega) (by decide), chk_so, ek, r0, chk_so, nm_so, e0, e_vro hk110, r0, chk_so, chk_so, chk_so, chk_so]
  have h4 : a = 0 ∨ a = 1 ∨ a = 2 ∨ a = 3 := by omega
  have l0 : ([] : List Int32).length < 10 := by decide
  rcases h4 with rfl | rfl | rfl | rfl
  · refine key (vsp (aR A (10 + 5 * p)) (nI p) z) (tsp (aR A (10 + 5 * p))) (by omega) (s11.trans ?_) (fun τ hv => ?_)
    · rw [if_pos (by decide), e_speak hkn hcv (by omega), bd2_so]; rfl
    · rw [if_pos (by decide), m_speaks hv (by omega), bd2_so]; rfl
  · refine key (vwk (aR A (10 + 5 * p)) (nI p) (aR A (13 + 5 * p)) z) (twk (aR A (10 + 5 * p))) (by omega) (s11.trans ?_) (fun τ hv => ?_)
    · rw [if_neg (by decide), if_pos (by decide), e_walk hkn hcv (by omega), bd2_so]; rfl
    · rw [if_neg (by decide), if_pos (by decide), m_walks hkn hv (by omega), bd2_so]; rfl
  · refine key (vdi (aR A (10 + 5 * p)) (aR A (13 + 5 * p)) z) (tdi (aR A (10 + 5 * p))) (by omega) (s11.trans ?_) (fun τ hv => ?_)
    · rw [if_neg (by decide), if_neg (by decide), if_pos (by decide), e_die hkn hcv (by omega), bd2_so]; rfl
    · rw [if_neg (by decide), if_neg (by decide), if_pos (by decide), m_dies hv (by omega), bd2_so]; rfl
  · refine key (vbo (aR A (10 + 5 * p)) (nI p) (aR A (13 + 5 * p)) z) (tbo (aR A (10 + 5 * p))) (by omega) (s11.trans ?_) (fun τ hv => ?_)
    · rw [if_neg (by decide), if_neg (by decide), if_neg (by decide), e_bow hkn hcv (by omega), bd2_so]; rfl
    · rw [if_neg (by decide), if_neg (by decide), if_neg (by decide), m_bows hkn hv (by omega), bd2_so]; rfl
