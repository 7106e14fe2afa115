/-! what a text comes to, changes, two parts -/
def jn (c a b : Int32) : Int32 := if c = 38 then (if a = 0 then 0 else if b = 0 then 0 else 1) else if c = 42 then a * b else if c = 43 then a + b else if c = 45 then a - b else if c = 47 then (if b = 0 then 0 else a / b) else if c = 60 then (if a < b then 1 else 0) else if c = 61 then (if a = b then 1 else 0) else if c = 62 then (if b < a then 1 else 0) else if c = 124 then (if a = 0 then (if b = 0 then 0 else 1) else 1) else (if b = 0 then 0 else a - a / b * b)
def ev1 (st : List Int32) : List Int32 := match st with
  | a :: t => (if a = 0 then 1 else 0) :: t
  | [] => []
def ev2 (c : Int32) (st : List Int32) : List Int32 := match st with
  | b :: a :: t => jn c a b :: t
  | t => t
def evs (nm : Nat → Int32) (v : Int32) (st : List Int32) : List Int32 := if 0 ≤ v then v :: st else if -100 < v then nm (-1 - v).toNatClampNeg :: st else if v = -133 then ev1 st else ev2 (-100 - v) st
def ev (nm f : Nat → Int32) : Nat → List Int32
  | 0 => []
  | k + 1 => evs nm (f k) (ev nm f k)
def txv (r : Nat → Int32) (u : Nat) (nm : Nat → Int32) : Int32 := (ev nm (fun i => r (311 + 52 * u + i)) (cn r (310 + 52 * u))).headD 0
def hld (v m : Int32) : Int32 := if v < 0 then 0 else if m < v then m else v
def wt (r : Nat → Int32) (p : Int32) : Int32 := lp (fun e s => if r (60 + 4 * e) = p then s + ((r (62 + 4 * e) - r (61 + 4 * e)) + 1) else s) (cn r 2) 0
def nmP (r : Nat → Int32) (y p : Nat) : Nat → Int32 := fun k => if k = 0 then r (220 + 3 * y) else if k = 1 then r (221 + 3 * y) else if k = 2 then r (11 + 5 * p) else if k = 3 then r (12 + 5 * p) else if k = 4 then r (10 + 5 * p) else wt r (nI p)
def nmC (r : Nat → Int32) (a b : Nat) (s : Int32) : Nat → Int32 := fun k => if k = 0 then r (13 + 5 * a) else if k = 1 then r (13 + 5 * b) else if k = 2 then r (10 + 5 * a) else if k = 3 then r (10 + 5 * b) else s
def abl (r : Nat → Int32) (y p : Nat) : Int32 := if r 310 = 0 then (if r (220 + 3 * y) < r (11 + 5 * p) then 0 else 1) else if txv r 0 (nmP r y p) = 0 then 0 else 1
def wsh (r : Nat → Int32) (y p : Nat) : Int32 := if r 414 = 0 then r (220 + 3 * y) else hld (txv r 2 (nmP r y p)) 999
def abi (d : Int32) : Int32 := if d < 0 then -d else d
def chg (r : Nat → Int32) (a b : Nat) (s : Int32) : Int32 := if r 362 = 0 then 2 + abi (r (13 + 5 * a) - r (13 + 5 * b)) else hld (txv r 1 (nmC r a b s)) 99
def mst (s v : Int32) : Int32 := if s < 0 then v else if v < s then v else s
def mxi (a b : Int32) : Int32 := if b < a then a else b
def mtP (r : Nat → Int32) (a b e f : Nat) : Bool := decide (r (60 + 4 * e) = nI a ∧ r (60 + 4 * f) = nI b ∧ ¬ r (62 + 4 * e) < mxi (r (61 + 4 * e)) (r (61 + 4 * f)) ∧ ¬ r (62 + 4 * f) < mxi (r (61 + 4 * e)) (r (61 + 4 * f)))
def meet (r : Nat → Int32) (a b : Nat) : Int32 := lp (fun e s => lp (fun f s => if mtP r a b e f = true then mst s (mxi (r (61 + 4 * e)) (r (61 + 4 * f))) else s) (cn r 2) s) (cn r 2) (-1)
def wnt (r : Nat → Int32) (a b : Nat) (s : Int32) : Int32 := if r (10 + 5 * a) = 3 ∨ r (10 + 5 * b) = 3 then 0 else if r (10 + 5 * a) = 4 ∨ r (10 + 5 * b) = 4 then chg r a b s / 2 else chg r a b s
def sdI (r : Nat → Int32) (e f : Nat) : Int32 := if (r (63 + 4 * e) &&& 1) = (r (63 + 4 * f) >>> ((1 : Int32) &&& 31)) then 1 else 0
def nrP (r : Nat → Int32) (a b e f : Nat) : Bool := decide (r (60 + 4 * e) = nI a ∧ r (60 + 4 * f) = nI b ∧ r (62 + 4 * e) < r (61 + 4 * f) ∧ (r (61 + 4 * f) - r (62 + 4 * e)) - 1 < wnt r a b (sdI r e f))
def near (r : Nat → Int32) (a b : Nat) : Int32 := lp (fun e s => lp (fun f s => if nrP r a b e f = true then mst s (r (61 + 4 * f)) else s) (cn r 2) s) (cn r 2) (-1)
def und (k : Int32) : Bool := decide (k = 1 ∨ k = 3 ∨ k = 5)
def apt (r : Nat → Int32) (a b : Nat) : Bool := (decide (r (10 + 5 * a) = 3) && !und (r (10 + 5 * b))) || (decide (r (10 + 5 * b) = 3) && !und (r (10 + 5 * a)))
def cmb (x y : Int32) : Int32 := if x < 0 then y else if y < 0 then x else if y < x then y else x
def lnr (r : Nat → Int32) (a b : Nat) : Int32 := if apt r a b = true then -1 else if meet r a b < 0 then cmb (near r a b) (near r b a) else meet r a b
def hwr (r : Nat → Int32) (a b : Nat) : Int32 := if apt r a b = true then 0 else if meet r a b < 0 then (if lnr r a b < 0 then 0 else 3) else 2
def hws (r : Nat → Int32) (a b : Nat) : Int32 := if a < b then hwr r a b else hwr r b a
def lns (r : Nat → Int32) (a b : Nat) : Int32 := if a < b then lnr r a b else lnr r b a
/-- the bits of the parts with which one is barred -/
def Brd (r : Nat → Int32) (p : Nat) (v : Int32) : Prop := ∃ m : Nat, m < 1024 ∧ v = nI m ∧ ∀ q, m.testBit q = true ↔ (q < cn r 1 ∧ q ≠ p ∧ hws r p q ≠ 0)
def Laid (r bar how lin : Nat → Int32) : Prop := (∀ a b, a < cn r 1 → b < cn r 1 → a ≠ b → how (10 * a + b) = hws r a b ∧ lin (10 * a + b) = lns r a b) ∧ ∀ p, p < cn r 1 → Brd r p (bar p)
/-- what bars look at -/
def SmB (r r' : Nat → Int32) : Prop := r' 1 = r 1 ∧ r' 2 = r 2 ∧ (∀ p, p < cn r 1 → r' (10 + 5 * p) = r (10 + 5 * p) ∧ r' (13 + 5 * p) = r (13 + 5 * p)) ∧ (∀ k, 60 ≤ k → k < 60 + 4 * cn r 2 → r' k = r k) ∧ (∀ k, 362 ≤ k → k < 363 + cn r 362 → r' k = r k)
theorem cn_cong {r r' : Nat → Int32} {k : Nat} (h : r' k = r k) : cn r' k = cn r k := by unfold cn; rw [h]
theorem ev_cong {nm f g : Nat → Int32} : ∀ {n : Nat}, (∀ k, k < n → f k = g k) → ev nm f n = ev nm g n
  | 0, _ => rfl
  | n + 1, h => by
    show evs nm (f n) (ev nm f n) = evs nm (g n) (ev nm g n)
    rw [ev_cong (fun k hk => h k (Nat.lt_succ_of_lt hk)), h n (Nat.lt_succ_self n)]
theorem chg_cong {r r' : Nat → Int32} (h : SmB r r') {a b : Nat} (ha : a < cn r 1) (hb : b < cn r 1) (s : Int32) : chg r' a b s = chg r a b s := by
  obtain ⟨h1, h2, h3, h4, h5⟩ := h
  unfold chg
  rw [(h3 a ha).2, (h3 b hb).2, h5 362 (by omega) (by omega)]
  congr 2
  have e1 : nmC r' a b s = nmC r a b s := by
    unfold nmC
    rw [(h3 a ha).2, (h3 b hb).2, (h3 a ha).1, (h3 b hb).1]
  unfold txv
  have e2 : cn r' (310 + 52 * 1) = cn r (310 + 52 * 1) := cn_cong (h5 362 (by omega) (by omega))
  rw [e1, e2, ev_cong (fun k hk => h5 (311 + 52 * 1 + k) (by omega) (by show 311 + 52 * 1 + k < 363 + cn r 362; have : k < cn r 362 := hk; omega))]
theorem meet_cong {r r' : Nat → Int32} (h : SmB r r') (a b : Nat) : meet r' a b = meet r a b := by
  obtain ⟨h1, h2, h3, h4, h5⟩ := h
  have e : cn r' 2 = cn r 2 := cn_cong h2
  unfold meet
  rw [e]
  refine lp_cong (fun e he s => lp_cong (fun f hf s => ?_))
  unfold mtP
  rw [h4 (60 + 4 * e) (by omega) (by omega), h4 (60 + 4 * f) (by omega) (by omega), h4 (61 + 4 * e) (by omega) (by omega), h4 (61 + 4 * f) (by omega) (by omega), h4 (62 + 4 * e) (by omega) (by omega), h4 (62 + 4 * f) (by omega) (by omega)]
theorem near_cong {r r' : Nat → Int32} (h : SmB r r') {a b : Nat} (ha : a < cn r 1) (hb : b < cn r 1) : near r' a b = near r a b := by
  have hc := fun s => chg_cong h ha hb s
  obtain ⟨h1, h2, h3, h4, h5⟩ := h
  have e : cn r' 2 = cn r 2 := cn_cong h2
  unfold near
  rw [e]
  refine lp_cong (fun e he s => lp_cong (fun f hf s => ?_))
  unfold nrP wnt sdI
  rw [hc, (h3 a ha).1, (h3 b hb).1, h4 (60 + 4 * e) (by omega) (by omega), h4 (60 + 4 * f) (by omega) (by omega), h4 (61 + 4 * f) (by omega) (by omega), h4 (62 + 4 * e) (by omega) (by omega), h4 (63 + 4 * e) (by omega) (by omega), h4 (63 + 4 * f) (by omega) (by omega)]
theorem apt_cong {r r' : Nat → Int32} (h : SmB r r') {a b : Nat} (ha : a < cn r 1) (hb : b < cn r 1) : apt r' a b = apt r a b := by
  unfold apt
  rw [(h.2.2.1 a ha).1, (h.2.2.1 b hb).1]
theorem lnr_cong {r r' : Nat → Int32} (h : SmB r r') {a b : Nat} (ha : a < cn r 1) (hb : b < cn r 1) : lnr r' a b = lnr r a b := by
  unfold lnr
  rw [apt_cong h ha hb, meet_cong h, near_cong h ha hb, near_cong h hb ha]
theorem hwr_cong {r r' : Nat → Int32} (h : SmB r r') {a b : Nat} (ha : a < cn r 1) (hb : b < cn r 1) : hwr r' a b = hwr r a b := by
  unfold hwr
  rw [apt_cong h ha hb, meet_cong h, lnr_cong h ha hb]
theorem hws_cong {r r' : Nat → Int32} (h : SmB r r') {a b : Nat} (ha : a < cn r 1) (hb : b < cn r 1) : hws r' a b = hws r a b := by
  unfold hws
  rw [hwr_cong h ha hb, hwr_cong h hb ha]
theorem lns_cong {r r' : Nat → Int32} (h : SmB r r') {a b : Nat} (ha : a < cn r 1) (hb : b < cn r 1) : lns r' a b = lns r a b := by
  unfold lns
  rw [lnr_cong h ha hb, lnr_cong h hb ha]
theorem Laid.cong {r r' bar how lin : Nat → Int32} (h : SmB r r') (hl : Laid r bar how lin) : Laid r' bar how lin := by
  have e : cn r' 1 = cn r 1 := cn_cong h.1
  refine ⟨fun a b ha hb hab => ?_, fun p hp => ?_⟩
  · rw [e] at ha hb
    rw [hws_cong h ha hb, lns_cong h ha hb]
    exact hl.1 a b ha hb hab
  · rw [e] at hp
    obtain ⟨m, hm, ev, hq⟩ := hl.2 p hp
    refine ⟨m, hm, ev, fun q => ?_⟩
    rw [hq q, e]
    constructor
    · rintro ⟨h1, h2, h3⟩
      exact ⟨h1, h2, by rw [hws_cong h hp h1]; exact h3⟩
    · rintro ⟨h1, h2, h3⟩
      exact ⟨h1, h2, by rw [hws_cong h hp h1] at h3; exact h3⟩
/-! the model -/
def MR (A : AS) (σ : St) : Prop := ar σ 84 = aR A ∧ ar σ 85 = aK A ∧ ar σ 6 2 = aI A ∧ ar σ 86 = aE A ∧ ar σ 6 27 = aTn A ∧ ar σ 105 = aT A ∧ ar σ 106 = aB A ∧ ar σ 107 = aZ A ∧ ar σ 108 = aS A ∧ (ar σ 6 4 = 0 ∨ (ar σ 6 4 = 1 ∧ Laid (aR A) (ar σ 87) (ar σ 88) (ar σ 89)))
theorem MR.fr {A : AS} {σ σ1 : St} (h : MR A σ) (hf : FrC σ σ1) : MR A σ1 := by
  unfold MR
  rw [hf.2.1, hf.1 84 (by omega) (by omega), hf.1 85 (by omega) (by omega), hf.1 86 (by omega) (by omega), hf.1 87 (by omega) (by omega), hf.1 88 (by omega) (by omega), hf.1 89 (by omega) (by omega), hf.1 105 (by omega) (by omega), hf.1 106 (by omega) (by omega), hf.1 107 (by omega) (by omega), hf.1 108 (by omega) (by omega)]
  exact h
/-! what is to be shown of each act -/
def Opn (A : AS) (σ : St) (f11 f12 : St → Option (Int32 × St)) : Prop := ∃ x A' σ1 σ2, f11 σ = some (x, σ1) ∧ f12 σ1 = some (x, σ2) ∧ Inv A' ∧ CR A' σ2 ∧ MR A' σ2 ∧ σ2.1 ≤ σ.1 + 1
theorem Opn.mk' {A : AS} {σ : St} {f11 f12 : St → Option (Int32 × St)} (x : Int32) (A' : AS) (σ1 : St) (h11 : f11 σ = some (x, σ1)) (hc : CR A' σ1) (hf : FrC σ σ1) (hn : σ1.1 ≤ σ.1 + 1) (hi : Inv A') (hM : MR A σ) (hm : ∀ σ1, MR A σ1 → ∃ σ2, f12 σ1 = some (x, σ2) ∧ MR A' σ2 ∧ FrM σ1 σ2) : Opn A σ f11 f12 := by
  obtain ⟨σ2, e, hm2, hf2⟩ := hm σ1 (hM.fr hf)
  exact ⟨x, A', σ1, σ2, h11, e, hi, hc.fr hf2, hm2, by rw [hf2.2]; exact hn⟩
/-- an error -/
theorem e_error {x : Int32} {σ : St} (h : inb x 6 = true) : f_X11_error x σ = some (-1000000 - x, fw σ 9 x.toNatClampNeg (ar σ 9 x.toNatClampNeg + 1)) := by
  unfold f_X11_error
  rw [h]
  rfl
theorem e_finds {x : Int32} {σ : St} (h : inb x 6 = true) : f_X12_finds x σ = some (-1000000 - x, fw σ 86 x.toNatClampNeg (ar σ 86 x.toNatClampNeg + 1)) := by
  unfold f_X12_finds
  rw [h]
  rfl
theorem CR.err {A : AS} {σ : St} (h : CR A σ) {k : Nat} (hk : k < 6) : CR (sE A k) (fw σ 9 k (ar σ 9 k + 1)) := by
  obtain ⟨h1, h2, h3, h4, h5, h6, h7⟩ := h
  refine ⟨h1.ag (ar_fw_ne (by omega)) (fun k _ _ => ar_fw_ne (by omega)) (fun k _ _ => ar_fw_ne (by omega)) (fun k _ _ => ar_fw_ne (by omega)) (Nat.le_refl _), fun q => (h2 q).ag (ar_fw_ne (by omega)) (fun k _ _ => ar_fw_ne (by omega)) (fun k _ _ => ar_fw_ne (by omega)) (fun k _ _ => ar_fw_ne (by omega)) (Nat.le_refl _), ?_, ?_, ?_, ?_, ?_⟩
  · rw [ar_fw_ne (by omega)]; exact h3
  · intro j hj
    rw [ar_fw_eq]
    show upd (ar σ 9) k _ j = upd (aE A) k _ j
    unfold upd
    split
    · rw [h4 k hk]
    · exact h4 j hj
  · unfold CTr
    rw [ar_fw_ne (by omega), ar_fw_ne (by omega)]
    exact h5
  · intro s hs
    rw [ar_fw_ne (by omega), ar_fw_ne (by omega), ar_fw_ne (by omega)]
    exact h6 s hs
  · unfold CSl
    simp only [rc_ar]
    rw [ar_fw_ne (by omega), ar_fw_ne (by omega), ar_fw_ne (by omega), ar_fw_ne (by omega)]
    exact h7
theorem MR.err {A : AS} {σ : St} (h : MR A σ) (k : Nat) : MR (sE A k) (fw σ 86 k (ar σ 86 k + 1)) := by
  obtain ⟨h1, h2, h3, h4, h5, h6, h7, h8, h9, h10⟩ := h
  unfold MR
  rw [ar_fw_eq, ar_fw_ne (by omega), ar_fw_ne (by omega), ar_fw_ne (by omega), ar_fw_ne (by omega), ar_fw_ne (by omega), ar_fw_ne (by omega), ar_fw_ne (by omega), ar_fw_ne (by omega), ar_fw_ne (by omega), ar_fw_ne (by omega)]
  refine ⟨h1, h2, h3, ?_, h5, h6, h7, h8, h9, h10⟩
  rw [h4]
  rfl
theorem Inv.err {A : AS} (h : Inv A) (k : Nat) : Inv (sE A k) := h
/-- both answer an error, and nothing else happens -/
theorem Opn.err {A : AS} {σ : St} {f11 f12 : St → Option (Int32 × St)} (k : Nat) (hk : k < 6) (hI : Inv A) (hC : CR A σ) (hM : MR A σ) (h11 : f11 σ = f_X11_error (nI k) σ) (h12 : ∀ σ, MR A σ → f12 σ = f_X12_finds (nI k) σ) : Opn A σ f11 f12 := by
  have hb : inb (nI k) 6 = true := inb_nI hk (by decide)
  refine Opn.mk' _ (sE A k) _ (h11.trans (e_error hb)) ?_ ?_ ?_ (hI.err k) hM (fun σ1 hm => ?_)
  · rw [nI_clamp (by omega)]; exact hC.err hk
  · rw [nI_clamp (by omega)]; exact FrC.fw (by omega)
  · exact Nat.le_succ _
  · refine ⟨_, (h12 σ1 hm).trans (e_finds hb), ?_, ?_⟩
    · rw [nI_clamp (by omega)]; exact hm.err k
    · rw [nI_clamp (by omega)]; exact FrM.fw (by omega)
