/-! PURE DONE 2: a text is done part by part, told as a function -/
def lowF (tt : Nat → Nat → Nat) (c r ln : Nat) : Nat := if ln ≤ 1 ∨ r = 0 ∨ tt c (r - 1) ≠ 0 then r else if ln ≤ 2 ∨ r = 1 ∨ tt c (r - 2) ≠ 0 then r - 1 else r - 2
theorem lowF_ok {tt : Nat → Nat → Nat} {c r ln : Nat} (ht : tt c r = 0) (hl : 1 ≤ ln ∧ ln ≤ 3) : LowP tt c r ln (lowF tt c r ln) := by
  unfold lowF
  by_cases e1 : ln ≤ 1 ∨ r = 0 ∨ tt c (r - 1) ≠ 0
  · rw [if_pos e1]
    refine ⟨Nat.le_refl r, by omega, fun i h1 h2 => by rw [show i = r by omega]; exact ht, ?_⟩
    rcases e1 with z | z | z
    · exact Or.inr (Or.inl (by omega))
    · exact Or.inl z
    · exact Or.inr (Or.inr z)
  · rw [if_neg e1]
    have e2 := not_or.mp e1
    have e3 := not_or.mp e2.2
    have e4 : tt c (r - 1) = 0 := by have := e3.2; omega
    have e5 := e3.1
    have e6 := e2.1
    have two : ∀ i, r - 1 ≤ i → i ≤ r → tt c i = 0 := fun i h1 h2 => by
      by_cases e : i = r
      · rw [e]; exact ht
      · rw [show i = r - 1 by omega]; exact e4
    by_cases e7 : ln ≤ 2 ∨ r = 1 ∨ tt c (r - 2) ≠ 0
    · rw [if_pos e7]
      refine ⟨by omega, by omega, two, ?_⟩
      rcases e7 with z | z | z
      · exact Or.inr (Or.inl (by omega))
      · exact Or.inl (by omega)
      · exact Or.inr (Or.inr (by rw [show r - 1 - 1 = r - 2 by omega]; exact z))
    · rw [if_neg e7]
      have e8 := not_or.mp e7
      have e9 := not_or.mp e8.2
      have e10 : tt c (r - 2) = 0 := by have := e9.2; omega
      have e11 := e9.1
      have e12 := e8.1
      refine ⟨by omega, by omega, fun i h1 h2 => ?_, Or.inr (Or.inl (by omega))⟩
      by_cases e : i = r - 2
      · rw [e]; exact e10
      · exact two i (by omega) h2
abbrev BSt := Nat × (Nat → Nat) × (Nat → Nat) × (Nat → Nat) × (Nat → Nat) × (Nat → Nat) × (Nat → Nat → Nat)
def GooS (C R : Nat) (tt : Nat → Nat → Nat) (s : BSt) : Prop := BunOK C R s.1 s.2.1 s.2.2.1 s.2.2.2.1 s.2.2.2.2.1 s.2.2.2.2.2.1 s.2.2.2.2.2.2 ∧ NoOp tt s.1 s.2.1 s.2.2.2.2.2.2
def ClsS (C R : Nat) (s : BSt) (aL : Int32) (aCol aRow aLen aSrt aThk aLeft : Nat → Int32) (ly : Nat → Int64) : Prop := CoatA C R s.1 s.2.1 s.2.2.1 s.2.2.2.1 s.2.2.2.2.1 s.2.2.2.2.2.1 s.2.2.2.2.2.2 aL aCol aRow aLen aSrt aThk aLeft ly
def RefS (s : BSt) (aL : Int32) (aCol aRow aLen aSrt aThk aLeft : Nat → Int32) : Prop := BunA s.1 s.2.1 s.2.2.1 s.2.2.2.1 s.2.2.2.2.1 s.2.2.2.2.2.1 s.2.2.2.2.2.2 aL aCol aRow aLen aSrt aThk aLeft
def fgN (B : Nat → Nat) (p j : Nat) : Nat := B (p + j) - 48
def stpW (tt wr : Nat → Nat → Nat) (B : Nat → Nat) (p : Nat) (s : BSt) : Option BSt :=
  if B p = 66 then (if tt (fgN B p 1) (fgN B p 2) ≠ 0 ∨ s.1 = 40 then none else some (s.1 + 1, set1 s.2.1 s.1 (fgN B p 1), set1 s.2.2.1 s.1 (fgN B p 2), set1 s.2.2.2.1 s.1 (fgN B p 3), set1 s.2.2.2.2.1 s.1 (fgN B p 4), set1 s.2.2.2.2.2.1 s.1 (fgN B p 5), layL s.2.2.2.2.2.2 s.1 (lowF tt (fgN B p 1) (fgN B p 2) (fgN B p 3)) (fgN B p 2) (fgN B p 5)))
  else if B p = 89 then some (s.1, s.2.1, s.2.2.1, s.2.2.2.1, s.2.2.2.2.1, s.2.2.2.2.2.1, itY s.1 s.2.1 wr s.2.2.2.2.2.2 (fgN B p 1))
  else some (s.1, s.2.1, s.2.2.1, s.2.2.2.1, s.2.2.2.2.1, s.2.2.2.2.2.1, itL s.1 s.2.1 (fgN B p 1) s.2.2.2.2.2.2 (fgN B p 2))
def doneW (tt wr : Nat → Nat → Nat) (B : Nat → Nat) (m : Nat) : Nat → Nat → BSt → Nat × BSt
  | 0, _, s => (0, s)
  | f + 1, p, s => if m ≤ p then (0, s) else match stpW tt wr B p s with
    | none => (0, s)
    | some s' => ((doneW tt wr B m f (p + 1 + figN (B p)) s').1 + 1, (doneW tt wr B m f (p + 1 + figN (B p)) s').2)
theorem prtO_none {C R m : Nat} {B : Nat → Nat} {p : Nat} : ∀ (l j : Nat), prtO C R m B p l j = none → ∀ i, j ≤ i → i < j + l → p + 1 + i < m ∧ okF C R (B p) i (nI (B (p + 1 + i)) - 48) = true
  | 0, j, _, i, h1, h2 => absurd h2 (by omega)
  | l + 1, j, h, i, h1, h2 => by
    rw [prtO] at h
    by_cases e : m ≤ p + 1 + j
    · rw [if_pos e] at h; cases h
    · rw [if_neg e] at h
      cases ho : okF C R (B p) j (nI (B (p + 1 + j)) - 48) with
      | false => rw [ho, if_neg (by decide)] at h; cases h
      | true =>
        rw [ho, if_pos rfl] at h
        by_cases e2 : i = j
        · rw [e2]; exact ⟨by omega, ho⟩
        · exact prtO_none l (j + 1) h i (by omega) (by omega)
theorem prtO_some {C R m : Nat} {B : Nat → Nat} {p : Nat} (hm : m ≤ 60) {v : Int32} : ∀ (l j : Nat), p + j + l ≤ 100 → prtO C R m B p l j = some v → v ≠ -9
  | 0, j, _, h => by rw [prtO] at h; cases h
  | l + 1, j, hb, h => by
    rw [prtO] at h
    by_cases e : m ≤ p + 1 + j
    · rw [if_pos e] at h
      cases h
      exact nI_ne9 (by omega)
    · rw [if_neg e] at h
      cases ho : okF C R (B p) j (nI (B (p + 1 + j)) - 48) with
      | false =>
        rw [ho, if_neg (by decide)] at h
        cases h
        exact nI_ne9 (by omega)
      | true =>
        rw [ho, if_pos rfl] at h
        exact prtO_some hm l (j + 1) (by omega) h
theorem flt_fine {C R m f p : Nat} {B : Nat → Nat} (hm : m ≤ 60) (hp : p < m) (h : flt C R m B (f + 1) p = -9) : figN (B p) ≠ 0 ∧ (∀ j, j < figN (B p) → p + 1 + j < m ∧ okF C R (B p) j (nI (B (p + 1 + j)) - 48) = true) ∧ flt C R m B f (p + 1 + figN (B p)) = -9 := by
  rw [flt, if_neg (by omega)] at h
  have h5 := figN_le (B p)
  by_cases e : figN (B p) = 0
  · rw [if_pos e] at h
    exact absurd h (nI_ne9 (by omega))
  · rw [if_neg e] at h
    cases hq : prtO C R m B p (figN (B p)) 0 with
    | some v =>
      rw [hq] at h
      exact absurd h (prtO_some hm _ _ (by omega) hq)
    | none =>
      rw [hq] at h
      exact ⟨e, fun j hj => prtO_none _ _ hq j (Nat.zero_le j) (by omega), h⟩
theorem okF_val {C R k j b : Nat} (hb : b < 256) (h : okF C R k j (nI b - 48) = true) : nI b - 48 = nI (b - 48) ∧ loF k j ≤ b - 48 ∧ b - 48 ≤ hiF C R k j := by
  have h2 := of_decide_eq_true h
  have e : (nI b - 48).toInt = (b : Int) - ((48 : Nat) : Int) := nI_subT (c := 48) (by omega) (by omega)
  rw [e] at h2
  exact ⟨nI_subN (b := 48) (by omega), by omega, by omega⟩
/-- a figure of a fine part -/
theorem fig_val {C R m p : Nat} {B : Nat → Nat} (hB : ∀ j, j < m → B j < 256) (h : ∀ j, j < figN (B p) → p + 1 + j < m ∧ okF C R (B p) j (nI (B (p + 1 + j)) - 48) = true) {j : Nat} (hj : j < figN (B p)) : p + (j + 1) < m ∧ nI (B (p + (j + 1))) - 48 = nI (fgN B p (j + 1)) ∧ loF (B p) j ≤ fgN B p (j + 1) ∧ fgN B p (j + 1) ≤ hiF C R (B p) j := by
  obtain ⟨h1, h2⟩ := h j hj
  unfold fgN
  rw [show p + (j + 1) = p + 1 + j by omega]
  exact ⟨h1, okF_val (hB _ h1) h2⟩
theorem itL_stay {n : Nat} {col : Nat → Nat} {c : Nat} {L : Nat → Nat → Nat} {s : Nat} (h : topC n col (itL n col c L s) c = none) : ∀ j, itL n col c L (s + j) = itL n col c L s
  | 0 => rfl
  | j + 1 => by
    rw [← Nat.add_assoc, itL, itL_stay h j, h]
theorem sp_stripC {C R n : Nat} (hC : C ≤ 6) (hR : R ≤ 6) (hn : n ≤ 40) {col : Nat → Nat} {L : Nat → Nat → Nat} {rem : Nat → Int32} {ly : Nat → Int64} (hS : StA C R n col L rem ly) (hz : ∀ b r, b < n → R ≤ r → L b r = 0) (h9 : ∀ b r, b < n → L b r ≤ 9) {c w : Nat} (hc : c < C) (hw : 1 ≤ w ∧ w ≤ 9) {holes : Int32} {post : Int32 → (Nat → Int32) → (Nat → Int64) → Int32 → Prop} (h : ∀ s rem' ly' holes', s ≤ w → StA C R n col (itL n col c L w) rem' ly' → post (nI s) rem' ly' holes') : wp_X7_strip (nI C) (nI R) holes rem ly (nI c) (nI w) post := by
  unfold wp_X7_strip
  refine sp_hasColumnY (by omega) hc (t10 ?_)
  refine sp_withY rfl (a := 1) (b := 9) rfl rfl (by omega) hw.1 hw.2 (t10 ?_)
  refine sp_removeGreatest hC hR hn hS hz h9 hc (by omega) (fun s rem' ly' ho' hs1 hs2 hs3 hS => ?_)
  refine h s rem' ly' ho' hs1 ?_
  rcases hs3 with z | z
  · rw [← z]; exact hS
  · have e := itL_stay z (w - s)
    rw [show s + (w - s) = w by omega] at e
    rw [e]; exact hS
theorem lostW_le {n : Nat} {col : Nat → Nat} {wr L : Nat → Nat → Nat} (hw3 : ∀ c r, wr c r ≤ 3) (c r : Nat) : lostW n col wr L c r ≤ 3 := by
  unfold lostW
  cases tpW n col L c r with
  | none => exact Nat.zero_le 3
  | some b => exact Nat.le_trans (Nat.min_le_right _ _) (hw3 c r)
theorem totY_le {C R n : Nat} {col : Nat → Nat} {wr L : Nat → Nat → Nat} (hC : C ≤ 6) (hR : R ≤ 6) (hw3 : ∀ c r, wr c r ≤ 3) (k : Nat) : totY C R n col wr L k ≤ 108 * k := by
  refine sm_le (fun i _ => ?_)
  have h1 : lostY C R n col wr (itY n col wr L i) (C * R) ≤ 3 * (C * R) := sm_le (fun j _ => lostW_le hw3 _ _)
  have := ix36 hC hR
  omega
theorem sp_yearsC {C R n : Nat} (hC : C ≤ 6) (hR : R ≤ 6) (hn : n ≤ 40) {col : Nat → Nat} {wr L : Nat → Nat → Nat} {rem : Nat → Int32} {ly : Nat → Int64} {Fz : Int32} {Fcells Fw : Nat → Int32} (hCe : CellsC C R Fz Fcells) (hW : ∀ c r, c < C → r < R → Fw (10 * c + r) = nI (wr c r)) (hw3 : ∀ c r, wr c r ≤ 3) (hS : StA C R n col L rem ly) (hz : ∀ b r, b < n → R ≤ r → L b r = 0) (h9 : ∀ b r, b < n → L b r ≤ 9) (hcol : ∀ b, b < n → col b < C) {w : Nat} (hw : 1 ≤ w ∧ w ≤ 99) {holes : Int32} {post : Int32 → (Nat → Int32) → (Nat → Int64) → Int32 → Prop} (h : ∀ rem' ly' holes', StA C R n col (itY n col wr L w) rem' ly' → post (nI (totY C R n col wr L w)) rem' ly' holes') : wp_X7_years Fz Fcells Fw holes rem ly (nI w) post := by
  unfold wp_X7_years
  refine sp_withY rfl (a := 1) (b := 99) rfl rfl (by omega) hw.1 hw.2 (t10 ?_)
  refine zu5_2 w (by omega) (fun k acc re l ho => acc = nI (totY C R n col wr L k) ∧ StA C R n col (itY n col wr L k) re l) 0 rfl (by omega) ⟨rfl, hS⟩ (fun k acc re l ho rec hk hJ hrec => ?_)
  obtain ⟨rfl, hS2⟩ := hJ
  unfold bd_X7_years_17
  refine br_le (by omega) (by omega) (fun q => ?_) (fun q => ?_)
  · have hk1 : k = w := by omega
    subst hk1
    exact h re l ho hS2
  · refine sp_weather hC hR hn hCe hW hw3 hS2 (fun b r hb hr => le_zero_of (itY_le n col wr L k b r) (hz b r hb hr)) (fun b r hb => Nat.le_trans (itY_le n col wr L k b r) (h9 b r hb)) hcol (fun re' l' ho' hS' _ => ?_)
    rw [nI_add, nI_1]
    exact hrec _ _ _ _ q ⟨rfl, hS'⟩
theorem sp_figV {m : Nat} {T : Nat → Int32} {B : Nat → Nat} (hm : m ≤ 60) (hT : ∀ j, j < m → T j = nI (B j) ∧ B j < 256) {p q : Nat} (hq : p + q < m) {v : Nat} (hv : nI (B (p + q)) - 48 = nI v) {post : Int32 → Prop} (h : post (nI v)) : wp_X5_figure (nI m) T (nI p + nI q) post := by
  rw [nI_add]
  exact sp_figure hm hT hq (by rw [hv]; exact h)
theorem sp_atV {m : Nat} {T : Nat → Int32} {B : Nat → Nat} (hm : m ≤ 60) (hT : ∀ j, j < m → T j = nI (B j) ∧ B j < 256) {p q : Nat} (hq : p + q < m) {v : Nat} (hv : nI (B (p + q)) - 48 = nI v) {post : Int32 → Prop} (h : post (nI v)) : wp_X8_at T (nI p + nI q) post := by
  rw [nI_add]
  unfold wp_X8_at
  refine ⟨vp_in_nI (by omega) (by omega), ?_⟩
  rw [nI_clamp (by omega), (hT _ hq).1, hv]
  exact h
