/-! PURE YEAR: what a year takes -/
def tpW (n : Nat) (col : Nat → Nat) (L : Nat → Nat → Nat) (c r : Nat) : Option Nat := topO (lyB n col L c r) n
def yearL (n : Nat) (col : Nat → Nat) (wr : Nat → Nat → Nat) (L : Nat → Nat → Nat) : Nat → Nat → Nat := fun b r => if tpW n col L (col b) r = some b then L b r - wr (col b) r else L b r
def lostW (n : Nat) (col : Nat → Nat) (wr : Nat → Nat → Nat) (L : Nat → Nat → Nat) (c r : Nat) : Nat := match tpW n col L c r with
  | none => 0
  | some b => min (L b r) (wr c r)
def lostY (C R n : Nat) (col : Nat → Nat) (wr : Nat → Nat → Nat) (L : Nat → Nat → Nat) (k : Nat) : Nat := sm (fun i => lostW n col wr L (i / R) (i % R)) k
/-- after the first i cells -/
def yrk (R n : Nat) (col : Nat → Nat) (wr : Nat → Nat → Nat) (L : Nat → Nat → Nat) (i : Nat) : Nat → Nat → Nat := fun b r => if r < R ∧ R * col b + r < i then yearL n col wr L b r else L b r
theorem yearL_le (n : Nat) (col : Nat → Nat) (wr : Nat → Nat → Nat) (L : Nat → Nat → Nat) : LeL (yearL n col wr L) L := by
  intro b r
  unfold yearL
  by_cases e : tpW n col L (col b) r = some b
  · rw [if_pos e]; omega
  · rw [if_neg e]; exact Nat.le_refl _
theorem yrk_le (R n : Nat) (col : Nat → Nat) (wr : Nat → Nat → Nat) (L : Nat → Nat → Nat) (i : Nat) : LeL (yrk R n col wr L i) L := by
  intro b r
  unfold yrk
  by_cases e : r < R ∧ R * col b + r < i
  · rw [if_pos e]; exact yearL_le n col wr L b r
  · rw [if_neg e]; exact Nat.le_refl _
theorem yrk_now {R n : Nat} {col : Nat → Nat} {wr : Nat → Nat → Nat} {L : Nat → Nat → Nat} {b c r : Nat} (h : col b = c) : yrk R n col wr L (R * c + r) b r = L b r := by
  unfold yrk
  rw [if_neg (by rw [h]; omega)]
theorem yrk_step {R n : Nat} {col : Nat → Nat} {wr : Nat → Nat → Nat} {L : Nat → Nat → Nat} {c r : Nat} (hr : r < R) (b' r' : Nat) : yrk R n col wr L (R * c + r + 1) b' r' = if col b' = c ∧ r' = r then yearL n col wr L b' r' else yrk R n col wr L (R * c + r) b' r' := by
  unfold yrk
  by_cases e : col b' = c ∧ r' = r
  · rw [if_pos e, if_pos ⟨by omega, by rw [e.1, e.2]; omega⟩]
  · rw [if_neg e]
    by_cases e2 : r' < R ∧ R * col b' + r' < R * c + r
    · rw [if_pos e2, if_pos ⟨e2.1, by omega⟩]
    · rw [if_neg e2, if_neg ?_]
      rintro ⟨g1, g2⟩
      have g3 : R * col b' + r' = R * c + r := by omega
      have g4 := (ix1 (c := col b') g1)
      rw [g3, (ix1 hr).1, (ix1 hr).2] at g4
      exact e ⟨g4.1.symm, g4.2.symm⟩
theorem yrk_none {R n : Nat} {col : Nat → Nat} {wr : Nat → Nat → Nat} {L : Nat → Nat → Nat} {c r : Nat} (hr : r < R) (h : tpW n col L c r = none) (b' r' : Nat) : yrk R n col wr L (R * c + r + 1) b' r' = yrk R n col wr L (R * c + r) b' r' := by
  rw [yrk_step hr]
  by_cases e : col b' = c ∧ r' = r
  · rw [if_pos e, e.2, yrk_now e.1]
    unfold yearL
    rw [e.1, h, if_neg (fun z => nomatch z)]
  · rw [if_neg e]
theorem yrk_some {R n : Nat} {col : Nat → Nat} {wr : Nat → Nat → Nat} {L : Nat → Nat → Nat} {c r b : Nat} (hr : r < R) (hb : col b = c) (h : tpW n col L c r = some b) (b' r' : Nat) : yrk R n col wr L (R * c + r + 1) b' r' = if b' = b ∧ r' = r then L b r - wr c r else yrk R n col wr L (R * c + r) b' r' := by
  rw [yrk_step hr]
  by_cases e : b' = b ∧ r' = r
  · rw [if_pos e, if_pos ⟨by rw [e.1, hb], e.2⟩, e.1, e.2]
    unfold yearL
    rw [hb, h, if_pos rfl]
  · rw [if_neg e]
    by_cases e2 : col b' = c ∧ r' = r
    · rw [if_pos e2, e2.2, yrk_now e2.1]
      unfold yearL
      rw [e2.1, h, if_neg (fun z => e ⟨(Option.some.inj z).symm, e2.2⟩)]
    · rw [if_neg e2]
theorem tp_some {n : Nat} {col : Nat → Nat} {L : Nat → Nat → Nat} {c r b : Nat} (h : tpW n col L c r = some b) : b < n ∧ col b = c ∧ 0 < L b r := by
  have := (topO_some h).2
  exact lyB_true this
theorem tp_yrk {R n : Nat} {col : Nat → Nat} {wr : Nat → Nat → Nat} {L : Nat → Nat → Nat} {c r : Nat} : tpW n col (yrk R n col wr L (R * c + r)) c r = tpW n col L c r := by
  unfold tpW
  refine topO_congr (fun b _ => lyB_lose (fun h => ?_))
  rw [yrk_now h]
theorem yrk_all {C R n : Nat} {col : Nat → Nat} {wr : Nat → Nat → Nat} {L : Nat → Nat → Nat} (hz : ∀ b r, b < n → R ≤ r → L b r = 0) (hcol : ∀ b, b < n → col b < C) {b : Nat} (hb : b < n) (r : Nat) : yrk R n col wr L (C * R) b r = yearL n col wr L b r := by
  unfold yrk
  by_cases e : r < R
  · rw [if_pos ⟨e, ix3 (hcol b hb) e⟩]
  · rw [if_neg (fun z => e z.1)]
    have h0 := hz b r hb (by omega)
    have := yearL_le n col wr L b r
    omega
theorem sp_weather {C R n : Nat} (hC : C ≤ 6) (hR : R ≤ 6) (hn : n ≤ 40) {col : Nat → Nat} {wr L : Nat → Nat → Nat} {rem : Nat → Int32} {ly : Nat → Int64} {Fz : Int32} {Fcells Fw : Nat → Int32} (hCe : CellsC C R Fz Fcells) (hW : ∀ c r, c < C → r < R → Fw (10 * c + r) = nI (wr c r)) (hw3 : ∀ c r, wr c r ≤ 3) (hS : StA C R n col L rem ly) (hz : ∀ b r, b < n → R ≤ r → L b r = 0) (h9 : ∀ b r, b < n → L b r ≤ 9) (hcol : ∀ b, b < n → col b < C) {holes : Int32} {post : Int32 → (Nat → Int32) → (Nat → Int64) → Int32 → Prop} (h : ∀ rem' ly' holes', StA C R n col (yearL n col wr L) rem' ly' → (∃ d, d ≤ 36 ∧ holes' = holes + nI d ∧ (d = 0 → ∀ b r, b < n → (0 < yearL n col wr L b r ↔ 0 < L b r))) → post (nI (lostY C R n col wr L (C * R))) rem' ly' holes') : wp_X1_weather Fz Fcells Fw holes rem ly post := by
  have h36 := ix36 hC hR
  obtain ⟨rfl, hcl⟩ := hCe
  unfold wp_X1_weather
  refine zu5_2 (C * R) (by omega) (fun k acc re l ho => acc = nI (lostY C R n col wr L k) ∧ StA C R n col (yrk R n col wr L k) re l ∧ ∃ d, d ≤ k ∧ ho = holes + nI d ∧ (d = 0 → ∀ b r, b < n → (0 < yrk R n col wr L k b r ↔ 0 < L b r))) 0 rfl (by omega) ⟨rfl, stA_congr hR hS (fun b r _ _ => if_neg (by omega)), 0, Nat.le_refl 0, (Int32.add_zero holes).symm, fun _ b r _ => by unfold yrk; rw [if_neg (by omega)]⟩ (fun k acc re l ho rec hk hJ hrec => ?_)
  obtain ⟨rfl, hJ, d, hd1, rfl, hd2⟩ := hJ
  unfold bd_X1_weather_4
  refine br_le (by omega) (by omega) (fun q => ?_) (fun q => ⟨vp_in_nI (by omega) (by omega), ?_⟩)
  · have hk1 : k = C * R := by omega
    subst hk1
    exact h _ _ _ (stA_congr hR hJ (fun b r hb _ => (yrk_all hz hcol hb r).symm)) ⟨d, by omega, rfl, fun e b r hb => by rw [← yrk_all hz hcol hb r]; exact hd2 e b r hb⟩
  · obtain ⟨i1, i2⟩ := ix2 q
    have hk0 : R * (k / R) + k % R = k := Nat.div_add_mod k R
    rw [nI_clamp (by omega), hcl k q, nI_1]
    refine ⟨vp_in_nI (by omega) (by omega), ?_⟩
    rw [nI_clamp (by omega)]
    refine sp_greatest ?_
    have htop : gtop (lb (l (10 * (k / R) + k % R))) 64 = oI (tpW n col L (k / R) (k % R)) := by
      rw [gtop_oI, topO_congr (fun b _ => hJ.2.2 _ _ i1 i2 b), topO_cut (m := n) (by omega) (fun b h1 _ => lyB_big h1)]
      have e := tp_yrk (R := R) (n := n) (col := col) (wr := wr) (L := L) (c := k / R) (r := k % R)
      rw [hk0] at e
      unfold tpW at e ⊢
      rw [e]
    rw [htop]
    cases ht : tpW n col L (k / R) (k % R) with
    | none =>
      refine yy rfl (hrec _ _ _ _ q ⟨?_, stA_congr hR hJ (fun b r _ _ => ?_), d, by omega, rfl, fun e b r hb => ?_⟩)
      · unfold lostY
        rw [sm]
        unfold lostW
        rw [ht]; rfl
      · have e := yrk_none (wr := wr) i2 ht b r
        rw [hk0] at e
        exact e
      · have e2 := yrk_none (wr := wr) i2 ht b r
        rw [hk0] at e2
        rw [e2]
        exact hd2 e b r hb
    | some b =>
      obtain ⟨t1, t2, t3⟩ := tp_some ht
      have hnow : yrk R n col wr L k b (k % R) = L b (k % R) := by
        have e := yrk_now (R := R) (n := n) (wr := wr) (L := L) (r := k % R) t2
        rw [hk0] at e
        exact e
      refine nn (nI_ne9 (by omega)) ⟨vp_in_nI (by omega) (by omega), ?_⟩
      rw [hW _ _ i1 i2]
      refine sp_lose hC hR hn hJ t1 t2 i1 i2 (by rw [hnow]; exact h9 b _ t1) (Nat.le_trans (hw3 _ _) (by omega)) (fun re' l' ho' hS' hH => ?_)
      rw [nI_add]
      refine hrec _ _ _ _ q ⟨?_, stA_congr hR hS' (fun b' r' _ _ => ?_), ?_⟩
      · rw [hnow]
        unfold lostY
        rw [sm]
        unfold lostW
        rw [ht]
      · have e := yrk_some (wr := wr) i2 t2 ht b' r'
        rw [hk0] at e
        rw [e]
        unfold loseL
        rw [hnow]
      · rcases hH with ⟨rfl, hH⟩ | rfl
        · refine ⟨d, by omega, rfl, fun e b' r' hb' => ?_⟩
          have e2 := yrk_some (wr := wr) i2 t2 ht b' r'
          rw [hk0] at e2
          rw [e2]
          by_cases e3 : b' = b ∧ r' = k % R
          · rw [if_pos e3, e3.1, e3.2]
            rw [hnow] at hH
            exact hH
          · rw [if_neg e3]
            exact hd2 e b' r' hb'
        · refine ⟨d + 1, by omega, ?_, fun e => absurd e (by omega)⟩
          rw [Int32.add_assoc, nI_1]
theorem sp_passYear {C R n : Nat} (hC : C ≤ 6) (hR : R ≤ 6) (hn : n ≤ 80) {col : Nat → Nat} {wr L : Nat → Nat → Nat} {bCol left tops : Nat → Int32} {Mw : Nat → Int32} (hW : ∀ c r, c < 6 → r < 6 → Mw (6 * c + r) = nI (wr c r)) (hw3 : ∀ c r, wr c r ≤ 3) (hcolM : ∀ b, b < n → bCol b = nI (col b) ∧ col b < C) (hL : LeftM n L left) (hz : ∀ b r, b < n → R ≤ r → L b r = 0) {post : Int32 → (Nat → Int32) → (Nat → Int32) → Prop} (h : ∀ left' tops', LeftM n (yearL n col wr L) left' → post (nI (lostY C R n col wr L (C * R))) left' tops') : wp_X8_passYear (nI C) (nI R) (nI n) Mw bCol left tops post := by
  have h36 := ix36 hC hR
  have hB : BunM n col L bCol left := ⟨hn, fun b hb => ⟨(hcolM b hb).1, by have := (hcolM b hb).2; omega⟩, hL⟩
  have hLk : ∀ i b r, b < n → r < 6 → yrk R n col wr L i b r ≤ 9 := fun i b r hb hr => Nat.le_trans (yrk_le R n col wr L i b r) (hL b r hb hr).2
  unfold wp_X8_passYear
  refine zu2_1 C (by omega) (fun k T => ∀ c r, c < k → r < R → T (6 * c + r) = oI (tpW n col L c r)) 0 rfl (by omega) (fun c r hc => absurd hc (Nat.not_lt_zero c)) (fun k T rec hk hT hrec => ?_)
  unfold bd_X8_passYear_4
  refine br_le (by omega) (by omega) (fun q => ?_) (fun q => ?_)
  · have hk1 : k = C := by omega
    subst hk1
    refine zu3_2 k (by omega) (fun c acc B => acc = nI (lostY k R n col wr L (R * c)) ∧ LeftM n (yrk R n col wr L (R * c)) B) 0 rfl (by omega) ⟨rfl, fun b r hb hr => ?_⟩ (fun c acc B rec2 hc hJ hrec2 => ?_)
    · unfold yrk; rw [if_neg (by omega)]; exact hL b r hb hr
    unfold bd_X8_passYear_57
    refine br_le (by omega) (by omega) (fun q2 => ?_) (fun q2 => ?_)
    · have hk2 : c = k := by omega
      subst hk2
      obtain ⟨rfl, hJ⟩ := hJ
      rw [Nat.mul_comm R c] at hJ ⊢
      refine h B T (fun b r hb hr => ?_)
      have e := yrk_all (wr := wr) hz (fun b hb => (hcolM b hb).2) hb r
      rw [← e]
      exact hJ b r hb hr
    · refine zu3_2 R (by omega) (fun r acc B => acc = nI (lostY k R n col wr L (R * c + r)) ∧ LeftM n (yrk R n col wr L (R * c + r)) B) 0 rfl (by omega) hJ (fun r acc B rec3 hr hJ2 hrec3 => ?_)
      obtain ⟨rfl, hJ2⟩ := hJ2
      unfold bd_X8_passYear_67
      refine br_le (by omega) (by omega) (fun q3 => ?_) (fun q3 => ?_)
      · have hr1 : r = R := by omega
        subst hr1
        rw [nI_1]
        exact hrec2 _ _ q2 ⟨by rw [Nat.mul_succ], by rw [Nat.mul_succ]; exact hJ2⟩
      · rw [nI_6]
        refine ⟨vp_in_nI (by omega) (by omega), ?_⟩
        rw [nI_clamp (show 6 * c + r < 2 ^ 31 by omega), hT c r q2 q3, nI_1, hW c r (by omega) (by omega)]
        obtain ⟨x1, x2⟩ := ix1 (c := c) q3
        cases ht : tpW n col L c r with
        | none =>
          refine yy rfl (hrec3 _ _ q3 ⟨?_, fun b r' hb hr' => ?_⟩)
          · rw [← Nat.add_assoc]
            unfold lostY
            rw [sm, x1, x2]
            unfold lostW
            rw [ht]; rfl
          · rw [← Nat.add_assoc, yrk_none q3 ht]
            exact hJ2 b r' hb hr'
        | some b =>
          obtain ⟨t1, t2, t3⟩ := tp_some ht
          have hnow : yrk R n col wr L (R * c + r) b r = L b r := yrk_now t2
          have hw := hw3 c r
          have h9 := (hL b r t1 (by omega)).2
          refine nn (nI_ne9 (by omega)) ?_
          show vp_in (6 * nI b + nI r) 480 ∧ _
          have v36 : vp_in (nI (6 * c + r)) 36 := vp_in_nI (by omega) (by omega)
          have v480 : vp_in (nI (6 * b + r)) 480 := vp_in_nI (by omega) (by omega)
          have hleft := (hJ2 b r t1 (by omega)).1
          rw [hnow] at hleft
          have fin : ∀ v, v = min (L b r) (wr c r) → jn_X8_passYear_147 (nI (lostY k R n col wr L (R * c + r))) (nI r) B rec3 (nI b) (nI v) := by
            intro v hv
            unfold jn_X8_passYear_147
            rw [nI_6]
            refine ⟨v480, v480, ?_⟩
            rw [nI_clamp (by omega), hleft, nI_subN (by omega), nI_add, nI_1]
            refine hrec3 _ _ q3 ⟨?_, fun b' r' hb' hr' => ?_⟩
            · rw [← Nat.add_assoc]
              unfold lostY
              rw [sm, x1, x2, hv]
              unfold lostW
              rw [ht]
            · rw [← Nat.add_assoc, yrk_some q3 t2 ht]
              by_cases e : b' = b ∧ r' = r
              · rw [if_pos e, e.1, e.2, up_at, show L b r - v = L b r - wr c r by omega]
                exact ⟨rfl, by omega⟩
              · rw [if_neg e, up_ne (by omega)]
                exact hJ2 b' r' hb' hr'
          rw [show oI (some b) = nI b from rfl, nI_6]
          refine ⟨v480, v36, ?_⟩
          rw [nI_clamp (show 6 * b + r < 2 ^ 31 by omega), hleft]
          refine br_le (by omega) (by omega) (fun q4 => ⟨v36, fin _ (by omega)⟩) (fun q4 => ⟨v480, fin _ (by omega)⟩)
  · refine zu2_1 R (by omega) (fun m T => (∀ c r, c < k → r < R → T (6 * c + r) = oI (tpW n col L c r)) ∧ ∀ r, r < m → T (6 * k + r) = oI (tpW n col L k r)) 0 rfl (by omega) ⟨hT, fun r hr => absurd hr (Nat.not_lt_zero r)⟩ (fun m T2 rec2 hm hJ2 hrec2 => ?_)
    obtain ⟨g1, g2⟩ := hJ2
    unfold bd_X8_passYear_14
    refine br_le (by omega) (by omega) (fun q2 => ?_) (fun q2 => ?_)
    · rw [nI_1]
      refine hrec _ q (fun c r hc hr => ?_)
      by_cases e : c = k
      · rw [e]; exact g2 r (by omega)
      · exact g1 c r (by omega) hr
    · refine sp_topOf hB (by omega) (by omega) (Nat.le_refl n) ?_
      rw [nI_6]
      refine ⟨vp_in_nI (by omega) (by omega), ?_⟩
      rw [nI_clamp (by omega), nI_1]
      refine hrec2 _ q2 ⟨fun c r hc hr => ?_, fun r hr => ?_⟩
      · rw [up_ne (by omega)]; exact g1 c r hc hr
      · by_cases e : r = m
        · rw [e, up_at]; rfl
        · rw [up_ne (by omega)]; exact g2 r (by omega)
def itY (n : Nat) (col : Nat → Nat) (wr : Nat → Nat → Nat) (L : Nat → Nat → Nat) : Nat → Nat → Nat → Nat
  | 0 => L
  | k + 1 => yearL n col wr (itY n col wr L k)
theorem itY_le (n : Nat) (col : Nat → Nat) (wr : Nat → Nat → Nat) (L : Nat → Nat → Nat) : ∀ k, LeL (itY n col wr L k) L
  | 0 => fun b r => Nat.le_refl _
  | k + 1 => fun b r => Nat.le_trans (yearL_le n col wr (itY n col wr L k) b r) (itY_le n col wr L k b r)
def totY (C R n : Nat) (col : Nat → Nat) (wr : Nat → Nat → Nat) (L : Nat → Nat → Nat) (k : Nat) : Nat := sm (fun i => lostY C R n col wr (itY n col wr L i) (C * R)) k
theorem le_zero_of {x y : Nat} (h : x ≤ y) (h0 : y = 0) : x = 0 := by omega
