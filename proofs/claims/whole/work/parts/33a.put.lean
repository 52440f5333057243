/-! PURE PUT: a bundle comes to lie -/
theorem vL_at {f : Nat → Int64} {k : Nat} {x : Int64} : vp_updL f k x k = x := if_pos rfl
theorem vL_ne {f : Nat → Int64} {k j : Nat} {x : Int64} (h : j ≠ k) : vp_updL f k x j = f j := if_neg h
theorem up_at {f : Nat → Int32} {k : Nat} {x : Int32} : upd f k x k = x := if_pos rfl
theorem up_ne {f : Nat → Int32} {k j : Nat} {x : Int32} (h : j ≠ k) : upd f k x j = f j := if_neg h
theorem nI_subT {b c : Nat} (hb : b < 2 ^ 30) (hc : c < 2 ^ 30) : (nI b - nI c).toInt = (b : Int) - (c : Int) := by
  rw [Int32.toInt_sub, nI_toInt (by omega), nI_toInt (by omega)]
  exact Int.bmod_eq_of_le (by omega) (by omega)
theorem br_sub {l r k : Nat} {A B : Prop} (hl : l < 2 ^ 30) (hr : r < 2 ^ 30) (hk : k < 2 ^ 30) (h1 : l + k ≤ r → A) (h2 : r < l + k → B) : (nI l ≤ nI r - nI k → A) ∧ (¬ nI l ≤ nI r - nI k → B) := by
  have e : nI l ≤ nI r - nI k ↔ l + k ≤ r := by
    rw [Int32.le_iff_toInt_le, nI_subT hr hk, nI_toInt (by omega)]
    omega
  rw [e]
  exact ⟨h1, fun z => h2 (by omega)⟩
theorem nI_inj {a b : Nat} (ha : a < 2 ^ 31) (hb : b < 2 ^ 31) (h : nI a = nI b) : a = b := by
  have e := congrArg Int32.toInt h
  rw [nI_toInt ha, nI_toInt hb] at e
  omega
/-- the run of rows that a bundle covers -/
def LowP (tt : Nat → Nat → Nat) (c r ln low : Nat) : Prop := low ≤ r ∧ r < low + ln ∧ (∀ i, low ≤ i → i ≤ r → tt c i = 0) ∧ (low = 0 ∨ low + ln = r + 1 ∨ tt c (low - 1) ≠ 0)
def set1 (f : Nat → Nat) (n v : Nat) : Nat → Nat := fun b => if b = n then v else f b
def layL (L : Nat → Nat → Nat) (n low r tk : Nat) : Nat → Nat → Nat := fun b i => if b = n then (if low ≤ i ∧ i ≤ r then tk else 0) else L b i
theorem sp_lowestRow {C R lap : Nat} {tt : Nat → Nat → Nat} {Fc Fr Fs : Int32} {Ft : Nat → Int32} (hRo : RoofC C R lap tt Fc Fr Fs Ft) {c r ln : Nat} (hc : c < C) (hr : r < R) (ht : tt c r = 0) (hl : 1 ≤ ln ∧ ln ≤ 3) {post : Int32 → Prop} (h : ∀ low, LowP tt c r ln low → post (nI low)) : wp_X3_lowestRow Ft (nI c) (nI r) (nI ln) post := by
  have hR6 : R ≤ 6 := hRo.2.2.2.1
  unfold wp_X3_lowestRow
  refine zd2_2 r (by omega) (fun k a => a = nI k ∧ k ≤ r ∧ r < k + ln ∧ ∀ i, k ≤ i → i ≤ r → tt c i = 0) r (nI_m1 r) (Nat.le_refl r) ⟨rfl, Nat.le_refl r, by omega, fun i h1 h2 => by rw [show i = r by omega]; exact ht⟩ (fun a rec hJ => ?_) (fun k a rec hk hJ hrec => ?_)
  · obtain ⟨rfl, h1, h2, h3⟩ := hJ
    unfold bd_X3_lowestRow_8
    exact neg_yes (h 0 ⟨h1, h2, h3, Or.inl rfl⟩)
  · obtain ⟨rfl, h1, h2, h3⟩ := hJ
    unfold bd_X3_lowestRow_8
    refine neg_no (by omega) (br_sub (by omega) (by omega) (by omega) (fun q => h (k + 1) ⟨h1, h2, h3, Or.inr (Or.inl (by omega))⟩) (fun q => sp_cellOf ?_))
    refine sp_isOpening hRo hc (show k < R by omega) (fun z => f01 (hrec _ ⟨rfl, by omega, q, fun i h4 h5 => ?_⟩)) (fun z => t01 (h (k + 1) ⟨h1, h2, h3, Or.inr (Or.inr z)⟩))
    by_cases e : i = k
    · rw [e]; exact z
    · exact h3 i (by omega) h5
theorem bunA_add {n : Nat} {col row len srt thk : Nat → Nat} {L : Nat → Nat → Nat} {aCol aRow aLen aSrt aThk aLeft aLeft' : Nat → Int32} {c r ln st tk low : Nat} (h : BunA n col row len srt thk L (nI n) aCol aRow aLen aSrt aThk aLeft) (hl : ∀ b i, b < n + 1 → i < 6 → aLeft' (6 * b + i) = nI (layL L n low r tk b i)) : BunA (n + 1) (set1 col n c) (set1 row n r) (set1 len n ln) (set1 srt n st) (set1 thk n tk) (layL L n low r tk) (nI (n + 1)) (upd aCol n (nI c)) (upd aRow n (nI r)) (upd aLen n (nI ln)) (upd aSrt n (nI st)) (upd aThk n (nI tk)) aLeft' := by
  obtain ⟨-, h1, h2⟩ := h
  refine ⟨rfl, fun b hb => ?_, hl⟩
  unfold set1
  by_cases e : b = n
  · subst e
    simp only [up_at, if_true, and_self]
  · rw [up_ne e, up_ne e, up_ne e, up_ne e, up_ne e, if_neg e, if_neg e, if_neg e, if_neg e, if_neg e]
    exact h1 b (by omega)
theorem lyB_add {C R n : Nat} {col : Nat → Nat} {L : Nat → Nat → Nat} {a a' : Nat → Int64} {c r tk low : Nat} (hLy : LyC C R (lyB n col L) a) (hR : R ≤ 6) (htk : 1 ≤ tk) (hr : r < R) (h : ∀ j b, lb (a' j) b = (lb (a j) b || (decide (10 * c + low ≤ j ∧ j < 10 * c + (r + 1)) && decide (b = n)))) : LyC C R (lyB (n + 1) (set1 col n c) (layL L n low r tk)) a' := by
  intro c' r' hc' hr' b
  rw [h, hLy c' r' hc' hr']
  unfold lyB set1 layL
  by_cases e : b = n
  · subst e
    simp only [if_true]
    rw [decide_eq_false (Nat.lt_irrefl b), Bool.false_and, Bool.false_or, show decide True = true from rfl, Bool.and_true, decide_eq_true (Nat.lt_succ_self b), Bool.true_and]
    by_cases e1 : c = c'
    · subst e1
      rw [decide_eq_true (rfl : c = c), Bool.true_and]
      by_cases e2 : low ≤ r' ∧ r' ≤ r
      · rw [if_pos e2, decide_eq_true (by omega), decide_eq_true (by omega)]
      · rw [if_neg e2, decide_eq_false (by omega), decide_eq_false (by omega)]
    · rw [decide_eq_false e1, Bool.false_and, decide_eq_false (by omega)]
  · simp only [if_neg e]
    rw [decide_eq_false e, Bool.and_false, Bool.or_false]
    by_cases e1 : b < n
    · rw [decide_eq_true e1, decide_eq_true (show b < n + 1 by omega)]
    · rw [decide_eq_false e1, decide_eq_false (show ¬ b < n + 1 by omega)]
theorem layL_left {n : Nat} {L : Nat → Nat → Nat} {g g' : Nat → Int32} {low r tk : Nat} (hr : r < 6) (h1 : ∀ b i, b < n → i < 6 → g (6 * b + i) = nI (L b i)) (h2 : ∀ i, i < 6 → g (6 * n + i) = nI 0) (h3 : ∀ j, g' j = if 6 * n + low ≤ j ∧ j < 6 * n + (r + 1) then nI tk else g j) : ∀ b i, b < n + 1 → i < 6 → g' (6 * b + i) = nI (layL L n low r tk b i) := by
  intro b i hb hi
  rw [h3]
  unfold layL
  by_cases e : b = n
  · subst e
    rw [if_pos rfl]
    by_cases e2 : low ≤ i ∧ i ≤ r
    · rw [if_pos e2, if_pos (by omega)]
    · rw [if_neg e2, if_neg (by omega)]; exact h2 i hi
  · rw [if_neg e, if_neg (by omega)]; exact h1 b i (by omega) hi
theorem sp_add {C R lap n : Nat} {tt : Nat → Nat → Nat} {Fc Fr Fs : Int32} {Ft : Nat → Int32} (hRo : RoofC C R lap tt Fc Fr Fs Ft) {col row len srt thk : Nat → Nat} {L : Nat → Nat → Nat} {aCol aRow aLen aSrt aThk aLeft : Nat → Int32} {a : Nat → Int64} (hA : CoatA C R n col row len srt thk L (nI n) aCol aRow aLen aSrt aThk aLeft a) (hn : n < 40) {c r ln st tk : Nat} (hc : c < C) (hr : r < R) (ht : tt c r = 0) (hl : 1 ≤ ln ∧ ln ≤ 3) (htk : 1 ≤ tk ∧ tk ≤ 9) {post : Int32 → Int32 → (Nat → Int32) → (Nat → Int32) → (Nat → Int32) → (Nat → Int32) → (Nat → Int32) → (Nat → Int32) → (Nat → Int64) → Prop}
    (h : ∀ low aLeft' a', LowP tt c r ln low → CoatA C R (n + 1) (set1 col n c) (set1 row n r) (set1 len n ln) (set1 srt n st) (set1 thk n tk) (layL L n low r tk) (nI (n + 1)) (upd aCol n (nI c)) (upd aRow n (nI r)) (upd aLen n (nI ln)) (upd aSrt n (nI st)) (upd aThk n (nI tk)) aLeft' a' → post (nI n) (nI (n + 1)) (upd aCol n (nI c)) (upd aRow n (nI r)) (upd aLen n (nI ln)) (upd aSrt n (nI st)) (upd aThk n (nI tk)) aLeft' a') : wp_X1_add Ft (nI n) aCol aRow aLen aSrt aThk aLeft a (nI c) (nI r) (nI ln) (nI st) (nI tk) post := by
  have hC6 : C ≤ 6 := hRo.2.1
  have hR6 : R ≤ 6 := hRo.2.2.2.1
  obtain ⟨hB, hZ, hLy⟩ := hA
  unfold wp_X1_add
  have v40 : vp_in (nI n) 40 := vp_in_nI (by omega) (by omega)
  refine br_lt (b := 40) (by omega) (by omega) (fun _ => ⟨v40, v40, v40, v40, v40, ?_⟩) (fun z => absurd z (by omega))
  refine sp_lowestRow hRo hc hr ht hl (fun low hlow => ?_)
  have hlr := hlow.1
  refine zu3_1 (r + 1) (by omega) (fun k B ly => low ≤ k ∧ (∀ j, B j = if 6 * n + low ≤ j ∧ j < 6 * n + k then nI tk else aLeft j) ∧ (∀ j b, lb (ly j) b = (lb (a j) b || (decide (10 * c + low ≤ j ∧ j < 10 * c + k) && decide (b = n))))) low rfl (by omega) ⟨Nat.le_refl low, fun j => by rw [if_neg (by omega)], fun j b => by rw [decide_eq_false (show ¬ (10 * c + low ≤ j ∧ j < 10 * c + low) by omega)]; simp⟩ (fun k B ly rec hk hJ hrec => ?_)
  obtain ⟨hJ0, hJ1, hJ2⟩ := hJ
  unfold bd_X1_add_79
  refine br_lt (by omega) (by omega) (fun q => ?_) (fun q => ?_)
  · have hk1 : k = r + 1 := by omega
    subst hk1
    rw [nI_clamp (by omega), nI_1]
    refine h low B ly hlow ⟨bunA_add hB (layL_left (by omega) hB.2.2 (fun i hi => hZ n i (Nat.le_refl n) hn hi) hJ1), fun b i h1 h2 h3 => ?_, lyB_add hLy hR6 htk.1 hr hJ2⟩
    rw [hJ1, if_neg (by omega)]
    exact hZ b i (by omega) h2 h3
  · rw [nI_6']
    refine ⟨vp_in_nI (by omega) (by omega), sp_cellOf ⟨vp_in_nI (by omega) (by omega), vp_in_nI (by omega) (by omega), ?_⟩⟩
    rw [nI_1, nI_clamp (by omega), nI_clamp (by omega)]
    refine hrec _ _ (by omega) ⟨by omega, fun j => ?_, fun j b => ?_⟩
    · by_cases e : j = 6 * n + k
      · rw [e, up_at, if_pos (by omega)]
      · rw [up_ne e, hJ1]
        by_cases e2 : 6 * n + low ≤ j ∧ j < 6 * n + k
        · rw [if_pos e2, if_pos (by omega)]
        · rw [if_neg e2, if_neg (by omega)]
    · by_cases e : j = 10 * c + k
      · rw [e, vL_at, lb_or, lb_bit (by omega), hJ2, decide_eq_false (show ¬ (10 * c + low ≤ 10 * c + k ∧ 10 * c + k < 10 * c + k) by omega), decide_eq_true (show 10 * c + low ≤ 10 * c + k ∧ 10 * c + k < 10 * c + (k + 1) by omega)]
        simp
      · rw [vL_ne e, hJ2]
        by_cases e2 : 10 * c + low ≤ j ∧ j < 10 * c + k
        · rw [decide_eq_true e2, decide_eq_true (show 10 * c + low ≤ j ∧ j < 10 * c + (k + 1) by omega)]
        · rw [decide_eq_false e2, decide_eq_false (show ¬ (10 * c + low ≤ j ∧ j < 10 * c + (k + 1)) by omega)]
theorem sp_put {C R lap n : Nat} {tt : Nat → Nat → Nat} {Mc Mr Mp : Int32} {Mt : Nat → Int32} (hRo : RoofM C R lap tt Mc Mr Mp Mt) {col row len srt thk : Nat → Nat} {L : Nat → Nat → Nat} {aCol aRow aLen aSrt aThk aLeft : Nat → Int32} (hB : BunA n col row len srt thk L (nI n) aCol aRow aLen aSrt aThk aLeft) (hn : n < 80) {c r ln st tk low : Nat} (hc : c < C) (hr : r < R) (hl : 1 ≤ ln ∧ ln ≤ 3) (htk : 1 ≤ tk ∧ tk ≤ 9) (hlow : LowP tt c r ln low) {post : Int32 → (Nat → Int32) → (Nat → Int32) → (Nat → Int32) → (Nat → Int32) → (Nat → Int32) → (Nat → Int32) → Prop}
    (h : ∀ aLeft', (∀ b i, b < n + 1 → i < 6 → aLeft' (6 * b + i) = nI (layL L n low r tk b i)) → (∀ j, 6 * n + 6 ≤ j → aLeft' j = aLeft j) → post (nI (n + 1)) (upd aCol n (nI c)) (upd aRow n (nI r)) (upd aLen n (nI ln)) (upd aSrt n (nI st)) (upd aThk n (nI tk)) aLeft') : wp_X8_put (nI n) Mt aCol aRow aLen aSrt aThk aLeft (nI c) (nI r) (nI ln) (nI st) (nI tk) post := by
  have hC6 : C ≤ 6 := hRo.2.1
  have hR6 : R ≤ 6 := hRo.2.2.2.1
  obtain ⟨-, -, -, -, -, -, -, hMt, ht2⟩ := hRo
  obtain ⟨hlo1, hlo2, hlo3, hlo4⟩ := hlow
  unfold wp_X8_put
  have v80 : vp_in (nI n) 80 := vp_in_nI (by omega) (by omega)
  refine ⟨v80, v80, v80, v80, v80, ?_⟩
  refine zu2_1 6 (by omega) (fun k B => ∀ j, B j = if 6 * n ≤ j ∧ j < 6 * n + k then nI 0 else aLeft j) 0 rfl (by omega) (fun j => by rw [if_neg (by omega)]) (fun k B rec hk hJ hrec => ?_)
  unfold bd_X8_put_58
  refine br_le (a := k) (b := 6) (by omega) (by omega) (fun q => ?_) (fun q => ?_)
  · have hk6 : k = 6 := by omega
    subst hk6
    refine zd3_2 (r + 1) (by omega) (fun k f B2 => f = (if low ≤ k then 1 else 0) ∧ ∀ j, B2 j = if 6 * n + (if low ≤ k then k else low) ≤ j ∧ j < 6 * n + (r + 1) then nI tk else B j) (r + 1) ?_ (Nat.le_refl _) ⟨by rw [if_pos (by omega)], fun j => by rw [if_pos (show low ≤ r + 1 by omega), if_neg (by omega)]⟩ (fun f B2 rec2 hJ2 => ?_) (fun k f B2 rec2 hk2 hJ2 hrec2 => ?_)
    · exact (pk_m1 r).symm
    · obtain ⟨-, hB2⟩ := hJ2
      unfold bd_X8_put_90
      refine neg_yes ?_
      rw [nI_clamp (by omega), nI_1]
      refine h B2 (layL_left (low := low) (by omega) (g := fun j => if 6 * n ≤ j ∧ j < 6 * n + 6 then nI 0 else aLeft j) (fun b i h1 h2 => ?_) (fun i hi => ?_) (fun j => ?_)) (fun j hj => ?_)
      · show (if _ then _ else _) = _
        rw [if_neg (by omega)]; exact hB.2.2 b i h1 h2
      · show (if _ then _ else _) = _
        rw [if_pos (by omega)]
      · show _ = if _ then _ else (if _ then _ else _)
        rw [hB2, hJ]
        by_cases e : low ≤ 0
        · rw [if_pos e, show low = 0 by omega]
        · rw [if_neg e]
      · rw [hB2, hJ]
        by_cases e : low ≤ 0
        · rw [if_pos e, if_neg (by omega), if_neg (by omega)]
        · rw [if_neg e, if_neg (by omega), if_neg (by omega)]
    · obtain ⟨rfl, hB2⟩ := hJ2
      unfold bd_X8_put_90
      refine neg_no (by omega) (br_sub (by omega) (by omega) (by omega) (fun q2 => ?_) (fun q2 => ?_))
      · rw [nI_clamp (by omega), nI_1]
        have hkl : k < low := by omega
        have e1 : (if low ≤ k + 1 then k + 1 else low) = low := by
          by_cases e : low ≤ k + 1
          · rw [if_pos e]; omega
          · rw [if_neg e]
        rw [e1] at hB2
        refine h B2 (layL_left (low := low) (by omega) (g := fun j => if 6 * n ≤ j ∧ j < 6 * n + 6 then nI 0 else aLeft j) (fun b i h1 h2 => ?_) (fun i hi => ?_) (fun j => ?_)) (fun j hj => ?_)
        · show (if _ then _ else _) = _
          rw [if_neg (by omega)]; exact hB.2.2 b i h1 h2
        · show (if _ then _ else _) = _
          rw [if_pos (by omega)]
        · show _ = if _ then _ else (if _ then _ else _)
          rw [hB2, hJ]
        · rw [hB2, hJ, if_neg (by omega), if_neg (by omega)]
      · have step0 : k < low → jn_X8_put_128 (nI n) (nI tk) (nI k) B2 rec2 0 := by
          intro hkl
          unfold jn_X8_put_128
          refine f01 ?_
          rw [nI_6]
          refine ⟨vp_in_nI (by omega) (by omega), ?_⟩
          rw [nI_clamp (by omega)]
          refine hrec2 _ _ ⟨by rw [if_neg (by omega)], fun j => ?_⟩
          have e1 : (if low ≤ k + 1 then k + 1 else low) = low := by
            by_cases e : low ≤ k + 1
            · rw [if_pos e]; omega
            · rw [if_neg e]
          rw [e1] at hB2
          rw [if_neg (show ¬ low ≤ k by omega)]
          by_cases e : j = 6 * n + k
          · rw [e, up_at, if_neg (by omega), hJ, if_pos (by omega)]; rfl
          · rw [up_ne e, hB2]
        by_cases e : low ≤ k + 1
        · rw [if_pos e]
          refine t01 ?_
          rw [nI_6]
          refine ⟨vp_in_nI (by omega) (by omega), ?_⟩
          rw [nI_clamp (by omega), hMt c k (by omega) (by omega)]
          by_cases e2 : low ≤ k
          · rw [hlo3 k e2 (by omega)]
            refine yx rfl ?_
            unfold jn_X8_put_128
            refine t01 ?_
            rw [nI_6]
            refine ⟨vp_in_nI (by omega) (by omega), ?_⟩
            rw [nI_clamp (by omega)]
            refine hrec2 _ _ ⟨by rw [if_pos e2], fun j => ?_⟩
            rw [if_pos e] at hB2
            rw [if_pos e2]
            by_cases e3 : j = 6 * n + k
            · rw [e3, up_at, if_pos (by omega)]
            · rw [up_ne e3, hB2]
              by_cases e4 : 6 * n + (k + 1) ≤ j ∧ j < 6 * n + (r + 1)
              · rw [if_pos e4, if_pos (by omega)]
              · rw [if_neg e4, if_neg (by omega)]
          · have hz : tt c k ≠ 0 := by
              rcases hlo4 with z | z | z
              · omega
              · omega
              · rw [show low - 1 = k by omega] at z; exact z
            refine nx (fun z => hz (nI_inj (b := 0) (by have := ht2 c k; omega) (by omega) z)) (step0 (by omega))
        · rw [if_neg e]
          exact f01 (step0 (by omega))
  · rw [nI_6]
    refine ⟨vp_in_nI (by omega) (by omega), ?_⟩
    rw [nI_clamp (by omega), nI_1]
    refine hrec _ q (fun j => ?_)
    by_cases e : j = 6 * n + k
    · rw [e, up_at, if_pos (by omega)]; rfl
    · rw [up_ne e, hJ]
      by_cases e2 : 6 * n ≤ j ∧ j < 6 * n + k
      · rw [if_pos e2, if_pos (by omega)]
      · rw [if_neg e2, if_neg (by omega)]
