/-! PURE TRY 2: the class tries a way -/
theorem lb_lN64 : ∀ s, s < 64 → ∀ k, k < 64 → lb (nI s).toInt64 k = s.testBit k := by decide +kernel
theorem shl64 : ∀ k, k < 7 → jishl (1 : Int32) (nI k) = nI (2 ^ k) := by decide +kernel
theorem p64 {k : Nat} (hk : k ≤ 6) : 2 ^ k ≤ 64 := pow2_le6 k hk
def pcN (w : Nat) : Nat := cnt (fun i => w.testBit i) 6
theorem pc_64 {w : Nat} (hw : w < 64) : cnt (lb (nI w).toInt64) 64 = pcN w := by
  unfold pcN
  rw [cnt_congr (q := fun i => w.testBit i) (fun k hk => lb_lN64 w hw k hk)]
  exact cnt_cut (by omega) (fun k hk => tb_hi (k := 6) hw hk)
def endW (C R lap : Nat) (tt : Nat → Nat → Nat) (c0 ln w : Nat) (ly : Nat → Nat → Nat → Bool) (r : Nat) : Nat := (runW C R lap tt (tryB tt R c0 ln (fun i => w.testBit i) ly) 40 c0 r).1
def opnB (tt : Nat → Nat → Nat) (c0 w k : Nat) : Bool := al (fun r => !w.testBit r || decide (tt c0 r = 0)) k
/-- whether a way does -/
def prfB (C R lap : Nat) (tt : Nat → Nat → Nat) (c0 ln : Nat) (ly : Nat → Nat → Nat → Bool) (w : Nat) : Bool := opnB tt c0 w R && al (fun r => decide (endW C R lap tt c0 ln w ly r = 100 ∨ endW C R lap tt c0 ln w ly r / 10 ≠ c0)) R
theorem al_mono {p : Nat → Bool} {k n : Nat} (h : k < n) (hp : p k = false) : al p n = false := Bool.eq_false_iff.mpr (fun z => by rw [al_iff.mp z k h] at hp; cases hp)
theorem lowF_bd {tt : Nat → Nat → Nat} {c r ln : Nat} : lowF tt c r ln ≤ r := by
  unfold lowF
  by_cases e : ln ≤ 1 ∨ r = 0 ∨ tt c (r - 1) ≠ 0
  · rw [if_pos e]; exact Nat.le_refl r
  · rw [if_neg e]
    by_cases e2 : ln ≤ 2 ∨ r = 1 ∨ tt c (r - 2) ≠ 0
    · rw [if_pos e2]; omega
    · rw [if_neg e2]; omega
theorem sp_isProofC {C R lap : Nat} {tt : Nat → Nat → Nat} {Fs : Int32} {Ft : Nat → Int32} (hRo : RoofC C R lap tt (nI C) (nI R) Fs Ft) {ly : Nat → Nat → Nat → Bool} {a : Nat → Int64} (hLy : LyC C R ly a) (hlyn : ∀ c r b, 40 ≤ b → ly c r b = false) {c0 ln w : Nat} (hc : c0 < C) (hl : 1 ≤ ln ∧ ln ≤ 3) (hw : w < 64) {passed runs e0 ea cell bundle : Int32} {t : Int64} {places : Nat → Int32} {trl : Nat → Int64} {post : Int32 → (Nat → Int32) → Int32 → Int32 → Int32 → Int32 → Int32 → Int32 → Int64 → (Nat → Int64) → Prop} (h : ∀ a1 a2 a3 a4 a5 a6 a7 a8 a9, post (if prfB C R lap tt c0 ln ly w then 1 else 0) a1 a2 a3 a4 a5 a6 a7 a8 a9) : wp_X6_isProof (nI C) (nI R) Fs Ft passed runs e0 ea cell bundle t places trl a (nI c0) (nI ln) (nI w) post := by
  have hC6 : C ≤ 6 := hRo.2.1
  have hR6 : R ≤ 6 := hRo.2.2.2.1
  unfold wp_X6_isProof
  refine zu2_1 R (by omega) (fun k l => ∀ j, j < 60 → l j = if 10 * c0 ≤ j ∧ j < 10 * c0 + k then 0 else a j) 0 rfl (by omega) (fun j hj => by rw [if_neg (by omega)]; exact cpy0 hj) (fun k l rec hk hJ hrec => ?_)
  unfold bd_X6_isProof_15
  refine br_le (by omega) (by omega) (fun q => ?_) (fun q => sp_cellOf ⟨vp_in_nI (by omega) (by omega), ?_⟩)
  · have hk1 : k = R := by omega
    subst hk1
    refine zu2_1 k (by omega) (fun m l => (∀ i, i < m → w.testBit i = true → tt c0 i = 0) ∧ ∀ c r, c < C → r < k → ∀ b, lb (l (10 * c + r)) b = if c = c0 then decide (b < m) && (w.testBit b && decide (lowF tt c0 b ln ≤ r ∧ r ≤ b)) else ly c r b) 0 rfl (by omega) ⟨fun i hi => absurd hi (Nat.not_lt_zero i), fun c r hc' hr' b => ?_⟩ (fun m l2 rec2 hm hJ2 hrec2 => ?_)
    · rw [hJ _ (by omega)]
      by_cases e : c = c0
      · subst e
        rw [if_pos (by omega), lb_zero, if_pos rfl, decide_eq_false (Nat.not_lt_zero b), Bool.false_and]
      · rw [if_neg (by omega), if_neg e]
        exact hLy c r hc' hr' b
    · obtain ⟨g1, g2⟩ := hJ2
      unfold bd_X6_isProof_48
      refine br_le (by omega) (by omega) (fun q2 => ?_) (fun q2 => ?_)
      · have hm1 : m = k := by omega
        subst hm1
        have hop : opnB tt c0 w m = true := al_iff.mpr (fun i hi => by
          cases hb : w.testBit i with
          | false => rfl
          | true => rw [decide_eq_true (g1 i hi hb)]; rfl)
        have hLy2 : LyC C m (tryB tt m c0 ln (fun i => w.testBit i) ly) l2 := fun c r h1 h2 b => g2 c r h1 h2 b
        have hbig : ∀ c r b, 40 ≤ b → tryB tt m c0 ln (fun i => w.testBit i) ly c r b = false := fun c r b hb => by
          unfold tryB
          by_cases e : c = c0
          · rw [if_pos e, decide_eq_false (by omega), Bool.false_and]
          · rw [if_neg e]; exact hlyn c r b hb
        refine zu9_1 m (by omega) (fun r _ _ _ _ _ _ _ _ => ∀ i, i < r → endW C m lap tt c0 ln w ly i = 100 ∨ endW C m lap tt c0 ln w ly i / 10 ≠ c0) 0 rfl (by omega) (fun i hi => absurd hi (Nat.not_lt_zero i)) (fun r x1 x2 x3 x4 x5 x6 x7 x8 rec3 hr hJ3 hrec3 => ?_)
        unfold bd_X6_isProof_145
        refine br_le (by omega) (by omega) (fun q3 => ?_) (fun q3 => sp_cellOf ?_)
        · have hp : prfB C m lap tt c0 ln ly w = true := by
            unfold prfB
            rw [hop, Bool.true_and]
            exact al_iff.mpr (fun i hi => decide_eq_true (hJ3 i (by omega)))
          have := h x1 x2 x3 x4 x5 x6 x7 x8 l2
          rw [hp] at this
          exact this
        · refine sp_follow hRo hLy2 (by omega) hbig hc q3 (fun places passed cell bundle t hpl => ?_)
          have he := runW_end (lap := lap) (tt := tt) (ly := tryB tt m c0 ln (fun i => w.testBit i) ly) (n := 40) hC6 hR6 hc q3
          have hE : (runW C m lap tt (tryB tt m c0 ln (fun i => w.testBit i) ly) 40 c0 r).1 = endW C m lap tt c0 ln w ly r := rfl
          rw [hE] at he ⊢
          rw [nI_1]
          have nxt : (endW C m lap tt c0 ln w ly r = 100 ∨ endW C m lap tt c0 ln w ly r / 10 ≠ c0) → ∀ i, i < r + 1 → endW C m lap tt c0 ln w ly i = 100 ∨ endW C m lap tt c0 ln w ly i / 10 ≠ c0 := fun z i hi => by
            by_cases e : i = r
            · rw [e]; exact z
            · exact hJ3 i (by omega)
          refine br_eq (b := 100) (by omega) (by omega) (fun z => hrec3 _ _ _ _ _ _ _ _ q3 (nxt (Or.inl z))) (fun z => sp_columnOf (by omega) ?_)
          refine br_neq (by omega) (by omega) (fun z2 => hrec3 _ _ _ _ _ _ _ _ q3 (nxt (Or.inr z2))) (fun z2 => ?_)
          have hp : prfB C m lap tt c0 ln ly w = false := by
            unfold prfB
            rw [al_mono q3 (decide_eq_false (fun z3 => by rcases z3 with z3 | z3; exact z z3; exact z3 z2)), Bool.and_false]
          have := fun b1 b2 b3 b4 b5 b6 b7 b8 => h b1 b2 b3 b4 b5 b6 b7 b8 l2
          rw [hp] at this
          exact this _ _ _ _ _ _ _ _
      · refine sp_isIn (by omega) ?_
        rw [lb_lN64 w hw m (by omega), nI_1]
        cases hb : w.testBit m with
        | false =>
          refine f10 (hrec2 _ q2 ⟨fun i hi hz => ?_, fun c r h1 h2 b => ?_⟩)
          · by_cases e : i = m
            · rw [e, hb] at hz; cases hz
            · exact g1 i (by omega) hz
          · rw [g2 c r h1 h2 b]
            by_cases e : c = c0
            · rw [if_pos e, if_pos e]
              by_cases e2 : b = m
              · rw [e2, hb, Bool.false_and, Bool.and_false, Bool.and_false]
              · by_cases e3 : b < m
                · rw [decide_eq_true e3, decide_eq_true (show b < m + 1 by omega)]
                · rw [decide_eq_false e3, decide_eq_false (show ¬ b < m + 1 by omega)]
            · rw [if_neg e, if_neg e]
        | true =>
          refine t10 (sp_cellOf ?_)
          refine sp_isOpening hRo hc q2 (fun z => f01 ?_) (fun z => t01 ?_)
          · refine sp_lowestRow hRo hc q2 z hl (fun low hlow => ?_)
            have el : low = lowF tt c0 m ln := hlow.uniq (lowF_ok z hl)
            have hlr := hlow.1
            refine zu2_1 (m + 1) (by omega) (fun u l3 => low ≤ u ∧ ∀ j b, lb (l3 j) b = (lb (l2 j) b || (decide (10 * c0 + low ≤ j ∧ j < 10 * c0 + u) && decide (b = m)))) low rfl (by omega) ⟨Nat.le_refl low, fun j b => by rw [decide_eq_false (show ¬ (10 * c0 + low ≤ j ∧ j < 10 * c0 + low) by omega)]; simp⟩ (fun u l3 rec3 hu hJ3 hrec3 => ?_)
            obtain ⟨u1, u2⟩ := hJ3
            unfold bd_X6_isProof_105
            refine br_lt (by omega) (by omega) (fun q3 => ?_) (fun q3 => sp_cellOf ⟨vp_in_nI (by omega) (by omega), vp_in_nI (by omega) (by omega), ?_⟩)
            · have hu1 : u = m + 1 := by omega
              subst hu1
              rw [nI_1]
              refine hrec2 _ q2 ⟨fun i hi hz => ?_, fun c r h1 h2 b => ?_⟩
              · by_cases e : i = m
                · rw [e]; exact z
                · exact g1 i (by omega) hz
              · rw [u2, g2 c r h1 h2 b]
                by_cases e : c = c0
                · rw [if_pos e, if_pos e]
                  subst e
                  by_cases e2 : b = m
                  · subst e2
                    rw [decide_eq_false (Nat.lt_irrefl b), Bool.false_and, Bool.false_or, decide_eq_true (rfl : b = b), Bool.and_true, decide_eq_true (Nat.lt_succ_self b), Bool.true_and, hb, Bool.true_and, ← el]
                    by_cases e3 : low ≤ r ∧ r ≤ b
                    · rw [decide_eq_true e3, decide_eq_true (by omega)]
                    · rw [decide_eq_false e3, decide_eq_false (by omega)]
                  · rw [decide_eq_false e2, Bool.and_false, Bool.or_false]
                    by_cases e3 : b < m
                    · rw [decide_eq_true e3, decide_eq_true (show b < m + 1 by omega)]
                    · rw [decide_eq_false e3, decide_eq_false (show ¬ b < m + 1 by omega)]
                · rw [if_neg e, if_neg e, decide_eq_false (show ¬ (10 * c0 + low ≤ 10 * c + r ∧ 10 * c + r < 10 * c0 + (m + 1)) by omega), Bool.false_and, Bool.or_false]
            · rw [nI_1, nI_clamp (by omega)]
              refine hrec3 _ (by omega) ⟨by omega, fun j b => ?_⟩
              by_cases e : j = 10 * c0 + u
              · rw [e, vL_at, lb_or, lb_bit (by omega), u2, decide_eq_false (show ¬ (10 * c0 + low ≤ 10 * c0 + u ∧ 10 * c0 + u < 10 * c0 + u) by omega), decide_eq_true (show 10 * c0 + low ≤ 10 * c0 + u ∧ 10 * c0 + u < 10 * c0 + (u + 1) by omega)]
                simp
              · rw [vL_ne e, u2]
                by_cases e2 : 10 * c0 + low ≤ j ∧ j < 10 * c0 + u
                · rw [decide_eq_true e2, decide_eq_true (show 10 * c0 + low ≤ j ∧ j < 10 * c0 + (u + 1) by omega)]
                · rw [decide_eq_false e2, decide_eq_false (show ¬ (10 * c0 + low ≤ j ∧ j < 10 * c0 + (u + 1)) by omega)]
          · have hp : prfB C k lap tt c0 ln ly w = false := by
              unfold prfB opnB
              rw [al_mono q2 (show (!w.testBit m || decide (tt c0 m = 0)) = false by rw [hb, decide_eq_false z]; rfl), Bool.false_and]
            have := fun b1 b2 b3 b4 b5 b6 b7 b8 b9 => h b1 b2 b3 b4 b5 b6 b7 b8 b9
            rw [hp] at this
            exact this _ _ _ _ _ _ _ _ _
  · rw [nI_1, nI_clamp (by omega)]
    refine hrec _ q (fun j hj => ?_)
    by_cases e : j = 10 * c0 + k
    · rw [e, vL_at, if_pos (by omega)]
    · rw [vL_ne e, hJ j hj]
      by_cases e2 : 10 * c0 ≤ j ∧ j < 10 * c0 + k
      · rw [if_pos e2, if_pos (by omega)]
      · rw [if_neg e2, if_neg (by omega)]
/-- the best of the first ways -/
def bstW (p : Nat → Bool) : Nat → Option Nat
  | 0 => none
  | k + 1 => if (match bstW p k with | none => true | some w => decide (pcN k < pcN w)) && p k then some k else bstW p k
theorem bstW_lt {p : Nat → Bool} : ∀ {k w : Nat}, bstW p k = some w → w < k ∧ p w = true
  | 0, w, h => by cases h
  | k + 1, w, h => by
    rw [bstW] at h
    by_cases e : ((match bstW p k with | none => true | some w => decide (pcN k < pcN w)) && p k) = true
    · rw [if_pos e] at h
      rw [Bool.and_eq_true] at e
      cases h
      exact ⟨by omega, e.2⟩
    · rw [if_neg e] at h
      have := bstW_lt h
      exact ⟨by omega, this.2⟩
theorem pcN_le (w : Nat) : pcN w ≤ 6 := cnt_le _ 6
theorem sp_leastWay {C R lap : Nat} {tt : Nat → Nat → Nat} {Fs : Int32} {Ft : Nat → Int32} (hRo : RoofC C R lap tt (nI C) (nI R) Fs Ft) {ly : Nat → Nat → Nat → Bool} {a : Nat → Int64} (hLy : LyC C R ly a) (hlyn : ∀ c r b, 40 ≤ b → ly c r b = false) {c0 ln : Nat} (hc : c0 < C) (hl : 1 ≤ ln ∧ ln ≤ 3) {passed runs e0 ea cell bundle : Int32} {t : Int64} {places : Nat → Int32} {trl : Nat → Int64} {post : Int32 → (Nat → Int32) → Int32 → Int32 → Int32 → Int32 → Int32 → Int32 → Int64 → (Nat → Int64) → Prop} (h : ∀ a1 a2 a3 a4 a5 a6 a7 a8 a9, post (oI (bstW (prfB C R lap tt c0 ln ly) (2 ^ R))) a1 a2 a3 a4 a5 a6 a7 a8 a9) : wp_X6_leastWay (nI C) (nI R) Fs Ft passed runs e0 ea cell bundle t places trl a (nI c0) (nI ln) post := by
  have hR6 : R ≤ 6 := hRo.2.2.2.1
  have h64 := p64 hR6
  unfold wp_X6_leastWay
  refine zu12_3 (2 ^ R) (by omega) (fun k l4 l5 _ _ _ _ _ _ _ _ _ => l4 = oI (bstW (prfB C R lap tt c0 ln ly) k) ∧ l5 = nI (match bstW (prfB C R lap tt c0 ln ly) k with | none => 7 | some w => pcN w)) 0 rfl (Nat.zero_le _) ⟨rfl, rfl⟩ (fun k l4 l5 x1 x2 x3 x4 x5 x6 x7 x8 x9 rec hk hJ hrec => ?_)
  obtain ⟨rfl, rfl⟩ := hJ
  unfold bd_X6_leastWay_11
  rw [shl64 R (by omega)]
  refine br_le (by omega) (by omega) (fun q => ?_) (fun q => sp_bitCount ?_)
  · have hk1 : k = 2 ^ R := by omega
    rw [hk1]
    exact h _ _ _ _ _ _ _ _ _
  · rw [pc_64 (by omega), nI_1]
    have hpk := pcN_le k
    have hb : (match bstW (prfB C R lap tt c0 ln ly) k with | none => 7 | some w => pcN w) ≤ 7 := by
      cases bstW (prfB C R lap tt c0 ln ly) k with
      | none => exact Nat.le_refl 7
      | some w => exact Nat.le_trans (pcN_le w) (by omega)
    have hcmp : (match bstW (prfB C R lap tt c0 ln ly) k with | none => true | some w => decide (pcN k < pcN w)) = decide (pcN k < (match bstW (prfB C R lap tt c0 ln ly) k with | none => 7 | some w => pcN w)) := by
      cases bstW (prfB C R lap tt c0 ln ly) k with
      | none => exact (decide_eq_true (show pcN k < 7 by omega)).symm
      | some w => rfl
    refine br_le (by omega) (by omega) (fun q2 => ?_) (fun q2 => ?_)
    · have e : bstW (prfB C R lap tt c0 ln ly) (k + 1) = bstW (prfB C R lap tt c0 ln ly) k := by
        rw [bstW, hcmp, decide_eq_false (by omega), Bool.false_and, if_neg (by decide)]
      exact hrec _ _ _ _ _ _ _ _ _ _ _ q ⟨by rw [e], by rw [e]⟩
    · refine sp_isProofC hRo hLy hlyn hc hl (by omega) (fun a1 a2 a3 a4 a5 a6 a7 a8 a9 => ?_)
      refine brx_c (fun z => sp_bitCount ?_) (fun z => ?_)
      · have e : bstW (prfB C R lap tt c0 ln ly) (k + 1) = some k := by
          rw [bstW, hcmp, decide_eq_true q2, z, if_pos (by decide)]
        rw [pc_64 (by omega)]
        exact hrec _ _ _ _ _ _ _ _ _ _ _ q ⟨by rw [e]; rfl, by rw [e]⟩
      · have e : bstW (prfB C R lap tt c0 ln ly) (k + 1) = bstW (prfB C R lap tt c0 ln ly) k := by
          rw [bstW, z, Bool.and_false, if_neg (by decide)]
        exact hrec _ _ _ _ _ _ _ _ _ _ _ q ⟨by rw [e], by rw [e]⟩
