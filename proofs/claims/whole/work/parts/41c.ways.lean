/-! PURE WAYS 3: the class's table of sets -/
theorem and32 : ∀ a, a < 32 → ∀ b, b < 32 → nI a &&& nI b = nI (a &&& b) := by decide +kernel
theorem xor32 : ∀ a, a < 32 → ∀ b, b < 32 → nI a ^^^ nI b = nI (a ^^^ b) := by decide +kernel
theorem or32 : ∀ a, a < 32 → ∀ m, m < 5 → nI a ||| jishl (1 : Int32) (nI m) = nI (2 ^ m ||| a) := by decide +kernel
theorem shl1 : ∀ k, k < 6 → jishl (1 : Int32) (nI k) - (1 : Int32) = nI (2 ^ k - 1) := by decide +kernel
theorem xor_lt32 : ∀ s, s < 32 → ∀ a, a < 32 → a ≠ 0 → a &&& s = a → s ^^^ a < s := by decide +kernel
theorem lb_lN32 : ∀ s, s < 32 → ∀ k, k < 64 → lb (nI s).toInt64 k = s.testBit k := by decide +kernel
def mskN (q : Nat → Bool) : Nat → Nat
  | 0 => 0
  | m + 1 => if q m = true then 2 ^ m ||| mskN q m else mskN q m
theorem mskN_lt (q : Nat → Bool) : ∀ m, mskN q m < 2 ^ m
  | 0 => by rw [mskN]; omega
  | m + 1 => by
    have h := mskN_lt q m
    rw [mskN]
    by_cases e : q m = true
    · rw [if_pos e]
      exact Nat.or_lt_two_pow (by rw [Nat.pow_succ]; omega) (by rw [Nat.pow_succ]; omega)
    · rw [if_neg e, Nat.pow_succ]; omega
theorem mskN_tb (q : Nat → Bool) (i : Nat) : ∀ m, (mskN q m).testBit i = (decide (i < m) && q i)
  | 0 => by rw [mskN, Nat.zero_testBit, decide_eq_false (by omega), Bool.false_and]
  | m + 1 => by
    rw [mskN]
    by_cases e : q m = true
    · rw [if_pos e, Nat.testBit_or, Nat.testBit_two_pow, mskN_tb q i m]
      by_cases e2 : m = i
      · subst e2
        rw [decide_eq_true rfl, decide_eq_true (Nat.lt_succ_self m), e]; rfl
      · rw [decide_eq_false e2, Bool.false_or]
        by_cases e3 : i < m
        · rw [decide_eq_true e3, decide_eq_true (show i < m + 1 by omega)]
        · rw [decide_eq_false e3, decide_eq_false (show ¬ i < m + 1 by omega)]
    · rw [if_neg e, mskN_tb q i m]
      by_cases e2 : i = m
      · subst e2
        rw [Bool.eq_false_iff.mpr e, Bool.and_false, Bool.and_false]
      · by_cases e3 : i < m
        · rw [decide_eq_true e3, decide_eq_true (show i < m + 1 by omega)]
        · rw [decide_eq_false e3, decide_eq_false (show ¬ i < m + 1 by omega)]
theorem p32 : ∀ k, k ≤ 5 → 2 ^ k ≤ 32 := fun k hk => Nat.pow_le_pow_right (by omega) hk
theorem sp_isClosed {ov : Nat → Nat → Bool} {k S : Nat} (hk : k ≤ 5) (hS : S < 2 ^ k) {bn : Nat → Int32} (hb : ∀ i, i < k → bn i = nI (mskN (ov i) i)) {post : Int32 → Prop} (h : post (if cloB ov (fun i => S.testBit i) k = true then 1 else 0)) : wp_X0_isClosed bn (nI S) (nI k) post := by
  have h32 := p32 k hk
  unfold wp_X0_isClosed
  refine zu1_1 k (by omega) (fun m => ∀ i, i < m → ∀ e, e < i → S.testBit i = true → ov i e = true → S.testBit e = true) 0 rfl (by omega) (fun i hi => absurd hi (Nat.not_lt_zero i)) (fun m rec hm hJ hrec => ?_)
  unfold bd_X0_isClosed_2
  refine br_le (by omega) (by omega) (fun q => ?_) (fun q => ?_)
  · rw [if_pos (cloB_iff.mpr (fun i hi => hJ i (by omega)))] at h
    exact h
  · refine sp_isIn (by omega) ?_
    rw [lb_lN32 S (by omega) m (by omega)]
    have v5 : vp_in (nI m) 5 := vp_in_nI (by omega) (by omega)
    have hmk := mskN_lt (ov m) m
    have hm32 : 2 ^ m ≤ 32 := p32 m (by omega)
    cases hs : S.testBit m with
    | false =>
      refine f01 ?_
      rw [nI_1]
      refine hrec q (fun i hi e he h1 h2 => ?_)
      by_cases e2 : i = m
      · rw [e2, hs] at h1; cases h1
      · exact hJ i (by omega) e he h1 h2
    | true =>
      refine t01 ⟨v5, v5, ?_⟩
      rw [nI_clamp (by omega), hb m q, and32 _ (by omega) _ (by omega)]
      refine br_eq (by have := Nat.and_le_right (n := mskN (ov m) m) (m := S); omega) (by omega) (fun z => ?_) (fun z => ?_)
      · rw [nI_1]
        refine hrec q (fun i hi e he h1 h2 => ?_)
        by_cases e2 : i = m
        · subst e2
          have g : (mskN (ov i) i).testBit e = true := by rw [mskN_tb, decide_eq_true he, h2]; rfl
          rw [← z, Nat.testBit_and, Bool.and_eq_true] at g
          exact g.2
        · exact hJ i (by omega) e he h1 h2
      · rw [if_neg (fun hc => z ?_)] at h
        · exact h
        · have hc2 := cloB_iff.mp hc m q
          refine Nat.eq_of_testBit_eq (fun e => ?_)
          rw [Nat.testBit_and, mskN_tb]
          by_cases he : e < m
          · rw [decide_eq_true he, Bool.true_and]
            cases ho : ov m e with
            | false => rfl
            | true => rw [hc2 e he hs ho]; rfl
          · rw [decide_eq_false he]; rfl
theorem bx_same {f t : Nat → Nat} {S : Nat → Bool} {Y : Nat} : ∀ {k : Nat} {Q : (Nat → Nat) → Nat}, (∀ i, i < k → ¬ (f i ≤ Y ∧ Y ≤ t i)) → bx f t S (Y + 1) k Q = bx f t S Y k Q
  | 0, Q, h => rfl
  | k + 1, Q, h => by
    rw [bx, bx]
    by_cases hS : S k = true
    · rw [if_pos hS, if_pos hS]
      refine sm_congr (fun v _ => ?_)
      have := h k (by omega)
      rw [bx_same (fun i hi => h i (by omega))]
      by_cases e : f k ≤ v ∧ v ≤ t k ∧ v < Y
      · rw [if_pos e, if_pos (by omega)]
      · rw [if_neg e, if_neg ?_]
        rintro ⟨z1, z2, z3⟩
        by_cases e2 : v = Y
        · subst e2; exact this ⟨z1, z2⟩
        · exact e ⟨z1, z2, by omega⟩
    · rw [if_neg hS, if_neg hS]
      exact bx_same (fun i hi => h i (by omega))
theorem sub_iff {f t : Nat → Nat} {k S A Y : Nat} (hS : S < 2 ^ k) : (A &&& S) &&& mskN (fun i => decide (f i ≤ Y ∧ Y ≤ t i)) k = A ↔ (sbB (grwB f t (fun i => S.testBit i) Y) A k = true ∧ A < 2 ^ k) := by
  constructor
  · intro h
    have hA : A ≤ S := by
      have h1 : A &&& S = A := by
        refine Nat.eq_of_testBit_eq (fun i => ?_)
        have := congrArg (fun x => x.testBit i) h
        simp only [Nat.testBit_and] at this ⊢
        cases ha : A.testBit i with
        | false => rfl
        | true =>
          rw [ha] at this
          cases hb : S.testBit i with
          | true => rfl
          | false => rw [hb] at this; exact this
      have := Nat.and_le_right (n := A) (m := S)
      omega
    refine ⟨sbB_iff.mpr (fun i hi ha => ?_), by omega⟩
    have := congrArg (fun x => x.testBit i) h
    simp only [Nat.testBit_and, mskN_tb, ha, Bool.true_and, decide_eq_true hi] at this
    exact this
  · rintro ⟨h, hA⟩
    refine Nat.eq_of_testBit_eq (fun i => ?_)
    rw [Nat.testBit_and, Nat.testBit_and, mskN_tb]
    cases ha : A.testBit i with
    | false => rfl
    | true =>
      by_cases hi : i < k
      · have := sbB_iff.mp h i hi ha
        unfold grwB at this
        rw [decide_eq_true hi, Bool.true_and, Bool.true_and]
        exact this
      · rw [tb_hi hA (by omega)] at ha; cases ha
theorem sub_le {A S G : Nat} (h : (A &&& S) &&& G = A) : A &&& S = A := by
  refine Nat.eq_of_testBit_eq (fun i => ?_)
  have := congrArg (fun x => x.testBit i) h
  simp only [Nat.testBit_and] at this ⊢
  cases ha : A.testBit i with
  | false => rfl
  | true =>
    rw [ha] at this
    cases hb : S.testBit i with
    | true => rfl
    | false => rw [hb] at this; exact this
theorem sp_giveYear {f t : Nat → Nat} {ov : Nat → Nat → Bool} {k Y : Nat} (hk : k ≤ 5) (hY : Y < 100) (ht : ∀ i, t i ≤ 99) (hft : ∀ i, f i ≤ t i) {srts aF aT cn bn : Nat → Int32} {gv : Nat → Int64} (hc : ∀ i, i < k → ∀ post : Int32 → Prop, (post (nI (f i)) → wp_X0_firstYear srts aF (cn i) post) ∧ (post (nI (t i)) → wp_X0_lastYear srts aT (cn i) post)) (hb : ∀ i, i < k → bn i = nI (mskN (ov i) i)) (hg : ∀ S, S < 2 ^ k → gv S = lN (tW f t ov k S Y)) {post : (Nat → Int64) → Prop} (h : ∀ g, (∀ S, S < 2 ^ k → g S = lN (tW f t ov k S (Y + 1))) → post g) : wp_X0_giveYear srts aF aT cn bn gv (nI Y) (nI k) post := by
  have h32 := p32 k hk
  unfold wp_X0_giveYear
  refine zu2_2 k (by omega) (fun m x => x = nI (mskN (fun i => decide (f i ≤ Y ∧ Y ≤ t i)) m)) 0 rfl (by omega) rfl (fun m x rec hm hJ hrec => ?_)
  subst hJ
  have hmm := mskN_lt (fun i => decide (f i ≤ Y ∧ Y ≤ t i)) m
  have hm32 : 2 ^ m ≤ 32 := p32 m (by omega)
  unfold bd_X0_giveYear_5
  refine br_le (by omega) (by omega) (fun q => ?_) (fun q => ?_)
  · have hmk : m = k := by omega
    subst hmk
    rw [shl1 m (by omega)]
    have h1 : 1 ≤ 2 ^ m := Nat.one_le_two_pow
    refine zd2_1 (2 ^ m) (by omega) (fun s g => (∀ S, S < 2 ^ m → s ≤ S → g S = lN (tW f t ov m S (Y + 1))) ∧ ∀ S, S < 2 ^ m → S < s → g S = lN (tW f t ov m S Y)) (2 ^ m) ?_ (Nat.le_refl _) ⟨fun S hS hS2 => absurd hS (by omega), fun S hS _ => hg S hS⟩ (fun g rec2 hJ2 => ?_) (fun s g rec2 hs hJ2 hrec2 => ?_)
    · rw [← nI_m1, show nI (2 ^ m) - 1 = nI (2 ^ m - 1) from nI_subN (b := 1) h1]
    · unfold bd_X0_giveYear_60
      exact ⟨fun _ => h g (fun S hS => hJ2.1 S hS (Nat.zero_le S)), fun z => absurd (by decide) z⟩
    · obtain ⟨g1, g2⟩ := hJ2
      unfold bd_X0_giveYear_60
      refine br_le (a := 0) (by omega) (by omega) (fun q2 => h g (fun S hS => ?_)) (fun q2 => ?_)
      · by_cases e : S = 0
        · subst e
          rw [g2 0 hS (by omega), tW_0, tW_0]
        · exact g1 S hS (by omega)
      · refine br_eq (b := 0) (by omega) (by omega) (fun q3 => h g (fun S hS => ?_)) (fun q3 => ?_)
        · have hsame : tW f t ov m S (Y + 1) = tW f t ov m S Y := by
            unfold tW
            refine bx_same (fun i hi hz => ?_)
            have e := mskN_tb (fun i => decide (f i ≤ Y ∧ Y ≤ t i)) i m
            rw [q3, Nat.zero_testBit, decide_eq_true hi, decide_eq_true hz] at e
            cases e
          by_cases e : S < s + 1
          · rw [g2 S hS e, hsame]
          · exact g1 S hS (by omega)
        · refine sp_isClosed hk hs hb ?_
          have v32 : vp_in (nI s) 32 := vp_in_nI (by omega) (by omega)
          cases hcl : cloB ov (fun i => s.testBit i) m with
          | false =>
            rw [if_neg (by decide)]
            refine f10 (hrec2 g ⟨fun S hS hS2 => ?_, fun S hS hS2 => g2 S hS (by omega)⟩)
            by_cases e : S = s
            · subst e
              rw [g2 S hS (by omega), tW_open hcl, tW_open hcl]
            · exact g1 S hS (by omega)
          | true =>
            rw [if_pos rfl]
            refine t10 ?_
            refine zu2_1 (s + 1) (by omega) (fun a g' => 1 ≤ a ∧ g' s = lN (sm (fun A => if sbB (grwB f t (fun i => s.testBit i) Y) A m = true then tW f t ov m (s ^^^ A) Y else 0) a) ∧ ∀ S, S < 2 ^ m → S ≠ s → g' S = g S) 1 rfl (by omega) ⟨Nat.le_refl 1, ?_, fun S _ _ => rfl⟩ (fun a g' rec3 ha hJ3 hrec3 => ?_)
            · rw [sm, sm, Nat.zero_add, if_pos (sbB_iff.mpr (fun i _ z => by rw [Nat.zero_testBit] at z; cases z)), Nat.xor_zero]
              exact g2 s hs (by omega)
            · obtain ⟨ha1, g3, g4⟩ := hJ3
              unfold bd_X0_giveYear_85
              refine br_lt (by omega) (by omega) (fun q4 => hrec2 g' ⟨fun S hS hS2 => ?_, fun S hS hS2 => ?_⟩) (fun q4 => ?_)
              · by_cases e : S = s
                · subst e
                  rw [g3, tW_step hY hcl]
                  refine congrArg lN (Eq.symm ?_)
                  refine sm_cut (by omega) (fun A hA1 hA2 => if_neg (fun z => ?_))
                  have e2 := sub_le ((sub_iff hS).mpr ⟨z, hA2⟩)
                  have := Nat.and_le_right (n := A) (m := S)
                  omega
                · rw [g4 S hS e]; exact g1 S hS (by omega)
              · rw [g4 S hS (by omega)]; exact g2 S hS (by omega)
              · have hal : a &&& s ≤ s := Nat.and_le_right
                rw [and32 _ (by omega) _ (by omega), and32 _ (by omega) _ (by omega)]
                have hal2 : (a &&& s) &&& mskN (fun i => decide (f i ≤ Y ∧ Y ≤ t i)) m ≤ a &&& s := Nat.and_le_left
                rw [nI_1]
                refine br_neq (by omega) (by omega) (fun z => hrec3 g' (by omega) ⟨by omega, ?_, g4⟩) (fun z => ?_)
                · rw [g3, sm, if_neg (fun y => z ((sub_iff hs).mpr ⟨y, by omega⟩)), Nat.add_zero]
                · have hx := xor_lt32 s (by omega) a (by omega) (by omega) (sub_le z)
                  rw [xor32 _ (by omega) _ (by omega)]
                  refine ⟨v32, vp_in_nI (by omega) (by omega), v32, ?_⟩
                  rw [nI_clamp (by omega), nI_clamp (by omega)]
                  refine hrec3 _ (by omega) ⟨by omega, ?_, fun S hS e => ?_⟩
                  · rw [vL_at, g3, g4 _ (by omega) (by omega), g2 _ (by omega) (by omega), lN_add, sm, if_pos ((sub_iff hs).mp z).1]
                  · rw [vL_ne e]; exact g4 S hS e
  · have v5 : vp_in (nI m) 5 := vp_in_nI (by omega) (by omega)
    have ht1 := ht m
    have hf1 := hft m
    refine ⟨v5, ?_⟩
    rw [nI_clamp (show m < 2 ^ 31 by omega)]
    refine (hc m q _).1 ⟨v5, (hc m q _).2 ?_⟩
    rw [nI_1]
    refine sp_isWithin (fun z1 z2 => t01 (hrec _ q ?_)) (fun z => f01 (hrec _ q ?_))
    · rw [mskN, if_pos (decide_eq_true ⟨(nI_leI (by omega) (by omega)).mp z1, (nI_leI (by omega) (by omega)).mp z2⟩), or32 _ (by omega) m (by omega)]
    · rw [mskN, if_neg (fun y => z ?_)]
      have y := of_decide_eq_true y
      exact ⟨(nI_leI (by omega) (by omega)).mpr y.1, (nI_leI (by omega) (by omega)).mpr y.2⟩
