/-! PURE TRY 3: the reference tries a way -/
theorem sp_putG {C R lap n : Nat} {tt : Nat → Nat → Nat} {Mc Mr Mp : Int32} {Mt : Nat → Int32} (hRo : RoofM C R lap tt Mc Mr Mp Mt) {aCol aRow aLen aSrt aThk aLeft : Nat → Int32} (hn : n < 80) {c r ln tk : Nat} (hc : c < C) (hr : r < R) (hl : 1 ≤ ln ∧ ln ≤ 3) {sv : Int32} {post : Int32 → (Nat → Int32) → (Nat → Int32) → (Nat → Int32) → (Nat → Int32) → (Nat → Int32) → (Nat → Int32) → Prop}
    (h : ∀ aLeft', (∀ j, j < 6 * n ∨ 6 * n + 6 ≤ j → aLeft' j = aLeft j) → (tt c r = 0 → ∀ i, i < 6 → aLeft' (6 * n + i) = nI (if lowF tt c r ln ≤ i ∧ i ≤ r then tk else 0)) → post (nI (n + 1)) (upd aCol n (nI c)) (upd aRow n (nI r)) (upd aLen n (nI ln)) (upd aSrt n sv) (upd aThk n (nI tk)) aLeft') : wp_X8_put (nI n) Mt aCol aRow aLen aSrt aThk aLeft (nI c) (nI r) (nI ln) sv (nI tk) post := by
  have hC6 : C ≤ 6 := hRo.2.1
  have hR6 : R ≤ 6 := hRo.2.2.2.1
  obtain ⟨-, -, -, -, -, -, -, hMt, ht2⟩ := hRo
  have hlow : ∃ low, low ≤ r + 1 ∧ r < low + ln ∧ (∀ i, low ≤ i → i ≤ r → tt c i = 0) ∧ (low = 0 ∨ low + ln = r + 1 ∨ tt c (low - 1) ≠ 0) ∧ (tt c r = 0 → low = lowF tt c r ln) := by
    by_cases e : tt c r = 0
    · obtain ⟨z1, z2, z3, z4⟩ := lowF_ok e hl
      exact ⟨_, by omega, z2, z3, z4, fun _ => rfl⟩
    · exact ⟨r + 1, Nat.le_refl _, by omega, fun i h1 h2 => absurd h1 (by omega), Or.inr (Or.inr e), fun z => absurd z e⟩
  obtain ⟨low, hlo1, hlo2, hlo3, hlo4, hlo5⟩ := hlow
  have fin : ∀ B B2 : Nat → Int32, (∀ j, B j = if 6 * n ≤ j ∧ j < 6 * n + 6 then nI 0 else aLeft j) → (∀ j, B2 j = if 6 * n + low ≤ j ∧ j < 6 * n + (r + 1) then nI tk else B j) → post (nI (n + 1)) (upd aCol n (nI c)) (upd aRow n (nI r)) (upd aLen n (nI ln)) (upd aSrt n sv) (upd aThk n (nI tk)) B2 := fun B B2 h1 h2 => by
    refine h B2 (fun j hj => ?_) (fun z i hi => ?_)
    · rw [h2, if_neg (by omega), h1, if_neg (by omega)]
    · rw [h2, ← hlo5 z]
      by_cases e : low ≤ i ∧ i ≤ r
      · rw [if_pos e, if_pos (by omega)]
      · rw [if_neg e, if_neg (by omega), h1, if_pos (by omega)]
  unfold wp_X8_put
  have v80 : vp_in (nI n) 80 := vp_in_nI (by omega) (by omega)
  refine ⟨v80, v80, v80, v80, v80, ?_⟩
  refine zu2_1 6 (by omega) (fun k B => ∀ j, B j = if 6 * n ≤ j ∧ j < 6 * n + k then nI 0 else aLeft j) 0 rfl (by omega) (fun j => by rw [if_neg (by omega)]) (fun k B rec hk hJ hrec => ?_)
  unfold bd_X8_put_58
  refine br_le (a := k) (b := 6) (by omega) (by omega) (fun q => ?_) (fun q => ?_)
  · have hk6 : k = 6 := by omega
    subst hk6
    refine zd3_2 (r + 1) (by omega) (fun k f B2 => f = (if low ≤ k then 1 else 0) ∧ ∀ j, B2 j = if 6 * n + (if low ≤ k then k else low) ≤ j ∧ j < 6 * n + (r + 1) then nI tk else B j) (r + 1) ?_ (Nat.le_refl _) ⟨by rw [if_pos (by omega)], fun j => by rw [if_pos (show low ≤ r + 1 by omega), if_neg (by omega)]⟩ (fun f B2 rec2 hJ2 => ?_) (fun k f B2 rec2 hk2 hJ2 hrec2 => ?_)
    · exact (pk_m1 r).symm
    · obtain ⟨-, hB2⟩ := hJ2
      unfold bd_X8_put_90
      refine neg_yes ?_
      rw [nI_clamp (by omega), nI_1]
      refine fin B B2 hJ (fun j => ?_)
      rw [hB2]
      by_cases e : low ≤ 0
      · rw [if_pos e, show low = 0 by omega]
      · rw [if_neg e]
    · obtain ⟨rfl, hB2⟩ := hJ2
      unfold bd_X8_put_90
      refine neg_no (by omega) (br_sub (by omega) (by omega) (by omega) (fun q2 => ?_) (fun q2 => ?_))
      · rw [nI_clamp (by omega), nI_1]
        have e1 : (if low ≤ k + 1 then k + 1 else low) = low := by
          by_cases e : low ≤ k + 1
          · rw [if_pos e]; omega
          · rw [if_neg e]
        rw [e1] at hB2
        exact fin B B2 hJ hB2
      · have step0 : k < low → jn_X8_put_128 (nI n) (nI tk) (nI k) B2 rec2 0 := by
          intro hkl
          unfold jn_X8_put_128
          refine f01 ?_
          rw [nI_6]
          refine ⟨vp_in_nI (by omega) (by omega), ?_⟩
          rw [nI_clamp (by omega)]
          refine hrec2 _ _ ⟨by rw [if_neg (by omega)], fun j => ?_⟩
          have e1 : (if low ≤ k + 1 then k + 1 else low) = low := by
            by_cases e : low ≤ k + 1
            · rw [if_pos e]; omega
            · rw [if_neg e]
          rw [e1] at hB2
          rw [if_neg (show ¬ low ≤ k by omega)]
          by_cases e : j = 6 * n + k
          · rw [e, up_at, if_neg (by omega), hJ, if_pos (by omega)]; rfl
          · rw [up_ne e, hB2]
        by_cases e : low ≤ k + 1
        · rw [if_pos e]
          refine t01 ?_
          rw [nI_6]
          refine ⟨vp_in_nI (by omega) (by omega), ?_⟩
          rw [nI_clamp (by omega), hMt c k (by omega) (by omega)]
          by_cases e2 : low ≤ k
          · rw [hlo3 k e2 (by omega)]
            refine yx rfl ?_
            unfold jn_X8_put_128
            refine t01 ?_
            rw [nI_6]
            refine ⟨vp_in_nI (by omega) (by omega), ?_⟩
            rw [nI_clamp (by omega)]
            refine hrec2 _ _ ⟨by rw [if_pos e2], fun j => ?_⟩
            rw [if_pos e] at hB2
            rw [if_pos e2]
            by_cases e3 : j = 6 * n + k
            · rw [e3, up_at, if_pos (by omega)]
            · rw [up_ne e3, hB2]
              by_cases e4 : 6 * n + (k + 1) ≤ j ∧ j < 6 * n + (r + 1)
              · rw [if_pos e4, if_pos (by omega)]
              · rw [if_neg e4, if_neg (by omega)]
          · have hz : tt c k ≠ 0 := by
              rcases hlo4 with z | z | z
              · omega
              · omega
              · rw [show low - 1 = k by omega] at z; exact z
            refine nx (fun z => hz (nI_inj (b := 0) (by have := ht2 c k; omega) (by omega) z)) (step0 (by omega))
        · rw [if_neg e]
          exact f01 (step0 (by omega))
  · rw [nI_6]
    refine ⟨vp_in_nI (by omega) (by omega), ?_⟩
    rw [nI_clamp (by omega), nI_1]
    refine hrec _ q (fun j => ?_)
    by_cases e : j = 6 * n + k
    · rw [e, up_at, if_pos (by omega)]; rfl
    · rw [up_ne e, hJ]
      by_cases e2 : 6 * n ≤ j ∧ j < 6 * n + k
      · rw [if_pos e2, if_pos (by omega)]
      · rw [if_neg e2, if_neg (by omega)]
theorem cnt_imp_lt2 {p : Nat → Bool} {i k : Nat} (hi : i < k) (hp : p i = true) : cnt p i < cnt p k := by
  have h1 := cnt_mono (p := p) (show i + 1 ≤ k by omega)
  rw [cnt_step_y hp] at h1
  omega
theorem cnt_chF {p : Nat → Bool} {j : Nat} : ∀ {b : Nat}, j < cnt p b → cnt p (chF p b j) = j
  | 0, h => absurd h (Nat.not_lt_zero j)
  | b + 1, h => by
    rw [chF]
    by_cases e : p b = true ∧ cnt p b = j
    · rw [if_pos e]; exact e.2
    · rw [if_neg e]
      refine cnt_chF ?_
      cases hp : p b with
      | true => rw [cnt_step_y hp] at h; have : cnt p b ≠ j := fun z => e ⟨hp, z⟩; omega
      | false => rw [cnt_step_n hp] at h; exact h
def SamT (n : Nat) (a b : Nat → Int32) : Prop := ∀ j, j < n → b j = a j
theorem SamT.refl {n : Nat} {a : Nat → Int32} : SamT n a a := fun _ _ => rfl
theorem SamT.trans {n : Nat} {a b c : Nat → Int32} (h : SamT n a b) (h2 : SamT n b c) : SamT n a c := fun j hj => (h2 j hj).trans (h j hj)
theorem SamT.upd {n p : Nat} {a b : Nat → Int32} {x : Int32} (h : SamT n a b) (hp : n ≤ p) : SamT n a (upd b p x) := fun j hj => by rw [up_ne (by omega)]; exact h j hj
theorem BunM.sam {n : Nat} {col : Nat → Nat} {L : Nat → Nat → Nat} {a b l m : Nat → Int32} (h : BunM n col L a l) (h1 : SamT n a b) (h2 : SamT (6 * n) l m) : BunM n col L b m := by
  obtain ⟨g1, g2, g3⟩ := h
  exact ⟨g1, fun k hk => by rw [h1 k hk]; exact g2 k hk, fun k r hk hr => by rw [h2 _ (by omega)]; exact g3 k r hk hr⟩
theorem shr1 : ∀ w, w < 64 → ∀ k, k < 6 → (jishr (nI w) (nI k)) &&& (1 : Int32) = if w.testBit k then 1 else 0 := by decide +kernel
theorem sp_isProofM {C R lap n : Nat} {tt : Nat → Nat → Nat} {Mp : Int32} {Mt : Nat → Int32} (hRo : RoofM C R lap tt (nI C) (nI R) Mp Mt) {col : Nat → Nat} {L : Nat → Nat → Nat} {aCol aRow aLen aSrt aThk aLeft : Nat → Int32} (hB : BunM n col L aCol aLeft) (hn : n ≤ 40) {ly : Nat → Nat → Nat → Bool} (hlyn : ∀ c r b, n ≤ b → ly c r b = false) {c0 ln w : Nat} (hly : ∀ c r b, c ≠ c0 → ly c r b = lyB n col L c r b) (hbare : ∀ b r, b < n → col b = c0 → L b r = 0) (hc : c0 < C) (hl : 1 ≤ ln ∧ ln ≤ 3) (hw : w < 64) {pm ea : Int32} {places isT : Nat → Int32} {post : Int32 → Int32 → (Nat → Int32) → (Nat → Int32) → (Nat → Int32) → (Nat → Int32) → (Nat → Int32) → (Nat → Int32) → (Nat → Int32) → Int32 → Int32 → (Nat → Int32) → Prop} (h : ∀ b1 b2 b3 b4 b5 b6, SamT n aCol b1 → SamT n aRow b2 → SamT n aLen b3 → SamT n aSrt b4 → SamT n aThk b5 → SamT (6 * n) aLeft b6 → ∀ x1 x2 x3 x4, post (if prfB C R lap tt c0 ln ly w then 1 else 0) (nI n) b1 b2 b3 b4 b5 b6 x1 x2 x3 x4) : wp_X8_isProof (nI C) (nI R) Mp (nI n) pm ea Mt aCol aRow aLen aSrt aThk aLeft places isT (nI c0) (nI ln) (nI w) post := by
  have hC6 : C ≤ 6 := hRo.2.1
  have hR6 : R ≤ 6 := hRo.2.2.2.1
  obtain ⟨-, -, -, -, -, -, -, hMt, ht2⟩ := id hRo
  obtain ⟨h80, hcol, hLe⟩ := id hB
  unfold wp_X8_isProof
  refine zu9_2 R (by omega) (fun k is la b1 b2 b3 b4 b5 b6 => is = (if opnB tt c0 w k then 1 else 0) ∧ la = nI (n + cnt (fun i => w.testBit i) k) ∧ SamT n aCol b1 ∧ SamT n aRow b2 ∧ SamT n aLen b3 ∧ SamT n aSrt b4 ∧ SamT n aThk b5 ∧ SamT (6 * n) aLeft b6 ∧ (opnB tt c0 w k = true → ∀ i, i < k → w.testBit i = true → b1 (n + cnt (fun i => w.testBit i) i) = nI c0 ∧ ∀ r, r < 6 → b6 (6 * (n + cnt (fun i => w.testBit i) i) + r) = nI (if lowF tt c0 i ln ≤ r ∧ r ≤ i then 1 else 0))) 0 rfl (by omega) ⟨rfl, rfl, SamT.refl, SamT.refl, SamT.refl, SamT.refl, SamT.refl, SamT.refl, fun _ i hi => absurd hi (Nat.not_lt_zero i)⟩ (fun k is la b1 b2 b3 b4 b5 b6 rec hk hJ hrec => ?_)
  obtain ⟨rfl, rfl, s1, s2, s3, s4, s5, s6, hnew⟩ := hJ
  have hck := cnt_le (fun i => w.testBit i) k
  unfold bd_X8_isProof_12
  refine br_le (by omega) (by omega) (fun q => ?_) (fun q => ?_)
  · have hk1 : k = R := by omega
    subst hk1
    refine zu6_2 k (by omega) (fun r x _ _ _ _ => x = if (opnB tt c0 w k && al (fun r => decide (endW C k lap tt c0 ln w ly r = 100 ∨ endW C k lap tt c0 ln w ly r / 10 ≠ c0)) r) then 1 else 0) 0 rfl (by omega) (by rw [al, Bool.and_true]) (fun r x y1 y2 y3 y4 rec2 hr hJ2 hrec2 => ?_)
    subst hJ2
    unfold bd_X8_isProof_77
    have stop : ∀ y1 y2 y3 y4, (opnB tt c0 w k && al (fun r => decide (endW C k lap tt c0 ln w ly r = 100 ∨ endW C k lap tt c0 ln w ly r / 10 ≠ c0)) r) = prfB C k lap tt c0 ln ly w → ((if (opnB tt c0 w k && al (fun r => decide (endW C k lap tt c0 ln w ly r = 100 ∨ endW C k lap tt c0 ln w ly r / 10 ≠ c0)) r) then (1 : Int32) else 0) = 0 ∨ (if (opnB tt c0 w k && al (fun r => decide (endW C k lap tt c0 ln w ly r = 100 ∨ endW C k lap tt c0 ln w ly r / 10 ≠ c0)) r) then (1 : Int32) else 0) = 1) ∧ post (if (opnB tt c0 w k && al (fun r => decide (endW C k lap tt c0 ln w ly r = 100 ∨ endW C k lap tt c0 ln w ly r / 10 ≠ c0)) r) then 1 else 0) (nI n) b1 b2 b3 b4 b5 b6 y1 y2 y3 y4 := fun y1 y2 y3 y4 e => by
      rw [e]
      exact ⟨ite01 _, h b1 b2 b3 b4 b5 b6 s1 s2 s3 s4 s5 s6 y1 y2 y3 y4⟩
    refine br_le (by omega) (by omega) (fun q2 => stop _ _ _ _ ?_) (fun q2 => ?_)
    · have hr1 : r = k := by omega
      rw [hr1]; rfl
    · cases hop : (opnB tt c0 w k && al (fun r => decide (endW C k lap tt c0 ln w ly r = 100 ∨ endW C k lap tt c0 ln w ly r / 10 ≠ c0)) r) with
      | false =>
        have hp : prfB C k lap tt c0 ln ly w = false := by
          unfold prfB
          cases ho : opnB tt c0 w k with
          | false => rfl
          | true =>
            rw [ho, Bool.true_and] at hop
            rw [Bool.true_and]
            refine Bool.eq_false_iff.mpr (fun z => ?_)
            have := al_iff.mpr (fun i (hi : i < r) => al_iff.mp z i (by omega))
            rw [hop] at this; cases this
        have := stop y1 y2 y3 y4 (by rw [hop, hp])
        rw [hop] at this
        exact f01 this
      | true =>
        refine t01 ?_
        have hop' := hop
        rw [Bool.and_eq_true] at hop'
        have hnw := hnew hop'.1
        have hB2 : BunM (n + cnt (fun i => w.testBit i) k) (fun b => if b < n then col b else c0) (fun b r => if b < n then L b r else if r < 6 then (b6 (6 * b + r)).toNatClampNeg else 0) b1 b6 := by
          have hidx : ∀ b, n ≤ b → b < n + cnt (fun i => w.testBit i) k → ∃ i, i < k ∧ w.testBit i = true ∧ b = n + cnt (fun i => w.testBit i) i := fun b h1 h2 => by
            have := chF_ok (p := fun i => w.testBit i) (j := b - n) (b := k) (by omega)
            have hc2 : cnt (fun i => w.testBit i) (chF (fun i => w.testBit i) k (b - n)) = b - n := cnt_chF (by omega)
            exact ⟨_, this.1, this.2, by rw [hc2]; omega⟩
          refine ⟨by omega, fun b hb => ?_, fun b r hb hr => ?_⟩
          · by_cases e : b < n
            · simp only [if_pos e]
              rw [s1 b e]; exact hcol b e
            · simp only [if_neg e]
              obtain ⟨i, i1, i2, i3⟩ := hidx b (by omega) hb
              rw [i3]
              exact ⟨(hnw i i1 i2).1, by omega⟩
          · by_cases e : b < n
            · simp only [if_pos e]
              rw [s6 _ (by omega)]; exact hLe b r e hr
            · simp only [if_neg e, if_pos hr]
              obtain ⟨i, i1, i2, i3⟩ := hidx b (by omega) hb
              rw [i3, (hnw i i1 i2).2 r hr]
              by_cases e2 : lowF tt c0 i ln ≤ r ∧ r ≤ i
              · rw [if_pos e2, nI_clamp (by omega)]; exact ⟨rfl, by omega⟩
              · rw [if_neg e2, nI_clamp (by omega)]; exact ⟨rfl, by omega⟩
        refine sp_run hRo hB2 hc q2 (fun places pm isT _ => ?_)
        have hren := runW_ren (C := C) (R := k) (lap := lap) (tt := tt) (try_ren (tt := tt) (R := k) (c0 := c0) (ln := ln) (n := n) (wb := fun i => w.testBit i) (ly := ly) (ly2 := lyB (n + cnt (fun i => w.testBit i) k) (fun b => if b < n then col b else c0) (fun b r => if b < n then L b r else if r < 6 then (b6 (6 * b + r)).toNatClampNeg else 0)) hR6 hn hlyn (fun c r b hne => ?_) (fun r b hb => ?_) (fun r i hi hwi => ?_)) c0 r
        · have hE : (runW C k lap tt (lyB (n + cnt (fun i => w.testBit i) k) (fun b => if b < n then col b else c0) (fun b r => if b < n then L b r else if r < 6 then (b6 (6 * b + r)).toNatClampNeg else 0)) (n + cnt (fun i => w.testBit i) k) c0 r).1 = endW C k lap tt c0 ln w ly r := hren.symm
          have he := runW_end (lap := lap) (tt := tt) (ly := tryB tt k c0 ln (fun i => w.testBit i) ly) (n := 40) hC6 hR6 hc q2
          have hE2 : (runW C k lap tt (tryB tt k c0 ln (fun i => w.testBit i) ly) 40 c0 r).1 = endW C k lap tt c0 ln w ly r := rfl
          rw [hE2] at he
          rw [hE, nI_1]
          have go : ∀ v, decide (endW C k lap tt c0 ln w ly r = 100 ∨ endW C k lap tt c0 ln w ly r / 10 ≠ c0) = v → ∀ p1 p2 p3 p4, rec2 (if v then 1 else 0) (nI (r + 1)) p1 p2 p3 p4 := fun v hv p1 p2 p3 p4 => by
            refine hrec2 _ _ _ _ _ q2 ?_
            rw [al, ← Bool.and_assoc, hop, hv, Bool.true_and]
          refine br_eq (b := 100) (by omega) (by omega) (fun z => go true (decide_eq_true (Or.inl z)) _ _ _ _) (fun z => ?_)
          rw [show (10 : Int32) = nI 10 from rfl, nI_idiv (by omega) (by omega) (by omega)]
          refine br_eq (by omega) (by omega) (fun z2 => go false (decide_eq_false (fun z3 => by rcases z3 with z3 | z3; exact z z3; exact z3 z2)) _ _ _ _) (fun z2 => go true (decide_eq_true (Or.inr z2)) _ _ _ _)
        · rw [hly c r b hne]
          unfold lyB
          by_cases e : b < n
          · simp only [if_pos e, decide_eq_true e, decide_eq_true (show b < n + cnt (fun i => w.testBit i) k by omega)]
          · simp only [if_neg e, decide_eq_false e, decide_eq_false (Ne.symm hne), Bool.false_and, Bool.and_false]
        · unfold lyB
          simp only [if_pos hb]
          by_cases e : col b = c0
          · rw [hbare b r hb e]; simp
          · rw [decide_eq_false e, Bool.false_and, Bool.and_false]
        · have hci := cnt_imp_lt2 (p := fun i => w.testBit i) hi hwi
          unfold lyB
          simp only [decide_eq_true (show n + cnt (fun i => w.testBit i) i < n + cnt (fun i => w.testBit i) k by omega), if_neg (show ¬ n + cnt (fun i => w.testBit i) i < n by omega), decide_eq_true (rfl : c0 = c0), Bool.true_and]
          refine decide_eq_decide.mpr ?_
          by_cases hr6 : r < 6
          · rw [if_pos hr6, (hnw i hi hwi).2 r hr6]
            by_cases e2 : lowF tt c0 i ln ≤ r ∧ r ≤ i
            · rw [if_pos e2, nI_clamp (by omega)]; exact ⟨fun _ => e2, fun _ => by omega⟩
            · rw [if_neg e2, nI_clamp (by omega)]; exact ⟨fun z => absurd z (by omega), fun z => absurd z e2⟩
          · rw [if_neg hr6]; exact ⟨fun z => absurd z (by omega), fun z => by omega⟩
  · rw [shr1 w hw k (by omega), nI_1]
    have hopk : opnB tt c0 w (k + 1) = (opnB tt c0 w k && (!w.testBit k || decide (tt c0 k = 0))) := rfl
    cases hb : w.testBit k with
    | false =>
      rw [hb, Bool.not_false, Bool.true_or, Bool.and_true] at hopk
      refine nx (by decide) (hrec _ _ _ _ _ _ _ _ q ⟨by rw [hopk], by rw [cnt_step_n hb], s1, s2, s3, s4, s5, s6, fun z i hi hwi => ?_⟩)
      rw [hopk] at z
      by_cases e : i = k
      · rw [e, hb] at hwi; cases hwi
      · exact hnew z i (by omega) hwi
    | true =>
      rw [hb, Bool.not_true, Bool.false_or] at hopk
      refine yx rfl ?_
      have putit : ∀ v, opnB tt c0 w (k + 1) = v → jn_X8_isProof_56 Mt (nI c0) (nI ln) (nI k) (nI (n + cnt (fun i => w.testBit i) k)) b1 b2 b3 b4 b5 b6 rec (if v then 1 else 0) := fun v hv => by
        unfold jn_X8_isProof_56
        refine sp_putG hRo (by omega) hc q hl (tk := 1) (fun left' g1 g2 => ?_)
        rw [nI_1]
        refine hrec _ _ _ _ _ _ _ _ q ⟨by rw [hv], by rw [cnt_step_y hb, Nat.add_assoc], s1.upd (by omega), s2.upd (by omega), s3.upd (by omega), s4.upd (by omega), s5.upd (by omega), fun j hj => ?_, fun z i hi hwi => ?_⟩
        · rw [g1 j (Or.inl (by omega))]; exact s6 j hj
        · rw [hopk, Bool.and_eq_true] at z
          by_cases e : i = k
          · rw [e, up_at]
            exact ⟨rfl, fun r hr => g2 (of_decide_eq_true z.2) r hr⟩
          · have hci := cnt_imp_lt2 (p := fun i => w.testBit i) (show i < k by omega) hwi
            have := hnew z.1 i (by omega) hwi
            rw [up_ne (by omega)]
            exact ⟨this.1, fun r hr => by rw [g1 _ (Or.inl (by omega))]; exact this.2 r hr⟩
      cases ho : opnB tt c0 w k with
      | false =>
        exact f01 (putit false (by rw [hopk, ho]; rfl))
      | true =>
        refine t01 ?_
        rw [nI_6]
        refine ⟨vp_in_nI (by omega) (by omega), ?_⟩
        rw [nI_clamp (by omega), hMt c0 k (by omega) (by omega)]
        have h2 := ht2 c0 k
        refine br_neq (b := 0) (by omega) (by omega) (fun z => putit false (by rw [hopk, ho, decide_eq_false z]; rfl)) (fun z => putit true (by rw [hopk, ho, decide_eq_true z]; rfl))
