/-! PURE HEAVY: hold, back, and what is too much -/
theorem sp_hold {M_laid : Int32} {M_bCol M_bRow M_bLong M_bSort M_bThick M_left hC hR hL hS hT hLe : Nat → Int32} {post : Int32 → (Nat → Int32) → (Nat → Int32) → (Nat → Int32) → (Nat → Int32) → (Nat → Int32) → (Nat → Int32) → Prop} (h : ∀ kc kr kl ks kt kL, (∀ j, j < 80 → kc j = M_bCol j) → (∀ j, j < 80 → kr j = M_bRow j) → (∀ j, j < 80 → kl j = M_bLong j) → (∀ j, j < 80 → ks j = M_bSort j) → (∀ j, j < 80 → kt j = M_bThick j) → (∀ j, j < 480 → kL j = M_left j) → post M_laid kc kr kl ks kt kL) : wp_X8_hold M_laid M_bCol M_bRow M_bLong M_bSort M_bThick M_left hC hR hL hS hT hLe post := by
  unfold wp_X8_hold
  refine zu6_1 80 (by omega) (fun k a b c d e => CpyP M_bCol hC 0 k a ∧ CpyP M_bRow hR 0 k b ∧ CpyP M_bLong hL 0 k c ∧ CpyP M_bSort hS 0 k d ∧ CpyP M_bThick hT 0 k e) 0 rfl (by omega) ⟨CpyP.zero _ _ _, CpyP.zero _ _ _, CpyP.zero _ _ _, CpyP.zero _ _ _, CpyP.zero _ _ _⟩ (fun k a b c d e rec hk hJ hrec => ?_)
  obtain ⟨ha, hb, hc, hd, he⟩ := hJ
  unfold bd_X8_hold_10
  have v1 : k < 80 → vp_in (nI k) 80 := fun q => vp_in_nI (by omega) (by omega)
  refine br_le (a := k) (b := 80) (by omega) (by omega) (fun q => ?_) (fun q => ⟨v1 q, v1 q, v1 q, v1 q, v1 q, v1 q, v1 q, v1 q, v1 q, v1 q, ?_⟩)
  · have hk1 : k = 80 := by omega
    subst hk1
    refine zu2_1 480 (by omega) (fun k a => CpyP M_left hLe 0 k a) 0 rfl (by omega) (CpyP.zero _ _ _) (fun k f rec2 hk2 hf hrec2 => ?_)
    unfold bd_X8_hold_84
    refine br_le (a := k) (b := 480) (by omega) (by omega) (fun q2 => ?_) (fun q2 => ⟨vp_in_nI (by omega) (by omega), vp_in_nI (by omega) (by omega), ?_⟩)
    · have hk3 : k = 480 := by omega
      subst hk3
      have q : ∀ {f g A : Nat → Int32} {k j : Nat}, CpyP f g 0 k A → j < k → A j = f j := fun {f g A k j} h hj => by have := h.in hj; rwa [Nat.zero_add] at this
      exact h a b c d e f (fun j hj => q ha hj) (fun j hj => q hb hj) (fun j hj => q hc hj) (fun j hj => q hd hj) (fun j hj => q he hj) (fun j hj => q hf hj)
    · rw [nI_1, nI_clamp (by omega)]
      exact hrec2 _ q2 (hf.step (Nat.zero_add k).symm rfl)
  · rw [nI_1, nI_clamp (by omega)]
    exact hrec _ _ _ _ _ q ⟨ha.step (Nat.zero_add k).symm rfl, hb.step (Nat.zero_add k).symm rfl, hc.step (Nat.zero_add k).symm rfl, hd.step (Nat.zero_add k).symm rfl, he.step (Nat.zero_add k).symm rfl⟩
theorem sp_back {M_heldLaid : Int32} {M_bCol M_bRow M_bLong M_bSort M_bThick M_left hC hR hL hS hT hLe : Nat → Int32} {post : Int32 → (Nat → Int32) → (Nat → Int32) → (Nat → Int32) → (Nat → Int32) → (Nat → Int32) → (Nat → Int32) → Prop} (h : ∀ kc kr kl ks kt kL, (∀ j, j < 80 → kc j = hC j) → (∀ j, j < 80 → kr j = hR j) → (∀ j, j < 80 → kl j = hL j) → (∀ j, j < 80 → ks j = hS j) → (∀ j, j < 80 → kt j = hT j) → (∀ j, j < 480 → kL j = hLe j) → post M_heldLaid kc kr kl ks kt kL) : wp_X8_back M_heldLaid M_bCol M_bRow M_bLong M_bSort M_bThick M_left hC hR hL hS hT hLe post := by
  unfold wp_X8_back
  refine zu6_1 80 (by omega) (fun k a b c d e => CpyP hC M_bCol 0 k a ∧ CpyP hR M_bRow 0 k b ∧ CpyP hL M_bLong 0 k c ∧ CpyP hS M_bSort 0 k d ∧ CpyP hT M_bThick 0 k e) 0 rfl (by omega) ⟨CpyP.zero _ _ _, CpyP.zero _ _ _, CpyP.zero _ _ _, CpyP.zero _ _ _, CpyP.zero _ _ _⟩ (fun k a b c d e rec hk hJ hrec => ?_)
  obtain ⟨ha, hb, hc, hd, he⟩ := hJ
  unfold bd_X8_back_10
  have v1 : k < 80 → vp_in (nI k) 80 := fun q => vp_in_nI (by omega) (by omega)
  refine br_le (a := k) (b := 80) (by omega) (by omega) (fun q => ?_) (fun q => ⟨v1 q, v1 q, v1 q, v1 q, v1 q, v1 q, v1 q, v1 q, v1 q, v1 q, ?_⟩)
  · have hk1 : k = 80 := by omega
    subst hk1
    refine zu2_1 480 (by omega) (fun k a => CpyP hLe M_left 0 k a) 0 rfl (by omega) (CpyP.zero _ _ _) (fun k f rec2 hk2 hf hrec2 => ?_)
    unfold bd_X8_back_84
    refine br_le (a := k) (b := 480) (by omega) (by omega) (fun q2 => ?_) (fun q2 => ⟨vp_in_nI (by omega) (by omega), vp_in_nI (by omega) (by omega), ?_⟩)
    · have hk3 : k = 480 := by omega
      subst hk3
      have q : ∀ {f g A : Nat → Int32} {k j : Nat}, CpyP f g 0 k A → j < k → A j = f j := fun {f g A k j} h hj => by have := h.in hj; rwa [Nat.zero_add] at this
      exact h a b c d e f (fun j hj => q ha hj) (fun j hj => q hb hj) (fun j hj => q hc hj) (fun j hj => q hd hj) (fun j hj => q he hj) (fun j hj => q hf hj)
    · rw [nI_1, nI_clamp (by omega)]
      exact hrec2 _ q2 (hf.step (Nat.zero_add k).symm rfl)
  · rw [nI_1, nI_clamp (by omega)]
    exact hrec _ _ _ _ _ q ⟨ha.step (Nat.zero_add k).symm rfl, hb.step (Nat.zero_add k).symm rfl, hc.step (Nat.zero_add k).symm rfl, hd.step (Nat.zero_add k).symm rfl, he.step (Nat.zero_add k).symm rfl⟩
theorem sm_one {f g : Nat → Nat} {b x : Nat} : ∀ {n : Nat}, b < n → (∀ k, k < n → k ≠ b → f k = g k) → f b + x = g b → sm f n + x = sm g n
  | 0, h, _, _ => absurd h (Nat.not_lt_zero b)
  | n + 1, h, h1, h2 => by
    rw [sm, sm]
    by_cases e : b = n
    · subst e
      rw [sm_congr (f := f) (g := g) (fun k hk => h1 k (by omega) (by omega))]
      omega
    · have := sm_one (n := n) (by omega) (fun k hk => h1 k (by omega)) h2
      have := h1 n (by omega) (fun z => e z.symm)
      omega
theorem wgt_clr {n : Nat} {col : Nat → Nat} {L : Nat → Nat → Nat} {c b : Nat} (hb : b < n) (hc : col b = c) : wgtM n col (clrL L b) c + sm (L b) 6 = wgtM n col L c := by
  unfold wgtM
  refine sm_one hb (fun k _ hk => ?_) ?_
  · by_cases e : col k = c
    · rw [if_pos e, if_pos e]
      refine sm_congr (fun r _ => ?_)
      unfold clrL; rw [if_neg hk]
    · rw [if_neg e, if_neg e]
  · rw [if_pos hc, if_pos hc, sm_congr (g := fun _ => 0) (fun r _ => by unfold clrL; rw [if_pos rfl]), sm_zero, Nat.zero_add]
theorem wgt_zero {n : Nat} {col : Nat → Nat} {L : Nat → Nat → Nat} {c : Nat} (h : ∀ b, b < n → strB col L c b = false) : wgtM n col L c = 0 := by
  unfold wgtM
  rw [sm_congr (g := fun _ => 0) (fun b hb => ?_), sm_zero]
  by_cases e : col b = c
  · rw [if_pos e]
    have := h b hb
    unfold strB at this
    rw [decide_eq_true e, Bool.true_and] at this
    have := of_decide_eq_false this
    omega
  · rw [if_neg e]
theorem sp_tooMany {C R n : Nat} (hC : C ≤ 6) (hR : R ≤ 6) (hn : n ≤ 40) {col : Nat → Nat} {L : Nat → Nat → Nat} {rem : Nat → Int32} {ly : Nat → Int64} (hS : StA C R n col L rem ly) (hz : ∀ b r, b < n → R ≤ r → L b r = 0) (h9 : ∀ b r, b < n → L b r ≤ 9) {c w : Nat} (hc : c < C) (hw : w < 2 ^ 30) {post : Int32 → Prop} (h : ∀ s, s ≤ n → (∀ i, i < s → w < wgtM n col (itL n col c L i) c) → wgtM n col (itL n col c L s) c ≤ w → (∀ i, i < s → topC n col (itL n col c L i) c ≠ none) → post (nI s)) : wp_X1_tooMany (nI R) (nI n) rem ly (nI c) (nI w) post := by
  obtain ⟨h1, h2, h3⟩ := hS
  have hW : ∀ i, wgtM n col (itL n col c L i) c < 2 ^ 30 := by
    intro i
    have hb : ∀ b, b < n → (if col b = c then sm (itL n col c L i b) 6 else 0) ≤ 54 := by
      intro b hb
      by_cases e : col b = c
      · rw [if_pos e]
        exact sm_le (c := 9) (fun r _ => Nat.le_trans (itL_le n col c L i b r) (h9 b r hb))
      · rw [if_neg e]; omega
    have := sm_le hb
    unfold wgtM
    omega
  unfold wp_X1_tooMany
  refine sp_weigh hC hR hn h1 hz h3 hc ?_
  refine sp_inColumn hC hR h3 hc (fun x hx => ?_)
  refine zd3_3 n (by omega) (fun k W q => ∃ i, q = nI i ∧ W = nI (wgtM n col (itL n col c L i) c) ∧ i + k ≤ n ∧ (∀ j, j < i → w < wgtM n col (itL n col c L j) c) ∧ (∀ j, j < i → topC n col (itL n col c L j) c ≠ none) ∧ (∀ b r, b < k → itL n col c L i b r = L b r) ∧ (∀ b, k ≤ b → b < n → strB col (itL n col c L i) c b = false)) n (nI_m1 n) (Nat.le_refl n) ⟨0, rfl, rfl, by omega, fun j hj => absurd hj (Nat.not_lt_zero j), fun j hj => absurd hj (Nat.not_lt_zero j), fun b r _ => rfl, fun b g1 g2 => absurd g1 (by omega)⟩ (fun W q rec hJ => ?_) (fun k W q rec hk hJ hrec => ?_)
  · obtain ⟨i, rfl, rfl, g0, g1, g2, g3, g4⟩ := hJ
    unfold bd_X1_tooMany_24
    refine neg_yes (h i (by omega) g1 ?_ g2)
    rw [wgt_zero (fun b hb => g4 b (Nat.zero_le b) hb)]; omega
  · obtain ⟨i, rfl, rfl, g0, g1, g2, g3, g4⟩ := hJ
    have hWi := hW i
    unfold bd_X1_tooMany_24
    refine neg_no (by omega) (br_le (by omega) (by omega) (fun q => h i (by omega) g1 q g2) (fun q => ?_))
    refine sp_isIn (by omega) ?_
    rw [hx, strB_orB hR hz hk]
    have hst : strB col (itL n col c L i) c k = strB col L c k := by
      unfold strB
      rw [sm_congr (fun r _ => g3 k r (by omega))]
    cases hb : strB col L c k with
    | false =>
      refine f01 (hrec _ _ ⟨i, rfl, rfl, by omega, g1, g2, fun b r hb2 => g3 b r (by omega), fun b hb1 hb2 => ?_⟩)
      by_cases e : b = k
      · rw [e, hst, hb]
      · exact g4 b (by omega) hb2
    | true =>
      refine t01 (sp_remainsOf (by omega) (fun r hr => h1 k r hk hr) ?_)
      have hcb : col k = c := by
        unfold strB at hb
        rw [Bool.and_eq_true] at hb
        exact of_decide_eq_true hb.1
      have htop : topC n col (itL n col c L i) c = some k := by
        unfold topC
        rw [topO_cut (m := k + 1) (by omega) (fun b h1 h2 => g4 b h1 h2), topO, if_pos (by rw [hst, hb])]
      have hnext : itL n col c L (i + 1) = clrL (itL n col c L i) k := by rw [itL, htop]
      have hsum := wgt_clr (L := itL n col c L i) hk hcb
      rw [sm_congr (f := itL n col c L i k) (fun r _ => g3 k r (by omega)), ← hnext] at hsum
      rw [nI_subN (by omega), nI_1, show wgtM n col (itL n col c L i) c - sm (L k) 6 = wgtM n col (itL n col c L (i + 1)) c by omega]
      refine hrec _ _ ⟨i + 1, rfl, rfl, by omega, fun j hj => ?_, fun j hj => ?_, fun b r hb2 => ?_, fun b hb1 hb2 => ?_⟩
      · by_cases e : j = i
        · rw [e]; exact q
        · exact g1 j (by omega)
      · by_cases e : j = i
        · rw [e, htop]; exact fun z => nomatch z
        · exact g2 j (by omega)
      · rw [hnext]; unfold clrL; rw [if_neg (by omega)]; exact g3 b r (by omega)
      · rw [hnext]
        by_cases e : b = k
        · unfold strB
          rw [sm_congr (g := fun _ => 0) (fun r _ => by unfold clrL; rw [if_pos e]), sm_zero]
          simp
        · have : strB col (clrL (itL n col c L i) k) c b = strB col (itL n col c L i) c b := by
            unfold strB
            rw [sm_congr (f := clrL (itL n col c L i) k b) (fun r _ => by unfold clrL; rw [if_neg e])]
          rw [this]
          exact g4 b (by omega) hb2
