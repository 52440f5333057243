/-! PAIRS O: ways -/
theorem QS_true {ov : Nat → Nat → Bool} {k : Nat} {y : Nat → Nat} : QS ov (fun _ => true) k y = if al2 (fun i e => !ov i e || decide (y e ≤ y i)) k = true then 1 else 0 := by
  have e : cloB ov (fun _ => true) k = true := cloB_iff.mpr (fun i _ e _ _ _ => rfl)
  have e2 : okB ov (fun _ => true) k y = al2 (fun i e => !ov i e || decide (y e ≤ y i)) k := rfl
  unfold QS
  rw [e, e2]
  by_cases z : al2 (fun i e => !ov i e || decide (y e ≤ y i)) k = true
  · rw [if_pos z, if_pos ⟨rfl, z⟩]
  · rw [if_neg z, if_neg (fun y => z y.2)]
theorem QS_dep {ov : Nat → Nat → Bool} {k : Nat} : Dep k (QS ov (fun _ => true) k) := by
  intro y y' h
  have e : okB ov (fun _ => true) k y = true ↔ okB ov (fun _ => true) k y' = true := by
    rw [okB_iff, okB_iff]
    constructor
    · intro g i hi e he g1 g2 g3
      rw [← h i hi, ← h e (by omega)]; exact g i hi e he g1 g2 g3
    · intro g i hi e he g1 g2 g3
      rw [h i hi, h e (by omega)]; exact g i hi e he g1 g2 g3
  unfold QS
  by_cases z : cloB ov (fun _ => true) k = true ∧ okB ov (fun _ => true) k y = true
  · rw [if_pos z, if_pos ⟨z.1, e.mp z.2⟩]
  · rw [if_neg z, if_neg (fun y => z ⟨y.1, e.mpr y.2⟩)]
theorem one_dep {k : Nat} : Dep k (fun _ => 1) := fun _ _ _ => rfl
theorem sp_oneWay {nb k : Nat} {col : Nat → Nat} {L : Nat → Nat → Nat} {bCol left : Nat → Int32} (hB : BunM nb col L bCol left) (hk : k ≤ 5) {ch : Nat → Nat} {cn yr : Nat → Int32} {y : Nat → Nat} (hc : ∀ i, i < k → cn i = nI (ch i) ∧ ch i < nb) (hy : ∀ i, i < k → yr i = nI (y i) ∧ y i ≤ 99) {bSrt mF mT : Nat → Int32} {l3 : Int64} {rec : Int64 → Int32 → (Nat → Int32) → Prop} (h : jn_X8_ways_240 bSrt mF mT (nI k) cn yr rec l3 (lN (QS (fun i e => overM col L (ch i) (ch e)) (fun _ => true) k y))) : zl2 (bd_X8_ways_151 bCol bSrt left mF mT (nI k) cn l3 yr rec) 1 0 := by
  refine zu2_2 k (by omega) (fun i x => x = if al (fun i => al (fun e => !overM col L (ch i) (ch e) || decide (y e ≤ y i)) i) i = true then 1 else 0) 0 rfl (by omega) rfl (fun i x rec2 hi hJ hrec => ?_)
  unfold bd_X8_ways_151
  refine br_le (by omega) (by omega) (fun q => ?_) (fun q => ?_)
  · have hik : i = k := by omega
    subst hik
    rw [QS_true] at h
    unfold al2 at h
    cases ha : al (fun i => al (fun e => !overM col L (ch i) (ch e) || decide (y e ≤ y i)) i) i with
    | true =>
      rw [ha, if_pos rfl] at hJ h
      rw [hJ]
      exact t01 h
    | false =>
      rw [ha, if_neg (by decide)] at hJ h
      rw [hJ]
      exact f01 h
  · refine zu2_2 i (by omega) (fun e x => x = if (al (fun i => al (fun e => !overM col L (ch i) (ch e) || decide (y e ≤ y i)) i) i && al (fun e => !overM col L (ch i) (ch e) || decide (y e ≤ y i)) e) = true then 1 else 0) 0 rfl (by omega) (by rw [al, Bool.and_true]; exact hJ) (fun e x rec3 he hJ2 hrec2 => ?_)
    unfold bd_X8_ways_160
    refine br_le (by omega) (by omega) (fun q2 => ?_) (fun q2 => ?_)
    · have hei : e = i := by omega
      subst hei
      rw [nI_1]
      refine hrec x q ?_
      rw [hJ2, al]
    · rw [nI_1]
      cases ha : (al (fun i => al (fun e => !overM col L (ch i) (ch e) || decide (y e ≤ y i)) i) i && al (fun e => !overM col L (ch i) (ch e) || decide (y e ≤ y i)) e) with
      | false =>
        rw [ha, if_neg (by decide)] at hJ2
        rw [hJ2]
        refine f01 (hrec2 _ q2 ?_)
        rw [al, ← Bool.and_assoc, ha, Bool.false_and, if_neg (by decide)]
      | true =>
        rw [ha, if_pos rfl] at hJ2
        rw [hJ2]
        obtain ⟨y1, y2⟩ := hy i q
        obtain ⟨y3, y4⟩ := hy e (by omega)
        refine t01 ⟨vp_in_nI (by omega) (by omega), vp_in_nI (by omega) (by omega), ?_⟩
        rw [nI_clamp (by omega), nI_clamp (by omega), y1, y3]
        refine br_le (by omega) (by omega) (fun q3 => hrec2 _ q2 ?_) (fun q3 => ⟨vp_in_nI (by omega) (by omega), vp_in_nI (by omega) (by omega), ?_⟩)
        · rw [al, ← Bool.and_assoc, ha, Bool.true_and, decide_eq_true q3, Bool.or_true, if_pos rfl]
        · rw [(hc i q).1, (hc e (by omega)).1]
          refine sp_isOver hB (hc i q).2 (hc e (by omega)).2 ?_
          cases ho : overM col L (ch i) (ch e) with
          | true =>
            refine t10 (hrec2 _ q2 ?_)
            rw [al, ← Bool.and_assoc, ha, Bool.true_and, ho, decide_eq_false (by omega), if_neg (by decide)]
          | false =>
            refine f10 (hrec2 _ q2 ?_)
            rw [al, ← Bool.and_assoc, ha, Bool.true_and, ho]
            rfl
theorem sp_waysM {C n : Nat} (hC : C ≤ 6) (hn : n ≤ 40) {col srt : Nat → Nat} {L : Nat → Nat → Nat} {bCol bSrt left mF mT : Nat → Int32} {f t : Nat → Nat} (hB : BunM n col L bCol left) (hsrt : ∀ b, b < n → bSrt b = nI (srt b) ∧ srt b < 6) (hA : ∀ s, s < 6 → mF s = nI (f s) ∧ mT s = nI (t s)) (hft : ∀ s, f s ≤ t s) (ht : ∀ s, t s ≤ 99) {c : Nat} (hc : c < C) {cn yr : Nat → Int32} {post : Int64 → Int32 → (Nat → Int32) → (Nat → Int32) → Prop}
    (h3 : LateW (strB col L c) f t srt n → ∀ cn yr, post (-3) 0 cn yr) (h : ¬ LateW (strB col L c) f t srt n → ∀ cn yr, post (lN (waysW (strB col L c) f t srt col L n)) 0 cn yr) : wp_X8_ways (nI C) (nI n) bCol bSrt left mF mT cn yr (nI c) post := by
  unfold wp_X8_ways
  refine sp_noColumnY (by omega) hc (yy rfl ?_)
  have hle := cnt_le (strB col L c) n
  refine zu3_2 n (by omega) (fun k x cn' => x = nI (cnt (strB col L c) k) ∧ (∀ j, j < cnt (strB col L c) k → cn' j = nI (chF (strB col L c) k j)) ∧ (∀ b, b < k → strB col L c b = true → t (srt b) - f (srt b) < 10) ∧ cnt (strB col L c) k ≤ 5) 0 rfl (by omega) ⟨rfl, fun j hj => absurd hj (Nat.not_lt_zero j), fun b hb => absurd hb (Nat.not_lt_zero b), Nat.zero_le 5⟩ (fun k x cn' rec hk hJ hrec => ?_)
  obtain ⟨rfl, g1, g2, g3⟩ := hJ
  unfold bd_X8_ways_21
  refine br_le (by omega) (by omega) (fun q => ?_) (fun q => ⟨vp_in_nI (by omega) (by omega), ?_⟩)
  · have hk1 : k = n := by omega
    subst hk1
    have hnl : ¬ LateW (strB col L c) f t srt k := by
      rintro (z | ⟨b, z1, z2, z3⟩)
      · omega
      · have := g2 b z1 z2; omega
    have hfin := h hnl cn'
    have hch : ∀ i, i < cnt (strB col L c) k → cn' i = nI (chF (strB col L c) k i) ∧ chF (strB col L c) k i < k := fun i hi => ⟨g1 i hi, (chF_ok hi).1⟩
    have hyr : ∀ i, i < cnt (strB col L c) k → vp_in (cn' i) 80 ∧ vp_in (bSrt (cn' i).toNatClampNeg) 6 ∧ mF (bSrt (cn' i).toNatClampNeg).toNatClampNeg = nI (yrF (strB col L c) f srt k i) ∧ mT (bSrt (cn' i).toNatClampNeg).toNatClampNeg = nI (yrF (strB col L c) t srt k i) := fun i hi => by
      obtain ⟨e1, e2⟩ := hch i hi
      obtain ⟨e3, e4⟩ := hsrt _ e2
      rw [e1, nI_clamp (by omega), e3, nI_clamp (by omega)]
      exact ⟨vp_in_nI (by omega) (by omega), vp_in_nI (by omega) (by omega), (hA _ e4).1, (hA _ e4).2⟩
    have hft' : ∀ i, yrF (strB col L c) f srt k i ≤ yrF (strB col L c) t srt k i := fun i => hft _
    have ht' : ∀ i, yrF (strB col L c) t srt k i ≤ 99 := fun i => ht _
    unfold waysW at hfin
    generalize hf0 : yrF (strB col L c) f srt k = f' at hfin hyr hft'
    generalize ht0 : yrF (strB col L c) t srt k = t' at hfin hyr hft' ht'
    have hov : ovF (strB col L c) col L k = fun i e => overM col L (chF (strB col L c) k i) (chF (strB col L c) k e) := rfl
    rw [hov] at hfin
    generalize hm0 : cnt (strB col L c) k = m at hfin hyr hch g1 g3
    generalize hc0 : chF (strB col L c) k = ch at hfin hch
    generalize hT0 : cf f' t' m 0 (QS (fun i e => overM col L (ch i) (ch e)) (fun _ => true) m) (fun _ => 0) = tot at hfin
    refine zu2_1 m (by omega) (fun i Y => ∀ j, j < i → Y j = nI (f' j)) 0 rfl (by omega) (fun j hj => absurd hj (Nat.not_lt_zero j)) (fun i Y rec2 hi hJ hrec2 => ?_)
    unfold bd_X8_ways_102
    have v5 : ∀ i, i < m → vp_in (nI i) 5 := fun i hi => vp_in_nI (by omega) (by omega)
    refine br_le (by omega) (by omega) (fun q2 => ?_) (fun q2 => ?_)
    · have him : i = m := by omega
      subst him
      refine ⟨fun l3 l5 Y => (l5 = 0 ∧ l3 = lN tot) ∨ (l5 = 1 ∧ ∃ y w, (∀ j, j < i → Y j = nI (y j) ∧ f' j ≤ y j ∧ y j ≤ t' j) ∧ l3 = lN w ∧ tot = w + QS (fun i e => overM col L (ch i) (ch e)) (fun _ => true) i y + rest f' t' i (QS (fun i e => overM col L (ch i) (ch e)) (fun _ => true) i) y), fun _ l5 Y => if l5 = 0 then 0 else 1 + rest f' t' i (fun _ => 1) (fun j => (Y j).toNatClampNeg), Or.inr ⟨rfl, f', 0, fun j hj => ⟨hJ j hj, Nat.le_refl _, hft' j⟩, rfl, ?_⟩, ?_⟩
      · rw [← hT0, Nat.zero_add, ← rest_start hft' ht' (fun j _ => rfl)]
        exact cf_dep QS_dep _ _ _ _ (Nat.zero_add i) (fun j hj => absurd hj (Nat.not_lt_zero j))
      · rintro l3 l5 Y0 (⟨rfl, rfl⟩ | ⟨rfl, y, w, hy, rfl, htot⟩)
        · unfold bd_X8_ways_140
          exact yy rfl (hfin Y0)
        · unfold bd_X8_ways_140
          refine nn (by decide) ?_
          refine sp_oneWay hB g3 hch (fun j hj => ⟨(hy j hj).1, by have := (hy j hj).2.2; have := ht' j; omega⟩) ?_
          unfold jn_X8_ways_240
          refine zd2_1 i (by omega) (fun a Y' => ∀ j, j < i → Y' j = nI (if j < a then y j else f' j) ∧ (a ≤ j → y j = t' j)) i (nI_m1 i) (Nat.le_refl i) (fun j hj => ⟨by rw [if_pos hj]; exact (hy j hj).1, fun z => absurd hj (by omega)⟩) (fun Y' rec3 hJ3 => ?_) (fun a Y' rec3 ha hJ3 hrec3 => ?_)
          · unfold bd_X8_ways_247
            refine neg_yes (neg_yes ?_)
            unfold jn_X8_ways_319
            refine yy rfl ⟨Or.inl ⟨rfl, ?_⟩, ?_⟩
            · rw [lN_add, htot, rest_end (fun j hj => (hJ3 j hj).2 (Nat.zero_le j)), Nat.add_zero]
            · show (if (0 : Int32) = 0 then 0 else _) < (if (1 : Int32) = 0 then 0 else _)
              rw [if_pos rfl, if_neg (by decide)]
              omega
          · obtain ⟨e1, e2, e3, e4⟩ := hyr a ha
            have e5 := (hJ3 a ha).1
            rw [if_pos (Nat.lt_succ_self a)] at e5
            have e6 := (hy a ha).2
            have e7 := ht' a
            unfold bd_X8_ways_247
            refine neg_no (by omega) ⟨v5 a ha, v5 a ha, ?_⟩
            rw [nI_clamp (show a < 2 ^ 31 by omega)]
            refine ⟨e1, e2, ?_⟩
            rw [e4, e5, e3]
            refine br_neq (by omega) (by omega) (fun z => neg_no (by omega) ?_) (fun z => ⟨v5 a ha, e1, e2, v5 a ha, hrec3 _ (fun j hj => ?_)⟩)
            · unfold jn_X8_ways_319
              refine nn (by decide) ⟨v5 a ha, v5 a ha, ?_⟩
              rw [nI_clamp (show a < 2 ^ 31 by omega), e5, nI_1]
              have hY2 : ∀ j, j < i → upd Y' a (nI (y a + 1)) j = nI (if j < a then y j else if j = a then y a + 1 else f' j) := fun j hj => by
                by_cases e8 : j = a
                · rw [e8, up_at, if_neg (by omega), if_pos rfl]
                · rw [up_ne e8, (hJ3 j hj).1]
                  by_cases e9 : j < a
                  · rw [if_pos e9, if_pos (by omega)]
                  · rw [if_neg e9, if_neg (by omega), if_neg e8]
              have stp : ∀ Q, Dep i Q → rest f' t' i Q y = Q (fun j => if j < a then y j else if j = a then y a + 1 else f' j) + rest f' t' i Q (fun j => if j < a then y j else if j = a then y a + 1 else f' j) := fun Q hQ => rest_step hQ hft' ht' ha (fun j h1 h2 => (hJ3 j h2).2 (by omega)) (by omega) (fun j h1 _ => by show (if _ then _ else _) = _; rw [if_neg (by omega), if_neg (by omega)]) (by show (if _ then _ else _) = _; rw [if_neg (by omega), if_pos rfl]) (fun j h1 => by show (if _ then _ else _) = _; rw [if_pos h1])
              refine ⟨Or.inr ⟨rfl, _, w + QS (fun i e => overM col L (ch i) (ch e)) (fun _ => true) i y, fun j hj => ⟨hY2 j hj, ?_⟩, lN_add _ _, ?_⟩, ?_⟩
              · by_cases e8 : j < a
                · rw [if_pos e8]; exact (hy j hj).2
                · rw [if_neg e8]
                  by_cases e9 : j = a
                  · rw [if_pos e9, e9]; omega
                  · rw [if_neg e9]; exact ⟨Nat.le_refl _, hft' j⟩
              · rw [htot, stp _ QS_dep]; omega
              · show (if (1 : Int32) = 0 then 0 else _) < (if (1 : Int32) = 0 then 0 else _)
                rw [if_neg (by decide), if_neg (by decide)]
                have d1 : rest f' t' i (fun _ => 1) (fun j => (upd Y' a (nI (y a + 1)) j).toNatClampNeg) = rest f' t' i (fun _ => 1) (fun j => if j < a then y j else if j = a then y a + 1 else f' j) := rest_dep one_dep (fun j hj => by
                  show (upd Y' a (nI (y a + 1)) j).toNatClampNeg = _
                  rw [hY2 j hj]
                  have g5 := (hy j hj).2
                  have g6 := ht' j
                  have g7 := hft' j
                  refine nI_clamp ?_
                  by_cases e8 : j < a
                  · rw [if_pos e8]; omega
                  · rw [if_neg e8]
                    by_cases e9 : j = a
                    · rw [if_pos e9]; omega
                    · rw [if_neg e9]; omega)
                have d2 : rest f' t' i (fun _ => 1) (fun j => (Y0 j).toNatClampNeg) = rest f' t' i (fun _ => 1) y := rest_dep one_dep (fun j hj => by
                  show (Y0 j).toNatClampNeg = _
                  have g5 := (hy j hj).2
                  have g6 := ht' j
                  rw [(hy j hj).1, nI_clamp (by omega)])
                have d3 := stp (fun _ => 1) one_dep
                rw [d1, d2, d3]
                omega
            · by_cases e8 : j = a
              · rw [e8, up_at, if_neg (by omega)]
                exact ⟨rfl, fun _ => z⟩
              · rw [up_ne e8, (hJ3 j hj).1]
                refine ⟨?_, fun h1 => (hJ3 j hj).2 (by omega)⟩
                by_cases e9 : j < a
                · rw [if_pos e9, if_pos (by omega)]
                · rw [if_neg e9, if_neg (by omega)]
    · obtain ⟨e1, e2, e3, e4⟩ := hyr i q2
      refine ⟨v5 i q2, ?_⟩
      rw [nI_clamp (show i < 2 ^ 31 by omega)]
      refine ⟨e1, e2, v5 i q2, ?_⟩
      rw [e3, nI_1]
      refine hrec2 _ q2 (fun j hj => ?_)
      by_cases e : j = i
      · rw [e, up_at]
      · rw [up_ne e]; exact hJ j (by omega)
  · obtain ⟨h80, hcol, hL⟩ := id hB
    rw [nI_clamp (show k < 2 ^ 31 by omega), (hcol k q).1, nI_1]
    have hcol6 := (hcol k q).2
    have skip : strB col L c k = false → rec (nI (cnt (strB col L c) k)) (nI (k + 1)) cn' := fun hp => by
      refine hrec _ _ q ⟨by rw [cnt_step_n hp], fun j hj => ?_, fun b hb hpb => ?_, by rw [cnt_step_n hp]; exact g3⟩
      · rw [cnt_step_n hp] at hj
        rw [chF_y2 hj]; exact g1 j hj
      · by_cases e : b = k
        · rw [e, hp] at hpb; cases hpb
        · exact g2 b (by omega) hpb
    refine br_neq (by omega) (by omega) (fun z => skip ?_) (fun z => ?_)
    · unfold strB; rw [decide_eq_false z]; rfl
    · refine sp_leftOf q (by omega) (fun r hr => (hL k r q hr).1) ?_
      have h54 : sm (L k) 6 ≤ 9 * 6 := sm_le (fun r hr => (hL k r q hr).2)
      refine br_le (a := 0) (by omega) (by omega) (fun z2 => skip ?_) (fun z2 => ?_)
      · unfold strB; rw [decide_eq_false (show ¬ 0 < sm (L k) 6 by omega)]; simp
      · have hp : strB col L c k = true := by unfold strB; rw [decide_eq_true z, decide_eq_true z2]; rfl
        have h1 := hft (srt k)
        have h2 := ht (srt k)
        obtain ⟨s1, s2⟩ := hsrt k q
        refine br_eq (b := 5) (by omega) (by omega) (fun z3 => h3 (Or.inl ?_) _ _) (fun z3 => ?_)
        · have := cnt_mono (p := strB col L c) (show k + 1 ≤ n by omega)
          rw [cnt_step_y hp] at this
          omega
        · have v80 : vp_in (nI k) 80 := vp_in_nI (by omega) (by omega)
          rw [s1, nI_clamp (show srt k < 2 ^ 31 by omega), (hA _ s2).1, (hA _ s2).2, nI_subN h1]
          have v6 : vp_in (nI (srt k)) 6 := vp_in_nI (by omega) (by omega)
          refine ⟨v80, v6, v80, v6, br_le (a := 9) (by omega) (by omega) (fun z4 => ⟨vp_in_nI (by omega) (by omega), ?_⟩) (fun z4 => h3 (Or.inr ⟨k, q, hp, z4⟩) _ _)⟩
          rw [nI_1, nI_clamp (by omega)]
          refine hrec _ _ q ⟨by rw [cnt_step_y hp], fun j hj => ?_, fun b hb hpb => ?_, by rw [cnt_step_y hp]; omega⟩
          · rw [cnt_step_y hp] at hj
            by_cases e : j = cnt (strB col L c) k
            · rw [e, up_at, chF_y hp]
            · rw [up_ne e, chF_y2 (by omega)]; exact g1 j (by omega)
          · by_cases e : b = k
            · rw [e]; omega
            · exact g2 b (by omega) hpb
theorem pu_ways {F_columns : Int32} {F_rows : Int32} {F_steepness : Int32} {F_size : Int32} {F_cells : Nat → Int32} {F_wearing : Nat → Int32} {F_turning : Nat → Int32} {c_laid : Int32} {c_columns : Nat → Int32} {c_rows : Nat → Int32} {c_lengths : Nat → Int32} {c_sorts : Nat → Int32} {c_thicknesses : Nat → Int32} {c_remains : Nat → Int32} {c_lying : Nat → Int64} {k0_laid : Int32} {k0_columns : Nat → Int32} {k0_rows : Nat → Int32} {k0_lengths : Nat → Int32} {k0_sorts : Nat → Int32} {k0_thicknesses : Nat → Int32} {k0_remains : Nat → Int32} {k0_lying : Nat → Int64} {k1_laid : Int32} {k1_columns : Nat → Int32} {k1_rows : Nat → Int32} {k1_lengths : Nat → Int32} {k1_sorts : Nat → Int32} {k1_thicknesses : Nat → Int32} {k1_remains : Nat → Int32} {k1_lying : Nat → Int64} {S_isKept : Nat → Int32} {Ag_from : Nat → Int32} {Ag_to : Nat → Int32} {T_length : Int32} {T_bytes : Nat → Int32} {M_columns : Int32} {M_rows : Int32} {M_pitch : Int32} {M_turns : Nat → Int32} {M_wears : Nat → Int32} {M_laid : Int32} {M_bCol : Nat → Int32} {M_bRow : Nat → Int32} {M_bLong : Nat → Int32} {M_bSort : Nat → Int32} {M_bThick : Nat → Int32} {M_left : Nat → Int32} {M_keptLaid : Nat → Int32} {M_isKept : Nat → Int32} {M_keptCol : Nat → Int32} {M_keptRow : Nat → Int32} {M_keptLong : Nat → Int32} {M_keptSort : Nat → Int32} {M_keptThick : Nat → Int32} {M_keptLeft : Nat → Int32} {M_froms : Nat → Int32} {M_tos : Nat → Int32} {M_text : Nat → Int32} {M_textSize : Int32} {Ag_counted : Nat → Int32} {Ag_beneath : Nat → Int32} {Ag_given : Nat → Int64} {M_chosen : Nat → Int32} {M_year : Nat → Int32} (hR : Rel F_columns F_rows F_steepness F_size F_cells F_wearing F_turning c_laid c_columns c_rows c_lengths c_sorts c_thicknesses c_remains c_lying k0_laid k0_columns k0_rows k0_lengths k0_sorts k0_thicknesses k0_remains k0_lying k1_laid k1_columns k1_rows k1_lengths k1_sorts k1_thicknesses k1_remains k1_lying S_isKept Ag_from Ag_to T_length T_bytes M_columns M_rows M_pitch M_turns M_wears M_laid M_bCol M_bRow M_bLong M_bSort M_bThick M_left M_keptLaid M_isKept M_keptCol M_keptRow M_keptLong M_keptSort M_keptThick M_keptLeft M_froms M_tos M_text M_textSize) (l1 : Int32) : wp_X7_ways F_columns F_rows c_laid c_columns c_sorts c_lying Ag_from Ag_to Ag_counted Ag_beneath Ag_given l1 (fun (r : Int64) (Ag_counted' : Nat → Int32) (Ag_beneath' : Nat → Int32) (Ag_given' : Nat → Int64) => wp_X8_ways M_columns M_laid M_bCol M_bSort M_left M_froms M_tos M_chosen M_year l1 (fun (r' : Int64) (M_thrown' : Int32) (M_chosen' : Nat → Int32) (M_year' : Nat → Int32) => r = r' ∧ Rel F_columns F_rows F_steepness F_size F_cells F_wearing F_turning c_laid c_columns c_rows c_lengths c_sorts c_thicknesses c_remains c_lying k0_laid k0_columns k0_rows k0_lengths k0_sorts k0_thicknesses k0_remains k0_lying k1_laid k1_columns k1_rows k1_lengths k1_sorts k1_thicknesses k1_remains k1_lying S_isKept Ag_from Ag_to T_length T_bytes M_columns M_rows M_pitch M_turns M_wears M_laid M_bCol M_bRow M_bLong M_bSort M_bThick M_left M_keptLaid M_isKept M_keptCol M_keptRow M_keptLong M_keptSort M_keptThick M_keptLeft M_froms M_tos M_text M_textSize)) := by
  obtain ⟨C, R, tt, wr, n, col, row, len, srt, thk, L, hRo, hCu, hS0, hS1, hAg, hTx⟩ := id hR
  obtain ⟨-, h2, -, h4, rfl, rfl, rfl, rfl, -⟩ := id hRo
  obtain ⟨⟨⟨e1, ha1, ha2⟩, hZ, hLy⟩, ⟨e2, hb1, hb2⟩, ⟨hn, hOK⟩, hNo⟩ := id hCu
  subst e1 e2
  have hB := CurR.B h2 hCu
  obtain ⟨f, t, hA, hft, ht⟩ := ages_nat hAg
  unfold wp_X7_ways
  rcases nI_or l1 C with ⟨c, hc, rfl⟩ | hno
  · refine sp_hasColumnY (by omega) hc (t10 ?_)
    refine sp_countWays h2 h4 hn (fun b hb => ⟨(ha1 b hb).1, (hOK b hb).1⟩) (fun b hb => ⟨(ha1 b hb).2.2.2.1, (hOK b hb).2.2.2.1⟩) (fun b r hb hr => ((hOK b hb).2.2.2.2.2 r).2 hr) hLy (fun s hs => ⟨(hA s hs).1, (hA s hs).2.1⟩) hft ht hc (fun hl cn bn gv => ?_) (fun hl cn bn gv => ?_)
    · exact sp_waysM h2 hn hB (fun b hb => ⟨(hb1 b hb).2.2.2.1, (hOK b hb).2.2.2.1⟩) (fun s hs => ⟨(hA s hs).2.2.1, (hA s hs).2.2.2⟩) hft ht hc (fun _ cn yr => ⟨rfl, hR⟩) (fun z => absurd hl z)
    · exact sp_waysM h2 hn hB (fun b hb => ⟨(hb1 b hb).2.2.2.1, (hOK b hb).2.2.2.1⟩) (fun s hs => ⟨(hA s hs).2.2.1, (hA s hs).2.2.2⟩) hft ht hc (fun z => absurd z hl) (fun _ cn yr => ⟨rfl, hR⟩)
  · refine sp_hasColumnN (by omega) hno (f10 ?_)
    unfold wp_X8_ways
    exact sp_noColumnN (by omega) hno (t01 ⟨rfl, hR⟩)
