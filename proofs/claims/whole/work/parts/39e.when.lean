/-! PURE WHEN 2: the reference's side -/
theorem sp_layLatest {n : Nat} (hn : n ≤ 80) {col srt : Nat → Nat} {L : Nat → Nat → Nat} {bCol bSrt left : Nat → Int32} (hB : BunM n col L bCol left) (hsrt : ∀ b, b < n → bSrt b = nI (srt b) ∧ srt b < 6) {mT : Nat → Int32} {t : Nat → Nat} (hA : ∀ s, s < 6 → mT s = nI (t s)) (ht : ∀ s, t s ≤ 99) {Y0 : Nat → Int32} {post : (Nat → Int32) → Prop} (h : ∀ Y, (∀ b, b < n → Y b = nI (laE n (fun b => t (srt b)) (overM col L) b)) → post Y) : wp_X8_layLatest (nI n) bCol bSrt left mT Y0 post := by
  have hE : ∀ b, b < n → laE n (fun b => t (srt b)) (overM col L) b ≤ 99 := fun b hb => Nat.le_trans (laE_le hb) (ht _)
  unfold wp_X8_layLatest
  refine zd2_1 n (by omega) (fun k Y => ∀ i, k ≤ i → i < n → Y i = nI (laE n (fun b => t (srt b)) (overM col L) i)) n (nI_m1 n) (Nat.le_refl n) (fun i h1 h2 => absurd h1 (by omega)) (fun Y rec hJ => ?_) (fun k Y rec hk hY hrec => ?_)
  · unfold bd_X8_layLatest_7
    exact neg_yes (h Y (fun b hb => hJ b (Nat.zero_le b) hb))
  · obtain ⟨s1, s2⟩ := hsrt k hk
    have v80 : vp_in (nI k) 80 := vp_in_nI (by omega) (by omega)
    unfold bd_X8_layLatest_7
    refine neg_no (by omega) ?_
    rw [nI_clamp (by omega), s1, nI_clamp (by omega), hA _ s2, nI_1]
    refine ⟨v80, vp_in_nI (by omega) (by omega), v80, ?_⟩
    refine zu2_1 n (by omega) (fun m W => k + 1 ≤ m ∧ (∀ i, k + 1 ≤ i → i < n → W i = nI (laE n (fun b => t (srt b)) (overM col L) i)) ∧ W k = nI (mnO (t (srt k)) (fun o => overM col L o k) (laE n (fun b => t (srt b)) (overM col L)) k (m - (k + 1)))) (k + 1) rfl (by omega) ⟨Nat.le_refl _, fun i h1 h2 => by rw [up_ne (by omega)]; exact hY i h1 h2, by rw [up_at, Nat.sub_self]; rfl⟩ (fun m W rec2 hm hJ2 hrec2 => ?_)
    obtain ⟨hkm, hW, hWk⟩ := hJ2
    unfold bd_X8_layLatest_32
    refine br_le (by omega) (by omega) (fun q2 => hrec _ (fun i h1 h2 => ?_)) (fun q2 => ?_)
    · by_cases e : i = k
      · rw [e, hWk, laE_eq hk, show m - (k + 1) = n - k - 1 by omega]
      · exact hW i (by omega) h2
    · refine sp_isOver hB q2 hk ?_
      have v80m : vp_in (nI m) 80 := vp_in_nI (by omega) (by omega)
      rw [nI_1, nI_clamp (show k < 2 ^ 31 by omega), nI_clamp (show m < 2 ^ 31 by omega)]
      have hstep : mnO (t (srt k)) (fun o => overM col L o k) (laE n (fun b => t (srt b)) (overM col L)) k (m + 1 - (k + 1)) = if overM col L m k then min (mnO (t (srt k)) (fun o => overM col L o k) (laE n (fun b => t (srt b)) (overM col L)) k (m - (k + 1))) (laE n (fun b => t (srt b)) (overM col L) m) else mnO (t (srt k)) (fun o => overM col L o k) (laE n (fun b => t (srt b)) (overM col L)) k (m - (k + 1)) := by
        rw [show m + 1 - (k + 1) = (m - (k + 1)) + 1 by omega, mnO, show k + 1 + (m - (k + 1)) = m by omega]
      have h1 := mnO_le (t0 := t (srt k)) (ov := fun o => overM col L o k) (Y := laE n (fun b => t (srt b)) (overM col L)) (b := k) (m - (k + 1))
      have h2 := ht (srt k)
      have h3 := hE m q2
      have hWm := hW m (by omega) q2
      cases ho : overM col L m k with
      | false => exact f01 ⟨v80, v80, hrec2 _ q2 ⟨by omega, fun i g1 g2 => by rw [up_ne (by omega)]; exact hW i g1 g2, by rw [up_at, hWk, hstep, ho]; rfl⟩⟩
      | true =>
        refine t01 ⟨v80m, v80, ?_⟩
        rw [hWk, hWm]
        refine br_le (by omega) (by omega) (fun q4 => ⟨v80, v80, hrec2 _ q2 ⟨by omega, fun i g1 g2 => by rw [up_ne (by omega)]; exact hW i g1 g2, ?_⟩⟩) (fun q4 => ⟨v80m, v80, hrec2 _ q2 ⟨by omega, fun i g1 g2 => by rw [up_ne (by omega)]; exact hW i g1 g2, ?_⟩⟩)
        · rw [up_at, hstep, ho]
          show _ = nI (min _ _)
          rw [Nat.min_eq_left q4]
        · rw [up_at, hstep, ho]
          show _ = nI (min _ _)
          rw [Nat.min_eq_right (by omega)]
