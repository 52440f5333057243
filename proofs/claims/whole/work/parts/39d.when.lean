/-! PURE WHEN: the latest years -/
def mnO (t0 : Nat) (ov : Nat → Bool) (Y : Nat → Nat) (b : Nat) : Nat → Nat
  | 0 => t0
  | j + 1 => if ov (b + 1 + j) then min (mnO t0 ov Y b j) (Y (b + 1 + j)) else mnO t0 ov Y b j
def laT (n : Nat) (t : Nat → Nat) (ov : Nat → Nat → Bool) : Nat → Nat → Nat
  | 0 => fun _ => 0
  | j + 1 => fun i => if i + j + 1 = n then mnO (t i) (fun o => ov o i) (laT n t ov j) i j else laT n t ov j i
def laE (n : Nat) (t : Nat → Nat) (ov : Nat → Nat → Bool) (b : Nat) : Nat := laT n t ov (n - b) b
theorem mnO_congr {t0 : Nat} {ov : Nat → Bool} {Y Y' : Nat → Nat} {b : Nat} : ∀ {j : Nat}, (∀ i, i < j → Y (b + 1 + i) = Y' (b + 1 + i)) → mnO t0 ov Y b j = mnO t0 ov Y' b j
  | 0, _ => rfl
  | j + 1, h => by rw [mnO, mnO, mnO_congr (fun i hi => h i (by omega)), h j (by omega)]
theorem laT_in {n : Nat} {t : Nat → Nat} {ov : Nat → Nat → Bool} {b : Nat} (hb : b < n) : ∀ {j : Nat}, n ≤ b + j → j ≤ n → laT n t ov j b = laE n t ov b
  | 0, h, _ => by omega
  | j + 1, h, h2 => by
    by_cases e : b + j + 1 = n
    · unfold laE
      rw [show n - b = j + 1 by omega]
    · rw [laT]
      show (if b + j + 1 = n then _ else laT n t ov j b) = _
      rw [if_neg e, laT_in hb (by omega) (by omega)]
theorem laE_eq {n : Nat} {t : Nat → Nat} {ov : Nat → Nat → Bool} {b : Nat} (hb : b < n) : laE n t ov b = mnO (t b) (fun o => ov o b) (laE n t ov) b (n - b - 1) := by
  unfold laE
  rw [show n - b = (n - b - 1) + 1 by omega, laT]
  show (if b + (n - b - 1) + 1 = n then _ else _) = _
  rw [if_pos (by omega), show n - b - 1 + 1 - 1 = n - b - 1 by omega]
  exact mnO_congr (fun i hi => laT_in (by omega) (by omega) (by omega))
theorem mnO_le {t0 : Nat} {ov : Nat → Bool} {Y : Nat → Nat} {b : Nat} : ∀ j, mnO t0 ov Y b j ≤ t0
  | 0 => Nat.le_refl _
  | j + 1 => by
    have := mnO_le (t0 := t0) (ov := ov) (Y := Y) (b := b) j
    rw [mnO]
    cases ov (b + 1 + j)
    · exact this
    · show min _ _ ≤ t0
      omega
theorem laE_le {n : Nat} {t : Nat → Nat} {ov : Nat → Nat → Bool} {b : Nat} (hb : b < n) : laE n t ov b ≤ t b := by
  rw [laE_eq hb]; exact mnO_le _
theorem sp_latest {C R n : Nat} (hC : C ≤ 6) (hR : R ≤ 6) (hn : n ≤ 40) {col srt : Nat → Nat} {L : Nat → Nat → Nat} {aCol aSrt : Nat → Int32} {ly : Nat → Int64} (hcol : ∀ b, b < n → aCol b = nI (col b) ∧ col b < C) (hsrt : ∀ b, b < n → aSrt b = nI (srt b) ∧ srt b < 6) (hz : ∀ b r, b < n → R ≤ r → L b r = 0) (hLy : LyC C R (lyB n col L) ly) {aT : Nat → Int32} {t : Nat → Nat} (hA : ∀ s, s < 6 → aT s = nI (t s)) (ht : ∀ s, t s ≤ 99) {Y0 : Nat → Int32} {b0 : Nat} (hb0 : b0 < n) {post : Int32 → (Nat → Int32) → Prop} (h : ∀ Y, post (nI (laE n (fun b => t (srt b)) (overM col L) b0)) Y) : wp_X0_latest (nI R) (nI n) aCol aSrt ly aT Y0 (nI b0) post := by
  have hE : ∀ b, b < n → laE n (fun b => t (srt b)) (overM col L) b ≤ 99 := fun b hb => Nat.le_trans (laE_le hb) (ht _)
  unfold wp_X0_latest
  refine zd2_1 n (by omega) (fun k Y => b0 ≤ k ∧ ∀ i, k ≤ i → i < n → Y i = nI (laE n (fun b => t (srt b)) (overM col L) i)) n (nI_m1 n) (Nat.le_refl n) ⟨by omega, fun i h1 h2 => absurd h1 (by omega)⟩ (fun Y rec hJ => ?_) (fun k Y rec hk hJ hrec => ?_)
  · unfold bd_X0_latest_10
    have hneg : (-1 : Int32) < nI b0 := by
      rw [Int32.lt_iff_toInt_lt, nI_toInt (by omega)]
      exact Int.lt_of_lt_of_le (by decide) (Int.natCast_nonneg b0)
    refine yy hneg ⟨vp_in_nI (by omega) (by omega), ?_⟩
    rw [nI_clamp (by omega), hJ.2 b0 (by omega) hb0]
    exact h Y
  · obtain ⟨hbk, hY⟩ := hJ
    unfold bd_X0_latest_10
    refine br_lt (by omega) (by omega) (fun q => ⟨vp_in_nI (by omega) (by omega), ?_⟩) (fun q => ?_)
    · rw [nI_clamp (by omega), hY b0 (by omega) hb0]
      exact h Y
    · obtain ⟨s1, s2⟩ := hsrt k hk
      unfold wp_X0_lastYear
      rw [nI_clamp (by omega), s1, nI_clamp (by omega), hA _ s2, nI_1]
      refine ⟨vp_in_nI (by omega) (by omega), vp_in_nI (by omega) (by omega), ?_⟩
      refine zu2_2 n (by omega) (fun m v => k + 1 ≤ m ∧ v = nI (mnO (t (srt k)) (fun o => overM col L o k) (laE n (fun b => t (srt b)) (overM col L)) k (m - (k + 1)))) (k + 1) rfl (by omega) ⟨Nat.le_refl _, by rw [Nat.sub_self]; rfl⟩ (fun m v rec2 hm hJ2 hrec2 => ?_)
      obtain ⟨hkm, rfl⟩ := hJ2
      unfold bd_X0_latest_26
      refine br_le (by omega) (by omega) (fun q2 => ⟨vp_in_nI (by omega) (by omega), ?_⟩) (fun q2 => ?_)
      · rw [nI_clamp (by omega)]
        refine hrec _ ⟨q, fun i h1 h2 => ?_⟩
        by_cases e : i = k
        · rw [e, up_at, laE_eq hk, show m - (k + 1) = n - k - 1 by omega]
        · rw [up_ne e]; exact hY i (by omega) h2
      · refine sp_liesOver hC hR hn hcol hz hLy q2 hk ?_
        rw [nI_1]
        have hstep : mnO (t (srt k)) (fun o => overM col L o k) (laE n (fun b => t (srt b)) (overM col L)) k (m + 1 - (k + 1)) = if overM col L m k then min (mnO (t (srt k)) (fun o => overM col L o k) (laE n (fun b => t (srt b)) (overM col L)) k (m - (k + 1))) (laE n (fun b => t (srt b)) (overM col L) m) else mnO (t (srt k)) (fun o => overM col L o k) (laE n (fun b => t (srt b)) (overM col L)) k (m - (k + 1)) := by
          rw [show m + 1 - (k + 1) = (m - (k + 1)) + 1 by omega, mnO, show k + 1 + (m - (k + 1)) = m by omega]
        have h1 := mnO_le (t0 := t (srt k)) (ov := fun o => overM col L o k) (Y := laE n (fun b => t (srt b)) (overM col L)) (b := k) (m - (k + 1))
        have h2 := ht (srt k)
        cases ho : overM col L m k with
        | false => exact f01 (hrec2 _ q2 ⟨by omega, by rw [hstep, ho]; rfl⟩)
        | true =>
          refine t01 ⟨vp_in_nI (by omega) (by omega), fun v hv => ?_⟩
          rw [nI_clamp (by omega), hY m (by omega) q2] at hv
          have h3 := hE m q2
          refine hrec2 _ q2 ⟨by omega, ?_⟩
          rw [hstep, ho, hv]
          show _ = nI (min _ _)
          by_cases e : laE n (fun b => t (srt b)) (overM col L) m < mnO (t (srt k)) (fun o => overM col L o k) (laE n (fun b => t (srt b)) (overM col L)) k (m - (k + 1))
          · rw [if_pos ((nI_ltI (by omega) (by omega)).mpr e), Nat.min_eq_right (by omega)]
          · rw [if_neg (fun z => e ((nI_ltI (by omega) (by omega)).mp z)), Nat.min_eq_left (by omega)]
