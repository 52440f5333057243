/-! PURE WRONG: the earliest years -/
def mxO (fr : Nat) (ov : Nat → Bool) (Y : Nat → Nat) : Nat → Nat
  | 0 => fr
  | k + 1 => if ov k then max (mxO fr ov Y k) (Y k) else mxO fr ov Y k
def eaT (fr : Nat → Nat) (ov : Nat → Nat → Bool) : Nat → Nat → Nat
  | 0 => fun _ => 0
  | b + 1 => fun i => if i = b then mxO (fr b) (ov b) (eaT fr ov b) b else eaT fr ov b i
def eaE (fr : Nat → Nat) (ov : Nat → Nat → Bool) (b : Nat) : Nat := eaT fr ov (b + 1) b
theorem mxO_congr {fr : Nat} {ov : Nat → Bool} {Y Y' : Nat → Nat} : ∀ {k : Nat}, (∀ i, i < k → Y i = Y' i) → mxO fr ov Y k = mxO fr ov Y' k
  | 0, _ => rfl
  | k + 1, h => by rw [mxO, mxO, mxO_congr (fun i hi => h i (by omega)), h k (by omega)]
theorem eaT_in {fr : Nat → Nat} {ov : Nat → Nat → Bool} {i : Nat} : ∀ {k : Nat}, i < k → eaT fr ov k i = eaE fr ov i
  | 0, h => absurd h (Nat.not_lt_zero i)
  | k + 1, h => by
    by_cases e : i = k
    · subst e; rfl
    · rw [eaT]
      show (if i = k then _ else eaT fr ov k i) = _
      rw [if_neg e, eaT_in (by omega)]
theorem eaE_eq (fr : Nat → Nat) (ov : Nat → Nat → Bool) (b : Nat) : eaE fr ov b = mxO (fr b) (ov b) (eaE fr ov) b := by
  unfold eaE
  rw [eaT]
  show (if b = b then _ else _) = _
  rw [if_pos rfl]
  exact mxO_congr (fun i hi => eaT_in hi)
theorem mxO_le {fr : Nat} {ov : Nat → Bool} {Y : Nat → Nat} {c : Nat} (h0 : fr ≤ c) : ∀ {k : Nat}, (∀ i, i < k → Y i ≤ c) → mxO fr ov Y k ≤ c
  | 0, _ => h0
  | k + 1, h => by
    have h1 := mxO_le (ov := ov) h0 (fun i hi => h i (by omega) : ∀ i, i < k → Y i ≤ c)
    have h2 := h k (by omega)
    rw [mxO]
    cases ov k
    · exact h1
    · show max _ _ ≤ c
      omega
theorem eaE_le {fr : Nat → Nat} {ov : Nat → Nat → Bool} {c : Nat} (h : ∀ b, fr b ≤ c) (b : Nat) : eaE fr ov b ≤ c := by
  induction b using Nat.strongRecOn with
  | _ b ih => rw [eaE_eq]; exact mxO_le (h b) ih
theorem mxO_none {fr : Nat} {ov : Nat → Bool} {Y : Nat → Nat} (h : ∀ i, ov i = false) : ∀ k, mxO fr ov Y k = fr
  | 0 => rfl
  | k + 1 => by rw [mxO, h k, mxO_none h k]; rfl
/-- the first bundle that came too late, or -9 -/
def WrR (n : Nat) (E to : Nat → Nat) (v : Int32) : Prop := (∃ b, b < n ∧ to b < E b ∧ (∀ i, i < b → E i ≤ to i) ∧ v = nI b) ∨ ((∀ b, b < n → E b ≤ to b) ∧ v = -9)
theorem WrR.uniq {n : Nat} {E to : Nat → Nat} {v v' : Int32} (h : WrR n E to v) (h' : WrR n E to v') : v = v' := by
  rcases h with ⟨s, h1, h2, h3, rfl⟩ | ⟨h1, rfl⟩
  · rcases h' with ⟨t, g1, g2, g3, rfl⟩ | ⟨g1, rfl⟩
    · by_cases e1 : s < t
      · have := g3 s e1; omega
      · by_cases e2 : t < s
        · have := h3 t e2; omega
        · rw [show s = t by omega]
    · have := g1 s h1; omega
  · rcases h' with ⟨t, g1, g2, g3, rfl⟩ | ⟨g1, rfl⟩
    · have := h1 t g1; omega
    · rfl
theorem ages_nat {aF aT mF mT : Nat → Int32} (h : AgesR aF aT mF mT) : ∃ f t : Nat → Nat, (∀ s, s < 6 → aF s = nI (f s) ∧ aT s = nI (t s) ∧ mF s = nI (f s) ∧ mT s = nI (t s)) ∧ (∀ s, f s ≤ t s) ∧ (∀ s, t s ≤ 99) := by
  refine ⟨fun s => if s < 6 then (aF s).toNatClampNeg else 0, fun s => if s < 6 then (aT s).toNatClampNeg else 0, fun s hs => ?_, fun s => ?_, fun s => ?_⟩
  · obtain ⟨f, t, g1, g2, g3, g4, g5, g6⟩ := h s hs
    simp only [if_pos hs]
    rw [g1, g2, g3, g4, nI_clamp (by omega), nI_clamp (by omega)]
    exact ⟨rfl, rfl, rfl, rfl⟩
  · by_cases hs : s < 6
    · obtain ⟨f, t, g1, g2, g3, g4, g5, g6⟩ := h s hs
      simp only [if_pos hs]
      rw [g1, g2, nI_clamp (by omega), nI_clamp (by omega)]
      exact g5
    · simp only [if_neg hs]; exact Nat.le_refl 0
  · by_cases hs : s < 6
    · obtain ⟨f, t, g1, g2, g3, g4, g5, g6⟩ := h s hs
      simp only [if_pos hs]
      rw [g2, nI_clamp (by omega)]
      exact g6
    · simp only [if_neg hs]; exact Nat.zero_le _
theorem sp_firstWrong {C R n : Nat} (hC : C ≤ 6) (hR : R ≤ 6) (hn : n ≤ 40) {col srt : Nat → Nat} {L : Nat → Nat → Nat} {aCol aSrt : Nat → Int32} {ly : Nat → Int64} (hcol : ∀ b, b < n → aCol b = nI (col b) ∧ col b < C) (hsrt : ∀ b, b < n → aSrt b = nI (srt b) ∧ srt b < 6) (hz : ∀ b r, b < n → R ≤ r → L b r = 0) (hLy : LyC C R (lyB n col L) ly) {aF aT : Nat → Int32} {f t : Nat → Nat} (hA : ∀ s, s < 6 → aF s = nI (f s) ∧ aT s = nI (t s)) (hft : ∀ s, f s ≤ t s) (ht : ∀ s, t s ≤ 99) {Y0 : Nat → Int32} {post : Int32 → (Nat → Int32) → Prop} (h : ∀ v Y, WrR n (eaE (fun b => f (srt b)) (overM col L)) (fun b => t (srt b)) v → (v = -9 → ∀ b, b < n → Y b = nI (eaE (fun b => f (srt b)) (overM col L) b)) → post v Y) : wp_X0_firstWrong (nI R) (nI n) aCol aSrt ly aF aT Y0 post := by
  have hE : ∀ b, eaE (fun b => f (srt b)) (overM col L) b ≤ 99 := eaE_le (fun b => Nat.le_trans (hft _) (ht _))
  unfold wp_X0_firstWrong
  refine zu2_1 n (by omega) (fun k Y => ∀ i, i < k → Y i = nI (eaE (fun b => f (srt b)) (overM col L) i) ∧ eaE (fun b => f (srt b)) (overM col L) i ≤ t (srt i)) 0 rfl (by omega) (fun i hi => absurd hi (Nat.not_lt_zero i)) (fun k Y rec hk hJ hrec => ?_)
  unfold bd_X0_firstWrong_2
  refine br_le (by omega) (by omega) (fun q => ?_) (fun q => ?_)
  · exact h (-9) Y (Or.inr ⟨fun b hb => (hJ b (by omega)).2, rfl⟩) (fun _ b hb => (hJ b (by omega)).1)
  · obtain ⟨s1, s2⟩ := hsrt k q
    unfold wp_X0_firstYear
    rw [nI_clamp (by omega), s1, nI_clamp (by omega), (hA _ s2).1]
    refine ⟨vp_in_nI (by omega) (by omega), vp_in_nI (by omega) (by omega), ?_⟩
    have hm99 : ∀ m, mxO (f (srt k)) (overM col L k) (eaE (fun b => f (srt b)) (overM col L)) m ≤ 99 := fun m => mxO_le (Nat.le_trans (hft _) (ht _)) (fun i _ => hE i)
    refine zu2_2 k (by omega) (fun m v => v = nI (mxO (f (srt k)) (overM col L k) (eaE (fun b => f (srt b)) (overM col L)) m)) 0 rfl (by omega) rfl (fun m v rec2 hm hJ2 hrec2 => ?_)
    subst hJ2
    unfold bd_X0_firstWrong_21
    have h1 := hm99 m
    refine br_le (by omega) (by omega) (fun q2 => ?_) (fun q2 => ?_)
    · have hmk : m = k := by omega
      subst hmk
      unfold wp_X0_lastYear
      rw [nI_clamp (by omega), s1, nI_clamp (by omega), (hA _ s2).2]
      refine ⟨vp_in_nI (by omega) (by omega), vp_in_nI (by omega) (by omega), ?_⟩
      have heq := eaE_eq (fun b => f (srt b)) (overM col L) m
      have ht2 := ht (srt m)
      refine br_le (by omega) (by omega) (fun q3 => ⟨vp_in_nI (by omega) (by omega), ?_⟩) (fun q3 => ?_)
      · rw [nI_1]
        refine hrec _ q (fun i hi => ?_)
        by_cases e : i = m
        · rw [e, up_at, heq]; exact ⟨rfl, q3⟩
        · rw [up_ne e]; exact hJ i (by omega)
      · exact h (nI m) Y (Or.inl ⟨m, q, by rw [heq]; exact q3, fun i hi => (hJ i hi).2, rfl⟩) (fun z => absurd z (nI_ne9 (by omega)))
    · refine sp_liesOver hC hR hn hcol hz hLy q (show m < n by omega) ?_
      rw [nI_1]
      cases ho : overM col L k m with
      | false => exact f01 (hrec2 _ q2 (by rw [mxO, ho]; rfl))
      | true =>
        refine t01 ⟨vp_in_nI (by omega) (by omega), fun v hv => ?_⟩
        rw [nI_clamp (by omega), (hJ m q2).1] at hv
        have h2 := hE m
        refine hrec2 _ q2 ?_
        rw [hv, mxO, ho]
        show _ = nI (max _ _)
        by_cases e : mxO (f (srt k)) (overM col L k) (eaE (fun b => f (srt b)) (overM col L)) m < eaE (fun b => f (srt b)) (overM col L) m
        · rw [if_pos ((nI_ltI (by omega) (by omega)).mpr e), Nat.max_eq_right (by omega)]
        · rw [if_neg (fun z => e ((nI_ltI (by omega) (by omega)).mp z)), Nat.max_eq_left (by omega)]
