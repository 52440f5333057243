/-! PURE WRONG 2: the reference's side -/
theorem orB_and {p q : Nat → Bool} (hp : ∀ k, p k = false) : ∀ n, orB (fun r => p r && q r) n = false
  | 0 => rfl
  | n + 1 => by rw [orB, orB_and hp n, hp n]; rfl
theorem over_none {col : Nat → Nat} {L : Nat → Nat → Nat} {b : Nat} (h : sm (L b) 6 = 0) (o : Nat) : overM col L b o = false := by
  have hz : orB (fun r => decide (0 < L b r)) 6 = false := by rw [← sm_pos, h]; rfl
  have h6 : ∀ n, orB (fun r => decide (0 < L b r)) n = false → orB (fun r => decide (0 < L b r) && decide (0 < L o r)) n = false := by
    intro n
    induction n with
    | zero => intro _; rfl
    | succ n ih =>
      intro hn
      rw [orB, Bool.or_eq_false_iff] at hn
      rw [orB, ih hn.1, hn.2]; rfl
  unfold overM
  rw [h6 6 hz, Bool.and_false, Bool.and_false]
theorem sp_layEarliest {n : Nat} (hn : n ≤ 80) {col srt : Nat → Nat} {L : Nat → Nat → Nat} {bCol bSrt left : Nat → Int32} (hB : BunM n col L bCol left) (hsrt : ∀ b, b < n → bSrt b = nI (srt b) ∧ srt b < 6) {mF mT : Nat → Int32} {f t : Nat → Nat} (hA : ∀ s, s < 6 → mF s = nI (f s) ∧ mT s = nI (t s)) (hft : ∀ s, f s ≤ t s) (ht : ∀ s, t s ≤ 99) {Y0 : Nat → Int32} {post : Int32 → (Nat → Int32) → Prop} (h : ∀ v Y, WrR n (eaE (fun b => f (srt b)) (overM col L)) (fun b => t (srt b)) v → (∀ b, b < n → Y b = nI (eaE (fun b => f (srt b)) (overM col L) b)) → post v Y) : wp_X8_layEarliest (nI n) bCol bSrt left mF mT Y0 post := by
  have hE : ∀ b, eaE (fun b => f (srt b)) (overM col L) b ≤ 99 := eaE_le (fun b => Nat.le_trans (hft _) (ht _))
  unfold wp_X8_layEarliest
  refine zu3_2 n (by omega) (fun k res W => (∀ i, i < k → W i = nI (eaE (fun b => f (srt b)) (overM col L) i)) ∧ ((res = -9 ∧ ∀ i, i < k → eaE (fun b => f (srt b)) (overM col L) i ≤ t (srt i)) ∨ (res ≠ -9 ∧ WrR n (eaE (fun b => f (srt b)) (overM col L)) (fun b => t (srt b)) res))) 0 rfl (by omega) ⟨fun i hi => absurd hi (Nat.not_lt_zero i), Or.inl ⟨rfl, fun i hi => absurd hi (Nat.not_lt_zero i)⟩⟩ (fun k res W rec hk hJ hrec => ?_)
  obtain ⟨hW, hres⟩ := hJ
  unfold bd_X8_layEarliest_5
  refine br_le (by omega) (by omega) (fun q => ?_) (fun q => ?_)
  · have hk1 : k = n := by omega
    subst hk1
    rcases hres with ⟨rfl, h2⟩ | ⟨_, h2⟩
    · exact h _ W (Or.inr ⟨h2, rfl⟩) hW
    · exact h _ W h2 hW
  · obtain ⟨s1, s2⟩ := hsrt k q
    have v80 : vp_in (nI k) 80 := vp_in_nI (by omega) (by omega)
    rw [nI_clamp (by omega), s1, nI_clamp (by omega), (hA _ s2).1]
    refine ⟨v80, vp_in_nI (by omega) (by omega), v80, ?_⟩
    have hm99 : ∀ m, mxO (f (srt k)) (overM col L k) (eaE (fun b => f (srt b)) (overM col L)) m ≤ 99 := fun m => mxO_le (Nat.le_trans (hft _) (ht _)) (fun i _ => hE i)
    refine zu2_1 k (by omega) (fun m W => (∀ i, i < k → W i = nI (eaE (fun b => f (srt b)) (overM col L) i)) ∧ W k = nI (mxO (f (srt k)) (overM col L k) (eaE (fun b => f (srt b)) (overM col L)) m)) 0 rfl (by omega) ⟨fun i hi => by rw [up_ne (by omega)]; exact hW i hi, up_at⟩ (fun m W2 rec2 hm hJ2 hrec2 => ?_)
    obtain ⟨hW2, hWk⟩ := hJ2
    have h1 := hm99 m
    unfold bd_X8_layEarliest_32
    rw [nI_1, nI_1]
    refine br_le (by omega) (by omega) (fun q2 => ?_) (fun q2 => ?_)
    · have hmk : m = k := by omega
      subst hmk
      have heq := eaE_eq (fun b => f (srt b)) (overM col L) m
      have hall : ∀ i, i < m + 1 → W2 i = nI (eaE (fun b => f (srt b)) (overM col L) i) := by
        intro i hi
        by_cases e : i = m
        · rw [e, hWk, heq]
        · exact hW2 i (by omega)
      rcases hres with ⟨rfl, h2⟩ | ⟨g1, g2⟩
      · have next : eaE (fun b => f (srt b)) (overM col L) m ≤ t (srt m) → rec (-9) (nI (m + 1)) W2 := fun hle => hrec _ _ q ⟨hall, Or.inl ⟨rfl, fun i hi => by
          by_cases e : i = m
          · rw [e]; exact hle
          · exact h2 i (by omega)⟩⟩
        refine ⟨fun z => absurd rfl z, fun _ => ?_⟩
        have h54 : sm (L m) 6 ≤ 9 * 6 := by
          have : ∀ j, j ≤ 6 → sm (L m) j ≤ 9 * j := by
            intro j hj
            induction j with
            | zero => exact Nat.le_refl 0
            | succ j ih => rw [sm]; have := ih (by omega); have := (hB.2.2 m j q (by omega)).2; omega
          exact this 6 (Nat.le_refl 6)
        refine sp_leftOf q hn (fun r hr => (hB.2.2 m r q hr).1) ?_
        refine br_le (a := 0) (by omega) (by omega) (fun q3 => next ?_) (fun q3 => ⟨v80, v80, ?_⟩)
        · rw [heq, mxO_none (fun o => over_none (by omega) o)]
          exact hft _
        · rw [nI_clamp (by omega), s1]
          refine ⟨vp_in_nI (by omega) (by omega), ?_⟩
          have ht2 := ht (srt m)
          rw [nI_clamp (by omega), (hA _ s2).2, hWk]
          refine br_le (by omega) (by omega) (fun q4 => next (by rw [heq]; exact q4)) (fun q4 => hrec _ _ q ⟨hall, Or.inr ⟨nI_ne9 (by omega), Or.inl ⟨m, q, by rw [heq]; exact q4, h2, rfl⟩⟩⟩)
      · exact ⟨fun _ => hrec _ _ q ⟨hall, Or.inr ⟨g1, g2⟩⟩, fun z => absurd z g1⟩
    · refine sp_isOver hB q (show m < n by omega) ?_
      have v80m : vp_in (nI m) 80 := vp_in_nI (by omega) (by omega)
      rw [nI_clamp (show k < 2 ^ 31 by omega), nI_clamp (show m < 2 ^ 31 by omega)]
      have keep : mxO (f (srt k)) (overM col L k) (eaE (fun b => f (srt b)) (overM col L)) (m + 1) = mxO (f (srt k)) (overM col L k) (eaE (fun b => f (srt b)) (overM col L)) m → rec2 (nI (m + 1)) (upd W2 k (W2 k)) := fun e => hrec2 _ q2 ⟨fun i hi => by rw [up_ne (by omega)]; exact hW2 i hi, by rw [up_at, hWk, e]⟩
      cases ho : overM col L k m with
      | false => exact f01 ⟨v80, v80, keep (by rw [mxO, ho]; rfl)⟩
      | true =>
        have h2 := hE m
        refine t01 ⟨v80m, v80, ?_⟩
        have e1 : (nI (eaE (fun b => f (srt b)) (overM col L) m) = W2 m) := (hW2 m q2).symm
        rw [← e1, hWk]
        rw [hWk] at keep
        refine br_le (by omega) (by omega) (fun q4 => ⟨v80, v80, keep ?_⟩) (fun q4 => ⟨v80m, v80, hrec2 _ q2 ⟨fun i hi => by rw [up_ne (by omega)]; exact hW2 i hi, ?_⟩⟩)
        · rw [mxO, ho]
          show max _ _ = _
          rw [Nat.max_eq_left q4]
        · rw [up_at, mxO, ho]
          show _ = nI (max _ _)
          rw [Nat.max_eq_right (by omega)]
