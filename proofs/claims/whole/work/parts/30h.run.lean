/-! PURE RUN: the reference's drop goes that way -/
def RoofM (C R lap : Nat) (tt : Nat → Nat → Nat) (Mc Mr Mp : Int32) (Mt : Nat → Int32) : Prop :=
  1 ≤ C ∧ C ≤ 6 ∧ 1 ≤ R ∧ R ≤ 6 ∧ Mc = nI C ∧ Mr = nI R ∧ (lap = if Mp = 1 then 2 else 1) ∧ (∀ c r, c < 6 → r < 6 → Mt (6 * c + r) = nI (tt c r)) ∧ (∀ c r, tt c r ≤ 2)
/-- nb bundles: their columns, what is left of each by rows -/
def BunM (nb : Nat) (col : Nat → Nat) (L : Nat → Nat → Nat) (bCol left : Nat → Int32) : Prop :=
  nb ≤ 80 ∧ (∀ b, b < nb → bCol b = nI (col b) ∧ col b < 6) ∧ (∀ b r, b < nb → r < 6 → left (6 * b + r) = nI (L b r) ∧ L b r ≤ 9)
def lyB (nb : Nat) (col : Nat → Nat) (L : Nat → Nat → Nat) (c r b : Nat) : Bool := decide (b < nb) && (decide (col b = c) && decide (0 < L b r))
theorem lyB_big {nb : Nat} {col : Nat → Nat} {L : Nat → Nat → Nat} {c r b : Nat} (h : nb ≤ b) : lyB nb col L c r b = false := by
  unfold lyB; rw [decide_eq_false (by omega)]; rfl
theorem lyB_in {nb : Nat} {col : Nat → Nat} {L : Nat → Nat → Nat} {c r b : Nat} (h : b < nb) (hc : col b = c) : lyB nb col L c r b = decide (0 < L b r) := by
  unfold lyB; rw [decide_eq_true h, decide_eq_true hc]; rfl
theorem lyB_true {nb : Nat} {col : Nat → Nat} {L : Nat → Nat → Nat} {c r b : Nat} (h : lyB nb col L c r b = true) : b < nb ∧ col b = c ∧ 0 < L b r := by
  unfold lyB at h
  simpa [Bool.and_eq_true, decide_eq_true_eq] using h
theorem nI_6 (b r : Nat) : (6 : Int32) * nI b + nI r = nI (6 * b + r) := by
  rw [show (6 : Int32) = nI 6 from rfl, pk_mul, nI_add]
theorem nI_10 (b r : Nat) : (10 : Int32) * nI b + nI r = nI (10 * b + r) := by
  rw [show (10 : Int32) = nI 10 from rfl, pk_mul, nI_add]
theorem sp_topOf {nb : Nat} {col : Nat → Nat} {L : Nat → Nat → Nat} {bCol left : Nat → Int32} (hB : BunM nb col L bCol left) {c r m : Nat} (hc : c < 6) (hr : r < 6) (hm : m ≤ nb) {post : Int32 → Prop} (h : post (oI (topO (lyB nb col L c r) m))) : wp_X8_topOf bCol left (nI c) (nI r) (nI m) post := by
  obtain ⟨h80, hcol, hL⟩ := hB
  unfold wp_X8_topOf
  refine zd1_1 m (by omega) (fun k => topO (lyB nb col L c r) m = topO (lyB nb col L c r) k) m ?_ (Nat.le_refl m) rfl (fun rec hJ => ?_) (fun k rec hk hJ hrec => ?_)
  · show nI m - 1 = nI m + (-1)
    rw [Int32.sub_eq_add_neg]
  · unfold bd_X8_topOf_5
    refine ⟨fun _ => ?_, fun e => absurd (by decide) e⟩
    rw [hJ] at h; exact h
  · have hkb : k < nb := by omega
    obtain ⟨h1, h2⟩ := hcol k hkb
    obtain ⟨h3, h4⟩ := hL k r hkb hr
    unfold bd_X8_topOf_5
    refine ⟨fun e => absurd e (nI_pos (by omega)), fun _ => ⟨vp_in_nI (by omega) (by omega), ?_⟩⟩
    rw [nI_clamp (by omega), h1]
    have nxt : lyB nb col L c r k = false → rec (nI k + (-1)) := fun q => hrec (by rw [hJ, topO, q]; rfl)
    refine br_neq (by omega) (by omega) (fun q => nxt ?_) (fun q => ⟨?_, ?_⟩)
    · unfold lyB; rw [decide_eq_false q]; simp
    · rw [nI_6]; exact vp_in_nI (by omega) (by omega)
    · rw [nI_6, nI_clamp (by omega), h3, show (0 : Int32) = nI 0 from rfl]
      refine br_le (by omega) (by omega) (fun q2 => nxt ?_) (fun q2 => ?_)
      · rw [lyB_in hkb q, decide_eq_false (by omega)]
      · rw [hJ, topO, lyB_in hkb q, decide_eq_true q2, if_pos rfl] at h; exact h
def allB (p : Nat → Bool) (s : Nat) : Nat → Bool
  | 0 => true
  | m + 1 => allB p s m && p (s + m)
theorem allB_rest {p : Nat → Bool} {s j : Nat} : ∀ {m : Nat}, j ≤ m → (∀ u, s + j ≤ u → p u = true) → allB p s m = allB p s j
  | 0, h, _ => by have : j = 0 := by omega
                  rw [this]
  | m + 1, h, hp => by
    by_cases e : j = m + 1
    · rw [e]
    · rw [allB, hp (s + m) (by omega), Bool.and_true]
      exact allB_rest (by omega) hp
theorem lapsB_all {R lap : Nat} {tt : Nat → Nat → Nat} {ly : Nat → Nat → Nat → Bool} {b c r : Nat} (h : lap = 1 ∨ lap = 2) : lapsB R lap tt ly b c r = allB (fun k => chk R tt ly c k b) (r + 1) lap := by
  rcases h with rfl | rfl
  · simp [lapsB, allB]
  · simp [lapsB, allB]
theorem sp_laps {C R lap : Nat} {tt : Nat → Nat → Nat} {Mc Mr Mp : Int32} {Mt : Nat → Int32} (hRo : RoofM C R lap tt Mc Mr Mp Mt) {nb : Nat} {col : Nat → Nat} {L : Nat → Nat → Nat} {bCol left : Nat → Int32} (hB : BunM nb col L bCol left) {c r b : Nat} (hc : c < C) (hr : r < R) (hb : b < nb) (hcb : col b = c) {post : Int32 → Prop} (h : post (if lapsB R lap tt (lyB nb col L) b c r then 1 else 0)) : wp_X8_laps Mr Mp Mt left (nI b) (nI c) (nI r) post := by
  obtain ⟨-, hC6, -, hR6, -, hMr, hlap, ht, ht2⟩ := hRo
  obtain ⟨h80, hcol, hL⟩ := hB
  have h12 := lap12 hlap
  rw [lapsB_all h12] at h
  have key : jn_X8_laps_13 Mr Mt left (nI b) (nI c) (nI r) post (nI lap) := by
    unfold jn_X8_laps_13
    refine zu2_2 10 (by omega) (fun k is => ∃ j, k = r + 1 + j ∧ j ≤ lap ∧ is = if allB (fun k => chk R tt (lyB nb col L) c k b) (r + 1) j then 1 else 0) (r + 1) (nI_1 r) (by omega) ⟨0, rfl, by omega, rfl⟩ (fun k is rec hk hJ hrec => ?_)
    obtain ⟨j, rfl, hj, his⟩ := hJ
    unfold bd_X8_laps_23
    have fin : allB (fun k => chk R tt (lyB nb col L) c k b) (r + 1) lap = allB (fun k => chk R tt (lyB nb col L) c k b) (r + 1) j → ((is = 0 ∨ is = 1) ∧ post is) := fun e => by
      rw [e, ← his] at h
      refine ⟨?_, h⟩
      rw [his]; split
      · exact Or.inr rfl
      · exact Or.inl rfl
    rw [nI_add, hMr]
    refine br_lt (by omega) (by omega) (fun q => fin (by rw [show lap = j by omega])) (fun q => ?_)
    refine br_le (by omega) (by omega) (fun q2 => fin ?_) (fun q2 => ?_)
    · refine allB_rest (by omega) (fun u hu => ?_)
      unfold chk; rw [decide_eq_true (by omega)]; rfl
    · have step : ∀ v : Int32, v = (if allB (fun k => chk R tt (lyB nb col L) c k b) (r + 1) (j + 1) then 1 else 0) → rec v (nI (r + 1 + j) + 1) := fun v hv => by
        rw [nI_1]; exact hrec _ (by omega) ⟨j + 1, by omega, by omega, hv⟩
      refine bool_cases his (fun e => step 0 ?_) (fun e => ⟨?_, ?_⟩)
      · rw [allB, e]; rfl
      · rw [nI_6]; exact vp_in_nI (by omega) (by omega)
      · rw [nI_6, nI_clamp (by omega), ht c _ (by omega) (by omega), show (0 : Int32) = nI 0 from rfl]
        have h3 := ht2 c (r + 1 + j)
        obtain ⟨h5, h6⟩ := hL b (r + 1 + j) hb (by omega)
        refine br_neq (by omega) (by omega) (fun q3 => step 1 ?_) (fun q3 => ⟨?_, ?_⟩)
        · rw [allB, e]; unfold chk; rw [decide_eq_true q3]; simp
        · rw [nI_6]; exact vp_in_nI (by omega) (by omega)
        · rw [nI_6, nI_clamp (by omega), h5]
          have ech : chk R tt (lyB nb col L) c (r + 1 + j) b = decide (0 < L b (r + 1 + j)) := by
            unfold chk; rw [decide_eq_false (by omega), decide_eq_false (by omega), lyB_in hb hcb]; rfl
          refine br_le (by omega) (by omega) (fun q4 => step 0 ?_) (fun q4 => step 1 ?_)
          · rw [allB, e, ech, decide_eq_false (by omega)]; rfl
          · rw [allB, e, ech, decide_eq_true q4]; rfl
  unfold wp_X8_laps
  refine ⟨fun e => ?_, fun e => ?_⟩
  · rw [if_neg e] at hlap; rw [hlap] at key; exact key
  · rw [if_pos e] at hlap; rw [hlap] at key; exact key
