/-! PAIRS E: keep, again -/
/-- the same coat in other rows of numbers -/
theorem coatA_congr {C R n : Nat} {col row len srt thk : Nat → Nat} {L : Nat → Nat → Nat} {aL : Int32} {aCol aRow aLen aSrt aThk aLeft bCol bRow bLen bSrt bThk bLeft : Nat → Int32} {a b : Nat → Int64} (h : CoatA C R n col row len srt thk L aL aCol aRow aLen aSrt aThk aLeft a) (hn : n ≤ 40) (hC : C ≤ 6) (hR : R ≤ 6) (h1 : ∀ j, j < 40 → bCol j = aCol j) (h2 : ∀ j, j < 40 → bRow j = aRow j) (h3 : ∀ j, j < 40 → bLen j = aLen j) (h4 : ∀ j, j < 40 → bSrt j = aSrt j) (h5 : ∀ j, j < 40 → bThk j = aThk j) (h6 : ∀ j, j < 240 → bLeft j = aLeft j) (h7 : ∀ j, j < 60 → b j = a j) : CoatA C R n col row len srt thk L aL bCol bRow bLen bSrt bThk bLeft b := by
  obtain ⟨⟨e, g1, g2⟩, g3, g4⟩ := h
  refine ⟨⟨e, fun k hk => ?_, fun k r hk hr => ?_⟩, fun k r hk1 hk2 hr => ?_, fun c r hc hr k => ?_⟩
  · rw [h1 k (by omega), h2 k (by omega), h3 k (by omega), h4 k (by omega), h5 k (by omega)]; exact g1 k hk
  · rw [h6 _ (by omega)]; exact g2 k r hk hr
  · rw [h6 _ (by omega)]; exact g3 k r hk1 hk2 hr
  · rw [h7 _ (by omega)]; exact g4 c r hc hr k
theorem bunA_congr {n : Nat} {col row len srt thk : Nat → Nat} {L : Nat → Nat → Nat} {aL : Int32} {aCol aRow aLen aSrt aThk aLeft bCol bRow bLen bSrt bThk bLeft : Nat → Int32} (h : BunA n col row len srt thk L aL aCol aRow aLen aSrt aThk aLeft) (hn : n ≤ 40) (h1 : ∀ j, j < 40 → bCol j = aCol j) (h2 : ∀ j, j < 40 → bRow j = aRow j) (h3 : ∀ j, j < 40 → bLen j = aLen j) (h4 : ∀ j, j < 40 → bSrt j = aSrt j) (h5 : ∀ j, j < 40 → bThk j = aThk j) (h6 : ∀ j, j < 240 → bLeft j = aLeft j) : BunA n col row len srt thk L aL bCol bRow bLen bSrt bThk bLeft := by
  obtain ⟨e, g1, g2⟩ := h
  refine ⟨e, fun k hk => ?_, fun k r hk hr => ?_⟩
  · rw [h1 k (by omega), h2 k (by omega), h3 k (by omega), h4 k (by omega), h5 k (by omega)]; exact g1 k hk
  · rw [h6 _ (by omega)]; exact g2 k r hk hr
theorem cpy0 {α : Type} {f g : Nat → α} {n j : Nat} (h : j < n) : va_cpy f g 0 0 n j = f j := by
  rw [pk_cpy_in (Nat.zero_le j) (by omega), Nat.zero_add, Nat.sub_zero]
theorem sp_become {C R n : Nat} {col row len srt thk : Nat → Nat} {L : Nat → Nat → Nat} {aL : Int32} {aCol aRow aLen aSrt aThk aLeft bCol bRow bLen bSrt bThk bLeft : Nat → Int32} {a b : Nat → Int64} (h : CoatA C R n col row len srt thk L aL aCol aRow aLen aSrt aThk aLeft a) (hn : n ≤ 40) (hC : C ≤ 6) (hR : R ≤ 6) {post : Int32 → (Nat → Int32) → (Nat → Int32) → (Nat → Int32) → (Nat → Int32) → (Nat → Int32) → (Nat → Int32) → (Nat → Int64) → Prop} (hp : ∀ bCol' bRow' bLen' bSrt' bThk' bLeft' b', CoatA C R n col row len srt thk L aL bCol' bRow' bLen' bSrt' bThk' bLeft' b' → post aL bCol' bRow' bLen' bSrt' bThk' bLeft' b') : wp_X1_become bCol bRow bLen bSrt bThk bLeft b aL aCol aRow aLen aSrt aThk aLeft a post := by
  unfold wp_X1_become
  exact hp _ _ _ _ _ _ _ (coatA_congr h hn hC hR (fun j hj => cpy0 hj) (fun j hj => cpy0 hj) (fun j hj => cpy0 hj) (fun j hj => cpy0 hj) (fun j hj => cpy0 hj) (fun j hj => cpy0 hj) (fun j hj => cpy0 hj))
theorem nI_40 (b r : Nat) : (40 : Int32) * nI b + nI r = nI (40 * b + r) := by
  rw [show (40 : Int32) = nI 40 from rfl, pk_mul, nI_add]
theorem nI_240 (b r : Nat) : (240 : Int32) * nI b + nI r = nI (240 * b + r) := by
  rw [show (240 : Int32) = nI 240 from rfl, pk_mul, nI_add]
theorem sp_lieOnOpening {C R lap n : Nat} {tt : Nat → Nat → Nat} {Fc Fr Fs Fz : Int32} {Fcells Ft : Nat → Int32} (hRo : RoofC C R lap tt Fc Fr Fs Ft) (hCe : CellsC C R Fz Fcells) {col : Nat → Nat} {L : Nat → Nat → Nat} {a : Nat → Int64} (hLy : LyC C R (lyB n col L) a) (hn : n ≤ 40) (hcol : ∀ b, b < n → col b < C) (hz : ∀ b r, b < n → R ≤ r → L b r = 0) {post : Int32 → Prop} (h0 : NoOp tt n col L → post 0) (h1 : ¬ NoOp tt n col L → post 1) : wp_X1_lieOnOpening Fz Fcells Ft a post := by
  have hC6 : C ≤ 6 := hRo.2.1
  have hR6 : R ≤ 6 := hRo.2.2.2.1
  have h36 := ix36 hC6 hR6
  obtain ⟨rfl, hcl⟩ := hCe
  unfold wp_X1_lieOnOpening
  refine zu1_1 (C * R) (by omega) (fun k => ∀ i, i < k → ∀ b, b < n → col b = i / R → 0 < L b (i % R) → tt (i / R) (i % R) = 0) 0 rfl (by omega) (fun i hi => absurd hi (Nat.not_lt_zero i)) (fun k rec hk hJ hrec => ?_)
  unfold bd_X1_lieOnOpening_2
  refine br_le (by omega) (by omega) (fun q => h0 (fun b r hb hr => ?_)) (fun q => ?_)
  · have hrR : r < R := by
      by_cases e : r < R
      · exact e
      · have := hz b r hb (by omega); omega
    have hi := ix3 (hcol b hb) hrR
    have e := hJ (R * col b + r) (by omega) b hb (ix1 hrR).1.symm
    rw [(ix1 hrR).1, (ix1 hrR).2] at e
    exact e hr
  · obtain ⟨i1, i2⟩ := ix2 q
    refine ⟨vp_in_nI (by omega) (by omega), ?_⟩
    rw [nI_clamp (by omega), hcl k q, nI_1]
    refine ⟨vp_in_nI (by omega) (by omega), ?_⟩
    rw [nI_clamp (by omega)]
    have hzero := lyZero hLy (by omega : n ≤ 64) (fun c r b hb => lyB_big hb) i1 i2
    refine ⟨fun z => hrec q (fun i hi b hb e1 e2 => ?_), fun z => ⟨vp_in_nI (by omega) (by omega), ?_⟩⟩
    · by_cases e : i = k
      · subst e
        have := topO_none.mp (hzero.mp z) b hb
        rw [lyB_in hb e1, decide_eq_true e2] at this
        cases this
      · exact hJ i (by omega) b hb e1 e2
    · refine sp_isOpening hRo i1 i2 (fun t => f01 (hrec q (fun i hi b hb e1 e2 => ?_))) (fun t => t01 (h1 (fun no => ?_)))
      · by_cases e : i = k
        · subst e; exact t
        · exact hJ i (by omega) b hb e1 e2
      · cases htop : topO (lyB n col L (k / R) (k % R)) n with
        | none => exact z (hzero.mpr htop)
        | some b =>
          obtain ⟨t1, t2⟩ := topO_some htop
          obtain ⟨t3, t4, t5⟩ := lyB_true t2
          exact t (by rw [← t4]; exact no b _ t3 t5)
theorem sp_isBarred {C R lap n s : Nat} {tt : Nat → Nat → Nat} {Mc Mr Mp : Int32} {Mt mK mCol mLeft : Nat → Int32} (hRo : RoofM C R lap tt Mc Mr Mp Mt) (hs : s < 2) {col : Nat → Nat} {L : Nat → Nat → Nat} (hn : n ≤ 40) (hK : mK s = nI n) (hcol : ∀ b, b < n → mCol (40 * s + b) = nI (col b) ∧ col b < 6) (hL : ∀ b r, b < n → r < 6 → mLeft (240 * s + (6 * b + r)) = nI (L b r) ∧ L b r ≤ 9) (hz : ∀ b r, b < n → 6 ≤ r → L b r = 0) {post : Int32 → Prop} (h0 : NoOp tt n col L → post 0) (h1 : ¬ NoOp tt n col L → post 1) : wp_X8_isBarred Mt mK mCol mLeft (nI s) post := by
  obtain ⟨-, -, -, -, -, -, -, hMt, ht2⟩ := hRo
  unfold wp_X8_isBarred
  refine zu2_2 n (by omega) (fun k v => (v = 0 ∧ ∀ b, b < k → ∀ r, r < 6 → 0 < L b r → tt (col b) r = 0) ∨ (v = 1 ∧ ¬ NoOp tt n col L)) 0 rfl (by omega) (Or.inl ⟨rfl, fun b hb => absurd hb (Nat.not_lt_zero b)⟩) (fun k v rec hk hJ hrec => ?_)
  unfold bd_X8_isBarred_4
  refine ⟨vp_in_nI (by omega) (by omega), ?_⟩
  rw [nI_clamp (by omega), hK]
  refine br_le (by omega) (by omega) (fun q => ?_) (fun q => ?_)
  · rcases hJ with ⟨rfl, hJ⟩ | ⟨rfl, hJ⟩
    · refine ⟨Or.inl rfl, h0 (fun b r hb hr => ?_)⟩
      by_cases e : r < 6
      · exact hJ b (by omega) r e hr
      · have := hz b r hb (by omega); omega
    · exact ⟨Or.inr rfl, h1 hJ⟩
  · refine zu2_2 6 (by omega) (fun m v => (v = 0 ∧ (∀ b, b < k → ∀ r, r < 6 → 0 < L b r → tt (col b) r = 0) ∧ ∀ r, r < m → 0 < L k r → tt (col k) r = 0) ∨ (v = 1 ∧ ¬ NoOp tt n col L)) 0 rfl (by omega) ?_ (fun m v rec2 hm hJ2 hrec2 => ?_)
    · rcases hJ with ⟨rfl, hJ⟩ | h
      · exact Or.inl ⟨rfl, hJ, fun r hr => absurd hr (Nat.not_lt_zero r)⟩
      · exact Or.inr h
    unfold bd_X8_isBarred_17
    rw [nI_1, nI_1]
    refine br_le (a := m) (b := 6) (by omega) (by omega) (fun q2 => hrec _ q ?_) (fun q2 => ?_)
    · rcases hJ2 with ⟨rfl, h2, h3⟩ | h
      · refine Or.inl ⟨rfl, fun b hb r hr => ?_⟩
        by_cases e : b = k
        · rw [e]; exact h3 r (by omega)
        · exact h2 b (by omega) r hr
      · exact Or.inr h
    · rcases hJ2 with ⟨rfl, h2, h3⟩ | ⟨rfl, h⟩
      · obtain ⟨k1, k2⟩ := hcol k q
        obtain ⟨l1, l2⟩ := hL k m q q2
        refine f10 ?_
        rw [show (6 : Int32) * nI k = nI (6 * k) by rw [show (6 : Int32) = nI 6 from rfl, pk_mul], nI_240, nI_add, nI_40]
        refine ⟨vp_in_nI (by omega) (by omega), ?_⟩
        rw [nI_clamp (by omega), show 240 * s + 6 * k + m = 240 * s + (6 * k + m) by omega, l1]
        refine br_le (a := 0) (by omega) (by omega) (fun q3 => hrec2 _ q2 (Or.inl ⟨rfl, h2, fun r hr hr2 => ?_⟩)) (fun q3 => ⟨vp_in_nI (by omega) (by omega), ?_⟩)
        · by_cases e : r = m
          · subst e; omega
          · exact h3 r (by omega) hr2
        · rw [nI_clamp (by omega), k1, nI_6]
          refine ⟨vp_in_nI (by omega) (by omega), ?_⟩
          rw [nI_clamp (by omega), hMt _ _ k2 q2]
          refine br_eq (b := 0) (by have := ht2 (col k) m; omega) (by omega) (fun t => hrec2 _ q2 (Or.inl ⟨rfl, h2, fun r hr hr2 => ?_⟩)) (fun t => hrec2 _ q2 (Or.inr ⟨rfl, fun no => t (no k m q q3)⟩))
          by_cases e : r = m
          · rw [e]; exact t
          · exact h3 r (by omega) hr2
      · exact t10 (hrec2 _ q2 (Or.inr ⟨rfl, h⟩))
