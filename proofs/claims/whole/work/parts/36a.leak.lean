/-! PURE LEAK: the year of the first leak -/
def fwL (C R lap : Nat) (tt : Nat → Nat → Nat) (n : Nat) (col : Nat → Nat) (L : Nat → Nat → Nat) : Int32 := fwV (minE (fun j => (rs C R lap tt (lyB n col L) n j).1) (C * R))
theorem lyB_supp {n : Nat} {col : Nat → Nat} {L L' : Nat → Nat → Nat} (h : ∀ b r, b < n → (0 < L' b r ↔ 0 < L b r)) : lyB n col L' = lyB n col L := by
  funext c r b
  unfold lyB
  by_cases e : b < n
  · have := h b r e
    by_cases e2 : 0 < L b r
    · rw [decide_eq_true e2, decide_eq_true (this.mpr e2)]
    · rw [decide_eq_false e2, decide_eq_false (fun z => e2 (this.mp z))]
  · rw [decide_eq_false e, Bool.false_and, Bool.false_and]
/-- the answer: the first year of 0 .. 99 with a leak, or -9 -/
def LeakR (fw : Nat → Int32) (v : Int32) : Prop := (∃ s, s ≤ 99 ∧ (∀ i, i < s → fw i = -9) ∧ fw s ≠ -9 ∧ v = nI s) ∨ ((∀ i, i < 100 → fw i = -9) ∧ v = -9)
theorem LeakR.uniq {fw : Nat → Int32} {v v' : Int32} (h : LeakR fw v) (h' : LeakR fw v') : v = v' := by
  rcases h with ⟨s, h1, h2, h3, rfl⟩ | ⟨h1, rfl⟩
  · rcases h' with ⟨t, g1, g2, g3, rfl⟩ | ⟨g1, rfl⟩
    · by_cases e1 : s < t
      · exact absurd (g2 s e1) h3
      · by_cases e2 : t < s
        · exact absurd (h2 t e2) g3
        · rw [show s = t by omega]
    · exact absurd (g1 s (by omega)) h3
  · rcases h' with ⟨t, g1, g2, g3, rfl⟩ | ⟨g1, rfl⟩
    · exact absurd (h1 t (by omega)) g3
    · rfl
/-- the first wet cell in that year, or -9 -/
def LkR (fw : Nat → Int32) (v : Int32) : Prop := (∃ s, s ≤ 99 ∧ (∀ i, i < s → fw i = -9) ∧ fw s ≠ -9 ∧ v = fw s) ∨ ((∀ i, i < 100 → fw i = -9) ∧ v = -9)
theorem LkR.uniq {fw : Nat → Int32} {v v' : Int32} (h : LkR fw v) (h' : LkR fw v') : v = v' := by
  rcases h with ⟨s, h1, h2, h3, rfl⟩ | ⟨h1, rfl⟩
  · rcases h' with ⟨t, g1, g2, g3, rfl⟩ | ⟨g1, rfl⟩
    · by_cases e1 : s < t
      · exact absurd (g2 s e1) h3
      · by_cases e2 : t < s
        · exact absurd (h2 t e2) g3
        · rw [show s = t by omega]
    · exact absurd (g1 s (by omega)) h3
  · rcases h' with ⟨t, g1, g2, g3, rfl⟩ | ⟨g1, rfl⟩
    · exact absurd (h1 t (by omega)) g3
    · rfl
theorem add_self_zero {x y : Int32} (h : x + y = x) : y = 0 := by
  have e : (x + y) - x = x - x := by rw [h]
  rw [Int32.sub_self, Int32.add_comm, Int32.add_sub_cancel] at e
  exact e
theorem sub1_ne (x : Int32) : ¬ x = x - 1 := by
  intro h
  have e : x + (-1) = x := by rw [← Int32.sub_eq_add_neg]; exact h.symm
  exact absurd (add_self_zero e) (by decide)
theorem sp_firstLeak {C R lap n : Nat} {tt wr : Nat → Nat → Nat} {Fc Fr Fs Fz : Int32} {Fcells Fw Ft : Nat → Int32} (hRo : RoofC C R lap tt Fc Fr Fs Ft) (hCe : CellsC C R Fz Fcells) (hW : ∀ c r, c < C → r < R → Fw (10 * c + r) = nI (wr c r)) (hw3 : ∀ c r, wr c r ≤ 3) {col row len srt thk : Nat → Nat} {L : Nat → Nat → Nat} {aL : Int32} {aCol aRow aLen aSrt aThk aLeft : Nat → Int32} {ly : Nat → Int64} (hA : CoatA C R n col row len srt thk L aL aCol aRow aLen aSrt aThk aLeft ly) (hn : n ≤ 40) (hz : ∀ b r, b < n → R ≤ r → L b r = 0) (h9 : ∀ b r, b < n → L b r ≤ 9) (hcol : ∀ b, b < n → col b < C) {wh : Int32} {wc wrw wl ws wt wre : Nat → Int32} {wly : Nat → Int64} {passed runs e0 ea cell bundle : Int32} {t : Int64} {places : Nat → Int32} {post : Int32 → Int32 → (Nat → Int32) → (Nat → Int32) → (Nat → Int32) → (Nat → Int32) → (Nat → Int32) → (Nat → Int32) → (Nat → Int64) → Int32 → (Nat → Int32) → Int32 → Int32 → Int32 → Int32 → Int32 → Int32 → Int64 → Int32 → Prop} (h : ∀ v lk, LeakR (fun k => fwL C R lap tt n col (itY n col wr L k)) v → LkR (fun k => fwL C R lap tt n col (itY n col wr L k)) lk → ∀ a1 a2 a3 a4 a5 a6 a7 a8 a9 a10 a11 a12 a13 a14 a15 a16 a17, post v a1 a2 a3 a4 a5 a6 a7 a8 a9 a10 a11 a12 a13 a14 a15 a16 a17 lk) : wp_X6_firstLeak Fc Fr Fs Fz Fcells Fw Ft aL aCol aRow aLen aSrt aThk aLeft ly wh wc wrw wl ws wt wre wly passed runs e0 ea cell bundle t places post := by
  have hC6 : C ≤ 6 := hRo.2.1
  have hR6 : R ≤ 6 := hRo.2.2.2.1
  unfold wp_X6_firstLeak
  refine sp_become hA hn hC6 hR6 (fun bCol' bRow' bLen' bSrt' bThk' bLeft' b' hA' => ?_)
  refine zu14_2 100 (by omega) (fun k l2 re l ho _ _ _ _ _ _ _ _ leak => StA C R n col (itY n col wr L k) re l ∧ (∀ i, i < k → fwL C R lap tt n col (itY n col wr L i) = -9) ∧ ((k = 0 ∧ ho ≠ l2) ∨ (leak = -9 ∧ 0 < k ∧ ∃ d, d ≤ 36 ∧ ho = l2 + nI d ∧ (d = 0 → fwL C R lap tt n col (itY n col wr L k) = -9)))) 0 rfl (by omega) ⟨⟨hA'.1.2.2, hA'.2.1, hA'.2.2⟩, fun i hi => absurd hi (Nat.not_lt_zero i), Or.inl ⟨rfl, sub1_ne wh⟩⟩ (fun k l2 re l ho x1 x2 x3 x4 x5 x6 x7 x8 leak rec hk hJ hrec => ?_)
  obtain ⟨hS, hf, hc⟩ := hJ
  unfold bd_X6_firstLeak_26
  refine br_lt (a := 99) (b := k) (by omega) (by omega) (fun q => ?_) (fun q => ?_)
  · rcases hc with ⟨z, _⟩ | ⟨z, _⟩
    · omega
    · exact h (-9) leak (Or.inr ⟨fun i hi => hf i (by omega), rfl⟩) (Or.inr ⟨fun i hi => hf i (by omega), z⟩) _ _ _ _ _ _ _ _ _ _ _ _ _ _ _ _ _
  have hzk : ∀ b r, b < n → R ≤ r → itY n col wr L k b r = 0 := fun b r hb hr => le_zero_of (itY_le n col wr L k b r) (hz b r hb hr)
  have h9k : ∀ b r, b < n → itY n col wr L k b r ≤ 9 := fun b r hb => Nat.le_trans (itY_le n col wr L k b r) (h9 b r hb)
  have go : ∀ l2' x1 x2 x3 x4 x5 x6 x7 x8, ho = l2' → fwL C R lap tt n col (itY n col wr L k) = -9 → wp_X1_weather Fz Fcells Fw ho re l (fun _ re' l' ho' => rec l2' (nI k + 1) re' l' ho' x1 x2 x3 x4 x5 x6 x7 x8 (-9)) := by
    intro l2' x1 x2 x3 x4 x5 x6 x7 x8 he hfw
    refine sp_weather hC6 hR6 hn hCe hW hw3 hS hzk h9k hcol (fun re' l' ho' hS' hd => ?_)
    obtain ⟨d, hd1, hd2, hd3⟩ := hd
    rw [nI_1]
    refine hrec _ _ _ _ _ _ _ _ _ _ _ _ _ (by omega) ⟨hS', fun i hi => ?_, Or.inr ⟨rfl, by omega, d, hd1, by rw [hd2, he], fun z => ?_⟩⟩
    · by_cases e : i = k
      · rw [e]; exact hfw
      · exact hf i (by omega)
    · show fwL C R lap tt n col (yearL n col wr (itY n col wr L k)) = -9
      rw [← hfw]
      unfold fwL
      rw [lyB_supp (hd3 z)]
  refine ⟨fun e => ?_, fun e => ?_⟩
  · rcases hc with ⟨rfl, z⟩ | ⟨rfl, hk0, d, hd1, rfl, hd3⟩
    · exact absurd e z
    · have hd0 : d = 0 := nI_inj (b := 0) (by omega) (by omega) (add_self_zero e)
      unfold jn_X6_firstLeak_69
      exact yy rfl (go l2 _ _ _ _ _ _ _ _ e (hd3 hd0))
  · refine sp_firstWetC hRo hCe hS.2.2 (by omega) (fun c r b hb => lyB_big hb) (fun places passed runs e ea cell bundle t => ?_)
    unfold jn_X6_firstLeak_69
    refine ⟨fun z => ?_, fun z => h (nI k) _ (Or.inl ⟨k, by omega, hf, z, rfl⟩) (Or.inl ⟨k, by omega, hf, z, rfl⟩) _ _ _ _ _ _ _ _ _ _ _ _ _ _ _ _ _⟩
    rw [z]
    exact go ho _ _ _ _ _ _ _ _ rfl z
def WoR (n : Nat) (fw : Nat → Int32) (Lk : Nat → Nat → Nat → Nat) (v : Int32) (left : Nat → Int32) : Prop := (∃ s, s ≤ 99 ∧ (∀ i, i < s → fw i = -9) ∧ fw s ≠ -9 ∧ v = nI s ∧ LeftM n (Lk s) left) ∨ ((∀ i, i < 100 → fw i = -9) ∧ v = -9)
theorem WoR.leak {n : Nat} {fw : Nat → Int32} {Lk : Nat → Nat → Nat → Nat} {v : Int32} {left : Nat → Int32} (h : WoR n fw Lk v left) : LeakR fw v := by
  rcases h with ⟨s, h1, h2, h3, h4, _⟩ | h
  · exact Or.inl ⟨s, h1, h2, h3, h4⟩
  · exact Or.inr h
theorem sp_wearOut {C R lap n : Nat} {tt wr : Nat → Nat → Nat} {Mc Mr Mp : Int32} {Mt Mw : Nat → Int32} (hRo : RoofM C R lap tt Mc Mr Mp Mt) (hW : ∀ c r, c < 6 → r < 6 → Mw (6 * c + r) = nI (wr c r)) (hw3 : ∀ c r, wr c r ≤ 3) (hn : n ≤ 80) {col : Nat → Nat} {L : Nat → Nat → Nat} {bCol left tops : Nat → Int32} (hcolM : ∀ b, b < n → bCol b = nI (col b) ∧ col b < C) (hL : LeftM n L left) (hz : ∀ b r, b < n → R ≤ r → L b r = 0) {pm ea : Int32} {places isT : Nat → Int32} {post : Int32 → (Nat → Int32) → (Nat → Int32) → (Nat → Int32) → Int32 → Int32 → (Nat → Int32) → Prop} (h : ∀ v a1, WoR n (fun k => fwL C R lap tt n col (itY n col wr L k)) (itY n col wr L) v a1 → ∀ a2 a3 a4 a5 a6, post v a1 a2 a3 a4 a5 a6) : wp_X8_wearOut Mc Mr Mp (nI n) pm ea Mt Mw bCol left tops places isT post := by
  obtain ⟨-, hC6, -, hR6, rfl, rfl, -⟩ := id hRo
  unfold wp_X8_wearOut
  refine zu7_1 100 (by omega) (fun k B _ _ _ _ _ => LeftM n (itY n col wr L k) B ∧ ∀ i, i < k → fwL C R lap tt n col (itY n col wr L i) = -9) 0 rfl (by omega) ⟨hL, fun i hi => absurd hi (Nat.not_lt_zero i)⟩ (fun k B T x1 x2 x3 x4 rec hk hJ hrec => ?_)
  obtain ⟨hLk, hf⟩ := hJ
  unfold bd_X8_wearOut_2
  refine br_le (a := k) (b := 100) (by omega) (by omega) (fun q => h (-9) _ (Or.inr ⟨fun i hi => hf i (by omega), rfl⟩) _ _ _ _ _) (fun q => ?_)
  refine sp_firstWetM hRo ⟨hn, fun b hb => ⟨(hcolM b hb).1, by have := (hcolM b hb).2; omega⟩, hLk⟩ (fun places pm ea isT => ?_)
  refine ⟨fun z => ?_, fun z => h (nI k) _ (Or.inl ⟨k, by omega, hf, z, rfl, hLk⟩) _ _ _ _ _⟩
  refine sp_passYear hC6 hR6 hn hW hw3 hcolM hLk (fun b r hb hr => le_zero_of (itY_le n col wr L k b r) (hz b r hb hr)) (fun B' T' hB' => ?_)
  rw [nI_1]
  refine hrec _ _ _ _ _ _ q ⟨hB', fun i hi => ?_⟩
  by_cases e : i = k
  · rw [e]; exact z
  · exact hf i (by omega)
