/-! PURE WAYS 4: the class counts them -/
theorem cnt_zero {q : Nat → Bool} : ∀ {m : Nat}, cnt q m = 0 → ∀ i, i < m → q i = false
  | 0, _, i, hi => absurd hi (Nat.not_lt_zero i)
  | m + 1, h, i, hi => by
    cases hq : q m with
    | true => rw [cnt_step_y hq] at h; omega
    | false =>
      rw [cnt_step_n hq] at h
      by_cases e : i = m
      · rw [e]; exact hq
      · exact cnt_zero h i (by omega)
theorem cnt_mono {p : Nat → Bool} {k n : Nat} (h : k ≤ n) : cnt p k ≤ cnt p n := by
  have := cnt_split p k (n - k)
  rw [show k + (n - k) = n by omega] at this
  omega
theorem cnt_same {p : Nat → Bool} {k n : Nat} (h : k ≤ n) (he : cnt p n ≤ cnt p k) : ∀ i, k ≤ i → i < n → p i = false := by
  intro i h1 h2
  have e := cnt_split p k (n - k)
  rw [show k + (n - k) = n by omega] at e
  have := cnt_zero (q := fun i => p (k + i)) (m := n - k) (by omega) (i - k) (by omega)
  rw [show k + (i - k) = i by omega] at this
  exact this
theorem chF_stay {p : Nat → Bool} {k j : Nat} : ∀ {n : Nat}, k ≤ n → (∀ i, k ≤ i → i < n → p i = false) → chF p n j = chF p k j
  | 0, h, _ => by rw [show k = 0 by omega]
  | n + 1, h, hp => by
    by_cases e : k = n + 1
    · rw [e]
    · rw [chF, hp n (by omega) (by omega), if_neg (by simp)]
      exact chF_stay (by omega) (fun i h1 h2 => hp i h1 (by omega))
def LateW (p : Nat → Bool) (f t srt : Nat → Nat) (n : Nat) : Prop := 5 < cnt p n ∨ ∃ b, b < n ∧ p b = true ∧ 10 ≤ t (srt b) - f (srt b)
/-- the years of the i-th chosen bundle -/
def yrF (p : Nat → Bool) (f srt : Nat → Nat) (n i : Nat) : Nat := f (srt (chF p n i))
def ovF (p : Nat → Bool) (col : Nat → Nat) (L : Nat → Nat → Nat) (n i e : Nat) : Bool := overM col L (chF p n i) (chF p n e)
def waysW (p : Nat → Bool) (f t srt col : Nat → Nat) (L : Nat → Nat → Nat) (n : Nat) : Nat := cf (yrF p f srt n) (yrF p t srt n) (cnt p n) 0 (QS (ovF p col L n) (fun _ => true) (cnt p n)) (fun _ => 0)
theorem QS_congr {ov : Nat → Nat → Bool} {S S' : Nat → Bool} {k : Nat} (h : ∀ i, i < k → S i = S' i) (y : Nat → Nat) : QS ov S k y = QS ov S' k y := by
  have e : (cloB ov S k = true ∧ okB ov S k y = true) ↔ (cloB ov S' k = true ∧ okB ov S' k y = true) := by
    rw [cloB_iff, cloB_iff, okB_iff, okB_iff]
    constructor
    · rintro ⟨h1, h2⟩
      exact ⟨fun i hi e he g1 g2 => by rw [← h e (by omega)]; exact h1 i hi e he (by rw [h i hi]; exact g1) g2, fun i hi e he g1 g2 g3 => h2 i hi e he (by rw [h i hi]; exact g1) (by rw [h e (by omega)]; exact g2) g3⟩
    · rintro ⟨h1, h2⟩
      exact ⟨fun i hi e he g1 g2 => by rw [h e (by omega)]; exact h1 i hi e he (by rw [← h i hi]; exact g1) g2, fun i hi e he g1 g2 g3 => h2 i hi e he (by rw [← h i hi]; exact g1) (by rw [← h e (by omega)]; exact g2) g3⟩
  unfold QS
  by_cases z : cloB ov S k = true ∧ okB ov S k y = true
  · rw [if_pos z, if_pos (e.mp z)]
  · rw [if_neg z, if_neg (fun y => z (e.mpr y))]
theorem tW_full {f t : Nat → Nat} {ov : Nat → Nat → Bool} {k : Nat} : tW f t ov k (2 ^ k - 1) 100 = cf f t k 0 (QS ov (fun _ => true) k) (fun _ => 0) := by
  have hb : ∀ i, i < k → (2 ^ k - 1).testBit i = true := fun i hi => by rw [Nat.testBit_two_pow_sub_one, decide_eq_true hi]
  rw [← bx_cf]
  unfold tW
  rw [bx_S (S' := fun _ => true) hb]
  exact bx_congr (fun y _ => QS_congr hb y)
theorem sp_findBeneath {C R n k : Nat} {col : Nat → Nat} {L : Nat → Nat → Nat} {aCol : Nat → Int32} {a : Nat → Int64} (hC : C ≤ 6) (hR : R ≤ 6) (hn : n ≤ 40) (hk : k ≤ 5) (hcol : ∀ b, b < n → aCol b = nI (col b) ∧ col b < C) (hz : ∀ b r, b < n → R ≤ r → L b r = 0) (hLy : LyC C R (lyB n col L) a) {ch : Nat → Nat} {cn bn : Nat → Int32} (hc : ∀ i, i < k → cn i = nI (ch i) ∧ ch i < n) {post : (Nat → Int32) → Prop} (h : ∀ bn', (∀ i, i < k → bn' i = nI (mskN (fun e => overM col L (ch i) (ch e)) i)) → post bn') : wp_X0_findBeneath (nI R) aCol a cn bn (nI k) post := by
  unfold wp_X0_findBeneath
  refine zu2_1 k (by omega) (fun m B => ∀ i, i < m → B i = nI (mskN (fun e => overM col L (ch i) (ch e)) i)) 0 rfl (by omega) (fun i hi => absurd hi (Nat.not_lt_zero i)) (fun m B rec hm hJ hrec => ?_)
  unfold bd_X0_findBeneath_2
  refine br_le (by omega) (by omega) (fun q => h B (fun i hi => hJ i (by omega))) (fun q => ?_)
  have v5 : vp_in (nI m) 5 := vp_in_nI (by omega) (by omega)
  refine ⟨v5, ?_⟩
  rw [nI_clamp (by omega)]
  refine zu2_1 m (by omega) (fun e B' => B' m = nI (mskN (fun e => overM col L (ch m) (ch e)) e) ∧ ∀ i, i ≠ m → B' i = B i) 0 rfl (by omega) ⟨up_at, fun i hi => up_ne hi⟩ (fun e B' rec2 he hJ2 hrec2 => ?_)
  obtain ⟨g1, g2⟩ := hJ2
  unfold bd_X0_findBeneath_16
  refine br_le (by omega) (by omega) (fun q2 => ?_) (fun q2 => ⟨v5, vp_in_nI (by omega) (by omega), ?_⟩)
  · have hem : e = m := by omega
    subst hem
    rw [nI_1]
    refine hrec B' q (fun i hi => ?_)
    by_cases e2 : i = e
    · rw [e2]; exact g1
    · rw [g2 i e2]; exact hJ i (by omega)
  · rw [nI_clamp (by omega), nI_clamp (by omega), (hc m q).1, (hc e (by omega)).1, nI_1]
    have hmk := mskN_lt (fun e => overM col L (ch m) (ch e)) e
    have h32 := p32 e (by omega)
    refine sp_liesOver hC hR hn hcol hz hLy (hc m q).2 (hc e (by omega)).2 ?_
    cases ho : overM col L (ch m) (ch e) with
    | false =>
      refine f01 (hrec2 B' q2 ⟨?_, g2⟩)
      rw [g1, mskN, ho, if_neg (by decide)]
    | true =>
      refine t01 ⟨v5, v5, hrec2 _ q2 ⟨?_, fun i hi => by rw [up_ne hi]; exact g2 i hi⟩⟩
      rw [up_at, g1, or32 _ (by omega) e (by omega), mskN, ho, if_pos rfl]
theorem sp_countWays {C R n : Nat} (hC : C ≤ 6) (hR : R ≤ 6) (hn : n ≤ 40) {col srt : Nat → Nat} {L : Nat → Nat → Nat} {aCol aSrt aF aT : Nat → Int32} {a : Nat → Int64} {f t : Nat → Nat} (hcol : ∀ b, b < n → aCol b = nI (col b) ∧ col b < C) (hsrt : ∀ b, b < n → aSrt b = nI (srt b) ∧ srt b < 6) (hz : ∀ b r, b < n → R ≤ r → L b r = 0) (hLy : LyC C R (lyB n col L) a) (hA : ∀ s, s < 6 → aF s = nI (f s) ∧ aT s = nI (t s)) (hft : ∀ s, f s ≤ t s) (ht : ∀ s, t s ≤ 99) {c : Nat} (hc : c < C) {cn bn : Nat → Int32} {gv : Nat → Int64} {post : Int64 → (Nat → Int32) → (Nat → Int32) → (Nat → Int64) → Prop}
    (h3 : LateW (strB col L c) f t srt n → ∀ cn bn gv, post (-3) cn bn gv) (h : ¬ LateW (strB col L c) f t srt n → ∀ cn bn gv, post (lN (waysW (strB col L c) f t srt col L n)) cn bn gv) : wp_X0_countWays (nI R) (nI n) aCol aSrt a aF aT cn bn gv (nI c) post := by
  unfold wp_X0_countWays
  refine sp_inColumn hC hR hLy hc (fun x hx => ?_)
  have hxp : ∀ b, b < n → lb x b = strB col L c b := fun b hb => by rw [hx]; exact strB_orB hR hz hb
  refine sp_bitCount ?_
  have hcnt : cnt (lb x) 64 = cnt (strB col L c) n := by
    rw [cnt_cut (m := n) (by omega) (fun k hk => by rw [hx]; exact orB_none (fun r _ => lyB_big hk))]
    exact cnt_congr hxp
  have hle := cnt_le (strB col L c) n
  rw [hcnt]
  refine br_le (a := 5) (by omega) (by omega) (fun q => ?_) (fun q => h3 (Or.inl q) _ _ _)
  have hyr : ∀ b, b < n → ∀ post : Int32 → Prop, (post (nI (f (srt b))) → wp_X0_firstYear aSrt aF (nI b) post) ∧ (post (nI (t (srt b))) → wp_X0_lastYear aSrt aT (nI b) post) := fun b hb post => by
    obtain ⟨e1, e2⟩ := hsrt b hb
    unfold wp_X0_firstYear wp_X0_lastYear
    rw [nI_clamp (by omega), e1, nI_clamp (by omega), (hA _ e2).1, (hA _ e2).2]
    exact ⟨fun z => ⟨vp_in_nI (by omega) (by omega), vp_in_nI (by omega) (by omega), z⟩, fun z => ⟨vp_in_nI (by omega) (by omega), vp_in_nI (by omega) (by omega), z⟩⟩
  have fin : ∀ cn : Nat → Int32, (∀ j, j < cnt (strB col L c) n → cn j = nI (chF (strB col L c) n j)) → (∀ b, b < n → strB col L c b = true → t (srt b) - f (srt b) < 10) → jn_X0_countWays_94 (nI R) aCol aSrt a aF aT bn gv post (nI (cnt (strB col L c) n)) cn := by
    intro cn hcn hno
    have hnl : ¬ LateW (strB col L c) f t srt n := by
      rintro (z | ⟨b, z1, z2, z3⟩)
      · omega
      · have := hno b z1 z2; omega
    have hch : ∀ i, i < cnt (strB col L c) n → cn i = nI (chF (strB col L c) n i) ∧ chF (strB col L c) n i < n := fun i hi => ⟨hcn i hi, (chF_ok hi).1⟩
    unfold jn_X0_countWays_94
    refine sp_findBeneath hC hR hn q hcol hz hLy hch (fun bn' hbn' => ?_)
    refine sp_fillL (by omega) (fun g0 hg0 => ⟨vp_in_nI (n := 0) (by omega) (by omega), ?_⟩)
    refine zu2_1 100 (by omega) (fun Y g => ∀ S, S < 2 ^ cnt (strB col L c) n → g S = lN (tW (yrF (strB col L c) f srt n) (yrF (strB col L c) t srt n) (ovF (strB col L c) col L n) (cnt (strB col L c) n) S Y)) 0 rfl (by omega) (fun S hS => ?_) (fun Y g rec hY hJ hrec => ?_)
    · have h32 := p32 _ q
      by_cases e : S = 0
      · subst e
        rw [tW_0, show (0 : Int32).toNatClampNeg = 0 from rfl, vL_at]; rfl
      · rw [tW_start e hS, show (0 : Int32).toNatClampNeg = 0 from rfl, vL_ne e, hg0, if_pos (by omega)]; rfl
    · unfold bd_X0_countWays_118
      refine br_lt (a := 99) (by omega) (by omega) (fun q2 => ?_) (fun q2 => ?_)
      · have hY1 : Y = 100 := by omega
        subst hY1
        have h32 := p32 _ q
        have h1 : 1 ≤ 2 ^ cnt (strB col L c) n := Nat.one_le_two_pow
        rw [shl1 _ (by omega)]
        refine ⟨vp_in_nI (by omega) (by omega), ?_⟩
        rw [nI_clamp (by omega), hJ _ (by omega), tW_full]
        exact h hnl _ _ _
      · refine sp_giveYear q (by omega) (fun i => ht _) (fun i => hft _) (fun i hi post => ?_) hbn' hJ (fun g' hg' => ?_)
        · rw [(hch i hi).1]
          exact hyr _ (hch i hi).2 post
        · rw [nI_1]
          exact hrec g' (by omega) hg'
  refine zu3_2 n (by omega) (fun k x cn' => x = nI (cnt (strB col L c) k) ∧ (∀ j, j < cnt (strB col L c) k → cn' j = nI (chF (strB col L c) k j)) ∧ ∀ b, b < k → strB col L c b = true → t (srt b) - f (srt b) < 10) 0 rfl (by omega) ⟨rfl, fun j hj => absurd hj (Nat.not_lt_zero j), fun b hb => absurd hb (Nat.not_lt_zero b)⟩ (fun k x cn' rec hk hJ hrec => ?_)
  obtain ⟨rfl, g1, g2⟩ := hJ
  have hkn := cnt_mono (p := strB col L c) hk
  unfold bd_X0_countWays_27
  refine br_le (by omega) (by omega) (fun q2 => ?_) (fun q2 => ?_)
  · have hk1 : k = n := by omega
    subst hk1
    exact fin cn' g1 g2
  · refine br_le (b := 5) (by omega) (by omega) (fun q3 => ?_) (fun q3 => ?_)
    · have hs := cnt_same (p := strB col L c) hk (by omega)
      rw [show cnt (strB col L c) k = cnt (strB col L c) n by omega]
      refine fin cn' (fun j hj => ?_) (fun b hb hp => ?_)
      · rw [chF_stay hk hs]; exact g1 j (by omega)
      · by_cases e : b < k
        · exact g2 b e hp
        · rw [hs b (by omega) hb] at hp; cases hp
    · refine sp_isIn (by omega) ?_
      rw [hxp k q2]
      cases hp : strB col L c k with
      | false =>
        refine f01 ?_
        rw [nI_1]
        refine hrec _ _ q2 ⟨by rw [cnt_step_n hp], fun j hj => ?_, fun b hb hpb => ?_⟩
        · rw [cnt_step_n hp] at hj
          rw [chF_y2 hj]; exact g1 j hj
        · by_cases e : b = k
          · rw [e, hp] at hpb; cases hpb
          · exact g2 b (by omega) hpb
      | true =>
        refine t01 ((hyr k q2 _).2 ((hyr k q2 _).1 ?_))
        have h1 := hft (srt k)
        have h2 := ht (srt k)
        rw [nI_subN h1]
        refine br_lt (b := 10) (by omega) (by omega) (fun q4 => ⟨vp_in_nI (by omega) (by omega), ?_⟩) (fun q4 => h3 (Or.inr ⟨k, q2, hp, q4⟩) _ _ _)
        rw [nI_1, nI_1, nI_clamp (by omega)]
        refine hrec _ _ q2 ⟨by rw [cnt_step_y hp], fun j hj => ?_, fun b hb hpb => ?_⟩
        · rw [cnt_step_y hp] at hj
          by_cases e : j = cnt (strB col L c) k
          · rw [e, up_at, chF_y hp]
          · rw [up_ne e, chF_y2 (by omega)]; exact g1 j (by omega)
        · by_cases e : b = k
          · rw [e]; exact q4
          · exact g2 b (by omega) hpb
