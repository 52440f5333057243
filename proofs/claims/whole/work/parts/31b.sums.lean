/-! PURE SUMS: all drops of a roof; sums -/
theorem ix1 {R c r : Nat} (h : r < R) : (R * c + r) / R = c ∧ (R * c + r) % R = r := by
  have hR : 0 < R := by omega
  rw [Nat.mul_add_mod, Nat.mod_eq_of_lt h, Nat.mul_add_div hR, Nat.div_eq_of_lt h]
  exact ⟨rfl, rfl⟩
theorem ix2 {C R i : Nat} (h : i < C * R) : i / R < C ∧ i % R < R := by
  have hR : 0 < R := by
    rcases Nat.eq_zero_or_pos R with e | e
    · rw [e, Nat.mul_zero] at h; omega
    · exact e
  exact ⟨Nat.div_lt_of_lt_mul (by rw [Nat.mul_comm]; exact h), Nat.mod_lt _ hR⟩
theorem ix3 {C R c r : Nat} (hc : c < C) (hr : r < R) : R * c + r < C * R := by
  have : R * (c + 1) ≤ R * C := Nat.mul_le_mul_left R hc
  rw [Nat.mul_succ] at this
  rw [Nat.mul_comm C R]; omega
theorem ix36 {C R : Nat} (hC : C ≤ 6) (hR : R ≤ 6) : C * R ≤ 36 := Nat.mul_le_mul hC hR
theorem entW_end {C R : Nat} {tt : Nat → Nat → Nat} {ly : Nat → Nat → Nat → Bool} {n : Nat} (hC : C ≤ 6) (hR : R ≤ 6) {K : Bool → Nat → Nat → Nat → (Nat → Nat → Bool) → List Int32 → wRes} (hK : ∀ o c r b tn pl, c < C → r < R → (K o c r b tn pl).1 < 60 ∨ (K o c r b tn pl).1 = 100) {c r : Nat} (hc : c < C) (hr : r < R) (on : Option Nat) (tn : Nat → Nat → Bool) (pl : List Int32) : (entW tt ly n K c r on tn pl).1 < 60 ∨ (entW tt ly n K c r on tn pl).1 = 100 := by
  unfold entW
  split
  · split
    · left; show 10 * c + r < 60; omega
    · exact hK _ _ _ _ _ _ hc hr
  · split
    · left; show 10 * c + r < 60; omega
    · exact hK _ _ _ _ _ _ hc hr
theorem goW_end {C R lap : Nat} {tt : Nat → Nat → Nat} {ly : Nat → Nat → Nat → Bool} {n : Nat} (hC : C ≤ 6) (hR : R ≤ 6) : ∀ (f : Nat) (o : Bool) (c r b : Nat) (tn : Nat → Nat → Bool) (pl : List Int32), c < C → r < R → (goW C R lap tt ly n f o c r b tn pl).1 < 60 ∨ (goW C R lap tt ly n f o c r b tn pl).1 = 100
  | 0, o, c, r, b, tn, pl, _, _ => by rw [goW]; left; show 0 < 60; omega
  | f + 1, o, c, r, b, tn, pl, hc, hr => by
    have hK := fun o c r b tn pl hc hr => goW_end (lap := lap) (tt := tt) (ly := ly) (n := n) hC hR f o c r b tn pl hc hr
    rw [goW]
    split
    · split
      · split
        · right; rfl
        · exact entW_end hC hR hK (by omega) hr _ _ _
      · split
        · right; rfl
        · exact entW_end hC hR hK (by omega) hr _ _ _
    · split
      · right; rfl
      · split
        · split
          · left; show 10 * c + (r - 1) < 60; omega
          · split
            · exact entW_end hC hR hK hc (by omega) _ _ _
            · left; show 10 * c + (r - 1) < 60; omega
        · exact entW_end hC hR hK hc (by omega) _ _ _
theorem runW_end {C R lap : Nat} {tt : Nat → Nat → Nat} {ly : Nat → Nat → Nat → Bool} {n c r : Nat} (hC : C ≤ 6) (hR : R ≤ 6) (hc : c < C) (hr : r < R) : (runW C R lap tt ly n c r).1 < 60 ∨ (runW C R lap tt ly n c r).1 = 100 :=
  entW_end hC hR (fun o c r b tn pl hc hr => goW_end hC hR 64 o c r b tn pl hc hr) hc hr _ _ _
/-- the drops one after the other, column by column -/
def rs (C R lap : Nat) (tt : Nat → Nat → Nat) (ly : Nat → Nat → Nat → Bool) (n i : Nat) : wRes := runW C R lap tt ly n (i / R) (i % R)
theorem rs_end {C R lap : Nat} {tt : Nat → Nat → Nat} {ly : Nat → Nat → Nat → Bool} {n i : Nat} (hC : C ≤ 6) (hR : R ≤ 6) (hi : i < C * R) : (rs C R lap tt ly n i).1 < 60 ∨ (rs C R lap tt ly n i).1 = 100 := runW_end hC hR (ix2 hi).1 (ix2 hi).2
theorem rs_at {C R lap : Nat} {tt : Nat → Nat → Nat} {ly : Nat → Nat → Nat → Bool} {n c r : Nat} (hr : r < R) : rs C R lap tt ly n (R * c + r) = runW C R lap tt ly n c r := by
  unfold rs; rw [(ix1 hr).1, (ix1 hr).2]
theorem cnt_step_y {p : Nat → Bool} {i : Nat} (h : p i = true) : cnt p (i + 1) = cnt p i + 1 := by rw [cnt, h]; rfl
theorem cnt_step_n {p : Nat → Bool} {i : Nat} (h : p i = false) : cnt p (i + 1) = cnt p i := by rw [cnt, h]; rfl
def CellsC (C R : Nat) (Fz : Int32) (Fcells : Nat → Int32) : Prop := Fz = nI (C * R) ∧ ∀ i, i < C * R → Fcells i = nI (10 * (i / R) + i % R)
theorem sp_countIn {C R lap : Nat} {tt : Nat → Nat → Nat} {ly : Nat → Nat → Nat → Bool} {n : Nat} {Fc Fr Fs Fz : Int32} {Fcells Ft : Nat → Int32} (hRo : RoofC C R lap tt Fc Fr Fs Ft) (hCe : CellsC C R Fz Fcells) {a : Nat → Int64} (hLy : LyC C R ly a) (hn : n ≤ 64) (hlyn : ∀ c r b, n ≤ b → ly c r b = false) {passed runs e0 ea cell bundle : Int32} {t : Int64} {places : Nat → Int32} {at_ : Nat} (hat : at_ < 100)
    {post : Int32 → (Nat → Int32) → Int32 → Int32 → Int32 → Int32 → Int32 → Int32 → Int64 → Prop} (h : ∀ places passed runs e ea cell bundle t, post (nI (cnt (fun j => decide ((rs C R lap tt ly n j).1 = at_)) (C * R))) places passed runs e ea cell bundle t) : wp_X4_countIn Fc Fr Fs Fz Fcells Ft passed runs e0 ea cell bundle t places a (nI at_) post := by
  obtain ⟨hz, hcell⟩ := hCe
  have h36 := ix36 hRo.2.1 hRo.2.2.2.1
  unfold wp_X4_countIn
  refine zu10_2 (C * R) (by omega) (fun k acc _ _ _ _ _ _ _ _ => acc = nI (cnt (fun j => decide ((rs C R lap tt ly n j).1 = at_)) k)) 0 rfl (by omega) rfl (fun k acc _ _ _ _ _ _ _ _ rec hk hJ hrec => ?_)
  unfold bd_X4_countIn_5
  rw [hz]
  refine br_le (by omega) (by omega) (fun q => ?_) (fun q => ⟨vp_in_nI (by omega) (by omega), ?_⟩)
  · rw [hJ, show k = C * R by omega]; exact h _ _ _ _ _ _ _ _
  · rw [nI_clamp (by omega), hcell k q]
    obtain ⟨q1, q2⟩ := ix2 q
    have he := rs_end (lap := lap) (tt := tt) (ly := ly) (n := n) hRo.2.1 hRo.2.2.2.1 q
    refine sp_follow hRo hLy hn hlyn q1 q2 (fun places passed cell bundle t _ => ?_)
    show (¬ nI (rs C R lap tt ly n k).1 = nI at_ → _) ∧ (nI (rs C R lap tt ly n k).1 = nI at_ → _)
    rw [nI_1]
    refine br_neq (by omega) (by omega) (fun z => hrec _ _ _ _ _ _ _ _ _ q ?_) (fun z => hrec _ _ _ _ _ _ _ _ _ q ?_)
    · rw [hJ, cnt_step_n (decide_eq_false z)]
    · rw [hJ, nI_1, cnt_step_y (decide_eq_true z)]
theorem sp_countOff {C R lap : Nat} {tt : Nat → Nat → Nat} {ly : Nat → Nat → Nat → Bool} {n : Nat} {Fc Fr Fs Fz : Int32} {Fcells Ft : Nat → Int32} (hRo : RoofC C R lap tt Fc Fr Fs Ft) (hCe : CellsC C R Fz Fcells) {a : Nat → Int64} (hLy : LyC C R ly a) (hn : n ≤ 64) (hlyn : ∀ c r b, n ≤ b → ly c r b = false) {passed runs e0 ea cell bundle : Int32} {t : Int64} {places : Nat → Int32} {v : Int32}
    {post : Int32 → (Nat → Int32) → Int32 → Int32 → Int32 → Int32 → Int32 → Int32 → Int64 → Prop} (h : ∀ places passed runs e ea cell bundle t, post (nI (cnt (fun j => decide ((rs C R lap tt ly n j).2.1 = v)) (C * R))) places passed runs e ea cell bundle t) : wp_X4_countOff Fc Fr Fs Fz Fcells Ft passed runs e0 ea cell bundle t places a v post := by
  obtain ⟨hz, hcell⟩ := hCe
  have h36 := ix36 hRo.2.1 hRo.2.2.2.1
  unfold wp_X4_countOff
  refine zu10_2 (C * R) (by omega) (fun k acc _ _ _ _ _ _ _ _ => acc = nI (cnt (fun j => decide ((rs C R lap tt ly n j).2.1 = v)) k)) 0 rfl (by omega) rfl (fun k acc _ _ _ _ _ _ _ _ rec hk hJ hrec => ?_)
  unfold bd_X4_countOff_5
  rw [hz]
  refine br_le (by omega) (by omega) (fun q => ?_) (fun q => ⟨vp_in_nI (by omega) (by omega), ?_⟩)
  · rw [hJ, show k = C * R by omega]; exact h _ _ _ _ _ _ _ _
  · rw [nI_clamp (by omega), hcell k q]
    obtain ⟨q1, q2⟩ := ix2 q
    refine sp_follow hRo hLy hn hlyn q1 q2 (fun places passed cell bundle t _ => ?_)
    show (¬ (rs C R lap tt ly n k).2.1 = v → _) ∧ ((rs C R lap tt ly n k).2.1 = v → _)
    rw [nI_1]
    refine ⟨fun z => hrec _ _ _ _ _ _ _ _ _ q ?_, fun z => hrec _ _ _ _ _ _ _ _ _ q ?_⟩
    · rw [hJ, cnt_step_n (decide_eq_false z)]
    · rw [hJ, nI_1, cnt_step_y (decide_eq_true z)]
/-- the least of those that are less than 100 -/
def minE (e : Nat → Nat) : Nat → Nat
  | 0 => 100
  | i + 1 => if e i < minE e i then e i else minE e i
theorem minE_le (e : Nat → Nat) : ∀ i, minE e i ≤ 100
  | 0 => Nat.le_refl _
  | i + 1 => by have := minE_le e i; rw [minE]; split <;> omega
def fwV (m : Nat) : Int32 := if m = 100 then -9 else nI m
theorem sp_firstWetC {C R lap : Nat} {tt : Nat → Nat → Nat} {ly : Nat → Nat → Nat → Bool} {n : Nat} {Fc Fr Fs Fz : Int32} {Fcells Ft : Nat → Int32} (hRo : RoofC C R lap tt Fc Fr Fs Ft) (hCe : CellsC C R Fz Fcells) {a : Nat → Int64} (hLy : LyC C R ly a) (hn : n ≤ 64) (hlyn : ∀ c r b, n ≤ b → ly c r b = false) {passed runs e0 ea cell bundle : Int32} {t : Int64} {places : Nat → Int32}
    {post : Int32 → (Nat → Int32) → Int32 → Int32 → Int32 → Int32 → Int32 → Int32 → Int64 → Prop} (h : ∀ places passed runs e ea cell bundle t, post (fwV (minE (fun j => (rs C R lap tt ly n j).1) (C * R))) places passed runs e ea cell bundle t) : wp_X4_firstWet Fc Fr Fs Fz Fcells Ft passed runs e0 ea cell bundle t places a post := by
  obtain ⟨hz, hcell⟩ := hCe
  have h36 := ix36 hRo.2.1 hRo.2.2.2.1
  unfold wp_X4_firstWet
  refine zu10_2 (C * R) (by omega) (fun k acc _ _ _ _ _ _ _ _ => acc = nI (minE (fun j => (rs C R lap tt ly n j).1) k)) 0 rfl (by omega) rfl (fun k acc _ _ _ _ _ _ _ _ rec hk hJ hrec => ?_)
  have hm := minE_le (fun j => (rs C R lap tt ly n j).1) k
  unfold bd_X4_firstWet_5
  rw [hz]
  refine br_le (by omega) (by omega) (fun q => ?_) (fun q => ⟨vp_in_nI (by omega) (by omega), ?_⟩)
  · rw [hJ, show (100 : Int32) = nI 100 from rfl]
    have ek : k = C * R := by omega
    refine br_neq (by omega) (by omega) (fun z => ?_) (fun z => ?_)
    · have := h
      rw [← ek] at this; unfold fwV at this; rw [if_neg z] at this
      exact this _ _ _ _ _ _ _ _
    · have := h
      rw [← ek] at this; unfold fwV at this; rw [if_pos z] at this
      exact this _ _ _ _ _ _ _ _
  · rw [nI_clamp (by omega), hcell k q]
    obtain ⟨q1, q2⟩ := ix2 q
    have he := rs_end (lap := lap) (tt := tt) (ly := ly) (n := n) hRo.2.1 hRo.2.2.2.1 q
    refine sp_follow hRo hLy hn hlyn q1 q2 (fun places passed cell bundle t _ => ?_)
    rw [nI_1]
    refine hrec _ _ _ _ _ _ _ _ _ q ?_
    show (if nI (rs C R lap tt ly n k).1 < acc then nI (rs C R lap tt ly n k).1 else acc) = _
    rw [hJ, minE]
    by_cases z : (rs C R lap tt ly n k).1 < minE (fun j => (rs C R lap tt ly n j).1) k
    · rw [if_pos z, if_pos ((nI_ltI (by omega) (by omega)).mpr z)]
    · rw [if_neg z, if_neg (fun y => z ((nI_ltI (by omega) (by omega)).mp y))]
/-- the reference's two loops over all cells -/
theorem sp_firstWetM {C R lap : Nat} {tt : Nat → Nat → Nat} {Mc Mr Mp : Int32} {Mt : Nat → Int32} (hRo : RoofM C R lap tt Mc Mr Mp Mt) {nb : Nat} {col : Nat → Nat} {L : Nat → Nat → Nat} {bCol left : Nat → Int32} (hB : BunM nb col L bCol left) {pm ea : Int32} {places isT : Nat → Int32}
    {post : Int32 → (Nat → Int32) → Int32 → Int32 → (Nat → Int32) → Prop} (h : ∀ places pm ea isT, post (fwV (minE (fun j => (rs C R lap tt (lyB nb col L) nb j).1) (C * R))) places pm ea isT) : wp_X8_firstWet Mc Mr Mp (nI nb) pm ea Mt bCol left places isT post := by
  obtain ⟨-, hC6, hR1, hR6, rfl, rfl, -⟩ := id hRo
  unfold wp_X8_firstWet
  refine zu6_2 C (by omega) (fun c acc _ _ _ _ => acc = fwV (minE (fun j => (rs C R lap tt (lyB nb col L) nb j).1) (R * c))) 0 rfl (by omega) rfl (fun c acc _ _ _ _ rec hk hJ hrec => ?_)
  unfold bd_X8_firstWet_5
  refine br_le (by omega) (by omega) (fun q => ?_) (fun q => ?_)
  · rw [hJ, show R * c = C * R by rw [show c = C by omega, Nat.mul_comm]]; exact h _ _ _ _
  refine zu6_2 R (by omega) (fun r acc _ _ _ _ => acc = fwV (minE (fun j => (rs C R lap tt (lyB nb col L) nb j).1) (R * c + r))) 0 rfl (by omega) hJ (fun r acc _ _ _ _ rec2 hk2 hJ2 hrec2 => ?_)
  unfold bd_X8_firstWet_15
  refine br_le (by omega) (by omega) (fun q2 => ?_) (fun q2 => ?_)
  · rw [nI_1]
    exact hrec _ _ _ _ _ q (by rw [hJ2, show r = R by omega, Nat.mul_succ])
  have hm := minE_le (fun j => (rs C R lap tt (lyB nb col L) nb j).1) (R * c + r)
  have he := runW_end (lap := lap) (tt := tt) (ly := lyB nb col L) (n := nb) hC6 hR6 q q2
  have hat : (rs C R lap tt (lyB nb col L) nb (R * c + r)) = runW C R lap tt (lyB nb col L) nb c r := rs_at q2
  refine sp_run hRo hB q q2 (fun places pm isT _ => ?_)
  rw [nI_1]
  have fin : ∀ v, v = fwV (minE (fun j => (rs C R lap tt (lyB nb col L) nb j).1) (R * c + r + 1)) → ∀ p m a t, rec2 v (nI (r + 1)) p m a t := fun v hv p m a t => hrec2 _ _ _ _ _ q2 hv
  have e1 : minE (fun j => (rs C R lap tt (lyB nb col L) nb j).1) (R * c + r + 1) = if (runW C R lap tt (lyB nb col L) nb c r).1 < minE (fun j => (rs C R lap tt (lyB nb col L) nb j).1) (R * c + r) then (runW C R lap tt (lyB nb col L) nb c r).1 else minE (fun j => (rs C R lap tt (lyB nb col L) nb j).1) (R * c + r) := by
    rw [minE, hat]
  rw [e1] at fin
  generalize minE (fun j => (rs C R lap tt (lyB nb col L) nb j).1) (R * c + r) = mm at hm hJ2 fin
  generalize (runW C R lap tt (lyB nb col L) nb c r).1 = en at he fin ⊢
  rw [show (100 : Int32) = nI 100 from rfl]
  refine br_eq (by omega) (by omega) (fun z => fin _ (by rw [hJ2, if_neg (by omega)]) _ _ _ _) (fun z => ?_)
  rw [hJ2]
  unfold fwV
  by_cases hmm : mm = 100
  · rw [if_pos hmm]
    refine ⟨fun _ => fin _ ?_ _ _ _ _, fun y => absurd rfl y⟩
    rw [if_pos (by omega)]; unfold fwV; rw [if_neg (by omega)]
  · rw [if_neg hmm]
    refine ⟨fun y => absurd y (nI_ne9 (by omega)), fun _ => ?_⟩
    refine br_le (by omega) (by omega) (fun y => fin _ ?_ _ _ _ _) (fun y => fin _ ?_ _ _ _ _)
    · rw [if_neg (by omega)]; unfold fwV; rw [if_neg hmm]
    · rw [if_pos y]; unfold fwV; rw [if_neg (by omega)]
def sm (f : Nat → Nat) : Nat → Nat
  | 0 => 0
  | n + 1 => sm f n + f n
theorem sm_congr {f g : Nat → Nat} : ∀ {n : Nat}, (∀ k, k < n → f k = g k) → sm f n = sm g n
  | 0, _ => rfl
  | n + 1, h => by rw [sm, sm, sm_congr (fun k hk => h k (by omega)), h n (by omega)]
theorem sm_add (f g : Nat → Nat) : ∀ n, sm (fun k => f k + g k) n = sm f n + sm g n
  | 0 => rfl
  | n + 1 => by rw [sm, sm, sm, sm_add f g n]; omega
theorem sm_zero : ∀ n, sm (fun _ => 0) n = 0
  | 0 => rfl
  | n + 1 => by rw [sm, sm_zero n]
theorem sm_swap (f : Nat → Nat → Nat) (n : Nat) : ∀ m, sm (fun r => sm (fun b => f r b) n) m = sm (fun b => sm (fun r => f r b) m) n
  | 0 => by show 0 = sm (fun _ => 0) n; rw [sm_zero]
  | m + 1 => by
    show sm (fun r => sm (fun b => f r b) n) m + sm (fun b => f m b) n = sm (fun b => sm (fun r => f r b) m + f m b) n
    rw [sm_add, sm_swap f n m]
theorem sm_le {f : Nat → Nat} {c : Nat} : ∀ {n : Nat}, (∀ k, k < n → f k ≤ c) → sm f n ≤ c * n
  | 0, _ => Nat.zero_le _
  | n + 1, h => by have h1 := sm_le (fun k hk => h k (Nat.lt_succ_of_lt hk)); have h2 := h n (by omega); rw [sm, Nat.mul_succ]; omega
theorem sm_cut {f : Nat → Nat} {m n : Nat} (h : m ≤ n) (hf : ∀ k, m ≤ k → k < n → f k = 0) : sm f n = sm f m := by
  obtain ⟨d, rfl⟩ := Nat.le.dest h
  induction d with
  | zero => rfl
  | succ d ih =>
    rw [← Nat.add_assoc, sm, hf (m + d) (by omega) (by omega), ih (by omega) (fun k h1 h2 => hf k h1 (by omega))]
    rfl
theorem sp_leftOf {nb : Nat} {L : Nat → Nat → Nat} {left : Nat → Int32} {b : Nat} (hb : b < nb) (h80 : nb ≤ 80) (hL : ∀ r, r < 6 → left (6 * b + r) = nI (L b r)) {post : Int32 → Prop} (h : post (nI (sm (L b) 6))) : wp_X8_leftOf left (nI b) post := by
  unfold wp_X8_leftOf
  refine zu2_2 6 (by omega) (fun k acc => acc = nI (sm (L b) k)) 0 rfl (by omega) rfl (fun k acc rec hk hJ hrec => ?_)
  unfold bd_X8_leftOf_4
  rw [nI_6, show (6 : Int32) = nI 6 from rfl]
  refine br_le (by omega) (by omega) (fun q => ?_) (fun q => ⟨vp_in_nI (by omega) (by omega), ?_⟩)
  · rw [hJ, show k = 6 by omega]; exact h
  · rw [nI_clamp (by omega), hL k q, hJ, nI_add, nI_1]
    exact hrec _ q rfl
theorem nI_6' (b r : Nat) : nI b * (6 : Int32) + nI r = nI (6 * b + r) := by
  rw [show (6 : Int32) = nI 6 from rfl, pk_mul, nI_add, Nat.mul_comm]
theorem sp_remainsOf {L : Nat → Nat → Nat} {left : Nat → Int32} {b : Nat} (h40 : b < 40) (hL : ∀ r, r < 6 → left (6 * b + r) = nI (L b r)) {post : Int32 → Prop} (h : post (nI (sm (L b) 6))) : wp_X1_remainsOf left (nI b) post := by
  unfold wp_X1_remainsOf
  refine zu2_2 6 (by omega) (fun k acc => acc = nI (sm (L b) k)) 0 rfl (by omega) rfl (fun k acc rec hk hJ hrec => ?_)
  unfold bd_X1_remainsOf_4
  rw [nI_6', show (6 : Int32) = nI 6 from rfl]
  refine br_le (by omega) (by omega) (fun q => ?_) (fun q => ⟨vp_in_nI (by omega) (by omega), ?_⟩)
  · rw [hJ, show k = 6 by omega]; exact h
  · intro v hv
    rw [nI_clamp (by omega), hL k q, hJ, nI_add] at hv
    rw [nI_1, hv]
    exact hrec _ q rfl
theorem entW_len {tt : Nat → Nat → Nat} {ly : Nat → Nat → Nat → Bool} {n c r B : Nat} {K : Bool → Nat → Nat → Nat → (Nat → Nat → Bool) → List Int32 → wRes} {on : Option Nat} {tn : Nat → Nat → Bool} {pl : List Int32} (h0 : pl.length ≤ B) (hK1 : tt c r ≠ 0 → tn c r = false → (K true c r 0 (setT tn c r) (pl ++ [nI (9900 + (10 * c + r))])).2.2.length ≤ B) (hK2 : ∀ b, (K false c r b tn (pl ++ [nI (100 * b + (10 * c + r))])).2.2.length ≤ B) : (entW tt ly n K c r on tn pl).2.2.length ≤ B := by
  unfold entW
  split
  · rename_i h
    split
    · exact h0
    · rename_i h2
      exact hK1 h (by simpa using h2)
  · split
    · exact h0
    · exact hK2 _
theorem goW_lenB {C R lap : Nat} {tt : Nat → Nat → Nat} {ly : Nat → Nat → Nat → Bool} {n : Nat} (hC : C ≤ 6) (hR : R ≤ 6) : ∀ (f : Nat) (o : Bool) (c r b : Nat) (tn : Nat → Nat → Bool) (pl : List Int32), c < C → r < R → pl.length + (7 * r + unT tn r + (if o then 1 else 0)) ≤ 42 → (goW C R lap tt ly n f o c r b tn pl).2.2.length ≤ 42
  | 0, o, c, r, b, tn, pl, _, _, h => by rw [goW]; show pl.length ≤ 42; omega
  | f + 1, o, c, r, b, tn, pl, hc, hr, h => by
    have hE : ∀ (c' r' : Nat) (on : Option Nat), c' < C → r' < R → pl.length + (7 * r' + unT tn r') ≤ 41 → (entW tt ly n (fun o c r b tn pl => goW C R lap tt ly n f o c r b tn pl) c' r' on tn pl).2.2.length ≤ 42 := by
      intro c' r' on hc' hr' hl
      refine entW_len (by omega) (fun h1 h2 => ?_) (fun b => ?_)
      · refine goW_lenB hC hR f _ _ _ _ _ _ hc' hr' ?_
        have := unT_set (c := c') (r := r') (by omega) h2
        rw [List.length_append, List.length_singleton, if_pos rfl]; omega
      · refine goW_lenB hC hR f _ _ _ _ _ _ hc' hr' ?_
        rw [List.length_append, List.length_singleton, if_neg (by decide)]; omega
    rw [goW]
    cases o with
    | true =>
      rw [if_pos rfl] at h
      rw [if_pos rfl]
      split
      · split
        · show pl.length ≤ 42; omega
        · exact hE _ _ _ (by omega) hr (by omega)
      · split
        · show pl.length ≤ 42; omega
        · exact hE _ _ _ (by omega) hr (by omega)
    | false =>
      rw [if_neg (by decide)] at h
      rw [if_neg (by decide)]
      have hu := unT_le tn (r - 1)
      split
      · show pl.length ≤ 42; omega
      · split
        · split
          · show pl.length ≤ 42; omega
          · split
            · exact hE _ _ _ hc (by omega) (by omega)
            · show pl.length ≤ 42; omega
        · exact hE _ _ _ hc (by omega) (by omega)
theorem runW_len {C R lap : Nat} {tt : Nat → Nat → Nat} {ly : Nat → Nat → Nat → Bool} {n c r : Nat} (hC : C ≤ 6) (hR : R ≤ 6) (hc : c < C) (hr : r < R) : (runW C R lap tt ly n c r).2.2.length ≤ 42 := by
  unfold runW
  have hu := unT_le (fun _ _ => false) r
  refine entW_len (by rw [List.length_nil]; omega) (fun h1 h2 => ?_) (fun b => ?_)
  · refine goW_lenB hC hR 64 _ _ _ _ _ _ hc hr ?_
    have := unT_set (tn := fun _ _ => false) (c := c) (r := r) (by omega) rfl
    rw [List.length_append, List.length_singleton, List.length_nil, if_pos rfl]; omega
  · refine goW_lenB hC hR 64 _ _ _ _ _ _ hc hr ?_
    rw [List.length_append, List.length_singleton, List.length_nil, if_neg (by decide)]; omega
