/-! PURE FIRE 3: the reference's fire -/
def StM (X : Nat → Nat → Bool) (arr : Nat → Int32) : Prop := ∀ c r, c < 6 → r < 6 → arr (6 * c + r) = if X c r then 1 else 0
theorem sp_catch {C R : Nat} (hC : C ≤ 6) (hR : R ≤ 6) {X : Nat → Nat → Bool} {B : Nat → Int32} (hB : StM X B) {a b : Int32} {v : Bool} (h1 : ∀ c r, c < C → r < R → a = nI c → b = nI r → X c r = v) (h0 : (¬ ∃ c r, c < C ∧ r < R ∧ a = nI c ∧ b = nI r) → v = false) {post : Int32 → Prop} (h : post (if v then 1 else 0)) : wp_X8_catches (nI C) (nI R) B a b post := by
  unfold wp_X8_catches
  rcases cell_cases a b C R with ⟨c, r, hc, hr, rfl, rfl⟩ | hno
  · refine sp_noCellY (by omega) (by omega) hc hr (f10 ?_)
    rw [nI_6]
    refine ⟨vp_in_nI (by omega) (by omega), ?_⟩
    rw [nI_clamp (by omega), hB c r (by omega) (by omega), h1 c r hc hr rfl rfl]
    cases v with
    | true => exact nn (by decide) h
    | false => exact yy (by decide) h
  · refine sp_noCellN (by omega) (by omega) hno (t10 ?_)
    rw [h0 (fun ⟨c, r, z1, z2, z3, z4⟩ => hno ⟨⟨c, z1, z3⟩, r, z2, z4⟩)] at h
    exact h
theorem nI_subE {b j c : Nat} (hb : b < 2 ^ 30) (hj : j < 2 ^ 30) (hc : c < 2 ^ 30) : nI b - nI j = nI c ↔ b = c + j := by
  rw [← Int32.toInt_inj, nI_subT hb hj, nI_toInt (by omega)]
  omega
theorem nI_eqI {a b : Nat} (ha : a < 2 ^ 30) (hb : b < 2 ^ 30) : nI a = nI b ↔ a = b := ⟨nI_inj (by omega) (by omega), fun h => by rw [h]⟩
/-- a cell beside, to the left or below by j -/
theorem sp_catchL {C R : Nat} (hC : C ≤ 6) (hR : R ≤ 6) {X : Nat → Nat → Bool} {B : Nat → Int32} (hB : StM X B) {c r j : Nat} (hc : c < C) (hr : r < R) (hj : j < 10) {post : Int32 → Prop} (h : post (if decide (j ≤ c) && X (c - j) r then 1 else 0)) : wp_X8_catches (nI C) (nI R) B (nI c - nI j) (nI r) post := by
  refine sp_catch hC hR hB (v := decide (j ≤ c) && X (c - j) r) (fun c' r' h1 h2 e1 e2 => ?_) (fun hn => ?_) h
  · have g1 := (nI_subE (by omega) (by omega) (by omega)).mp e1
    have g2 := (nI_eqI (by omega) (by omega)).mp e2
    subst g1 g2
    rw [decide_eq_true (by omega), Nat.add_sub_cancel, Bool.true_and]
  · by_cases e : j ≤ c
    · exact absurd ⟨c - j, r, by omega, hr, (nI_subE (by omega) (by omega) (by omega)).mpr (by omega), rfl⟩ hn
    · rw [decide_eq_false e, Bool.false_and]
theorem sp_catchD {C R : Nat} (hC : C ≤ 6) (hR : R ≤ 6) {X : Nat → Nat → Bool} {B : Nat → Int32} (hB : StM X B) {c r j : Nat} (hc : c < C) (hr : r < R) (hj : j < 10) {post : Int32 → Prop} (h : post (if decide (j ≤ r) && X c (r - j) then 1 else 0)) : wp_X8_catches (nI C) (nI R) B (nI c) (nI r - nI j) post := by
  refine sp_catch hC hR hB (v := decide (j ≤ r) && X c (r - j)) (fun c' r' h1 h2 e1 e2 => ?_) (fun hn => ?_) h
  · have g1 := (nI_eqI (by omega) (by omega)).mp e1
    have g2 := (nI_subE (by omega) (by omega) (by omega)).mp e2
    subst g1 g2
    rw [decide_eq_true (by omega), Nat.add_sub_cancel, Bool.true_and]
  · by_cases e : j ≤ r
    · exact absurd ⟨c, r - j, hc, by omega, rfl, (nI_subE (by omega) (by omega) (by omega)).mpr (by omega)⟩ hn
    · rw [decide_eq_false e, Bool.false_and]
theorem sp_catchR {C R : Nat} (hC : C ≤ 6) (hR : R ≤ 6) {X : Nat → Nat → Bool} (hX : ∀ c r, X c r = true → c < C ∧ r < R) {B : Nat → Int32} (hB : StM X B) {c r j : Nat} (hc : c < C) (hr : r < R) (hj : j < 10) {post : Int32 → Prop} (h : post (if X (c + j) r then 1 else 0)) : wp_X8_catches (nI C) (nI R) B (nI (c + j)) (nI r) post := by
  refine sp_catch hC hR hB (v := X (c + j) r) (fun c' r' h1 h2 e1 e2 => ?_) (fun hn => ?_) h
  · have g1 := (nI_eqI (by omega) (by omega)).mp e1
    have g2 := (nI_eqI (by omega) (by omega)).mp e2
    subst g1 g2
    rfl
  · refine Bool.eq_false_iff.mpr (fun z => hn ⟨c + j, r, (hX _ _ z).1, hr, rfl, rfl⟩)
theorem sp_catchU {C R : Nat} (hC : C ≤ 6) (hR : R ≤ 6) {X : Nat → Nat → Bool} (hX : ∀ c r, X c r = true → c < C ∧ r < R) {B : Nat → Int32} (hB : StM X B) {c r j : Nat} (hc : c < C) (hr : r < R) (hj : j < 10) {post : Int32 → Prop} (h : post (if X c (r + j) then 1 else 0)) : wp_X8_catches (nI C) (nI R) B (nI c) (nI (r + j)) post := by
  refine sp_catch hC hR hB (v := X c (r + j)) (fun c' r' h1 h2 e1 e2 => ?_) (fun hn => ?_) h
  · have g1 := (nI_eqI (by omega) (by omega)).mp e1
    have g2 := (nI_eqI (by omega) (by omega)).mp e2
    subst g1 g2
    rfl
  · refine Bool.eq_false_iff.mpr (fun z => hn ⟨c, r + j, hc, (hX _ _ z).2, rfl, rfl⟩)
def cB (B : Nat → Int32) : Nat := cnt (fun k => decide (B k ≠ 0)) 36
/-- some of what burns -/
def BrnM (St : Nat → Nat → Bool) (w a b : Nat) (X : Nat → Nat → Bool) (B : Nat → Int32) : Prop := StM X B ∧ (∀ c r, X c r = true → Clo St w a b c r) ∧ (St a b = true → X a b = true)
theorem brx_b {A B : Prop} {v : Bool} (h1 : v = true → A) (h0 : v = false → B) : (¬ (if v then (1 : Int32) else 0) = 0 → A) ∧ ((if v then (1 : Int32) else 0) = 0 → B) := by
  cases v with
  | true => exact t10 (h1 rfl)
  | false => exact f10 (h0 rfl)
theorem brx_c {A B : Prop} {v : Bool} (h1 : v = true → A) (h0 : v = false → B) : ((if v then (1 : Int32) else 0) = 0 → B) ∧ (¬ (if v then (1 : Int32) else 0) = 0 → A) := by
  cases v with
  | true => exact t01 (h1 rfl)
  | false => exact f01 (h0 rfl)
theorem sp_burnLoop {C R : Nat} (hC : C ≤ 6) (hR : R ≤ 6) {St : Nat → Nat → Bool} (hSt : ∀ c r, St c r = true → c < C ∧ r < R) {St_ : Nat → Int32} (hS : StM St St_) {w a b : Nat} (hw : w < 5) {dc dr : Int32} (hD : 0 < w → ∀ X B c r, (∀ c r, X c r = true → c < C ∧ r < R) → StM X B → c < C → r < R → ∀ post : Int32 → Prop, post (if windB w X c r then 1 else 0) → wp_X8_catches (nI C) (nI R) B (nI c - (2 : Int32) * dc) (nI r - (2 : Int32) * dr) post) {X0 : Nat → Nat → Bool} {B0 : Nat → Int32} (h0 : BrnM St w a b X0 B0) {post : Int32 → (Nat → Int32) → Prop} (h : ∀ B, StM (clB St w a b) B → post (nI (nB St w a b)) B) : jn_X8_burn_89 (nI C) (nI R) St_ (nI w) post dc dr B0 := by
  unfold jn_X8_burn_89
  refine ⟨fun l6 B => (l6 = 0 ∨ l6 = 1) ∧ ∃ X, BrnM St w a b X B ∧ (l6 = 0 → ∀ c r, nbrB w X c r = true → St c r = true → X c r = true), fun l6 B => 2 * (36 - cB B) + (if l6 = 0 then 0 else 1), ⟨Or.inr rfl, X0, h0, fun z => absurd z (by decide)⟩, ?_⟩
  rintro l6 B ⟨hl, X, hX, hcl⟩
  unfold bd_X8_burn_94
  rcases hl with rfl | rfl
  · refine yy rfl ?_
    have hXc : ∀ c r, X c r = clB St w a b c r := fun c r => clB_eq hX.2.1 hX.2.2 (hcl rfl) c r
    have hB : StM (clB St w a b) B := fun c r hc hr => by rw [← hXc]; exact hX.1 c r hc hr
    have hcnt : cnt (fun k => decide (B k ≠ 0)) 36 = nB St w a b := by
      unfold nB
      rw [← gc_36]
      refine cnt_congr (fun k hk => ?_)
      have := hB (k / 6) (k % 6) (by omega) (by omega)
      rw [show 6 * (k / 6) + k % 6 = k by omega] at this
      rw [this]
      cases clB St w a b (k / 6) (k % 6) <;> decide
    refine zu2_2 36 (by omega) (fun k x => x = nI (cnt (fun k => decide (B k ≠ 0)) k)) 0 rfl (by omega) rfl (fun k x rec hk hJ hrec => ?_)
    subst hJ
    unfold bd_X8_burn_297
    refine br_le (a := k) (b := 36) (by omega) (by omega) (fun q => ?_) (fun q => ⟨vp_in_nI (by omega) (by omega), ?_⟩)
    · have hk1 : k = 36 := by omega
      subst hk1
      rw [hcnt]
      exact h B hB
    · rw [nI_clamp (by omega), nI_1]
      refine ⟨fun z => hrec _ q ?_, fun z => hrec _ q ?_⟩
      · rw [cnt_step_n (decide_eq_false (fun y => y z)), Int32.add_zero]
      · rw [cnt_step_y (decide_eq_true z), nI_1]
  · refine nn (by decide) ?_
    -- the sweep
    have good : ∀ (c r : Nat) X' B', BrnM St w a b X' B' → (∀ c r, X' c r = true → c < C ∧ r < R) := fun _ _ X' B' hb c r z => hSt c r (hb.2.1 c r z).straw
    refine zu3_2 C (by omega) (fun c l6 B' => (l6 = 0 ∧ B' = B ∧ ∀ c' r', c' < c → r' < R → nbrB w X c' r' = true → St c' r' = true → X c' r' = true) ∨ (l6 = 1 ∧ cB B < cB B' ∧ ∃ X', BrnM St w a b X' B')) 0 rfl (by omega) (Or.inl ⟨rfl, rfl, fun c' r' z => absurd z (Nat.not_lt_zero c')⟩) (fun c l6 B1 rec hc hJ hrec => ?_)
    unfold bd_X8_burn_105
    refine br_le (by omega) (by omega) (fun q => ?_) (fun q => ?_)
    · have hc1 : c = C := by omega
      subst hc1
      rcases hJ with ⟨rfl, rfl, hz⟩ | ⟨rfl, hlt, X', hX'⟩
      · refine ⟨⟨Or.inl rfl, X, hX, fun _ c' r' z1 z2 => hz c' r' (hSt c' r' z2).1 (hSt c' r' z2).2 z1 z2⟩, ?_⟩
        show 2 * (36 - cB B1) + (if (0 : Int32) = 0 then 0 else 1) < 2 * (36 - cB B1) + (if (1 : Int32) = 0 then 0 else 1)
        rw [if_pos rfl, if_neg (by decide)]
        omega
      · refine ⟨⟨Or.inr rfl, X', hX', fun z => absurd z (by decide)⟩, ?_⟩
        show 2 * (36 - cB B1) + (if (1 : Int32) = 0 then 0 else 1) < 2 * (36 - cB B) + (if (1 : Int32) = 0 then 0 else 1)
        have : cB B1 ≤ 36 := cnt_le _ 36
        omega
    · refine zu3_2 R (by omega) (fun r l6 B' => (l6 = 0 ∧ B' = B ∧ ∀ c' r', (c' < c ∧ r' < R) ∨ (c' = c ∧ r' < r) → nbrB w X c' r' = true → St c' r' = true → X c' r' = true) ∨ (l6 = 1 ∧ cB B < cB B' ∧ ∃ X', BrnM St w a b X' B')) 0 rfl (by omega) ?_ (fun r l6 B2 rec2 hr hJ2 hrec2 => ?_)
      · rcases hJ with ⟨z1, z2, hz⟩ | hz
        · refine Or.inl ⟨z1, z2, fun c' r' y => ?_⟩
          rcases y with y | y
          · exact hz c' r' y.1 y.2
          · omega
        · exact Or.inr hz
      · unfold bd_X8_burn_117
        refine br_le (by omega) (by omega) (fun q2 => ?_) (fun q2 => ?_)
        · have hr1 : r = R := by omega
          subst hr1
          rw [nI_1]
          refine hrec _ _ q ?_
          rcases hJ2 with ⟨z1, z2, hz⟩ | hz
          · refine Or.inl ⟨z1, z2, fun c' r' y1 y2 => hz c' r' ?_⟩
            by_cases e : c' < c
            · exact Or.inl ⟨e, y2⟩
            · exact Or.inr ⟨by omega, y2⟩
          · exact Or.inr hz
        · -- the sets as they are now
          have hnow : ∃ X2, BrnM St w a b X2 B2 ∧ (l6 = 0 → B2 = B ∧ X2 = X ∧ ∀ c' r', (c' < c ∧ r' < R) ∨ (c' = c ∧ r' < r) → nbrB w X c' r' = true → St c' r' = true → X c' r' = true) ∧ (l6 = 1 → cB B < cB B2) ∧ (l6 = 0 ∨ l6 = 1) := by
            rcases hJ2 with ⟨rfl, rfl, hz⟩ | ⟨rfl, hlt, X', hX'⟩
            · exact ⟨X, hX, fun _ => ⟨rfl, rfl, hz⟩, fun z => absurd z (by decide), Or.inl rfl⟩
            · exact ⟨X', hX', fun z => absurd z (by decide), fun _ => hlt, Or.inr rfl⟩
          obtain ⟨X2, hX2, n0, n1, n01⟩ := hnow
          have hin := good 0 0 X2 B2 hX2
          have stay : (nbrB w X2 c r = true → St c r = true → X2 c r = true) → rec2 l6 (nI r + 1) B2 := fun hz => by
            rw [nI_1]
            refine hrec2 _ _ q2 ?_
            rcases n01 with rfl | rfl
            · obtain ⟨e1, e2, e3⟩ := n0 rfl
              refine Or.inl ⟨rfl, e1, fun c' r' y z1 z2 => ?_⟩
              by_cases e : c' = c ∧ r' = r
              · rw [e.1, e.2] at z1 z2 ⊢
                rw [← e2] at z1 ⊢
                exact hz z1 z2
              · exact e3 c' r' (by omega) z1 z2
            · exact Or.inr ⟨rfl, n1 rfl, X2, hX2⟩
          have v36 : vp_in (nI (6 * c + r)) 36 := vp_in_nI (by omega) (by omega)
          have last : ∀ v, nbrB w X2 c r = v → jn_X8_burn_220 St_ (nI c) l6 (nI r) B2 rec2 (if v then 1 else 0) := fun v hv => by
            unfold jn_X8_burn_220
            refine brx_c (fun e => ?_) (fun e => stay (fun z => by rw [hv, e] at z; cases z))
            rw [nI_6]
            refine ⟨v36, ?_⟩
            rw [nI_clamp (by omega), hS c r (by omega) (by omega)]
            refine brx_c (fun e2 => ⟨v36, ?_⟩) (fun e2 => stay (fun _ z => by rw [e2] at z; cases z))
            rw [hX2.1 c r (by omega) (by omega)]
            refine brx_b (fun e3 => stay (fun _ _ => e3)) (fun e3 => ⟨v36, ?_⟩)
            rw [nI_1]
            have hclo : Clo St w a b c r := by
              obtain ⟨c', r', g1, g2⟩ := nbrB_iff.mp (hv.trans e)
              exact (hX2.2.1 c' r' g1).step g2 e2
            have hcb : cB B2 + 1 = cB (upd B2 (6 * c + r) 1) := by
              refine cnt_set (i := 6 * c + r) (by omega) ?_ ?_ (fun k _ hk => ?_)
              · show decide (upd B2 (6 * c + r) 1 (6 * c + r) ≠ 0) = true
                rw [up_at]; decide
              · show decide (B2 (6 * c + r) ≠ 0) = false
                rw [hX2.1 c r (by omega) (by omega), e3]; decide
              · show decide (B2 k ≠ 0) = decide (upd B2 (6 * c + r) 1 k ≠ 0)
                rw [up_ne hk]
            have hge : cB B ≤ cB B2 := by
              rcases n01 with z | z
              · rw [(n0 z).1]; exact Nat.le_refl _
              · exact Nat.le_of_lt (n1 z)
            refine hrec2 _ _ q2 (Or.inr ⟨rfl, by omega, fun c' r' => decide (c' = c ∧ r' = r) || X2 c' r', fun c' r' y1 y2 => ?_, fun c' r' z => ?_, fun z => ?_⟩)
            · show _ = if (decide (c' = c ∧ r' = r) || X2 c' r') = true then (1 : Int32) else 0
              by_cases e4 : c' = c ∧ r' = r
              · rw [decide_eq_true e4, e4.1, e4.2, up_at]; rfl
              · rw [up_ne (by omega), decide_eq_false e4, Bool.false_or]
                exact hX2.1 c' r' y1 y2
            · rw [Bool.or_eq_true, decide_eq_true_iff] at z
              rcases z with ⟨rfl, rfl⟩ | z
              · exact hclo
              · exact hX2.2.1 c' r' z
            · show (decide (a = c ∧ b = r) || X2 a b) = true
              rw [hX2.2.2 z, Bool.or_true]
          have last2 : ∀ v, ((decide (1 ≤ c) && X2 (c - 1) r) || (X2 (c + 1) r || ((decide (1 ≤ r) && X2 c (r - 1)) || X2 c (r + 1)))) = v → jn_X8_burn_183 (nI C) (nI R) St_ (nI w) dc dr (nI c) l6 (nI r) B2 rec2 (if v then 1 else 0) := fun v hv => by
            have hsum : nbrB w X2 c r = (v || windB w X2 c r) := by
              rw [← hv]
              unfold nbrB
              simp only [Bool.or_assoc]
            unfold jn_X8_burn_183
            refine brx_b (fun e => ?_) (fun e => ?_)
            · have := last true (by rw [hsum, e]; rfl)
              exact this
            · refine br_le (a := 0) (by omega) (by omega) (fun z => ?_) (fun z => ?_)
              · have hw0 : windB w X2 c r = false := by rw [show w = 0 by omega]; rfl
                have := last false (by rw [hsum, e, hw0]; rfl)
                exact this
              · refine hD z X2 B2 c r hin hX2.1 q q2 _ ?_
                refine brx_c (fun e2 => ?_) (fun e2 => ?_)
                · exact last true (by rw [hsum, e2, Bool.or_true])
                · exact last false (by rw [hsum, e, e2]; rfl)
          refine sp_catchL (j := 1) hC hR hX2.1 q q2 (by omega) (brx_b (fun e => last2 true (by rw [e]; rfl)) (fun e => ?_))
          rw [nI_1]
          refine sp_catchR (j := 1) hC hR hin hX2.1 q q2 (by omega) (brx_b (fun e2 => last2 true (by rw [e, e2]; rfl)) (fun e2 => ?_))
          refine sp_catchD (j := 1) hC hR hX2.1 q q2 (by omega) (brx_b (fun e3 => last2 true (by rw [e, e2, e3]; rfl)) (fun e3 => ?_))
          rw [nI_1]
          refine sp_catchU (j := 1) hC hR hin hX2.1 q q2 (by omega) (brx_c (fun e4 => last2 true (by rw [e, e2, e3, e4]; rfl)) (fun e4 => last2 false (by rw [e, e2, e3, e4]; rfl)))
theorem sp_burn {C R : Nat} (hC : C ≤ 6) (hR : R ≤ 6) {St : Nat → Nat → Bool} (hSt : ∀ c r, St c r = true → c < C ∧ r < R) {St_ B0 : Nat → Int32} (hS : StM St St_) {w a b : Nat} (hw : w < 5) (ha : a < 6) (hb : b < 6) {post : Int32 → (Nat → Int32) → Prop} (h : ∀ B, StM (clB St w a b) B → post (nI (nB St w a b)) B) : wp_X8_burn (nI C) (nI R) St_ B0 (nI a) (nI b) (nI w) post := by
  unfold wp_X8_burn
  refine zu2_1 36 (by omega) (fun k B => ∀ j, j < k → B j = if decide (j = 6 * a + b) && St (j / 6) (j % 6) then 1 else 0) 0 rfl (by omega) (fun j hj => absurd hj (Nat.not_lt_zero j)) (fun k B rec hk hJ hrec => ?_)
  unfold bd_X8_burn_3
  refine br_le (a := k) (b := 36) (by omega) (by omega) (fun q => ?_) (fun q => ?_)
  · have h0 : BrnM St w a b (fun c r => decide (c = a ∧ r = b) && St c r) B := by
      refine ⟨fun c r hc hr => ?_, fun c r z => ?_, fun z => ?_⟩
      · rw [hJ _ (by omega), show (6 * c + r) / 6 = c by omega, show (6 * c + r) % 6 = r by omega]
        show (if (decide (6 * c + r = 6 * a + b) && St c r) = true then (1 : Int32) else 0) = if (decide (c = a ∧ r = b) && St c r) = true then 1 else 0
        by_cases e : c = a ∧ r = b
        · rw [decide_eq_true e, decide_eq_true (by omega)]
        · rw [decide_eq_false e, decide_eq_false (by omega)]
      · rw [Bool.and_eq_true, decide_eq_true_iff] at z
        obtain ⟨⟨rfl, rfl⟩, z2⟩ := z
        exact Clo.start z2
      · show (decide (a = a ∧ b = b) && St a b) = true
        rw [decide_eq_true (show a = a ∧ b = b from ⟨rfl, rfl⟩), z]; rfl
    have z20 : ∀ x : Int32, x - (2 : Int32) * (0 : Int32) = x - nI 0 := fun x => by rw [show (2 : Int32) * (0 : Int32) = nI 0 by decide]
    have z21 : ∀ x : Int32, x - (2 : Int32) * (1 : Int32) = x - nI 2 := fun x => by rw [show (2 : Int32) * (1 : Int32) = nI 2 by decide]
    have z2m : ∀ x : Nat, nI x - (2 : Int32) * (-1 : Int32) = nI (x + 2) := fun x => by
      rw [show (2 : Int32) * (-1 : Int32) = -(nI 2) by decide, Int32.sub_neg, nI_add]
    have z0 : ∀ x : Nat, nI x - nI 0 = nI x := fun x => by rw [nI_subN (Nat.zero_le x), Nat.sub_zero]
    have hwc : w = 0 ∨ w = 1 ∨ w = 2 ∨ w = 3 ∨ w = 4 := by omega
    unfold jn_X8_burn_68
    rcases hwc with rfl | rfl | rfl | rfl | rfl
    · refine nx (by decide) (nx (by decide) (nx (by decide) (nx (by decide) ?_)))
      exact sp_burnLoop hC hR hSt hS (by omega) (fun z => absurd z (by omega)) h0 h
    · refine yx rfl (nx (by decide) (nx (by decide) ?_))
      refine sp_burnLoop hC hR hSt hS (by omega) (fun _ X B c r hX hB hc hr post hp => ?_) h0 h
      rw [z21, z20, z0]
      exact sp_catchL (j := 2) hC hR hB hc hr (by omega) hp
    · refine nx (by decide) (nx (by decide) (yx rfl ?_))
      refine sp_burnLoop hC hR hSt hS (by omega) (fun _ X B c r hX hB hc hr post hp => ?_) h0 h
      rw [z21, z20, z0]
      exact sp_catchD (j := 2) hC hR hB hc hr (by omega) hp
    · refine nx (by decide) (yx rfl (nx (by decide) (nx (by decide) ?_)))
      refine sp_burnLoop hC hR hSt hS (by omega) (fun _ X B c r hX hB hc hr post hp => ?_) h0 h
      rw [z2m, z20, z0]
      exact sp_catchR (j := 2) hC hR hX hB hc hr (by omega) hp
    · refine nx (by decide) (nx (by decide) (nx (by decide) (yx rfl ?_)))
      refine sp_burnLoop hC hR hSt hS (by omega) (fun _ X B c r hX hB hc hr post hp => ?_) h0 h
      rw [z2m, z20, z0]
      exact sp_catchU (j := 2) hC hR hX hB hc hr (by omega) hp
  · have v36 : vp_in (nI k) 36 := vp_in_nI (by omega) (by omega)
    rw [nI_6, nI_clamp (by omega), nI_1]
    have stp : ∀ x : Int32, x = (if decide (k = 6 * a + b) && St (k / 6) (k % 6) then 1 else 0) → rec (nI (k + 1)) (upd B k x) := fun x hx => by
      refine hrec _ q (fun j hj => ?_)
      by_cases e : j = k
      · rw [e, up_at, hx]
      · rw [up_ne e]; exact hJ j (by omega)
    refine br_neq (by omega) (by omega) (fun z => ⟨v36, stp _ ?_⟩) (fun z => ⟨v36, ?_⟩)
    · rw [decide_eq_false z]; rfl
    · have hs := hS a b ha hb
      rw [← z] at hs
      rw [hs]
      have e1 : k / 6 = a := by omega
      have e2 : k % 6 = b := by omega
      refine brx_c (fun e => ⟨v36, stp _ ?_⟩) (fun e => ⟨v36, stp _ ?_⟩)
      · rw [e1, e2, decide_eq_true z, e]; rfl
      · rw [e1, e2, e, Bool.and_false]; rfl
