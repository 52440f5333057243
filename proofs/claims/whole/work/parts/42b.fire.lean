/-! PURE FIRE 2: the class's spread -/
theorem car0 : zCARf (nI 0).toNatClampNeg = nI 0 := by decide +kernel
theorem car1 : zCARf (nI 1).toNatClampNeg = nI 20 := by decide +kernel
theorem car2 : zCARf (nI 2).toNatClampNeg = nI 2 := by decide +kernel
theorem car3 : zCARf (nI 3).toNatClampNeg = -20 ∧ -(zCARf (nI 3).toNatClampNeg) = nI 20 := by decide +kernel
theorem car4 : zCARf (nI 4).toNatClampNeg = -2 ∧ -(zCARf (nI 4).toNatClampNeg) = nI 2 := by decide +kernel
theorem StX.bit {x : Int64} {X : Nat → Nat → Bool} (h : StX x X) (k : Nat) : lb x k = (decide (k < 60) && X (k / 10) (k % 10)) := by
  by_cases e : k < 60
  · have g1 := h.1 (k / 10) (k % 10) (by omega) (by omega)
    rw [show 10 * (k / 10) + k % 10 = k by omega] at g1
    rw [g1, decide_eq_true e, Bool.true_and]
  · rw [h.2.1 k (by omega), decide_eq_false e, Bool.false_and]
theorem StX.off {x : Int64} {X : Nat → Nat → Bool} (h : StX x X) {c r : Nat} (hn : ¬ (c < 6 ∧ r < 6)) : X c r = false := Bool.eq_false_iff.mpr (fun z => hn (h.2.2 c r z))
theorem StX.cell {x : Int64} {X : Nat → Nat → Bool} (h : StX x X) {c r : Nat} (hr : r < 10) : lb x (10 * c + r) = X c r := by
  by_cases e : c < 6
  · exact h.1 c r e hr
  · rw [h.2.1 _ (by omega), h.off (by omega)]
theorem StX.dn {x : Int64} {X : Nat → Nat → Bool} (h : StX x X) {c r s : Nat} (hc : c < 6) (hr : r < 6) (hs : s ≤ 2) : (decide (s ≤ 10 * c + r) && lb x (10 * c + r - s)) = (decide (s ≤ r) && X c (r - s)) := by
  by_cases e : s ≤ r
  · rw [decide_eq_true e, decide_eq_true (show s ≤ 10 * c + r by omega), show 10 * c + r - s = 10 * c + (r - s) by omega, h.cell (by omega)]
  · rw [decide_eq_false e, Bool.false_and]
    by_cases e2 : c = 0
    · rw [decide_eq_false (by omega), Bool.false_and]
    · rw [show 10 * c + r - s = 10 * (c - 1) + (10 + r - s) by omega, h.cell (by omega), h.off (by omega), Bool.and_false]
theorem StX.lf {x : Int64} {X : Nat → Nat → Bool} (h : StX x X) {c r j : Nat} (hc : c < 6) (hr : r < 6) : (decide (10 * j ≤ 10 * c + r) && lb x (10 * c + r - 10 * j)) = (decide (j ≤ c) && X (c - j) r) := by
  by_cases e : j ≤ c
  · rw [decide_eq_true e, decide_eq_true (show 10 * j ≤ 10 * c + r by omega), show 10 * c + r - 10 * j = 10 * (c - j) + r by omega, h.cell (by omega)]
  · rw [decide_eq_false e, decide_eq_false (show ¬ 10 * j ≤ 10 * c + r by omega), Bool.false_and, Bool.false_and]
theorem StX.up {x : Int64} {X : Nat → Nat → Bool} (h : StX x X) {c r s : Nat} (hr : r < 6) (hs : s ≤ 2) : lb x (s + (10 * c + r)) = X c (r + s) := by
  rw [show s + (10 * c + r) = 10 * c + (r + s) by omega, h.cell (by omega)]
theorem StX.rt {x : Int64} {X : Nat → Nat → Bool} (h : StX x X) {c r j : Nat} (hr : r < 6) : lb x (10 * j + (10 * c + r)) = X (c + j) r := by
  rw [show 10 * j + (10 * c + r) = 10 * (c + j) + r by omega, h.cell (by omega)]
/-- one round of the fire -/
def rndB (St : Nat → Nat → Bool) (w : Nat) (X : Nat → Nat → Bool) (c r : Nat) : Bool := X c r || (nbrB w X c r && St c r)
theorem rnd_bits {St X : Nat → Nat → Bool} {w : Nat} {x y v : Int64} (hx : StX x St) (hy : StX y X) (hv : ∀ c r, c < 6 → r < 6 → (lb v (10 * c + r) || X c r) = (windB w X c r || X c r)) : StX (y ||| ((((jlshl y (nI 1) ||| jlushr y (nI 1)) ||| jlshl y (nI 10)) ||| jlushr y (nI 10)) ||| v) &&& x) (rndB St w X) := by
  have off : ∀ k, ¬ (k / 10 < 6 ∧ k % 10 < 6) → lb (y ||| ((((jlshl y (nI 1) ||| jlushr y (nI 1)) ||| jlshl y (nI 10)) ||| jlushr y (nI 10)) ||| v) &&& x) k = false := fun k hk => by
    rw [lb_or, lb_and, hy.bit, hx.bit, hy.off hk, hx.off hk]
    simp
  refine ⟨fun c r hc hr => ?_, fun k hk => off k (by omega), fun c r h => ?_⟩
  · by_cases hr6 : r < 6
    · unfold rndB nbrB
      have hvv := hv c r hc hr6
      have g1 := hy.dn (s := 1) hc hr6 (by omega)
      have g2 := hy.up (s := 1) (c := c) hr6 (by omega)
      have g3 := hy.lf (j := 1) hc hr6
      have g4 := hy.rt (j := 1) (c := c) hr6
      rw [lb_or, lb_and, lb_or, lb_or, lb_or, lb_or, lb_shl y (by omega) (by omega), lb_ushr y (by omega), lb_shl y (by omega) (by omega), lb_ushr y (by omega), hx.cell hr, hy.cell hr, g1, g2, g3, g4]
      generalize windB w X c r = W at hvv ⊢
      generalize lb v (10 * c + r) = V at hvv ⊢
      generalize X c r = A at hvv ⊢
      generalize St c r = S
      generalize (decide (1 ≤ r) && X c (r - 1)) = B1
      generalize X c (r + 1) = B2
      generalize (decide (1 ≤ c) && X (c - 1) r) = B3
      generalize X (c + 1) r = B4
      revert hvv
      cases W <;> cases V <;> cases A <;> cases S <;> cases B1 <;> cases B2 <;> cases B3 <;> cases B4 <;> decide
    · have := off (10 * c + r) (by omega)
      rw [this]
      unfold rndB
      rw [hy.off (by omega), hx.off (by omega), Bool.and_false]; rfl
  · unfold rndB at h
    rw [Bool.or_eq_true, Bool.and_eq_true] at h
    rcases h with h | ⟨-, h⟩
    · exact hy.2.2 c r h
    · exact hx.2.2 c r h
theorem sp_spread {St : Nat → Nat → Bool} {x : Int64} (hx : StX x St) {w a b : Nat} (hw : w < 5) (ha : a < 6) (hb : b < 6) {post : Int64 → Prop} (h : ∀ y, StX y (clB St w a b) → post y) : wp_X2_spread x (nI (10 * a + b)) (nI w) post := by
  unfold wp_X2_spread
  refine ⟨vp_in_nI (by omega) (by omega), ?_⟩
  have done : ∀ y X, StX y X → (∀ c r, X c r = true → Clo St w a b c r) → (St a b = true → X a b = true) → (∀ c r, nbrB w X c r = true → St c r = true → X c r = true) → post y := fun y X h1 h2 h3 h4 => by
    refine h y ⟨fun c r hc hr => ?_, h1.2.1, fun c r z => ?_⟩
    · rw [← clB_eq h2 h3 h4]; exact h1.1 c r hc hr
    · rw [← clB_eq h2 h3 h4] at z; exact h1.2.2 c r z
  refine zu2_2 36 (by omega) (fun k y => ∃ X, StX y X ∧ (∀ c r, X c r = true → Clo St w a b c r) ∧ (St a b = true → X a b = true ∧ k + 1 ≤ gc X)) 0 rfl (by omega) ⟨fun c r => decide (c = a ∧ r = b) && St c r, ⟨fun c r hc hr => ?_, fun k hk => ?_, fun c r z => ?_⟩, fun c r z => ?_, fun z => ⟨?_, ?_⟩⟩ (fun k y rec hk hJ hrec => ?_)
  · rw [lb_and, lb_bit (by omega), hx.cell hr, Bool.and_comm]
    show (decide (10 * c + r = 10 * a + b) && St c r) = (decide (c = a ∧ r = b) && St c r)
    by_cases e : c = a ∧ r = b
    · rw [decide_eq_true e, decide_eq_true (by omega)]
    · rw [decide_eq_false e, decide_eq_false (by omega)]
  · rw [lb_and, hx.2.1 k hk, Bool.false_and]
  · rw [Bool.and_eq_true] at z
    exact hx.2.2 c r z.2
  · rw [Bool.and_eq_true, decide_eq_true_iff] at z
    obtain ⟨⟨rfl, rfl⟩, z2⟩ := z
    exact Clo.start z2
  · show (decide (a = a ∧ b = b) && St a b) = true
    rw [decide_eq_true (show a = a ∧ b = b from ⟨rfl, rfl⟩), z]; rfl
  · have h2 := cnt_imp_lt (p := fun _ => false) (q := fun r => decide (a = a ∧ r = b) && St a r) (i := b) rfl (by show (decide (a = a ∧ b = b) && St a b) = true; rw [decide_eq_true (show a = a ∧ b = b from ⟨rfl, rfl⟩), z]; rfl) (n := 6) hb (fun k _ z => by cases z)
    have h4 : sm (fun c => if c = a then cnt (fun r => decide (a = a ∧ r = b) && St a r) 6 else 0) 6 ≤ gc (fun c r => decide (c = a ∧ r = b) && St c r) := sm_mono (fun c _ => by
      by_cases e : c = a
      · rw [if_pos e, e]; exact Nat.le_refl _
      · rw [if_neg e]; exact Nat.zero_le _)
    rw [sm_pt ha] at h4
    omega
  · obtain ⟨X, h1, h2, h3⟩ := hJ
    have fire : ∀ v, (∀ c r, c < 6 → r < 6 → (lb v (10 * c + r) || X c r) = (windB w X c r || X c r)) → jn_X2_spread_64 x post y (nI k) rec (((jlshl y (nI 1) ||| jlushr y (nI 1)) ||| jlshl y (nI 10)) ||| jlushr y (nI 10)) v := fun v hv => by
      have hr := rnd_bits hx h1 hv
      unfold jn_X2_spread_64
      have hsub : ∀ c r, X c r = true → rndB St w X c r = true := fun c r z => by unfold rndB; rw [z]; rfl
      refine ⟨fun ne => ?_, fun e => ?_⟩
      · rw [nI_1]
        have hex : ∃ c r, X c r = false ∧ rndB St w X c r = true := by
          refine Classical.byContradiction (fun hn => ne (hr.ext ?_))
          have : rndB St w X = X := by
            funext c r
            cases hx2 : X c r with
            | true => exact hsub c r hx2
            | false =>
              cases hr2 : rndB St w X c r with
              | false => rfl
              | true => exact absurd ⟨c, r, hx2, hr2⟩ hn
          rw [this]; exact h1
        obtain ⟨c, r, z1, z2⟩ := hex
        have hcr := hr.2.2 c r z2
        have hclo : ∀ c r, rndB St w X c r = true → Clo St w a b c r := fun c r z => by
          unfold rndB at z
          rw [Bool.or_eq_true, Bool.and_eq_true] at z
          rcases z with z | ⟨z, z3⟩
          · exact h2 c r z
          · obtain ⟨c', r', g1, g2⟩ := nbrB_iff.mp z
            exact (h2 c' r' g1).step g2 z3
        have hlt : gc X < gc (rndB St w X) := by
          rw [← gc_36, ← gc_36]
          refine cnt_imp_lt (i := 6 * c + r) ?_ ?_ (by omega) (fun k _ z => hsub _ _ z)
          · show X ((6 * c + r) / 6) ((6 * c + r) % 6) = false
            rw [show (6 * c + r) / 6 = c by omega, show (6 * c + r) % 6 = r by omega]; exact z1
          · show rndB St w X ((6 * c + r) / 6) ((6 * c + r) % 6) = true
            rw [show (6 * c + r) / 6 = c by omega, show (6 * c + r) % 6 = r by omega]; exact z2
        have hs := (hclo c r z2).spark
        have hg := gc_le (rndB St w X)
        have h4 := (h3 hs).2
        exact hrec _ (by omega) ⟨rndB St w X, hr, hclo, fun z => ⟨hsub _ _ (h3 z).1, by omega⟩⟩
      · refine done y X h1 h2 (fun z => (h3 z).1) (fun c r z1 z2 => ?_)
        have hcr := hx.2.2 c r z2
        rw [e] at hr
        have g1 := h1.cell (c := c) (r := r) (by omega)
        have g2 := hr.cell (c := c) (r := r) (by omega)
        rw [g1] at g2
        rw [g2]
        unfold rndB
        rw [z1, z2]; simp
    unfold bd_X2_spread_17
    refine br_le (a := k) (b := 36) (by omega) (by omega) (fun q => ?_) (fun q => ?_)
    · by_cases hs : St a b = true
      · have := (h3 hs).2
        have := gc_le X
        omega
      · have hX : ∀ c r, X c r = false := fun c r => Bool.eq_false_iff.mpr (fun z => hs (h2 c r z).spark)
        refine done y X h1 h2 (fun z => absurd z hs) (fun c r z1 z2 => ?_)
        obtain ⟨c', r', g1, g2⟩ := nbrB_iff.mp z1
        rw [hX] at g1; cases g1
    · have hwc : w = 0 ∨ w = 1 ∨ w = 2 ∨ w = 3 ∨ w = 4 := by omega
      rcases hwc with rfl | rfl | rfl | rfl | rfl
      · rw [car0]
        refine yy (by decide) (fire _ (fun c r hc hr => ?_))
        rw [lb_shl y (by omega) (by omega), Nat.sub_zero, decide_eq_true (Nat.zero_le _), Bool.true_and, h1.cell (by omega)]
        show (X c r || X c r) = (false || X c r)
        cases X c r <;> rfl
      · rw [car1]
        refine yy (by decide) (fire _ (fun c r hc hr => ?_))
        rw [lb_shl y (by omega) (by omega), h1.lf (j := 2) hc hr]
        rfl
      · rw [car2]
        refine yy (by decide) (fire _ (fun c r hc hr => ?_))
        rw [lb_shl y (by omega) (by omega), h1.dn (s := 2) hc hr (by omega)]
        rfl
      · rw [car3.2, car3.1]
        refine nn (by decide) (fire _ (fun c r hc hr => ?_))
        rw [lb_ushr y (by omega), h1.rt (j := 2) hr]
        rfl
      · rw [car4.2, car4.1]
        refine nn (by decide) (fire _ (fun c r hc hr => ?_))
        rw [lb_ushr y (by omega), h1.up (s := 2) hr (by omega)]
        rfl
