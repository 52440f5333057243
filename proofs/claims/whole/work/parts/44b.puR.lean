/-! PAIRS R: offer -/
theorem sp_offerC {C R : Nat} {tt wr : Nat → Nat → Nat} {Fs Fz Mp : Int32} {Fcells Fw Ft Mt Mw : Nat → Int32} {Mc Mr : Int32} (hRo : RoofR C R tt wr (nI C) (nI R) Fs Fz Fcells Fw Ft Mc Mr Mp Mt Mw) {ln tk y : Nat} (hl : 1 ≤ ln ∧ ln ≤ 3) (htk : 1 ≤ tk ∧ tk ≤ 9) (hy : 1 ≤ y ∧ y ≤ 99) {p1 p2 : Int32} {wL wH wK : Int32} {w1 w2 w3 w4 w5 w6 : Nat → Int32} {wy : Nat → Int64} {o1 o2 o3 o4 o5 o6 : Nat → Int32} {oy : Nat → Int64} {z1 z2 z3 z4 z5 z6 : Int32} {z7 : Int64} {pl : Nat → Int32} {trl : Nat → Int64}
    {post : Int32 → Int32 → (Nat → Int32) → (Nat → Int32) → (Nat → Int32) → (Nat → Int32) → (Nat → Int32) → (Nat → Int32) → (Nat → Int64) → Int32 → Int32 → (Nat → Int32) → (Nat → Int32) → (Nat → Int32) → (Nat → Int32) → (Nat → Int32) → (Nat → Int32) → (Nat → Int64) → (Nat → Int32) → Int32 → Int32 → Int32 → Int32 → Int32 → Int32 → Int64 → (Nat → Int64) → Int32 → Prop}
    (h : ∀ v, OfR C R (if Fs = 1 then 2 else 1) tt wr ln tk y (p1 + p2 * nI tk) v → ∀ x1 x2 x3 x4 x5 x6 x7 x8 x9 x10 x11 x12 x13 x14 x15 x16 x17 x18 x19 x20 x21 x22 x23 x24 x25 x26 x27, post v x1 x2 x3 x4 x5 x6 x7 x8 x9 x10 x11 x12 x13 x14 x15 x16 x17 x18 x19 x20 x21 x22 x23 x24 x25 x26 x27) : wp_X1_bare o6 oy (fun oL o6 oy => zl18 (bd_X7_offer_59 (nI C) (nI R) Fs Fz Fcells Fw Ft wL wH w1 w2 w3 w4 w5 w6 wy wK p1 p2 (nI ln) (nI tk) (nI y) post) 0 oL o1 o2 o3 o4 o5 o6 oy pl z1 z2 z3 z4 z5 z6 z7 trl) := by
  have hC := hRo.C
  have hCe : CellsC C R Fz Fcells := hRo.Ce
  obtain ⟨-, hC6, -, hR6, -, -, -, -, -, -, -, -, q13, -, -, -, -, q18, -⟩ := id hRo
  have h64 := p64 hR6
  unfold wp_X1_bare
  refine sp_fill (by omega) (fun rem hrem => sp_fillL (by omega) (fun l0 hl0 => ?_))
  have h0 : ClsS C R bst0 0 o1 o2 o3 o4 o5 rem l0 := by
    refine ⟨⟨rfl, fun b hb => absurd hb (Nat.not_lt_zero b), fun b r hb => absurd hb (Nat.not_lt_zero b)⟩, fun b r h3 h4 h5 => ?_, fun c r hc hr b => ?_⟩
    · rw [hrem, if_pos (by omega)]
    · rw [hl0, if_pos (by omega), lb_zero]
      exact (lyB_big (Nat.zero_le b)).symm
  refine ⟨fun l6 a1 a2 a3 a4 a5 a6 a7 a8 _ _ _ _ _ _ _ _ _ => ∃ k s, l6 = nI k ∧ k ≤ C ∧ offW C R (if Fs = 1 then 2 else 1) tt ln tk k = some s ∧ OffG C R tt k (6 * k) s ∧ ClsS C R s a1 a2 a3 a4 a5 a6 a7 a8, fun l6 _ _ _ _ _ _ _ _ _ _ _ _ _ _ _ _ _ => C - l6.toNatClampNeg, ⟨0, bst0, rfl, Nat.zero_le C, rfl, offG_0, h0⟩, ?_⟩
  rintro l6 a1 a2 a3 a4 a5 a6 a7 a8 x1 x2 x3 x4 x5 x6 x7 x8 x9 ⟨k, s, rfl, hk, hoff, hG, hS⟩
  have hA : CoatA C R s.1 s.2.1 s.2.2.1 s.2.2.2.1 s.2.2.2.2.1 s.2.2.2.2.2.1 s.2.2.2.2.2.2 a1 a2 a3 a4 a5 a6 a7 a8 := hS
  obtain rfl := hA.1.1
  have hn := hG.2.1
  obtain ⟨hn40, hOK⟩ := hG.1.1
  unfold bd_X7_offer_59
  refine br_le (by omega) (by omega) (fun q => ?_) (fun q => ?_)
  · have hk1 : k = C := by omega
    subst hk1
    refine sp_firstLeak hC hCe q13 (fun c r => (q18 c r).2) hA (by omega) (fun b r hb hr => ((hOK b hb).2.2.2.2.2 r).2 hr) (fun b r hb => ((hOK b hb).2.2.2.2.2 r).1) (fun b hb => (hOK b hb).1) (fun v lk hv _ _ _ _ _ _ _ _ _ _ _ _ _ _ _ _ _ _ => ?_)
    have hv' := hv
    rcases hv with ⟨t, t1, -, -, rfl⟩ | ⟨-, rfl⟩
    · refine br_neq (b := 0) (by omega) (by omega) (fun z => ?_) (fun z => ?_)
      · refine br_le (a := 0) (by omega) (by omega) (fun z2 => absurd z2 (by omega)) (fun z2 => ⟨fun e => z (nI_inj (b := 0) (by omega) (by omega) e), ?_⟩)
        unfold jn_X7_offer_160
        refine h _ (Or.inr ⟨s, nI t, hoff, hv', Or.inr (Or.inr ⟨t, by omega, t1, rfl, ?_⟩)⟩) _ _ _ _ _ _ _ _ _ _ _ _ _ _ _ _ _ _ _ _ _ _ _ _ _ _ _
        rw [nI_add, show (1 : Int32) = nI 1 from rfl, nI_subN (by omega), nI_idiv (by omega) (by omega) (by omega), Int32.mul_assoc]
      · refine h _ (Or.inr ⟨s, nI t, hoff, hv', Or.inl ⟨by rw [z], rfl⟩⟩) _ _ _ _ _ _ _ _ _ _ _ _ _ _ _ _ _ _ _ _ _ _ _ _ _ _ _
    · refine nx (by decide) (yy (by decide) ?_)
      unfold jn_X7_offer_160
      refine h _ (Or.inr ⟨s, -9, hoff, hv', Or.inr (Or.inl ⟨rfl, ?_⟩)⟩) _ _ _ _ _ _ _ _ _ _ _ _ _ _ _ _ _ _ _ _ _ _ _ _ _ _ _
      rw [show (1 : Int32) = nI 1 from rfl, Int32.mul_assoc]
  · refine sp_leastWay hC hA.2.2 (fun c r b hb => lyB_big (by omega)) q hl (fun d1 d2 d3 d4 d5 d6 d7 d8 d9 => ?_)
    cases hb : bstW (prfB C R (if Fs = 1 then 2 else 1) tt k ln (lyB s.1 s.2.1 s.2.2.2.2.2.2)) (2 ^ R) with
    | none =>
      refine yx rfl ?_
      have hnone := offW_none (offW_stop hoff hb) (C - (k + 1))
      rw [show k + 1 + (C - (k + 1)) = C by omega] at hnone
      exact h _ (Or.inl ⟨hnone, rfl⟩) _ _ _ _ _ _ _ _ _ _ _ _ _ _ _ _ _ _ _ _ _ _ _ _ _ _ _
    | some w =>
      obtain ⟨hw1, hw2⟩ := bstW_lt hb
      have hop := prf_open hw2
      have hG' : OffG C R tt (k + 1) (6 * k) s := ⟨hG.1, hG.2.1, fun b hb => by have := hG.2.2 b hb; omega⟩
      refine nx (nI_ne9 (by omega)) ?_
      show wp_X1_addAll _ _ _ _ _ _ _ _ _ _ _ (nI w) _ _ _
      refine sp_addAll hC hG' (by omega) q (by omega) hop hl htk hA (fun bL b1 b2 b3 b4 b5 b6 ly' hS' => ?_)
      rw [nI_1]
      refine ⟨⟨k + 1, _, rfl, q, offW_step hoff hb, ?_, hS'⟩, ?_⟩
      · have hg := layW_good hG' (by omega) q hop hl htk R (Nat.le_refl R)
        exact ⟨hg.1, by have := hg.2.1; omega, hg.2.2⟩
      · show C - (nI (k + 1)).toNatClampNeg < C - (nI k).toNatClampNeg
        rw [nI_clamp (by omega), nI_clamp (by omega)]
        omega
theorem RefS.sam {s : BSt} {aL : Int32} {a1 a2 a3 a4 a5 a6 b1 b2 b3 b4 b5 b6 : Nat → Int32} (h : RefS s aL a1 a2 a3 a4 a5 a6) (h1 : SamT s.1 a1 b1) (h2 : SamT s.1 a2 b2) (h3 : SamT s.1 a3 b3) (h4 : SamT s.1 a4 b4) (h5 : SamT s.1 a5 b5) (h6 : SamT (6 * s.1) a6 b6) : RefS s aL b1 b2 b3 b4 b5 b6 := by
  obtain ⟨g1, g2, g3⟩ := h
  exact ⟨g1, fun b hb => by rw [h1 b hb, h2 b hb, h3 b hb, h4 b hb, h5 b hb]; exact g2 b hb, fun b r hb hr => by rw [h6 _ (by omega)]; exact g3 b r hb hr⟩
theorem RefS.bun {C R : Nat} {tt : Nat → Nat → Nat} {k m : Nat} {s : BSt} {aL : Int32} {a1 a2 a3 a4 a5 a6 : Nat → Int32} (h : RefS s aL a1 a2 a3 a4 a5 a6) (hC : C ≤ 6) (hG : OffG C R tt k m s) : BunM s.1 s.2.1 s.2.2.2.2.2.2 a1 a6 := by
  obtain ⟨g1, g2, g3⟩ := h
  obtain ⟨hn, hOK⟩ := hG.1.1
  exact ⟨by omega, fun b hb => ⟨(g2 b hb).1, by have := (hOK b hb).1; omega⟩, fun b r hb hr => ⟨g3 b r hb hr, ((hOK b hb).2.2.2.2.2 r).1⟩⟩
theorem sp_offerTimes {y t : Nat} (hy : 1 ≤ y ∧ y ≤ 99) (ht : 1 ≤ t ∧ t ≤ 99) {X : Int32} {post : Int32 → Int32 → Int32 → (Nat → Int32) → (Nat → Int32) → (Nat → Int32) → (Nat → Int32) → (Nat → Int32) → (Nat → Int32) → Int32 → (Nat → Int32) → (Nat → Int32) → (Nat → Int32) → (Nat → Int32) → (Nat → Int32) → (Nat → Int32) → (Nat → Int32) → (Nat → Int32) → Int32 → Int32 → (Nat → Int32) → Prop} {e1 e2 : Int32} {f1 f2 f3 f4 f5 f6 f7 f8 : Nat → Int32} {e3 e4 : Int32} {f9 : Nat → Int32} {e5 : Int32} {k1 k2 k3 k4 k5 k6 : Nat → Int32} (h : post (nI ((y + t - 1) / t) * X) e1 e5 k1 k2 k3 k4 k5 k6 e2 f1 f2 f3 f4 f5 f6 f7 f8 e3 e4 f9) : zl2 (bd_X8_offer_226 (nI y) post X (nI t) e1 e2 f1 f2 f3 f4 f5 f6 f7 f8 e3 e4 f9 e5 k1 k2 k3 k4 k5 k6) 1 (nI t) := by
  refine ⟨fun l9 l10 => ∃ j, l9 = nI (j + 1) ∧ l10 = nI (j * t + t) ∧ j * t < y ∧ j < 100, fun l9 _ => 200 - l9.toNatClampNeg, ⟨0, rfl, by rw [Nat.zero_mul, Nat.zero_add], by omega, by omega⟩, ?_⟩
  rintro l9 l10 ⟨j, rfl, rfl, hj, hj2⟩
  have hjt : j * t + t = (j + 1) * t := (Nat.succ_mul j t).symm
  unfold bd_X8_offer_226
  refine nn (nI_ne9 (by omega)) (br_le (by omega) (by omega) (fun q => ?_) (fun q => ?_))
  · have e : (y + t - 1) / t = j + 1 := Nat.div_eq_of_lt_le (by rw [← hjt]; omega) (by rw [Nat.succ_mul, ← hjt]; omega)
    rw [e] at h
    exact h
  · have hjj : j + 1 ≤ (j + 1) * t := Nat.le_mul_of_pos_right _ (by omega)
    rw [nI_1, nI_add]
    refine ⟨⟨j + 1, rfl, by rw [hjt], by rw [← hjt]; exact q, by omega⟩, ?_⟩
    show 200 - (nI (j + 1 + 1)).toNatClampNeg < 200 - (nI (j + 1)).toNatClampNeg
    rw [nI_clamp (by omega), nI_clamp (by omega)]
    omega
theorem sp_offerM {C R : Nat} {tt wr : Nat → Nat → Nat} {Fc Fr Fs Fz : Int32} {Fcells Fw Ft Mt Mw : Nat → Int32} (hRo : RoofR C R tt wr Fc Fr Fs Fz Fcells Fw Ft (nI C) (nI R) Fs Mt Mw) {ln tk y : Nat} (hl : 1 ≤ ln ∧ ln ≤ 3) (htk : 1 ≤ tk ∧ tk ≤ 9) (hy : 1 ≤ y ∧ y ≤ 99) {p1 p2 hL : Int32} {b1 b2 b3 b4 b5 b6 k1 k2 k3 k4 k5 k6 tops places isT : Nat → Int32} {pm ea : Int32} {post : Int32 → Int32 → Int32 → (Nat → Int32) → (Nat → Int32) → (Nat → Int32) → (Nat → Int32) → (Nat → Int32) → (Nat → Int32) → Int32 → (Nat → Int32) → (Nat → Int32) → (Nat → Int32) → (Nat → Int32) → (Nat → Int32) → (Nat → Int32) → (Nat → Int32) → (Nat → Int32) → Int32 → Int32 → (Nat → Int32) → Prop}
    (h : ∀ v, OfR C R (if Fs = 1 then 2 else 1) tt wr ln tk y (p1 + p2 * nI tk) v → ∀ d1 d2 d3 d4 d5 d6, (∀ j, j < 80 → d1 j = k1 j) → (∀ j, j < 80 → d2 j = k2 j) → (∀ j, j < 80 → d3 j = k3 j) → (∀ j, j < 80 → d4 j = k4 j) → (∀ j, j < 80 → d5 j = k5 j) → (∀ j, j < 480 → d6 j = k6 j) → ∀ x1 x2 x3 x4 x5, post v 0 hL d1 d2 d3 d4 d5 d6 hL k1 k2 k3 k4 k5 k6 x1 x2 x3 x4 x5) : zl13 (bd_X8_offer_85 (nI C) (nI R) Fs Mt Mw tops p1 p2 (nI ln) (nI tk) (nI y) post hL k1 k2 k3 k4 k5 k6) 1 0 0 b1 b2 b3 b4 b5 b6 places pm ea isT := by
  have hM := hRo.M
  obtain ⟨-, hC6, -, hR6, -, -, -, -, -, -, -, -, -, -, q15, -, -, q18, -⟩ := id hRo
  have h64 := p64 hR6
  have stop : offW C R (if Fs = 1 then 2 else 1) tt ln tk C = none → ∀ la a1 a2 a3 a4 a5 a6 y1 y2 y3 y4, jn_X8_offer_174 (nI C) (nI R) Fs Mt Mw tops p1 p2 (nI tk) (nI y) post 0 0 la a1 a2 a3 a4 a5 a6 hL k1 k2 k3 k4 k5 k6 y1 y2 y3 y4 := fun hz la a1 a2 a3 a4 a5 a6 y1 y2 y3 y4 => by
    unfold jn_X8_offer_174
    refine yy rfl ?_
    unfold jn_X8_offer_200
    refine sp_back (fun d1 d2 d3 d4 d5 d6 g1 g2 g3 g4 g5 g6 => yy rfl ?_)
    exact h _ (Or.inl ⟨hz, rfl⟩) d1 d2 d3 d4 d5 d6 g1 g2 g3 g4 g5 g6 _ _ _ _ _
  refine zu13_2 C (by omega) (fun k is la a1 a2 a3 a4 a5 a6 _ _ _ _ => (is = 0 ∧ offW C R (if Fs = 1 then 2 else 1) tt ln tk k = none) ∨ (is = 1 ∧ ∃ s, offW C R (if Fs = 1 then 2 else 1) tt ln tk k = some s ∧ OffG C R tt k (6 * k) s ∧ RefS s la a1 a2 a3 a4 a5 a6)) 0 rfl (Nat.zero_le C) (Or.inr ⟨rfl, bst0, rfl, offG_0, ⟨rfl, fun b hb => absurd hb (Nat.not_lt_zero b), fun b r hb => absurd hb (Nat.not_lt_zero b)⟩⟩) (fun k is la a1 a2 a3 a4 a5 a6 y1 y2 y3 y4 rec hk hJ hrec => ?_)
  unfold bd_X8_offer_85
  rcases hJ with ⟨rfl, hz⟩ | ⟨rfl, s, hoff, hG, hS⟩
  · have hnone := offW_none hz (C - k)
    rw [show k + (C - k) = C by omega] at hnone
    exact br_le (by omega) (by omega) (fun q => stop hnone _ _ _ _ _ _ _ _ _ _ _) (fun q => yy rfl (stop hnone _ _ _ _ _ _ _ _ _ _ _))
  · have hB := hS.bun hC6 hG
    have hS2 : BunA s.1 s.2.1 s.2.2.1 s.2.2.2.1 s.2.2.2.2.1 s.2.2.2.2.2.1 s.2.2.2.2.2.2 la a1 a2 a3 a4 a5 a6 := hS
    obtain rfl := hS2.1
    have hn := hG.2.1
    obtain ⟨hn40, hOK⟩ := hG.1.1
    refine br_le (by omega) (by omega) (fun q => ?_) (fun q => nn (by decide) ?_)
    · have hk1 : k = C := by omega
      subst hk1
      unfold jn_X8_offer_174
      refine nn (by decide) ?_
      refine sp_wearOut hM q15 (fun c r => (q18 c r).2) (by omega) (fun b hb => ⟨(hS2.2.1 b hb).1, (hOK b hb).1⟩) hB.2.2 (fun b r hb hr => ((hOK b hb).2.2.2.2.2 r).2 hr) (fun v left' hv _ _ _ _ _ => ?_)
      have hv' := hv.leak
      unfold jn_X8_offer_200
      refine sp_back (fun d1 d2 d3 d4 d5 d6 g1 g2 g3 g4 g5 g6 => nn (by decide) ?_)
      have hv2 := hv'
      rcases hv2 with ⟨t, t1, -, -, rfl⟩ | ⟨-, rfl⟩
      · refine br_neq (b := 0) (by omega) (by omega) (fun z => ?_) (fun z => ?_)
        · refine sp_offerTimes hy ⟨by omega, t1⟩ ?_
          exact h _ (Or.inr ⟨s, nI t, hoff, hv', Or.inr (Or.inr ⟨t, by omega, t1, rfl, rfl⟩)⟩) d1 d2 d3 d4 d5 d6 g1 g2 g3 g4 g5 g6 _ _ _ _ _
        · exact h _ (Or.inr ⟨s, nI t, hoff, hv', Or.inl ⟨by rw [z], rfl⟩⟩) d1 d2 d3 d4 d5 d6 g1 g2 g3 g4 g5 g6 _ _ _ _ _
      · refine nx (by decide) ⟨fun l9 l10 => l9 = 1, fun _ _ => 0, rfl, ?_⟩
        rintro l9 l10 rfl
        unfold bd_X8_offer_226
        refine yy rfl ?_
        exact h _ (Or.inr ⟨s, -9, hoff, hv', Or.inr (Or.inl ⟨rfl, rfl⟩)⟩) d1 d2 d3 d4 d5 d6 g1 g2 g3 g4 g5 g6 _ _ _ _ _
    · refine sp_findFewest (ly := lyS s) hM hB (by omega) (fun c r b hb => lyB_big hb) (fun c r b _ => rfl) (fun b r hb e => absurd (hG.2.2 b hb) (by omega)) q hl (fun e1 e2 e3 e4 e5 e6 t1 t2 t3 t4 t5 t6 u1 u2 u3 u4 => ?_)
      have hS' : RefS s (nI s.1) e1 e2 e3 e4 e5 e6 := hS.sam t1 t2 t3 t4 t5 t6
      cases hb : bstW (prfB C R (if Fs = 1 then 2 else 1) tt k ln (lyS s)) (2 ^ R) with
      | none =>
        refine yy rfl ?_
        unfold jn_X8_offer_120
        refine ⟨fun l9 _ _ _ _ _ _ _ => True, fun _ _ _ _ _ _ _ _ => 0, trivial, ?_⟩
        intro l9 la' c1 c2 c3 c4 c5 c6 _
        unfold bd_X8_offer_125
        rw [nI_1]
        have fin := hrec 0 la' c1 c2 c3 c4 c5 c6 u1 u2 u3 u4 q (Or.inl ⟨rfl, offW_stop hoff hb⟩)
        exact ⟨fun _ => fin, fun _ => yy rfl fin⟩
      | some w =>
        obtain ⟨hw1, hw2⟩ := bstW_lt hb
        have hop := prf_open hw2
        have hG' : OffG C R tt (k + 1) (6 * k) s := ⟨hG.1, hG.2.1, fun b hb => by have := hG.2.2 b hb; omega⟩
        refine nn (nI_ne9 (by omega)) ?_
        unfold jn_X8_offer_120
        refine zu8_1 R (by omega) (fun r la' c1 c2 c3 c4 c5 c6 => RefS (layW tt k ln tk w r s) la' c1 c2 c3 c4 c5 c6) 0 rfl (by omega) hS' (fun r la' c1 c2 c3 c4 c5 c6 rec2 hr hJ2 hrec2 => ?_)
        unfold bd_X8_offer_125
        have hg := layW_good hG' (by omega) q hop hl htk r (by omega)
        have hJA : BunA (layW tt k ln tk w r s).1 (layW tt k ln tk w r s).2.1 (layW tt k ln tk w r s).2.2.1 (layW tt k ln tk w r s).2.2.2.1 (layW tt k ln tk w r s).2.2.2.2.1 (layW tt k ln tk w r s).2.2.2.2.2.1 (layW tt k ln tk w r s).2.2.2.2.2.2 la' c1 c2 c3 c4 c5 c6 := hJ2
        obtain rfl := hJA.1
        have hgn := hg.2.1
        refine br_le (by omega) (by omega) (fun q2 => ?_) (fun q2 => nn (by decide) ?_)
        · have hr1 : r = R := by omega
          subst hr1
          rw [nI_1]
          exact hrec _ _ _ _ _ _ _ _ _ _ _ _ q (Or.inr ⟨rfl, _, offW_step hoff hb, ⟨hg.1, by omega, hg.2.2⟩, hJ2⟩)
        · rw [show oI (some w) = nI w from rfl, shr1 w (by omega) r (by omega), nI_1]
          cases hbt : w.testBit r with
          | false =>
            refine nx (by decide) (hrec2 _ _ _ _ _ _ _ q2 ?_)
            rw [layW, if_neg (by rw [hbt]; decide)]
            exact hJ2
          | true =>
            have ht := hop r q2 hbt
            refine yx rfl ?_
            refine sp_put (st := 0) hM hJA (by omega) q q2 hl htk (lowF_ok ht hl) (fun mLeft' hl' hfar => ?_)
            refine hrec2 _ _ _ _ _ _ _ q2 ?_
            rw [layW, if_pos hbt]
            exact bunA_add hJA hl'
theorem pu_offer {F_columns : Int32} {F_rows : Int32} {F_steepness : Int32} {F_size : Int32} {F_cells : Nat → Int32} {F_wearing : Nat → Int32} {F_turning : Nat → Int32} {c_laid : Int32} {c_columns : Nat → Int32} {c_rows : Nat → Int32} {c_lengths : Nat → Int32} {c_sorts : Nat → Int32} {c_thicknesses : Nat → Int32} {c_remains : Nat → Int32} {c_lying : Nat → Int64} {k0_laid : Int32} {k0_columns : Nat → Int32} {k0_rows : Nat → Int32} {k0_lengths : Nat → Int32} {k0_sorts : Nat → Int32} {k0_thicknesses : Nat → Int32} {k0_remains : Nat → Int32} {k0_lying : Nat → Int64} {k1_laid : Int32} {k1_columns : Nat → Int32} {k1_rows : Nat → Int32} {k1_lengths : Nat → Int32} {k1_sorts : Nat → Int32} {k1_thicknesses : Nat → Int32} {k1_remains : Nat → Int32} {k1_lying : Nat → Int64} {S_isKept : Nat → Int32} {Ag_from : Nat → Int32} {Ag_to : Nat → Int32} {T_length : Int32} {T_bytes : Nat → Int32} {M_columns : Int32} {M_rows : Int32} {M_pitch : Int32} {M_turns : Nat → Int32} {M_wears : Nat → Int32} {M_laid : Int32} {M_bCol : Nat → Int32} {M_bRow : Nat → Int32} {M_bLong : Nat → Int32} {M_bSort : Nat → Int32} {M_bThick : Nat → Int32} {M_left : Nat → Int32} {M_keptLaid : Nat → Int32} {M_isKept : Nat → Int32} {M_keptCol : Nat → Int32} {M_keptRow : Nat → Int32} {M_keptLong : Nat → Int32} {M_keptSort : Nat → Int32} {M_keptThick : Nat → Int32} {M_keptLeft : Nat → Int32} {M_froms : Nat → Int32} {M_tos : Nat → Int32} {M_text : Nat → Int32} {M_textSize : Int32} {w_laid : Int32} {w_holes : Int32} {w_columns : Nat → Int32} {w_rows : Nat → Int32} {w_lengths : Nat → Int32} {w_sorts : Nat → Int32} {w_thicknesses : Nat → Int32} {w_remains : Nat → Int32} {w_lying : Nat → Int64} {o_laid : Int32} {o_columns : Nat → Int32} {o_rows : Nat → Int32} {o_lengths : Nat → Int32} {o_sorts : Nat → Int32} {o_thicknesses : Nat → Int32} {o_remains : Nat → Int32} {o_lying : Nat → Int64} {R_passed : Int32} {R_runs : Int32} {R_end : Int32} {R_eavesColumn : Int32} {R_cell : Int32} {R_bundle : Int32} {R_turnedAt : Int64} {R_places : Nat → Int32} {Tr_leakCell : Int32} {Tr_lying : Nat → Int64} {M_heldLaid : Int32} {M_placeMany : Int32} {M_eaves : Int32} {M_heldCol : Nat → Int32} {M_heldRow : Nat → Int32} {M_heldLong : Nat → Int32} {M_heldSort : Nat → Int32} {M_heldThick : Nat → Int32} {M_heldLeft : Nat → Int32} {M_tops : Nat → Int32} {M_places : Nat → Int32} {M_isTurned : Nat → Int32} (hR : Rel F_columns F_rows F_steepness F_size F_cells F_wearing F_turning c_laid c_columns c_rows c_lengths c_sorts c_thicknesses c_remains c_lying k0_laid k0_columns k0_rows k0_lengths k0_sorts k0_thicknesses k0_remains k0_lying k1_laid k1_columns k1_rows k1_lengths k1_sorts k1_thicknesses k1_remains k1_lying S_isKept Ag_from Ag_to T_length T_bytes M_columns M_rows M_pitch M_turns M_wears M_laid M_bCol M_bRow M_bLong M_bSort M_bThick M_left M_keptLaid M_isKept M_keptCol M_keptRow M_keptLong M_keptSort M_keptThick M_keptLeft M_froms M_tos M_text M_textSize) (l1 : Int32) (l2 : Int32) (l3 : Int32) (l4 : Int32) (l5 : Int32) : wp_X7_offer F_columns F_rows F_steepness F_size F_cells F_wearing F_turning w_laid w_holes w_columns w_rows w_lengths w_sorts w_thicknesses w_remains w_lying o_laid o_columns o_rows o_lengths o_sorts o_thicknesses o_remains o_lying R_passed R_runs R_end R_eavesColumn R_cell R_bundle R_turnedAt R_places Tr_leakCell Tr_lying l1 l2 l3 l4 l5 (fun (r : Int32) (w_laid' : Int32) (w_columns' : Nat → Int32) (w_rows' : Nat → Int32) (w_lengths' : Nat → Int32) (w_sorts' : Nat → Int32) (w_thicknesses' : Nat → Int32) (w_remains' : Nat → Int32) (w_lying' : Nat → Int64) (w_holes' : Int32) (o_laid' : Int32) (o_columns' : Nat → Int32) (o_rows' : Nat → Int32) (o_lengths' : Nat → Int32) (o_sorts' : Nat → Int32) (o_thicknesses' : Nat → Int32) (o_remains' : Nat → Int32) (o_lying' : Nat → Int64) (R_places' : Nat → Int32) (R_passed' : Int32) (R_runs' : Int32) (R_end' : Int32) (R_eavesColumn' : Int32) (R_cell' : Int32) (R_bundle' : Int32) (R_turnedAt' : Int64) (Tr_lying' : Nat → Int64) (Tr_leakCell' : Int32) => wp_X8_offer M_columns M_rows M_pitch M_laid M_heldLaid M_placeMany M_eaves M_turns M_wears M_bCol M_bRow M_bLong M_bSort M_bThick M_left M_heldCol M_heldRow M_heldLong M_heldSort M_heldThick M_heldLeft M_tops M_places M_isTurned l1 l2 l3 l4 l5 (fun (r' : Int32) (M_thrown' : Int32) (M_laid' : Int32) (M_bCol' : Nat → Int32) (M_bRow' : Nat → Int32) (M_bLong' : Nat → Int32) (M_bSort' : Nat → Int32) (M_bThick' : Nat → Int32) (M_left' : Nat → Int32) (M_heldLaid' : Int32) (M_heldCol' : Nat → Int32) (M_heldRow' : Nat → Int32) (M_heldLong' : Nat → Int32) (M_heldSort' : Nat → Int32) (M_heldThick' : Nat → Int32) (M_heldLeft' : Nat → Int32) (M_tops' : Nat → Int32) (M_places' : Nat → Int32) (M_placeMany' : Int32) (M_eaves' : Int32) (M_isTurned' : Nat → Int32) => r = r' ∧ Rel F_columns F_rows F_steepness F_size F_cells F_wearing F_turning c_laid c_columns c_rows c_lengths c_sorts c_thicknesses c_remains c_lying k0_laid k0_columns k0_rows k0_lengths k0_sorts k0_thicknesses k0_remains k0_lying k1_laid k1_columns k1_rows k1_lengths k1_sorts k1_thicknesses k1_remains k1_lying S_isKept Ag_from Ag_to T_length T_bytes M_columns M_rows M_pitch M_turns M_wears M_laid' M_bCol' M_bRow' M_bLong' M_bSort' M_bThick' M_left' M_keptLaid M_isKept M_keptCol M_keptRow M_keptLong M_keptSort M_keptThick M_keptLeft M_froms M_tos M_text M_textSize)) := by
  obtain ⟨C, R, tt, wr, n, col, row, len, srt, thk, L, hRo, hCu, hR2⟩ := id hR
  obtain ⟨-, h2, -, h4, rfl, rfl, rfl, rfl, rfl, -⟩ := id hRo
  obtain ⟨hA, hMb, hBO, hNo⟩ := id hCu
  obtain ⟨rfl, hb1, hb2⟩ := id hMb
  obtain ⟨hn, hOK⟩ := id hBO
  unfold wp_X7_offer wp_X8_offer wp_X7_isLength wp_X7_isThickness
  rcases num_cases l1 0 99 (by omega) with ⟨a, ha1, ha2, rfl⟩ | hno
  · refine sp_withY rfl (a := 0) (b := 99) rfl rfl (by omega) ha1 ha2 (t01 ?_)
    rcases num_cases l2 0 99 (by omega) with ⟨u, hu1, hu2, rfl⟩ | hno
    · refine sp_withY rfl (a := 0) (b := 99) rfl rfl (by omega) hu1 hu2 (t01 ?_)
      rcases num_cases l3 1 3 (by omega) with ⟨ln, hl1, hl2, rfl⟩ | hno
      · refine sp_withY rfl (a := 1) (b := 3) rfl rfl (by omega) hl1 hl2 ⟨Or.inr rfl, t01 ?_⟩
        rcases num_cases l4 1 9 (by omega) with ⟨tk, ht1, ht2, rfl⟩ | hno
        · refine sp_withY rfl (a := 1) (b := 9) rfl rfl (by omega) ht1 ht2 ⟨Or.inr rfl, t01 ?_⟩
          rcases num_cases l5 1 99 (by omega) with ⟨y, hy1, hy2, rfl⟩ | hno
          · refine sp_withY rfl (a := 1) (b := 99) rfl rfl (by omega) hy1 hy2 (t10 ?_)
            refine sp_offerC hRo ⟨hl1, hl2⟩ ⟨ht1, ht2⟩ ⟨hy1, hy2⟩ (fun v hv x1 x2 x3 x4 x5 x6 x7 x8 x9 x10 x11 x12 x13 x14 x15 x16 x17 x18 x19 x20 x21 x22 x23 x24 x25 x26 x27 => ?_)
            refine sp_minY rfl (a := 0) (b := 99) rfl rfl (by omega) ha1 ha2 (t01 ?_)
            refine sp_minY rfl (a := 0) (b := 99) rfl rfl (by omega) hu1 hu2 (t01 ?_)
            refine sp_minY rfl (a := 1) (b := 3) rfl rfl (by omega) hl1 hl2 (t01 ?_)
            refine sp_minY rfl (a := 1) (b := 9) rfl rfl (by omega) ht1 ht2 (t01 ?_)
            refine sp_minY rfl (a := 1) (b := 99) rfl rfl (by omega) hy1 hy2 (t10 ?_)
            refine sp_hold (fun kc kr kl ks kt kL g1 g2 g3 g4 g5 g6 => ?_)
            refine sp_offerM hRo ⟨hl1, hl2⟩ ⟨ht1, ht2⟩ ⟨hy1, hy2⟩ (fun v' hv' d1 d2 d3 d4 d5 d6 q1 q2 q3 q4 q5 q6 y1 y2 y3 y4 y5 => ?_)
            refine ⟨hv.uniq hv', C, R, tt, wr, n, col, row, len, srt, thk, L, hRo, ⟨hA, ?_, hBO, hNo⟩, hR2⟩
            exact bunA_congr hMb hn (fun j hj => (q1 j (by omega)).trans (g1 j (by omega))) (fun j hj => (q2 j (by omega)).trans (g2 j (by omega))) (fun j hj => (q3 j (by omega)).trans (g3 j (by omega))) (fun j hj => (q4 j (by omega)).trans (g4 j (by omega))) (fun j hj => (q5 j (by omega)).trans (g5 j (by omega))) (fun j hj => (q6 j (by omega)).trans (g6 j (by omega)))
          · refine sp_withN (a := 1) (b := 99) rfl rfl (by omega) (by omega) hno (f10 ?_)
            refine sp_minY rfl (a := 0) (b := 99) rfl rfl (by omega) ha1 ha2 (t01 ?_)
            refine sp_minY rfl (a := 0) (b := 99) rfl rfl (by omega) hu1 hu2 (t01 ?_)
            refine sp_minY rfl (a := 1) (b := 3) rfl rfl (by omega) hl1 hl2 (t01 ?_)
            refine sp_minY rfl (a := 1) (b := 9) rfl rfl (by omega) ht1 ht2 (t01 ?_)
            exact sp_minX (a := 1) (b := 99) rfl rfl (by omega) (by omega) hno (f10 ⟨rfl, hR⟩)
        · refine sp_withN (a := 1) (b := 9) rfl rfl (by omega) (by omega) hno ⟨Or.inl rfl, f01 ?_⟩
          refine sp_minY rfl (a := 0) (b := 99) rfl rfl (by omega) ha1 ha2 (t01 ?_)
          refine sp_minY rfl (a := 0) (b := 99) rfl rfl (by omega) hu1 hu2 (t01 ?_)
          refine sp_minY rfl (a := 1) (b := 3) rfl rfl (by omega) hl1 hl2 (t01 ?_)
          exact sp_minX (a := 1) (b := 9) rfl rfl (by omega) (by omega) hno (f01 ⟨rfl, hR⟩)
      · refine sp_withN (a := 1) (b := 3) rfl rfl (by omega) (by omega) hno ⟨Or.inl rfl, f01 ?_⟩
        refine sp_minY rfl (a := 0) (b := 99) rfl rfl (by omega) ha1 ha2 (t01 ?_)
        refine sp_minY rfl (a := 0) (b := 99) rfl rfl (by omega) hu1 hu2 (t01 ?_)
        exact sp_minX (a := 1) (b := 3) rfl rfl (by omega) (by omega) hno (f01 ⟨rfl, hR⟩)
    · refine sp_withN (a := 0) (b := 99) rfl rfl (by omega) (by omega) hno (f01 ?_)
      refine sp_minY rfl (a := 0) (b := 99) rfl rfl (by omega) ha1 ha2 (t01 ?_)
      exact sp_minX (a := 0) (b := 99) rfl rfl (by omega) (by omega) hno (f01 ⟨rfl, hR⟩)
  · refine sp_withN (a := 0) (b := 99) rfl rfl (by omega) (by omega) hno (f01 ?_)
    exact sp_minX (a := 0) (b := 99) rfl rfl (by omega) (by omega) hno (f01 ⟨rfl, hR⟩)
