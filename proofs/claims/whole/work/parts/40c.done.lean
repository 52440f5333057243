/-! PURE DONE 3: both sides do the text by that function -/
theorem hi_66 {C R : Nat} : hiF C R 66 0 = C - 1 ∧ hiF C R 66 1 = R - 1 ∧ hiF C R 66 2 = 3 ∧ hiF C R 66 3 = 5 ∧ hiF C R 66 4 = 9 ∧ loF 66 2 = 1 ∧ loF 66 4 = 1 ∧ figN 66 = 5 := ⟨rfl, rfl, rfl, rfl, rfl, rfl, rfl, rfl⟩
theorem hi_89 {C R : Nat} : hiF C R 89 0 = 9 ∧ loF 89 0 = 1 ∧ figN 89 = 1 := ⟨rfl, rfl, rfl⟩
theorem hi_83 {C R : Nat} : hiF C R 83 0 = C - 1 ∧ hiF C R 83 1 = 9 ∧ loF 83 1 = 1 ∧ figN 83 = 2 := ⟨rfl, rfl, rfl, rfl⟩
theorem fig_kind {k : Nat} (h : figN k ≠ 0) : k = 66 ∨ k = 89 ∨ k = 83 := by
  unfold figN at h
  by_cases e1 : k = 66
  · exact Or.inl e1
  · rw [if_neg e1] at h
    by_cases e2 : k = 83
    · exact Or.inr (Or.inr e2)
    · rw [if_neg e2] at h
      by_cases e3 : k = 89
      · exact Or.inr (Or.inl e3)
      · rw [if_neg e3] at h; exact absurd rfl h
def FineP (C R m : Nat) (B : Nat → Nat) (p : Nat) : Prop := ∀ j, j < figN (B p) → p + (j + 1) < m ∧ nI (B (p + (j + 1))) - 48 = nI (fgN B p (j + 1)) ∧ loF (B p) j ≤ fgN B p (j + 1) ∧ fgN B p (j + 1) ≤ hiF C R (B p) j
theorem fine_66 {C R m p : Nat} {B : Nat → Nat} (hC : 1 ≤ C) (hR : 1 ≤ R) (h : FineP C R m B p) (hk : B p = 66) : (p + 1 < m ∧ p + 2 < m ∧ p + 3 < m ∧ p + 4 < m ∧ p + 5 < m) ∧ (nI (B (p + 1)) - 48 = nI (fgN B p 1) ∧ nI (B (p + 2)) - 48 = nI (fgN B p 2) ∧ nI (B (p + 3)) - 48 = nI (fgN B p 3) ∧ nI (B (p + 4)) - 48 = nI (fgN B p 4) ∧ nI (B (p + 5)) - 48 = nI (fgN B p 5)) ∧ fgN B p 1 < C ∧ fgN B p 2 < R ∧ (1 ≤ fgN B p 3 ∧ fgN B p 3 ≤ 3) ∧ fgN B p 4 ≤ 5 ∧ (1 ≤ fgN B p 5 ∧ fgN B p 5 ≤ 9) := by
  unfold FineP at h
  rw [hk] at h
  obtain ⟨e0, e1, e2, e3, e4, e5, e6, e7⟩ := @hi_66 C R
  rw [e7] at h
  have a0 := h 0 (by omega)
  have a1 := h 1 (by omega)
  have a2 := h 2 (by omega)
  have a3 := h 3 (by omega)
  have a4 := h 4 (by omega)
  rw [e0] at a0
  rw [e1] at a1
  rw [e2, e5] at a2
  rw [e3] at a3
  rw [e4, e6] at a4
  have b0 := a0.2.2.2
  have b1 := a1.2.2.2
  exact ⟨⟨a0.1, a1.1, a2.1, a3.1, a4.1⟩, ⟨a0.2.1, a1.2.1, a2.2.1, a3.2.1, a4.2.1⟩, Nat.lt_of_le_of_lt b0 (by omega), Nat.lt_of_le_of_lt b1 (by omega), a2.2.2, a3.2.2.2, a4.2.2⟩
theorem fine_89 {C R m p : Nat} {B : Nat → Nat} (h : FineP C R m B p) (hk : B p = 89) : p + 1 < m ∧ nI (B (p + 1)) - 48 = nI (fgN B p 1) ∧ 1 ≤ fgN B p 1 ∧ fgN B p 1 ≤ 9 := by
  unfold FineP at h
  rw [hk] at h
  obtain ⟨e0, e1, e2⟩ := @hi_89 C R
  rw [e2] at h
  have a0 := h 0 (by omega)
  rw [e0, e1] at a0
  exact a0
theorem fine_83 {C R m p : Nat} {B : Nat → Nat} (hC : 1 ≤ C) (h : FineP C R m B p) (hk : B p = 83) : (p + 1 < m ∧ p + 2 < m) ∧ (nI (B (p + 1)) - 48 = nI (fgN B p 1) ∧ nI (B (p + 2)) - 48 = nI (fgN B p 2)) ∧ fgN B p 1 < C ∧ 1 ≤ fgN B p 2 ∧ fgN B p 2 ≤ 9 := by
  unfold FineP at h
  rw [hk] at h
  obtain ⟨e0, e1, e2, e3⟩ := @hi_83 C R
  rw [e3] at h
  have a0 := h 0 (by omega)
  have a1 := h 1 (by omega)
  rw [e0] at a0
  rw [e1, e2] at a1
  have b0 := a0.2.2.2
  exact ⟨⟨a0.1, a1.1⟩, ⟨a0.2.1, a1.2.1⟩, Nat.lt_of_le_of_lt b0 (by omega), a1.2.2⟩
theorem stp_66 {tt wr : Nat → Nat → Nat} {B : Nat → Nat} {p : Nat} {s : BSt} (hk : B p = 66) : stpW tt wr B p s = if tt (fgN B p 1) (fgN B p 2) ≠ 0 ∨ s.1 = 40 then none else some (s.1 + 1, set1 s.2.1 s.1 (fgN B p 1), set1 s.2.2.1 s.1 (fgN B p 2), set1 s.2.2.2.1 s.1 (fgN B p 3), set1 s.2.2.2.2.1 s.1 (fgN B p 4), set1 s.2.2.2.2.2.1 s.1 (fgN B p 5), layL s.2.2.2.2.2.2 s.1 (lowF tt (fgN B p 1) (fgN B p 2) (fgN B p 3)) (fgN B p 2) (fgN B p 5)) := by
  unfold stpW
  rw [if_pos hk]
theorem stp_89 {tt wr : Nat → Nat → Nat} {B : Nat → Nat} {p : Nat} {s : BSt} (hk : B p = 89) : stpW tt wr B p s = some (s.1, s.2.1, s.2.2.1, s.2.2.2.1, s.2.2.2.2.1, s.2.2.2.2.2.1, itY s.1 s.2.1 wr s.2.2.2.2.2.2 (fgN B p 1)) := by
  unfold stpW
  rw [if_neg (by omega), if_pos hk]
theorem stp_83 {tt wr : Nat → Nat → Nat} {B : Nat → Nat} {p : Nat} {s : BSt} (hk : B p = 83) : stpW tt wr B p s = some (s.1, s.2.1, s.2.2.1, s.2.2.2.1, s.2.2.2.2.1, s.2.2.2.2.2.1, itL s.1 s.2.1 (fgN B p 1) s.2.2.2.2.2.2 (fgN B p 2)) := by
  unfold stpW
  rw [if_neg (by omega), if_neg (by omega)]
theorem sp_carryOut {C R m p : Nat} {tt wr : Nat → Nat → Nat} {B : Nat → Nat} {Fs Fz Mc Mr Mp : Int32} {Fcells Fw Ft Mt Mw : Nat → Int32} (hRo : RoofR C R tt wr (nI C) (nI R) Fs Fz Fcells Fw Ft Mc Mr Mp Mt Mw) {T : Nat → Int32} (hm : m ≤ 60) (hT : ∀ j, j < m → T j = nI (B j) ∧ B j < 256) (hp : p < m) (hF0 : figN (B p) ≠ 0) (hF : FineP C R m B p) {s : BSt} (hG : GooS C R tt s) {aL holes : Int32} {aCol aRow aLen aSrt aThk aLeft : Nat → Int32} {ly : Nat → Int64} (hS : ClsS C R s aL aCol aRow aLen aSrt aThk aLeft ly) {post : Int32 → Int32 → (Nat → Int32) → (Nat → Int32) → (Nat → Int32) → (Nat → Int32) → (Nat → Int32) → (Nat → Int32) → (Nat → Int64) → Int32 → Prop}
    (h0 : stpW tt wr B p s = none → post 0 aL aCol aRow aLen aSrt aThk aLeft ly holes)
    (h1 : ∀ s' aL' aCol' aRow' aLen' aSrt' aThk' aLeft' ly' holes', stpW tt wr B p s = some s' → GooS C R tt s' → ClsS C R s' aL' aCol' aRow' aLen' aSrt' aThk' aLeft' ly' → post 1 aL' aCol' aRow' aLen' aSrt' aThk' aLeft' ly' holes') : wp_X7_carryOut (nI C) (nI R) Fz Fcells Fw Ft aL holes aCol aRow aLen aSrt aThk aLeft ly (nI m) T (nI p) post := by
  have hC := hRo.C
  have hCe : CellsC C R Fz Fcells := hRo.Ce
  obtain ⟨q1, q2, q3, q4, -, -, -, -, -, -, -, -, q13, -, -, -, -, q18, -⟩ := id hRo
  obtain ⟨n, col, row, len, srt, thk, L⟩ := s
  obtain ⟨hBO, hNo⟩ := hG
  have hA : CoatA C R n col row len srt thk L aL aCol aRow aLen aSrt aThk aLeft ly := hS
  obtain ⟨⟨e1, ha1, ha2⟩, hZ, hLy⟩ := id hA
  subst e1
  have hBO' : BunOK C R n col row len srt thk L := hBO
  have hNo' : NoOp tt n col L := hNo
  obtain ⟨hn, hOK⟩ := id hBO'
  obtain ⟨t1, t2⟩ := hT p hp
  unfold wp_X7_carryOut
  rw [nI_clamp (show p < 2 ^ 31 by omega), t1]
  have v60 : vp_in (nI p) 60 := vp_in_nI (by omega) (by omega)
  rcases fig_kind hF0 with hk | hk | hk
  · obtain ⟨⟨g1, g2, g3, g4, g5⟩, ⟨w1, w2, w3, w4, w5⟩, hc, hr, hl, hs, htk⟩ := fine_66 q1 q3 hF hk
    have hst := @stp_66 tt wr B p (n, col, row, len, srt, thk, L) hk
    refine sp_figV (q := 1) hm hT g1 w1 ⟨v60, ?_⟩
    rw [hk]
    refine yy rfl ?_
    refine sp_figV (q := 2) hm hT g2 w2 ?_
    refine sp_figV (q := 3) hm hT g3 w3 ?_
    refine sp_figV (q := 4) hm hT g4 w4 ?_
    refine sp_figV (q := 5) hm hT g5 w5 ?_
    refine sp_layV hC hA hn hc hr hl hs htk (fun z => ?_) (fun z z2 => ?_) (fun z hn40 low aLeft' a' hlow hA' => ?_)
    · exact yy (by decide) (h0 (by rw [hst, if_pos (Or.inl z)]))
    · exact yy (by decide) (h0 (by rw [hst, if_pos (Or.inr z2)]))
    · have el : low = lowF tt (fgN B p 1) (fgN B p 2) (fgN B p 3) := hlow.uniq (lowF_ok z hl)
      subst el
      refine neg_no (by omega) (h1 _ _ _ _ _ _ _ _ _ _ (by rw [hst, if_neg (by simp only [not_or]; exact ⟨fun q => q z, by show ¬ n = 40; omega⟩)]) ⟨?_, ?_⟩ ?_)
      · exact bunOK_add hBO' hn40 hc hr hl (by omega) htk
      · exact noOp_add hNo' hlow
      · exact hA'
  · obtain ⟨g1, w1, hw1, hw2⟩ := fine_89 hF hk
    have hst := @stp_89 tt wr B p (n, col, row, len, srt, thk, L) hk
    refine sp_figV (q := 1) hm hT g1 w1 ⟨v60, ?_⟩
    rw [hk]
    refine nn (by decide) (yy rfl ?_)
    refine sp_yearsC q2 q4 hn hCe q13 (fun c r => (q18 c r).2) ⟨ha2, hZ, hLy⟩ (fun b r hb hr => ((hOK b hb).2.2.2.2.2 r).2 hr) (fun b r hb => ((hOK b hb).2.2.2.2.2 r).1) (fun b hb => (hOK b hb).1) ⟨hw1, by omega⟩ (fun re' l' ho' hS' => ?_)
    have hb := totY_le (n := n) (col := col) (wr := wr) (L := L) q2 q4 (fun c r => (q18 c r).2) (fgN B p 1)
    refine neg_no (by omega) (h1 _ _ _ _ _ _ _ _ _ _ hst ⟨?_, ?_⟩ ?_)
    · exact bunOK_le hBO' (itY_le n col wr L _)
    · exact noOp_le hNo' (itY_le n col wr L _)
    · exact ⟨⟨rfl, ha1, hS'.1⟩, hS'.2.1, hS'.2.2⟩
  · obtain ⟨⟨g1, g2⟩, ⟨w1, w2⟩, hc, hw1, hw2⟩ := fine_83 q1 hF hk
    have hst := @stp_83 tt wr B p (n, col, row, len, srt, thk, L) hk
    refine sp_figV (q := 1) hm hT g1 w1 ⟨v60, ?_⟩
    rw [hk]
    refine nn (by decide) (nn (by decide) ?_)
    refine sp_figV (q := 2) hm hT g2 w2 ?_
    refine sp_stripC q2 q4 hn ⟨ha2, hZ, hLy⟩ (fun b r hb hr => ((hOK b hb).2.2.2.2.2 r).2 hr) (fun b r hb => ((hOK b hb).2.2.2.2.2 r).1) hc ⟨hw1, hw2⟩ (fun g re' l' ho' hg hS' => ?_)
    refine neg_no (by omega) (h1 _ _ _ _ _ _ _ _ _ _ hst ⟨?_, ?_⟩ ?_)
    · exact bunOK_le hBO' (itL_le n col _ L _)
    · exact noOp_le hNo' (itL_le n col _ L _)
    · exact ⟨⟨rfl, ha1, hS'.1⟩, hS'.2.1, hS'.2.2⟩
theorem sp_doneC {C R m : Nat} {tt wr : Nat → Nat → Nat} {B : Nat → Nat} {Fs Fz Mc Mr Mp : Int32} {Fcells Fw Ft Mt Mw : Nat → Int32} (hRo : RoofR C R tt wr (nI C) (nI R) Fs Fz Fcells Fw Ft Mc Mr Mp Mt Mw) {T : Nat → Int32} (hm : m ≤ 60) (hT : ∀ j, j < m → T j = nI (B j) ∧ B j < 256) (hfl : flt C R m B m 0 = -9) {s0 : BSt} (hG : GooS C R tt s0) {aL holes : Int32} {aCol aRow aLen aSrt aThk aLeft : Nat → Int32} {ly : Nat → Int64} (hS : ClsS C R s0 aL aCol aRow aLen aSrt aThk aLeft ly) {post : Int32 → Int32 → (Nat → Int32) → (Nat → Int32) → (Nat → Int32) → (Nat → Int32) → (Nat → Int32) → (Nat → Int32) → (Nat → Int64) → Int32 → Prop}
    (h : ∀ aL' aCol' aRow' aLen' aSrt' aThk' aLeft' ly' holes', GooS C R tt (doneW tt wr B m m 0 s0).2 → ClsS C R (doneW tt wr B m m 0 s0).2 aL' aCol' aRow' aLen' aSrt' aThk' aLeft' ly' → post (nI (doneW tt wr B m m 0 s0).1) aL' aCol' aRow' aLen' aSrt' aThk' aLeft' ly' holes') : zl11 (bd_X7_done_23 (nI C) (nI R) Fz Fcells Fw Ft (nI m) T post) 0 0 aL aCol aRow aLen aSrt aThk aLeft ly holes := by
  refine ⟨fun x y a1 a2 a3 a4 a5 a6 a7 a8 _ => ∃ q p f s, x = nI q ∧ y = nI p ∧ p ≤ 66 ∧ m ≤ p + f ∧ flt C R m B f p = -9 ∧ GooS C R tt s ∧ ClsS C R s a1 a2 a3 a4 a5 a6 a7 a8 ∧ (doneW tt wr B m m 0 s0).1 = q + (doneW tt wr B m f p s).1 ∧ (doneW tt wr B m m 0 s0).2 = (doneW tt wr B m f p s).2, fun x y a1 a2 a3 a4 a5 a6 a7 a8 a9 => 100 - y.toNatClampNeg, ⟨0, 0, m, s0, rfl, rfl, by omega, by omega, hfl, hG, hS, (Nat.zero_add _).symm, rfl⟩, ?_⟩
  rintro x y a1 a2 a3 a4 a5 a6 a7 a8 a9 ⟨q, p, f, s, rfl, rfl, hp66, hpf, hV, hG2, hS2, hd1, hd2⟩
  unfold bd_X7_done_23
  refine br_le (by omega) (by omega) (fun q1 => ?_) (fun q1 => ?_)
  · have e : doneW tt wr B m f p s = (0, s) := by
      cases f with
      | zero => rfl
      | succ f => rw [doneW, if_pos q1]
    rw [e] at hd1 hd2
    have := h a1 a2 a3 a4 a5 a6 a7 a8 a9 (by rw [hd2]; exact hG2) (by rw [hd2]; exact hS2)
    rw [hd1] at this
    exact this
  · cases f with
    | zero => omega
    | succ f =>
      obtain ⟨f1, f2, f3⟩ := flt_fine hm q1 hV
      have hF : FineP C R m B p := fun j hj => fig_val (fun j hj => (hT j hj).2) f2 hj
      rw [doneW, if_neg (by omega)] at hd1 hd2
      refine sp_carryOut hRo hm hT q1 f1 hF hG2 hS2 (fun hz => ?_) (fun s' b1 b2 b3 b4 b5 b6 b7 b8 b9 hz hG3 hS3 => ?_)
      · rw [hz] at hd1 hd2
        have := h a1 a2 a3 a4 a5 a6 a7 a8 a9 (by rw [hd2]; exact hG2) (by rw [hd2]; exact hS2)
        rw [hd1] at this
        exact ⟨fun _ => this, fun e => absurd rfl e⟩
      · rw [hz] at hd1 hd2
        have h5 := figN_le (B p)
        obtain ⟨t1, t2⟩ := hT p q1
        refine ⟨fun e => absurd e (by decide), fun _ => ⟨vp_in_nI (by omega) (by omega), ?_⟩⟩
        rw [nI_clamp (by omega), t1]
        refine sp_figuresOf t2 ?_
        rw [show (1 : Int32) = nI 1 from rfl, nI_add, nI_add, nI_add]
        refine ⟨⟨q + 1, p + (1 + figN (B p)), f, s', rfl, rfl, by omega, by omega, by rw [← Nat.add_assoc]; exact f3, hG3, hS3, ?_, ?_⟩, ?_⟩
        · rw [hd1, ← Nat.add_assoc p 1]
          show q + ((doneW tt wr B m f (p + 1 + figN (B p)) s').1 + 1) = q + 1 + _
          omega
        · rw [hd2, ← Nat.add_assoc p 1]
        · show 100 - (nI (p + (1 + figN (B p)))).toNatClampNeg < 100 - (nI p).toNatClampNeg
          rw [nI_clamp (by omega), nI_clamp (by omega)]
          omega
