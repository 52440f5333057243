/-! PAIRS N: done -/
theorem sp_doneM {C R m : Nat} {tt wr : Nat → Nat → Nat} {B : Nat → Nat} {Fc Fr Fs Fz : Int32} {Fcells Fw Ft Mt Mw : Nat → Int32} (hRo : RoofR C R tt wr Fc Fr Fs Fz Fcells Fw Ft (nI C) (nI R) Fs Mt Mw) {T : Nat → Int32} (hm : m ≤ 60) (hT : ∀ j, j < m → T j = nI (B j) ∧ B j < 256) (hfl : flt C R m B m 0 = -9) {s0 : BSt} (hG : GooS C R tt s0) {aL : Int32} {aCol aRow aLen aSrt aThk aLeft tops : Nat → Int32} (hS : RefS s0 aL aCol aRow aLen aSrt aThk aLeft) {post : Int32 → Int32 → Int32 → (Nat → Int32) → (Nat → Int32) → (Nat → Int32) → (Nat → Int32) → (Nat → Int32) → (Nat → Int32) → (Nat → Int32) → Prop}
    (h : ∀ aL' aCol' aRow' aLen' aSrt' aThk' aLeft' tops', RefS (doneW tt wr B m m 0 s0).2 aL' aCol' aRow' aLen' aSrt' aThk' aLeft' → post (nI (doneW tt wr B m m 0 s0).1) 0 aL' aCol' aRow' aLen' aSrt' aThk' aLeft' tops') : zl10 (bd_X8_done_21 (nI C) (nI R) (nI m) Mt Mw T post) 0 0 aL aCol aRow aLen aSrt aThk aLeft tops := by
  have hM := hRo.M
  obtain ⟨q1, q2, q3, q4, -, -, -, -, -, -, -, -, -, -, q15, q16, q17, q18, -⟩ := id hRo
  refine ⟨fun x y a1 a2 a3 a4 a5 a6 a7 _ => ∃ q p f s, x = nI q ∧ y = nI p ∧ p ≤ 66 ∧ m ≤ p + f ∧ flt C R m B f p = -9 ∧ GooS C R tt s ∧ RefS s a1 a2 a3 a4 a5 a6 a7 ∧ (doneW tt wr B m m 0 s0).1 = q + (doneW tt wr B m f p s).1 ∧ (doneW tt wr B m m 0 s0).2 = (doneW tt wr B m f p s).2, fun x y a1 a2 a3 a4 a5 a6 a7 a8 => 100 - y.toNatClampNeg, ⟨0, 0, m, s0, rfl, rfl, by omega, by omega, hfl, hG, hS, (Nat.zero_add _).symm, rfl⟩, ?_⟩
  rintro x y a1 a2 a3 a4 a5 a6 a7 a8 ⟨q, p, f, s, rfl, rfl, hp66, hpf, hV, hG2, hS2, hd1, hd2⟩
  have stop : doneW tt wr B m f p s = (0, s) → post (nI q) 0 a1 a2 a3 a4 a5 a6 a7 a8 := fun e => by
    rw [e] at hd1 hd2
    have := h a1 a2 a3 a4 a5 a6 a7 a8 (by rw [hd2]; exact hS2)
    rw [hd1] at this
    exact this
  unfold bd_X8_done_21
  refine br_le (by omega) (by omega) (fun qq => stop ?_) (fun qq => ?_)
  · cases f with
    | zero => rfl
    | succ f => rw [doneW, if_pos qq]
  · cases f with
    | zero => omega
    | succ f =>
      obtain ⟨f1, f2, f3⟩ := flt_fine hm qq hV
      have hF : FineP C R m B p := fun j hj => fig_val (fun j hj => (hT j hj).2) f2 hj
      have h5 := figN_le (B p)
      obtain ⟨t1, t2⟩ := hT p qq
      have go : ∀ (rec : Int32 → Int32 → Int32 → (Nat → Int32) → (Nat → Int32) → (Nat → Int32) → (Nat → Int32) → (Nat → Int32) → (Nat → Int32) → (Nat → Int32) → Prop) s' b1 b2 b3 b4 b5 b6 b7 b8, stpW tt wr B p s = some s' → GooS C R tt s' → RefS s' b1 b2 b3 b4 b5 b6 b7 → (∀ x y a1 a2 a3 a4 a5 a6 a7 a8, (∃ q p f s, x = nI q ∧ y = nI p ∧ p ≤ 66 ∧ m ≤ p + f ∧ flt C R m B f p = -9 ∧ GooS C R tt s ∧ RefS s a1 a2 a3 a4 a5 a6 a7 ∧ (doneW tt wr B m m 0 s0).1 = q + (doneW tt wr B m f p s).1 ∧ (doneW tt wr B m m 0 s0).2 = (doneW tt wr B m f p s).2) → 100 - y.toNatClampNeg < 100 - (nI p).toNatClampNeg → rec x y a1 a2 a3 a4 a5 a6 a7 a8) → jn_X8_done_189 (nI q) (nI p) rec (nI (B p)) b1 b2 b3 b4 b5 b6 b7 b8 := by
        intro rec s' b1 b2 b3 b4 b5 b6 b7 b8 hz hG3 hS3 hrec
        rw [doneW, if_neg (by omega), hz] at hd1 hd2
        unfold jn_X8_done_189
        refine sp_figures t2 ?_
        rw [if_neg f1, show (1 : Int32) = nI 1 from rfl, nI_add, nI_add, nI_add]
        refine hrec _ _ _ _ _ _ _ _ _ _ ⟨q + 1, p + (1 + figN (B p)), f, s', rfl, rfl, by omega, by omega, by rw [← Nat.add_assoc]; exact f3, hG3, hS3, ?_, ?_⟩ ?_
        · rw [hd1, ← Nat.add_assoc p 1]
          show q + ((doneW tt wr B m f (p + 1 + figN (B p)) s').1 + 1) = q + 1 + _
          omega
        · rw [hd2, ← Nat.add_assoc p 1]
        · rw [nI_clamp (by omega), nI_clamp (by omega)]
          omega
      have none0 : stpW tt wr B p s = none → doneW tt wr B m (f + 1) p s = (0, s) := fun hz => by
        rw [doneW, if_neg (by omega), hz]
      obtain ⟨n, col, row, len, srt, thk, L⟩ := s
      obtain ⟨hBO, hNo⟩ := hG2
      have hA : BunA n col row len srt thk L a1 a2 a3 a4 a5 a6 a7 := hS2
      obtain ⟨e1, hb1, hb2⟩ := id hA
      subst e1
      have hBO' : BunOK C R n col row len srt thk L := hBO
      have hNo' : NoOp tt n col L := hNo
      obtain ⟨hn, hOK⟩ := id hBO'
      rw [nI_clamp (show p < 2 ^ 31 by omega), t1]
      refine ⟨vp_in_nI (by omega) (by omega), ?_⟩
      rcases fig_kind f1 with hk | hk | hk
      · obtain ⟨⟨g1, g2, g3, g4, g5⟩, ⟨w1, w2, w3, w4, w5⟩, hc, hr, hl, hs, htk⟩ := fine_66 q1 q3 hF hk
        have hst := @stp_66 tt wr B p (n, col, row, len, srt, thk, L) hk
        rw [hk] at go ⊢
        refine yx rfl ?_
        refine sp_atV (q := 1) hm hT g1 w1 ?_
        refine sp_atV (q := 2) hm hT g2 w2 ?_
        rw [nI_6]
        refine ⟨vp_in_nI (by omega) (by omega), ?_⟩
        rw [nI_clamp (by omega), q16 _ _ (by omega) (by omega)]
        by_cases z : tt (fgN B p 1) (fgN B p 2) = 0
        · rw [z]
          refine yx rfl ?_
          by_cases hn40 : n < 40
          · refine nx (fun e => absurd (nI_inj (b := 40) (by omega) (by omega) e) (by omega)) ?_
            refine sp_atV (q := 1) hm hT g1 w1 ?_
            refine sp_atV (q := 2) hm hT g2 w2 ?_
            refine sp_atV (q := 3) hm hT g3 w3 ?_
            refine sp_atV (q := 4) hm hT g4 w4 ?_
            refine sp_atV (q := 5) hm hT g5 w5 ?_
            refine sp_put hM hA (by omega) hc hr hl htk (lowF_ok z hl) (fun mLeft' hl' hfar => ?_)
            refine go _ _ _ _ _ _ _ _ _ _ (by rw [hst, if_neg (by simp only [not_or]; exact ⟨fun q => q z, by show ¬ n = 40; omega⟩)]) ⟨?_, ?_⟩ ?_ (fun x y a1 a2 a3 a4 a5 a6 a7 a8 u1 u2 => ⟨u1, u2⟩)
            · exact bunOK_add hBO' hn40 hc hr hl (by omega) htk
            · exact noOp_add hNo' (lowF_ok z hl)
            · exact bunA_add hA hl'
          · refine yx (by rw [show n = 40 by omega]; rfl) (stop (none0 ?_))
            rw [hst, if_pos (Or.inr (by show n = 40; omega))]
        · have h2 := q17 (fgN B p 1) (fgN B p 2)
          refine nx (fun e => z (nI_inj (b := 0) (by omega) (by omega) e)) (stop (none0 ?_))
          rw [hst, if_pos (Or.inl z)]
      · obtain ⟨g1, w1, hw1, hw2⟩ := fine_89 hF hk
        have hst := @stp_89 tt wr B p (n, col, row, len, srt, thk, L) hk
        rw [hk] at go ⊢
        refine nx (by decide) (yx rfl ?_)
        refine zu3_1 (fgN B p 1) (by omega) (fun k Bl T' => LeftM n (itY n col wr L k) Bl) 0 rfl (by omega) (fun b r hb hr => ⟨hb2 b r hb hr, ((hOK b hb).2.2.2.2.2 r).1⟩) (fun k Bl T' rec2 hk2 hJ2 hrec2 => ?_)
        unfold bd_X8_done_130
        refine sp_atV (q := 1) hm hT g1 w1 ?_
        refine br_le (by omega) (by omega) (fun z => ?_) (fun z => ?_)
        · have ek : k = fgN B p 1 := by omega
          rw [nI_clamp (show p < 2 ^ 31 by omega), t1, hk]
          refine go _ _ _ _ _ _ _ _ _ _ hst ⟨?_, ?_⟩ ?_ (fun x y a1 a2 a3 a4 a5 a6 a7 a8 u1 u2 => ⟨u1, u2⟩)
          · exact bunOK_le hBO' (itY_le n col wr L _)
          · exact noOp_le hNo' (itY_le n col wr L _)
          · refine ⟨rfl, hb1, fun b r hb hr => ?_⟩
            have := (hJ2 b r hb hr).1
            rw [ek] at this
            exact this
        · refine sp_passYear q2 q4 (by omega) q15 (fun c r => (q18 c r).2) (fun b hb => ⟨(hb1 b hb).1, (hOK b hb).1⟩) hJ2 (fun b r hb hr => le_zero_of (itY_le n col wr L k b r) (((hOK b hb).2.2.2.2.2 r).2 hr)) (fun B' T' hL' => ?_)
          rw [nI_1]
          exact hrec2 _ _ z hL'
      · obtain ⟨⟨g1, g2⟩, ⟨w1, w2⟩, hc, hw1, hw2⟩ := fine_83 q1 hF hk
        have hst := @stp_83 tt wr B p (n, col, row, len, srt, thk, L) hk
        rw [hk] at go ⊢
        refine nx (by decide) (nx (by decide) ?_)
        refine zu2_1 (fgN B p 2) (by omega) (fun k Bl => LeftM n (itL n col (fgN B p 1) L k) Bl) 0 rfl (by omega) (fun b r hb hr => ⟨hb2 b r hb hr, ((hOK b hb).2.2.2.2.2 r).1⟩) (fun k Bl rec2 hk2 hJ2 hrec2 => ?_)
        unfold bd_X8_done_159
        refine sp_atV (q := 2) hm hT g2 w2 ?_
        refine br_le (by omega) (by omega) (fun z => ?_) (fun z => ?_)
        · have ek : k = fgN B p 2 := by omega
          rw [nI_clamp (show p < 2 ^ 31 by omega), t1, hk]
          refine go _ _ _ _ _ _ _ _ _ _ hst ⟨?_, ?_⟩ ?_ (fun x y a1 a2 a3 a4 a5 a6 a7 a8 u1 u2 => ⟨u1, u2⟩)
          · exact bunOK_le hBO' (itL_le n col _ L _)
          · exact noOp_le hNo' (itL_le n col _ L _)
          · refine ⟨rfl, hb1, fun b r hb hr => ?_⟩
            have := (hJ2 b r hb hr).1
            rw [ek] at this
            exact this
        · refine sp_atV (q := 1) hm hT g1 w1 ?_
          rw [nI_1]
          refine sp_takeOne (by omega) (fun b hb => ⟨(hb1 b hb).1, by have := (hOK b hb).1; omega⟩) hJ2 (by omega) (fun ht => hrec2 _ z ?_) (fun b B' ht hB' => hrec2 _ z ?_)
          · rw [itL, ht]; exact hJ2
          · rw [itL, ht]; exact hB'
theorem pu_done {F_columns : Int32} {F_rows : Int32} {F_steepness : Int32} {F_size : Int32} {F_cells : Nat → Int32} {F_wearing : Nat → Int32} {F_turning : Nat → Int32} {c_laid : Int32} {c_columns : Nat → Int32} {c_rows : Nat → Int32} {c_lengths : Nat → Int32} {c_sorts : Nat → Int32} {c_thicknesses : Nat → Int32} {c_remains : Nat → Int32} {c_lying : Nat → Int64} {k0_laid : Int32} {k0_columns : Nat → Int32} {k0_rows : Nat → Int32} {k0_lengths : Nat → Int32} {k0_sorts : Nat → Int32} {k0_thicknesses : Nat → Int32} {k0_remains : Nat → Int32} {k0_lying : Nat → Int64} {k1_laid : Int32} {k1_columns : Nat → Int32} {k1_rows : Nat → Int32} {k1_lengths : Nat → Int32} {k1_sorts : Nat → Int32} {k1_thicknesses : Nat → Int32} {k1_remains : Nat → Int32} {k1_lying : Nat → Int64} {S_isKept : Nat → Int32} {Ag_from : Nat → Int32} {Ag_to : Nat → Int32} {T_length : Int32} {T_bytes : Nat → Int32} {M_columns : Int32} {M_rows : Int32} {M_pitch : Int32} {M_turns : Nat → Int32} {M_wears : Nat → Int32} {M_laid : Int32} {M_bCol : Nat → Int32} {M_bRow : Nat → Int32} {M_bLong : Nat → Int32} {M_bSort : Nat → Int32} {M_bThick : Nat → Int32} {M_left : Nat → Int32} {M_keptLaid : Nat → Int32} {M_isKept : Nat → Int32} {M_keptCol : Nat → Int32} {M_keptRow : Nat → Int32} {M_keptLong : Nat → Int32} {M_keptSort : Nat → Int32} {M_keptThick : Nat → Int32} {M_keptLeft : Nat → Int32} {M_froms : Nat → Int32} {M_tos : Nat → Int32} {M_text : Nat → Int32} {M_textSize : Int32} {c_holes : Int32} {M_tops : Nat → Int32} (hR : Rel F_columns F_rows F_steepness F_size F_cells F_wearing F_turning c_laid c_columns c_rows c_lengths c_sorts c_thicknesses c_remains c_lying k0_laid k0_columns k0_rows k0_lengths k0_sorts k0_thicknesses k0_remains k0_lying k1_laid k1_columns k1_rows k1_lengths k1_sorts k1_thicknesses k1_remains k1_lying S_isKept Ag_from Ag_to T_length T_bytes M_columns M_rows M_pitch M_turns M_wears M_laid M_bCol M_bRow M_bLong M_bSort M_bThick M_left M_keptLaid M_isKept M_keptCol M_keptRow M_keptLong M_keptSort M_keptThick M_keptLeft M_froms M_tos M_text M_textSize)  : wp_X7_done F_columns F_rows F_size F_cells F_wearing F_turning c_laid c_holes c_columns c_rows c_lengths c_sorts c_thicknesses c_remains c_lying T_length T_bytes  (fun (r : Int32) (c_laid' : Int32) (c_columns' : Nat → Int32) (c_rows' : Nat → Int32) (c_lengths' : Nat → Int32) (c_sorts' : Nat → Int32) (c_thicknesses' : Nat → Int32) (c_remains' : Nat → Int32) (c_lying' : Nat → Int64) (c_holes' : Int32) => wp_X8_done M_columns M_rows M_laid M_textSize M_turns M_wears M_bCol M_bRow M_bLong M_bSort M_bThick M_left M_text M_tops  (fun (r' : Int32) (M_thrown' : Int32) (M_laid' : Int32) (M_bCol' : Nat → Int32) (M_bRow' : Nat → Int32) (M_bLong' : Nat → Int32) (M_bSort' : Nat → Int32) (M_bThick' : Nat → Int32) (M_left' : Nat → Int32) (M_tops' : Nat → Int32) => r = r' ∧ Rel F_columns F_rows F_steepness F_size F_cells F_wearing F_turning c_laid' c_columns' c_rows' c_lengths' c_sorts' c_thicknesses' c_remains' c_lying' k0_laid k0_columns k0_rows k0_lengths k0_sorts k0_thicknesses k0_remains k0_lying k1_laid k1_columns k1_rows k1_lengths k1_sorts k1_thicknesses k1_remains k1_lying S_isKept Ag_from Ag_to T_length T_bytes M_columns M_rows M_pitch M_turns M_wears M_laid' M_bCol' M_bRow' M_bLong' M_bSort' M_bThick' M_left' M_keptLaid M_isKept M_keptCol M_keptRow M_keptLong M_keptSort M_keptThick M_keptLeft M_froms M_tos M_text M_textSize)) := by
  obtain ⟨C, R, tt, wr, n, col, row, len, srt, thk, L, hRo, hCu, hS0, hS1, hAg, hTx⟩ := id hR
  obtain ⟨q1, q2, q3, q4, rfl, rfl, rfl, rfl, rfl, -⟩ := id hRo
  obtain ⟨hA, hMb, hBO, hNo⟩ := id hCu
  obtain ⟨m, B, rfl, rfl, hm, hT1, hT2⟩ := text_nat hTx
  unfold wp_X7_done wp_X8_done
  refine sp_firstFault q1 q2 q3 q4 hm hT1 ?_
  by_cases hfl : flt C R m B m 0 = -9
  · rw [hfl]
    refine yy rfl ?_
    refine sp_doneC hRo hm hT1 hfl (s0 := (n, col, row, len, srt, thk, L)) ⟨hBO, hNo⟩ hA (fun b1 b2 b3 b4 b5 b6 b7 b8 b9 hG' hS' => ?_)
    refine sp_faultOf q1 q2 q3 q4 hm hT2 ?_
    rw [hfl]
    refine yy rfl ?_
    refine sp_doneM hRo hm hT2 hfl (s0 := (n, col, row, len, srt, thk, L)) ⟨hBO, hNo⟩ hMb (fun d1 d2 d3 d4 d5 d6 d7 d8 hM' => ?_)
    exact ⟨rfl, C, R, tt, wr, _, _, _, _, _, _, _, hRo, ⟨hS', hM', hG'.1, hG'.2⟩, hS0, hS1, hAg, hTx⟩
  · exact nn hfl (sp_faultOf q1 q2 q3 q4 hm hT2 (nn hfl ⟨rfl, hR⟩))
