/-! PAIRS M: when -/
theorem pu_when {F_columns : Int32} {F_rows : Int32} {F_steepness : Int32} {F_size : Int32} {F_cells : Nat → Int32} {F_wearing : Nat → Int32} {F_turning : Nat → Int32} {c_laid : Int32} {c_columns : Nat → Int32} {c_rows : Nat → Int32} {c_lengths : Nat → Int32} {c_sorts : Nat → Int32} {c_thicknesses : Nat → Int32} {c_remains : Nat → Int32} {c_lying : Nat → Int64} {k0_laid : Int32} {k0_columns : Nat → Int32} {k0_rows : Nat → Int32} {k0_lengths : Nat → Int32} {k0_sorts : Nat → Int32} {k0_thicknesses : Nat → Int32} {k0_remains : Nat → Int32} {k0_lying : Nat → Int64} {k1_laid : Int32} {k1_columns : Nat → Int32} {k1_rows : Nat → Int32} {k1_lengths : Nat → Int32} {k1_sorts : Nat → Int32} {k1_thicknesses : Nat → Int32} {k1_remains : Nat → Int32} {k1_lying : Nat → Int64} {S_isKept : Nat → Int32} {Ag_from : Nat → Int32} {Ag_to : Nat → Int32} {T_length : Int32} {T_bytes : Nat → Int32} {M_columns : Int32} {M_rows : Int32} {M_pitch : Int32} {M_turns : Nat → Int32} {M_wears : Nat → Int32} {M_laid : Int32} {M_bCol : Nat → Int32} {M_bRow : Nat → Int32} {M_bLong : Nat → Int32} {M_bSort : Nat → Int32} {M_bThick : Nat → Int32} {M_left : Nat → Int32} {M_keptLaid : Nat → Int32} {M_isKept : Nat → Int32} {M_keptCol : Nat → Int32} {M_keptRow : Nat → Int32} {M_keptLong : Nat → Int32} {M_keptSort : Nat → Int32} {M_keptThick : Nat → Int32} {M_keptLeft : Nat → Int32} {M_froms : Nat → Int32} {M_tos : Nat → Int32} {M_text : Nat → Int32} {M_textSize : Int32} {Ag_years : Nat → Int32} {M_when : Nat → Int32} (hR : Rel F_columns F_rows F_steepness F_size F_cells F_wearing F_turning c_laid c_columns c_rows c_lengths c_sorts c_thicknesses c_remains c_lying k0_laid k0_columns k0_rows k0_lengths k0_sorts k0_thicknesses k0_remains k0_lying k1_laid k1_columns k1_rows k1_lengths k1_sorts k1_thicknesses k1_remains k1_lying S_isKept Ag_from Ag_to T_length T_bytes M_columns M_rows M_pitch M_turns M_wears M_laid M_bCol M_bRow M_bLong M_bSort M_bThick M_left M_keptLaid M_isKept M_keptCol M_keptRow M_keptLong M_keptSort M_keptThick M_keptLeft M_froms M_tos M_text M_textSize) (l1 : Int32) (l2 : Int32) : wp_X7_when F_rows c_laid c_columns c_sorts c_remains c_lying Ag_from Ag_to Ag_years l1 l2 (fun (r : Int32) (Ag_years' : Nat → Int32) => wp_X8_when M_laid M_bCol M_bSort M_left M_froms M_tos M_when l1 l2 (fun (r' : Int32) (M_thrown' : Int32) (M_when' : Nat → Int32) => r = r' ∧ Rel F_columns F_rows F_steepness F_size F_cells F_wearing F_turning c_laid c_columns c_rows c_lengths c_sorts c_thicknesses c_remains c_lying k0_laid k0_columns k0_rows k0_lengths k0_sorts k0_thicknesses k0_remains k0_lying k1_laid k1_columns k1_rows k1_lengths k1_sorts k1_thicknesses k1_remains k1_lying S_isKept Ag_from Ag_to T_length T_bytes M_columns M_rows M_pitch M_turns M_wears M_laid M_bCol M_bRow M_bLong M_bSort M_bThick M_left M_keptLaid M_isKept M_keptCol M_keptRow M_keptLong M_keptSort M_keptThick M_keptLeft M_froms M_tos M_text M_textSize)) := by
  obtain ⟨C, R, tt, wr, n, col, row, len, srt, thk, L, hRo, hCu, hS0, hS1, hAg, hTx⟩ := id hR
  obtain ⟨-, h2, -, h4, rfl, rfl, rfl, rfl, -⟩ := id hRo
  have hB := CurR.B h2 hCu
  obtain ⟨⟨⟨rfl, ha1, ha2⟩, hZ, hLy⟩, ⟨rfl, hb1, hb2⟩, ⟨hn, hOK⟩, hNo⟩ := id hCu
  obtain ⟨f, t, g1, g2, g3⟩ := ages_nat hAg
  have hz : ∀ b r, b < n → R ≤ r → L b r = 0 := fun b r hb hr => ((hOK b hb).2.2.2.2.2 r).2 hr
  unfold wp_X7_when
  rcases nI_or l1 n with ⟨b, hb, rfl⟩ | hno
  · refine sp_wasLaid (by omega) (fun _ => t10 ?_) (fun z => absurd ⟨b, hb, rfl⟩ z)
    refine sp_remainsOf (by omega) (fun r hr => ha2 b r hb hr) ?_
    have h9 : sm (L b) 6 ≤ 9 * 6 := sm_le (fun r _ => ((hOK b hb).2.2.2.2.2 r).1)
    refine br_neq (b := 0) (by omega) (by omega) (fun e => ?_) (fun e => ?_)
    · refine sp_firstWrong h2 h4 hn (fun b hb => ⟨(ha1 b hb).1, (hOK b hb).1⟩) (fun b hb => ⟨(ha1 b hb).2.2.2.1, (hOK b hb).2.2.2.1⟩) hz hLy (fun s hs => ⟨(g1 s hs).1, (g1 s hs).2.1⟩) g2 g3 (fun v Y hv hY => ?_)
      have model : ∀ post : Int32 → Int32 → (Nat → Int32) → Prop, (v ≠ -9 → ∀ Y', post (-9) 0 Y') → (v = -9 → l2 = 0 → ∀ Y', post (nI (eaE (fun b => f (srt b)) (overM col L) b)) 0 Y') → (v = -9 → ¬ l2 = 0 → ∀ Y', post (nI (laE n (fun b => t (srt b)) (overM col L) b)) 0 Y') → wp_X8_when (nI n) M_bCol M_bSort M_left M_froms M_tos M_when (nI b) l2 post := by
        intro post p1 p2 p3
        unfold wp_X8_when
        refine sp_noBundle (by omega) (fun _ => f01 ?_) (fun z => absurd ⟨b, hb, rfl⟩ z)
        refine sp_leftOf hb (by omega) (fun r hr => hb2 b r hb hr) ?_
        refine br_neq (b := 0) (by omega) (by omega) (fun _ => ?_) (fun z => absurd z e)
        refine sp_layEarliest (by omega) hB (fun b hb => ⟨(hb1 b hb).2.2.2.1, (hOK b hb).2.2.2.1⟩) (fun s hs => ⟨(g1 s hs).2.2.1, (g1 s hs).2.2.2⟩) g2 g3 (fun v' Y' hv' hY' => ?_)
        obtain rfl := hv.uniq hv'
        refine ⟨fun z => ⟨fun z2 => ⟨vp_in_nI (by omega) (by omega), ?_⟩, fun z2 => ?_⟩, fun z => p1 z Y'⟩
        · rw [nI_clamp (by omega), hY' b hb]; exact p2 z z2 Y'
        · refine sp_layLatest (by omega) hB (fun b hb => ⟨(hb1 b hb).2.2.2.1, (hOK b hb).2.2.2.1⟩) (fun s hs => (g1 s hs).2.2.2) g3 (fun Y2 hY2 => ⟨vp_in_nI (by omega) (by omega), ?_⟩)
          rw [nI_clamp (by omega), hY2 b hb]; exact p3 z z2 Y2
      have bad : ∀ {P : Prop}, v = -9 → v ≠ -9 → P := fun a c => absurd a c
      refine ⟨fun z => ⟨fun z2 => ⟨vp_in_nI (by omega) (by omega), ?_⟩, fun z2 => ?_⟩, fun z => ?_⟩
      · rw [nI_clamp (by omega), hY z b hb]
        show wp_X8_when _ _ _ _ _ _ _ _ _ _
        refine model _ (fun c => bad z c) (fun _ _ _ => ⟨rfl, hR⟩) (fun _ c => absurd z2 c)
      · refine sp_latest h2 h4 hn (fun b hb => ⟨(ha1 b hb).1, (hOK b hb).1⟩) (fun b hb => ⟨(ha1 b hb).2.2.2.1, (hOK b hb).2.2.2.1⟩) hz hLy (fun s hs => (g1 s hs).2.1) g3 hb (fun Y2 => ?_)
        show wp_X8_when _ _ _ _ _ _ _ _ _ _
        refine model _ (fun c => bad z c) (fun _ c => absurd c z2) (fun _ _ _ => ⟨rfl, hR⟩)
      · show wp_X8_when _ _ _ _ _ _ _ _ _ _
        refine model _ (fun _ _ => ⟨rfl, hR⟩) (fun c => bad c z) (fun c => bad c z)
    · unfold wp_X8_when
      refine sp_noBundle (by omega) (fun _ => f01 ?_) (fun z => absurd ⟨b, hb, rfl⟩ z)
      refine sp_leftOf hb (by omega) (fun r hr => hb2 b r hb hr) ?_
      exact br_neq (b := 0) (by omega) (by omega) (fun z => absurd e z) (fun _ => ⟨rfl, hR⟩)
  · refine sp_wasLaid (by omega) (fun z => absurd z hno) (fun _ => f10 ?_)
    unfold wp_X8_when
    exact sp_noBundle (by omega) (fun z => absurd z hno) (fun _ => t01 ⟨rfl, hR⟩)
