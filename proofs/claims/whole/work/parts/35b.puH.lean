/-! PAIRS H: heavy -/
theorem pu_heavy {F_columns : Int32} {F_rows : Int32} {F_steepness : Int32} {F_size : Int32} {F_cells : Nat → Int32} {F_wearing : Nat → Int32} {F_turning : Nat → Int32} {c_laid : Int32} {c_columns : Nat → Int32} {c_rows : Nat → Int32} {c_lengths : Nat → Int32} {c_sorts : Nat → Int32} {c_thicknesses : Nat → Int32} {c_remains : Nat → Int32} {c_lying : Nat → Int64} {k0_laid : Int32} {k0_columns : Nat → Int32} {k0_rows : Nat → Int32} {k0_lengths : Nat → Int32} {k0_sorts : Nat → Int32} {k0_thicknesses : Nat → Int32} {k0_remains : Nat → Int32} {k0_lying : Nat → Int64} {k1_laid : Int32} {k1_columns : Nat → Int32} {k1_rows : Nat → Int32} {k1_lengths : Nat → Int32} {k1_sorts : Nat → Int32} {k1_thicknesses : Nat → Int32} {k1_remains : Nat → Int32} {k1_lying : Nat → Int64} {S_isKept : Nat → Int32} {Ag_from : Nat → Int32} {Ag_to : Nat → Int32} {T_length : Int32} {T_bytes : Nat → Int32} {M_columns : Int32} {M_rows : Int32} {M_pitch : Int32} {M_turns : Nat → Int32} {M_wears : Nat → Int32} {M_laid : Int32} {M_bCol : Nat → Int32} {M_bRow : Nat → Int32} {M_bLong : Nat → Int32} {M_bSort : Nat → Int32} {M_bThick : Nat → Int32} {M_left : Nat → Int32} {M_keptLaid : Nat → Int32} {M_isKept : Nat → Int32} {M_keptCol : Nat → Int32} {M_keptRow : Nat → Int32} {M_keptLong : Nat → Int32} {M_keptSort : Nat → Int32} {M_keptThick : Nat → Int32} {M_keptLeft : Nat → Int32} {M_froms : Nat → Int32} {M_tos : Nat → Int32} {M_text : Nat → Int32} {M_textSize : Int32} {M_heldLaid : Int32} {M_heldCol : Nat → Int32} {M_heldRow : Nat → Int32} {M_heldLong : Nat → Int32} {M_heldSort : Nat → Int32} {M_heldThick : Nat → Int32} {M_heldLeft : Nat → Int32} (hR : Rel F_columns F_rows F_steepness F_size F_cells F_wearing F_turning c_laid c_columns c_rows c_lengths c_sorts c_thicknesses c_remains c_lying k0_laid k0_columns k0_rows k0_lengths k0_sorts k0_thicknesses k0_remains k0_lying k1_laid k1_columns k1_rows k1_lengths k1_sorts k1_thicknesses k1_remains k1_lying S_isKept Ag_from Ag_to T_length T_bytes M_columns M_rows M_pitch M_turns M_wears M_laid M_bCol M_bRow M_bLong M_bSort M_bThick M_left M_keptLaid M_isKept M_keptCol M_keptRow M_keptLong M_keptSort M_keptThick M_keptLeft M_froms M_tos M_text M_textSize) (l1 : Int32) (l2 : Int32) : wp_X7_heavy F_columns F_rows c_laid c_remains c_lying l1 l2 (fun (r : Int32)  => wp_X8_heavy M_columns M_laid M_heldLaid M_bCol M_bRow M_bLong M_bSort M_bThick M_left M_heldCol M_heldRow M_heldLong M_heldSort M_heldThick M_heldLeft l1 l2 (fun (r' : Int32) (M_thrown' : Int32) (M_laid' : Int32) (M_bCol' : Nat → Int32) (M_bRow' : Nat → Int32) (M_bLong' : Nat → Int32) (M_bSort' : Nat → Int32) (M_bThick' : Nat → Int32) (M_left' : Nat → Int32) (M_heldLaid' : Int32) (M_heldCol' : Nat → Int32) (M_heldRow' : Nat → Int32) (M_heldLong' : Nat → Int32) (M_heldSort' : Nat → Int32) (M_heldThick' : Nat → Int32) (M_heldLeft' : Nat → Int32) => r = r' ∧ Rel F_columns F_rows F_steepness F_size F_cells F_wearing F_turning c_laid c_columns c_rows c_lengths c_sorts c_thicknesses c_remains c_lying k0_laid k0_columns k0_rows k0_lengths k0_sorts k0_thicknesses k0_remains k0_lying k1_laid k1_columns k1_rows k1_lengths k1_sorts k1_thicknesses k1_remains k1_lying S_isKept Ag_from Ag_to T_length T_bytes M_columns M_rows M_pitch M_turns M_wears M_laid' M_bCol' M_bRow' M_bLong' M_bSort' M_bThick' M_left' M_keptLaid M_isKept M_keptCol M_keptRow M_keptLong M_keptSort M_keptThick M_keptLeft M_froms M_tos M_text M_textSize)) := by
  obtain ⟨C, R, tt, wr, n, col, row, len, srt, thk, L, hRo, hCu, hR2⟩ := id hR
  obtain ⟨-, h2, -, h4, rfl, rfl, rfl, rfl, -⟩ := id hRo
  obtain ⟨⟨⟨rfl, ha1, ha2⟩, hZ, hLy⟩, hMb, hBO, hNo⟩ := id hCu
  obtain ⟨rfl, hb1, hb2⟩ := id hMb
  obtain ⟨hn, hOK⟩ := id hBO
  unfold wp_X7_heavy wp_X8_heavy
  rcases nI_or l1 C with ⟨c, hc, rfl⟩ | hno
  · refine sp_hasColumnY (by omega) hc (t10 ?_)
    rcases num_cases l2 0 999 (by omega) with ⟨w, hw1, hw2, rfl⟩ | hno
    · refine sp_withY rfl (a := 0) (b := 999) rfl rfl (by omega) hw1 hw2 (t10 ?_)
      refine sp_tooMany h2 h4 hn ⟨ha2, hZ, hLy⟩ (fun b r hb hr => ((hOK b hb).2.2.2.2.2 r).2 hr) (fun b r hb => ((hOK b hb).2.2.2.2.2 r).1) hc (by omega) (fun s hs0 hs1 hs2 hs3 => ?_)
      refine sp_noColumnY (by omega) hc (f01 ?_)
      refine sp_minY rfl (a := 0) (b := 999) rfl rfl (by omega) hw1 hw2 (t10 ?_)
      refine sp_hold (fun kc kr kl ks kt kL g1 g2 g3 g4 g5 g6 => ?_)
      refine zu2_1 s (by omega) (fun k B => LeftM n (itL n col c L k) B) 0 rfl (by omega) (fun b r hb hr => ⟨hb2 b r hb hr, ((hOK b hb).2.2.2.2.2 r).1⟩) (fun k B rec hk hJ hrec => ?_)
      unfold bd_X8_heavy_36
      have hW : wgtM n col (itL n col c L k) c < 2 ^ 30 := by
        have hb : ∀ b, b < n → (if col b = c then sm (itL n col c L k b) 6 else 0) ≤ 54 := by
          intro b hb
          by_cases e : col b = c
          · rw [if_pos e]
            exact sm_le (c := 9) (fun r _ => Nat.le_trans (itL_le n col c L k b r) ((hOK b hb).2.2.2.2.2 r).1)
          · rw [if_neg e]; omega
        have := sm_le hb
        unfold wgtM
        omega
      refine sp_weightOf ⟨by omega, fun b hb => ⟨(hb1 b hb).1, by have := (hOK b hb).1; omega⟩, hJ⟩ (by omega) ?_
      refine br_le (by omega) (by omega) (fun q => ?_) (fun q => ?_)
      · have hk1 : k = s := by
          by_cases e : k < s
          · have := hs1 k e; omega
          · omega
        subst hk1
        refine sp_back (fun bc br bl bs bt bL q1 q2 q3 q4 q5 q6 => ⟨rfl, C, R, tt, wr, n, col, row, len, srt, thk, L, hRo, ⟨⟨⟨rfl, ha1, ha2⟩, hZ, hLy⟩, ?_, hBO, hNo⟩, hR2⟩)
        exact bunA_congr hMb hn (fun j hj => (q1 j (by omega)).trans (g1 j (by omega))) (fun j hj => (q2 j (by omega)).trans (g2 j (by omega))) (fun j hj => (q3 j (by omega)).trans (g3 j (by omega))) (fun j hj => (q4 j (by omega)).trans (g4 j (by omega))) (fun j hj => (q5 j (by omega)).trans (g5 j (by omega))) (fun j hj => (q6 j (by omega)).trans (g6 j (by omega)))
      · have hks : k < s := by
          by_cases e : k < s
          · exact e
          · have hk1 : k = s := by omega
            subst hk1
            omega
        refine sp_takeOne (by omega) (fun b hb => ⟨(hb1 b hb).1, by have := (hOK b hb).1; omega⟩) hJ (by omega) (fun ht => absurd ht (hs3 k hks)) (fun b B' ht hB' => ?_)
        rw [nI_1]
        refine hrec _ hks ?_
        rw [itL, ht]
        exact hB'
    · refine sp_withN (a := 0) (b := 999) rfl rfl (by omega) (by omega) hno (f10 ?_)
      refine sp_noColumnY (by omega) hc (f01 ?_)
      exact sp_minX (a := 0) (b := 999) rfl rfl (by omega) (by omega) hno (f10 ⟨rfl, hR⟩)
  · exact sp_hasColumnN (by omega) hno (f10 (sp_noColumnN (by omega) hno (t01 ⟨rfl, hR⟩)))
