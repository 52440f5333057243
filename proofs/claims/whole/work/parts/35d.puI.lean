/-! PAIRS I: years -/
theorem pu_years {F_columns : Int32} {F_rows : Int32} {F_steepness : Int32} {F_size : Int32} {F_cells : Nat → Int32} {F_wearing : Nat → Int32} {F_turning : Nat → Int32} {c_laid : Int32} {c_columns : Nat → Int32} {c_rows : Nat → Int32} {c_lengths : Nat → Int32} {c_sorts : Nat → Int32} {c_thicknesses : Nat → Int32} {c_remains : Nat → Int32} {c_lying : Nat → Int64} {k0_laid : Int32} {k0_columns : Nat → Int32} {k0_rows : Nat → Int32} {k0_lengths : Nat → Int32} {k0_sorts : Nat → Int32} {k0_thicknesses : Nat → Int32} {k0_remains : Nat → Int32} {k0_lying : Nat → Int64} {k1_laid : Int32} {k1_columns : Nat → Int32} {k1_rows : Nat → Int32} {k1_lengths : Nat → Int32} {k1_sorts : Nat → Int32} {k1_thicknesses : Nat → Int32} {k1_remains : Nat → Int32} {k1_lying : Nat → Int64} {S_isKept : Nat → Int32} {Ag_from : Nat → Int32} {Ag_to : Nat → Int32} {T_length : Int32} {T_bytes : Nat → Int32} {M_columns : Int32} {M_rows : Int32} {M_pitch : Int32} {M_turns : Nat → Int32} {M_wears : Nat → Int32} {M_laid : Int32} {M_bCol : Nat → Int32} {M_bRow : Nat → Int32} {M_bLong : Nat → Int32} {M_bSort : Nat → Int32} {M_bThick : Nat → Int32} {M_left : Nat → Int32} {M_keptLaid : Nat → Int32} {M_isKept : Nat → Int32} {M_keptCol : Nat → Int32} {M_keptRow : Nat → Int32} {M_keptLong : Nat → Int32} {M_keptSort : Nat → Int32} {M_keptThick : Nat → Int32} {M_keptLeft : Nat → Int32} {M_froms : Nat → Int32} {M_tos : Nat → Int32} {M_text : Nat → Int32} {M_textSize : Int32} {c_holes : Int32} {M_tops : Nat → Int32} (hR : Rel F_columns F_rows F_steepness F_size F_cells F_wearing F_turning c_laid c_columns c_rows c_lengths c_sorts c_thicknesses c_remains c_lying k0_laid k0_columns k0_rows k0_lengths k0_sorts k0_thicknesses k0_remains k0_lying k1_laid k1_columns k1_rows k1_lengths k1_sorts k1_thicknesses k1_remains k1_lying S_isKept Ag_from Ag_to T_length T_bytes M_columns M_rows M_pitch M_turns M_wears M_laid M_bCol M_bRow M_bLong M_bSort M_bThick M_left M_keptLaid M_isKept M_keptCol M_keptRow M_keptLong M_keptSort M_keptThick M_keptLeft M_froms M_tos M_text M_textSize) (l1 : Int32) : wp_X7_years F_size F_cells F_wearing c_holes c_remains c_lying l1 (fun (r : Int32) (c_remains' : Nat → Int32) (c_lying' : Nat → Int64) (c_holes' : Int32) => wp_X8_years M_columns M_rows M_laid M_wears M_bCol M_left M_tops l1 (fun (r' : Int32) (M_thrown' : Int32) (M_left' : Nat → Int32) (M_tops' : Nat → Int32) => r = r' ∧ Rel F_columns F_rows F_steepness F_size F_cells F_wearing F_turning c_laid c_columns c_rows c_lengths c_sorts c_thicknesses c_remains' c_lying' k0_laid k0_columns k0_rows k0_lengths k0_sorts k0_thicknesses k0_remains k0_lying k1_laid k1_columns k1_rows k1_lengths k1_sorts k1_thicknesses k1_remains k1_lying S_isKept Ag_from Ag_to T_length T_bytes M_columns M_rows M_pitch M_turns M_wears M_laid M_bCol M_bRow M_bLong M_bSort M_bThick M_left' M_keptLaid M_isKept M_keptCol M_keptRow M_keptLong M_keptSort M_keptThick M_keptLeft M_froms M_tos M_text M_textSize)) := by
  obtain ⟨C, R, tt, wr, n, col, row, len, srt, thk, L, hRo, hCu, hR2⟩ := id hR
  have hCe : CellsC C R F_size F_cells := hRo.Ce
  obtain ⟨-, h2, -, h4, rfl, rfl, rfl, rfl, q9, q10, -, -, q13, -, q15, -, -, q18, -⟩ := id hRo
  obtain ⟨⟨⟨e1, ha1, ha2⟩, hZ, hLy⟩, hMb, hBO, hNo⟩ := id hCu
  obtain ⟨rfl, hb1, hb2⟩ := id hMb
  obtain ⟨hn, hOK⟩ := id hBO
  have hz : ∀ k b r, b < n → R ≤ r → itY n col wr L k b r = 0 := fun k b r hb hr => le_zero_of (itY_le n col wr L k b r) (((hOK b hb).2.2.2.2.2 r).2 hr)
  have h9 : ∀ k b r, b < n → itY n col wr L k b r ≤ 9 := fun k b r hb => Nat.le_trans (itY_le n col wr L k b r) ((hOK b hb).2.2.2.2.2 r).1
  unfold wp_X7_years wp_X8_years
  rcases num_cases l1 1 99 (by omega) with ⟨w, hw1, hw2, rfl⟩ | hno
  · refine sp_withY rfl (a := 1) (b := 99) rfl rfl (by omega) hw1 hw2 (t10 ?_)
    refine zu5_2 w (by omega) (fun k acc re l ho => acc = nI (totY C R n col wr L k) ∧ StA C R n col (itY n col wr L k) re l) 0 rfl (by omega) ⟨rfl, ha2, hZ, hLy⟩ (fun k acc re l ho rec hk hJ hrec => ?_)
    obtain ⟨rfl, hS⟩ := hJ
    unfold bd_X7_years_17
    refine br_le (by omega) (by omega) (fun q => ?_) (fun q => ?_)
    · have hk1 : k = w := by omega
      subst hk1
      refine sp_minY rfl (a := 1) (b := 99) rfl rfl (by omega) hw1 hw2 (t10 ?_)
      refine zu4_2 k (by omega) (fun j acc B T => acc = nI (totY C R n col wr L j) ∧ LeftM n (itY n col wr L j) B) 0 rfl (by omega) ⟨rfl, fun b r hb hr => ⟨hb2 b r hb hr, ((hOK b hb).2.2.2.2.2 r).1⟩⟩ (fun j acc B T rec2 hj hJ2 hrec2 => ?_)
      obtain ⟨rfl, hL⟩ := hJ2
      unfold bd_X8_years_24
      refine br_le (by omega) (by omega) (fun q2 => ?_) (fun q2 => ?_)
      · have hj1 : j = k := by omega
        subst hj1
        exact ⟨rfl, C, R, tt, wr, n, col, row, len, srt, thk, itY n col wr L j, hRo, ⟨⟨⟨e1, ha1, hS.1⟩, hS.2.1, hS.2.2⟩, ⟨rfl, hb1, fun b r hb hr => (hL b r hb hr).1⟩, bunOK_le hBO (itY_le n col wr L j), noOp_le hNo (itY_le n col wr L j)⟩, hR2⟩
      · refine sp_passYear h2 h4 (by omega) q15 (fun c r => (q18 c r).2) (fun b hb => ⟨(hb1 b hb).1, (hOK b hb).1⟩) hL (hz j) (fun B' T' hL' => ?_)
        rw [nI_add, nI_1]
        exact hrec2 _ _ _ q2 ⟨rfl, hL'⟩
    · refine sp_weather h2 h4 hn hCe q13 (fun c r => (q18 c r).2) hS (hz k) (h9 k) (fun b hb => (hOK b hb).1) (fun re' l' ho' hS' _ => ?_)
      rw [nI_add, nI_1]
      exact hrec _ _ _ _ q ⟨rfl, hS'⟩
  · refine sp_withN (a := 1) (b := 99) rfl rfl (by omega) (by omega) hno (f10 ?_)
    exact sp_minX (a := 1) (b := 99) rfl rfl (by omega) (by omega) hno (f10 ⟨rfl, hR⟩)
