/-! PAIRS C: counts, growth, letters -/
theorem pu_depth {F_columns : Int32} {F_rows : Int32} {F_steepness : Int32} {F_size : Int32} {F_cells : Nat → Int32} {F_wearing : Nat → Int32} {F_turning : Nat → Int32} {c_laid : Int32} {c_columns : Nat → Int32} {c_rows : Nat → Int32} {c_lengths : Nat → Int32} {c_sorts : Nat → Int32} {c_thicknesses : Nat → Int32} {c_remains : Nat → Int32} {c_lying : Nat → Int64} {k0_laid : Int32} {k0_columns : Nat → Int32} {k0_rows : Nat → Int32} {k0_lengths : Nat → Int32} {k0_sorts : Nat → Int32} {k0_thicknesses : Nat → Int32} {k0_remains : Nat → Int32} {k0_lying : Nat → Int64} {k1_laid : Int32} {k1_columns : Nat → Int32} {k1_rows : Nat → Int32} {k1_lengths : Nat → Int32} {k1_sorts : Nat → Int32} {k1_thicknesses : Nat → Int32} {k1_remains : Nat → Int32} {k1_lying : Nat → Int64} {S_isKept : Nat → Int32} {Ag_from : Nat → Int32} {Ag_to : Nat → Int32} {T_length : Int32} {T_bytes : Nat → Int32} {M_columns : Int32} {M_rows : Int32} {M_pitch : Int32} {M_turns : Nat → Int32} {M_wears : Nat → Int32} {M_laid : Int32} {M_bCol : Nat → Int32} {M_bRow : Nat → Int32} {M_bLong : Nat → Int32} {M_bSort : Nat → Int32} {M_bThick : Nat → Int32} {M_left : Nat → Int32} {M_keptLaid : Nat → Int32} {M_isKept : Nat → Int32} {M_keptCol : Nat → Int32} {M_keptRow : Nat → Int32} {M_keptLong : Nat → Int32} {M_keptSort : Nat → Int32} {M_keptThick : Nat → Int32} {M_keptLeft : Nat → Int32} {M_froms : Nat → Int32} {M_tos : Nat → Int32} {M_text : Nat → Int32} {M_textSize : Int32} (hR : Rel F_columns F_rows F_steepness F_size F_cells F_wearing F_turning c_laid c_columns c_rows c_lengths c_sorts c_thicknesses c_remains c_lying k0_laid k0_columns k0_rows k0_lengths k0_sorts k0_thicknesses k0_remains k0_lying k1_laid k1_columns k1_rows k1_lengths k1_sorts k1_thicknesses k1_remains k1_lying S_isKept Ag_from Ag_to T_length T_bytes M_columns M_rows M_pitch M_turns M_wears M_laid M_bCol M_bRow M_bLong M_bSort M_bThick M_left M_keptLaid M_isKept M_keptCol M_keptRow M_keptLong M_keptSort M_keptThick M_keptLeft M_froms M_tos M_text M_textSize) (l1 : Int32) (l2 : Int32) (l3 : Int32) : wp_X7_depth F_columns F_rows c_laid c_remains c_lying l1 l2 l3 (fun (r : Int32)  => wp_X8_depth M_columns M_rows M_laid M_bCol M_left l1 l2 l3 (fun (r' : Int32) (M_thrown' : Int32) => r = r' ∧ Rel F_columns F_rows F_steepness F_size F_cells F_wearing F_turning c_laid c_columns c_rows c_lengths c_sorts c_thicknesses c_remains c_lying k0_laid k0_columns k0_rows k0_lengths k0_sorts k0_thicknesses k0_remains k0_lying k1_laid k1_columns k1_rows k1_lengths k1_sorts k1_thicknesses k1_remains k1_lying S_isKept Ag_from Ag_to T_length T_bytes M_columns M_rows M_pitch M_turns M_wears M_laid M_bCol M_bRow M_bLong M_bSort M_bThick M_left M_keptLaid M_isKept M_keptCol M_keptRow M_keptLong M_keptSort M_keptThick M_keptLeft M_froms M_tos M_text M_textSize)) := by
  obtain ⟨C, R, tt, wr, n, col, row, len, srt, thk, L, hRo, hCu, hR2⟩ := id hR
  obtain ⟨-, h2, -, h4, rfl, rfl, rfl, rfl, -⟩ := id hRo
  obtain ⟨⟨⟨rfl, ha1, ha2⟩, hZ, hLy⟩, ⟨rfl, hb1, hb2⟩, ⟨hn, hOK⟩, hNo⟩ := id hCu
  unfold wp_X7_depth wp_X8_depth
  rcases cell_cases l1 l2 C R with ⟨c, r, hc, hr, rfl, rfl⟩ | hno
  · refine sp_hasCellY (by omega) (by omega) hc hr (t10 ?_)
    rcases num_cases l3 0 1 (by omega) with ⟨k, hk1, hk2, rfl⟩ | hno
    · have hk : k = 0 ∨ k = 1 := by omega
      rcases hk with rfl | rfl
      · refine yy rfl (sp_cellOf ⟨vp_in_nI (by omega) (by omega), sp_bitCount ?_⟩)
        rw [nI_clamp (by omega)]
        refine sp_noCellY (by omega) (by omega) hc hr (f01 ?_)
        refine sp_minY rfl (a := 0) (b := 1) rfl rfl (by omega) hk1 hk2 (t10 ?_)
        rw [cnt_congr (q := lyB n col L c r) (fun k _ => hLy c r hc hr k), cnt_cut (m := n) (by omega) (fun k h1 => lyB_big h1)]
        refine zu2_2 n (by omega) (fun k acc => acc = nI (cnt (lyB n col L c r) k)) 0 rfl (by omega) rfl (fun k acc rec hk hJ hrec => ?_)
        unfold bd_X8_depth_35
        refine br_le (by omega) (by omega) (fun q => ?_) (fun q => ⟨vp_in_nI (by omega) (by omega), ?_⟩)
        · rw [hJ, show k = n by omega]; exact ⟨rfl, hR⟩
        rw [nI_clamp (by omega), (hb1 k q).1]
        refine br_neq (by have := (hOK k q).1; omega) (by omega) (fun e => ?_) (fun e => ⟨?_, ?_⟩)
        · unfold jn_X8_depth_71
          refine nx (by decide) (yy (by decide) ?_)
          rw [nI_1]
          refine hrec _ q ?_
          rw [cnt_step_n (by unfold lyB; rw [decide_eq_false e]; simp), hJ, Int32.add_zero]
        · rw [nI_6]; exact vp_in_nI (by omega) (by omega)
        · rw [nI_6, nI_clamp (by omega), hb2 k r q (by omega)]
          unfold jn_X8_depth_71
          refine nx (by decide) (br_le (a := 0) (by omega) (by have := ((hOK k q).2.2.2.2.2 r).1; omega) (fun y => ?_) (fun y => ?_))
          · rw [nI_1]
            refine hrec _ q ?_
            rw [cnt_step_n (by rw [lyB_in q e, decide_eq_false (by omega)]), hJ, Int32.add_zero]
          · rw [nI_1]
            refine hrec _ q ?_
            rw [cnt_step_y (by rw [lyB_in q e, decide_eq_true y]), hJ, nI_1]
      · refine nn (by decide) (yy rfl (sp_cellOf ?_))
        refine sp_thicknessAt h2 h4 hn ha2 hLy hc hr ?_
        refine sp_noCellY (by omega) (by omega) hc hr (f01 ?_)
        refine sp_minY rfl (a := 0) (b := 1) rfl rfl (by omega) hk1 hk2 (t10 ?_)
        refine zu2_2 n (by omega) (fun k acc => acc = nI (sm (fun b => if col b = c then L b r else 0) k)) 0 rfl (by omega) rfl (fun k acc rec hk hJ hrec => ?_)
        unfold bd_X8_depth_35
        refine br_le (by omega) (by omega) (fun q => ?_) (fun q => ⟨vp_in_nI (by omega) (by omega), ?_⟩)
        · rw [hJ, show k = n by omega]; exact ⟨rfl, hR⟩
        rw [nI_clamp (by omega), (hb1 k q).1]
        refine br_neq (by have := (hOK k q).1; omega) (by omega) (fun e => ?_) (fun e => ⟨?_, ?_⟩)
        · unfold jn_X8_depth_71
          refine yx rfl ?_
          rw [nI_1]
          refine hrec _ q ?_
          rw [sm, if_neg e, hJ, Int32.add_zero, Nat.add_zero]
        · rw [nI_6]; exact vp_in_nI (by omega) (by omega)
        · rw [nI_6, nI_clamp (by omega), hb2 k r q (by omega)]
          unfold jn_X8_depth_71
          refine yx rfl ?_
          rw [nI_1]
          refine hrec _ q ?_
          rw [sm, if_pos e, hJ, nI_add]
    · have e0 : ¬ l3 = 0 := fun e => hno (by rw [e]; decide)
      have e1 : ¬ l3 = 1 := fun e => hno (by rw [e]; decide)
      refine nn e0 (nn e1 ?_)
      refine sp_noCellY (by omega) (by omega) hc hr (f01 ?_)
      exact sp_minX (a := 0) (b := 1) rfl rfl (by omega) (by omega) hno (f10 ⟨rfl, hR⟩)
  · exact sp_hasCellN (by omega) (by omega) hno (f10 (sp_noCellN (by omega) (by omega) hno (t01 ⟨rfl, hR⟩)))
theorem pu_grew {F_columns : Int32} {F_rows : Int32} {F_steepness : Int32} {F_size : Int32} {F_cells : Nat → Int32} {F_wearing : Nat → Int32} {F_turning : Nat → Int32} {c_laid : Int32} {c_columns : Nat → Int32} {c_rows : Nat → Int32} {c_lengths : Nat → Int32} {c_sorts : Nat → Int32} {c_thicknesses : Nat → Int32} {c_remains : Nat → Int32} {c_lying : Nat → Int64} {k0_laid : Int32} {k0_columns : Nat → Int32} {k0_rows : Nat → Int32} {k0_lengths : Nat → Int32} {k0_sorts : Nat → Int32} {k0_thicknesses : Nat → Int32} {k0_remains : Nat → Int32} {k0_lying : Nat → Int64} {k1_laid : Int32} {k1_columns : Nat → Int32} {k1_rows : Nat → Int32} {k1_lengths : Nat → Int32} {k1_sorts : Nat → Int32} {k1_thicknesses : Nat → Int32} {k1_remains : Nat → Int32} {k1_lying : Nat → Int64} {S_isKept : Nat → Int32} {Ag_from : Nat → Int32} {Ag_to : Nat → Int32} {T_length : Int32} {T_bytes : Nat → Int32} {M_columns : Int32} {M_rows : Int32} {M_pitch : Int32} {M_turns : Nat → Int32} {M_wears : Nat → Int32} {M_laid : Int32} {M_bCol : Nat → Int32} {M_bRow : Nat → Int32} {M_bLong : Nat → Int32} {M_bSort : Nat → Int32} {M_bThick : Nat → Int32} {M_left : Nat → Int32} {M_keptLaid : Nat → Int32} {M_isKept : Nat → Int32} {M_keptCol : Nat → Int32} {M_keptRow : Nat → Int32} {M_keptLong : Nat → Int32} {M_keptSort : Nat → Int32} {M_keptThick : Nat → Int32} {M_keptLeft : Nat → Int32} {M_froms : Nat → Int32} {M_tos : Nat → Int32} {M_text : Nat → Int32} {M_textSize : Int32} (hR : Rel F_columns F_rows F_steepness F_size F_cells F_wearing F_turning c_laid c_columns c_rows c_lengths c_sorts c_thicknesses c_remains c_lying k0_laid k0_columns k0_rows k0_lengths k0_sorts k0_thicknesses k0_remains k0_lying k1_laid k1_columns k1_rows k1_lengths k1_sorts k1_thicknesses k1_remains k1_lying S_isKept Ag_from Ag_to T_length T_bytes M_columns M_rows M_pitch M_turns M_wears M_laid M_bCol M_bRow M_bLong M_bSort M_bThick M_left M_keptLaid M_isKept M_keptCol M_keptRow M_keptLong M_keptSort M_keptThick M_keptLeft M_froms M_tos M_text M_textSize) (l1 : Int32) (l2 : Int32) (l3 : Int32) : wp_X7_grew Ag_from Ag_to l1 l2 l3 (fun (r : Int32) (Ag_from' : Nat → Int32) (Ag_to' : Nat → Int32) => wp_X8_grew M_froms M_tos l1 l2 l3 (fun (r' : Int32) (M_thrown' : Int32) (M_froms' : Nat → Int32) (M_tos' : Nat → Int32) => r = r' ∧ Rel F_columns F_rows F_steepness F_size F_cells F_wearing F_turning c_laid c_columns c_rows c_lengths c_sorts c_thicknesses c_remains c_lying k0_laid k0_columns k0_rows k0_lengths k0_sorts k0_thicknesses k0_remains k0_lying k1_laid k1_columns k1_rows k1_lengths k1_sorts k1_thicknesses k1_remains k1_lying S_isKept Ag_from' Ag_to' T_length T_bytes M_columns M_rows M_pitch M_turns M_wears M_laid M_bCol M_bRow M_bLong M_bSort M_bThick M_left M_keptLaid M_isKept M_keptCol M_keptRow M_keptLong M_keptSort M_keptThick M_keptLeft M_froms' M_tos' M_text M_textSize)) := by
  obtain ⟨C, R, tt, wr, n, col, row, len, srt, thk, L, hRo, hCu, h3, h4, h5, h6⟩ := id hR
  unfold wp_X7_grew wp_X8_grew wp_X7_isSort
  rcases num_cases l1 0 5 (by omega) with ⟨s, -, hs, rfl⟩ | hno
  · obtain ⟨f, t, g1, g2, g3, g4, g5, g6⟩ := h5 s (by omega)
    refine sp_withY rfl (a := 0) (b := 5) rfl rfl (by omega) (by omega) hs ⟨Or.inr rfl, t10 ?_⟩
    rcases num_cases l2 0 99 (by omega) with ⟨i, -, hi, rfl⟩ | hno2
    · refine sp_withY rfl (a := 0) (b := 99) rfl rfl (by omega) (by omega) hi (t01 ?_)
      rcases num_cases l3 i 99 (by omega) with ⟨j, hj1, hj, rfl⟩ | hno3
      · refine sp_withY rfl (a := i) (b := 99) rfl rfl (by omega) hj1 hj (t10 ⟨vp_in_nI (by omega) (by omega), vp_in_nI (by omega) (by omega), fun z hz => ⟨vp_in_nI (by omega) (by omega), vp_in_nI (by omega) (by omega), ?_⟩⟩)
        refine sp_minY rfl (a := 0) (b := 5) rfl rfl (by omega) (by omega) hs (t10 ?_)
        refine sp_minY rfl (a := 0) (b := 99) rfl rfl (by omega) (by omega) hi (t01 ?_)
        refine sp_minY rfl (a := i) (b := 99) (nI_lN (by omega)) rfl (by omega) hj1 hj (t10 ⟨vp_in_nI (by omega) (by omega), vp_in_nI (by omega) (by omega), fun z2 hz2 => ⟨vp_in_nI (by omega) (by omega), vp_in_nI (by omega) (by omega), ?_⟩⟩)
        rw [nI_clamp (by omega)] at hz hz2 ⊢
        refine ⟨by rw [hz, hz2, g1, g2, g3, g4], C, R, tt, wr, n, col, row, len, srt, thk, L, hRo, hCu, h3, h4, fun x hx => ?_, h6⟩
        by_cases e : x = s
        · subst e; exact ⟨i, j, upd_at, upd_at, upd_at, upd_at, hj1, hj⟩
        · rw [upd_ne e, upd_ne e, upd_ne e, upd_ne e]; exact h5 x hx
      · refine sp_withN (a := i) (b := 99) rfl rfl (by omega) (by omega) hno3 (f10 ?_)
        refine sp_minY rfl (a := 0) (b := 5) rfl rfl (by omega) (by omega) hs (t10 ?_)
        refine sp_minY rfl (a := 0) (b := 99) rfl rfl (by omega) (by omega) hi (t01 ?_)
        exact sp_minX (a := i) (b := 99) (nI_lN (by omega)) rfl (by omega) (by omega) hno3 (f10 ⟨rfl, hR⟩)
    · refine sp_withN (a := 0) (b := 99) rfl rfl (by omega) (by omega) hno2 (f01 ?_)
      refine sp_minY rfl (a := 0) (b := 5) rfl rfl (by omega) (by omega) hs (t10 ?_)
      exact sp_minX (a := 0) (b := 99) rfl rfl (by omega) (by omega) hno2 (f01 ⟨rfl, hR⟩)
  · refine sp_withN (a := 0) (b := 5) rfl rfl (by omega) (by omega) hno ⟨Or.inl rfl, f10 ?_⟩
    exact sp_minX (a := 0) (b := 5) rfl rfl (by omega) (by omega) hno (f10 ⟨rfl, hR⟩)
theorem pu_count {F_columns : Int32} {F_rows : Int32} {F_steepness : Int32} {F_size : Int32} {F_cells : Nat → Int32} {F_wearing : Nat → Int32} {F_turning : Nat → Int32} {c_laid : Int32} {c_columns : Nat → Int32} {c_rows : Nat → Int32} {c_lengths : Nat → Int32} {c_sorts : Nat → Int32} {c_thicknesses : Nat → Int32} {c_remains : Nat → Int32} {c_lying : Nat → Int64} {k0_laid : Int32} {k0_columns : Nat → Int32} {k0_rows : Nat → Int32} {k0_lengths : Nat → Int32} {k0_sorts : Nat → Int32} {k0_thicknesses : Nat → Int32} {k0_remains : Nat → Int32} {k0_lying : Nat → Int64} {k1_laid : Int32} {k1_columns : Nat → Int32} {k1_rows : Nat → Int32} {k1_lengths : Nat → Int32} {k1_sorts : Nat → Int32} {k1_thicknesses : Nat → Int32} {k1_remains : Nat → Int32} {k1_lying : Nat → Int64} {S_isKept : Nat → Int32} {Ag_from : Nat → Int32} {Ag_to : Nat → Int32} {T_length : Int32} {T_bytes : Nat → Int32} {M_columns : Int32} {M_rows : Int32} {M_pitch : Int32} {M_turns : Nat → Int32} {M_wears : Nat → Int32} {M_laid : Int32} {M_bCol : Nat → Int32} {M_bRow : Nat → Int32} {M_bLong : Nat → Int32} {M_bSort : Nat → Int32} {M_bThick : Nat → Int32} {M_left : Nat → Int32} {M_keptLaid : Nat → Int32} {M_isKept : Nat → Int32} {M_keptCol : Nat → Int32} {M_keptRow : Nat → Int32} {M_keptLong : Nat → Int32} {M_keptSort : Nat → Int32} {M_keptThick : Nat → Int32} {M_keptLeft : Nat → Int32} {M_froms : Nat → Int32} {M_tos : Nat → Int32} {M_text : Nat → Int32} {M_textSize : Int32} (hR : Rel F_columns F_rows F_steepness F_size F_cells F_wearing F_turning c_laid c_columns c_rows c_lengths c_sorts c_thicknesses c_remains c_lying k0_laid k0_columns k0_rows k0_lengths k0_sorts k0_thicknesses k0_remains k0_lying k1_laid k1_columns k1_rows k1_lengths k1_sorts k1_thicknesses k1_remains k1_lying S_isKept Ag_from Ag_to T_length T_bytes M_columns M_rows M_pitch M_turns M_wears M_laid M_bCol M_bRow M_bLong M_bSort M_bThick M_left M_keptLaid M_isKept M_keptCol M_keptRow M_keptLong M_keptSort M_keptThick M_keptLeft M_froms M_tos M_text M_textSize) (l1 : Int32) : wp_X7_count F_columns F_rows F_size F_cells F_turning c_laid c_remains T_length l1 (fun (r : Int32)  => wp_X8_count M_columns M_rows M_laid M_textSize M_turns M_left l1 (fun (r' : Int32) (M_thrown' : Int32) => r = r' ∧ Rel F_columns F_rows F_steepness F_size F_cells F_wearing F_turning c_laid c_columns c_rows c_lengths c_sorts c_thicknesses c_remains c_lying k0_laid k0_columns k0_rows k0_lengths k0_sorts k0_thicknesses k0_remains k0_lying k1_laid k1_columns k1_rows k1_lengths k1_sorts k1_thicknesses k1_remains k1_lying S_isKept Ag_from Ag_to T_length T_bytes M_columns M_rows M_pitch M_turns M_wears M_laid M_bCol M_bRow M_bLong M_bSort M_bThick M_left M_keptLaid M_isKept M_keptCol M_keptRow M_keptLong M_keptSort M_keptThick M_keptLeft M_froms M_tos M_text M_textSize)) := by
  obtain ⟨C, R, tt, wr, n, col, row, len, srt, thk, L, hRo, hCu, h3, h4, h5, m, hm1, hm2, hm3, hm4⟩ := id hR
  obtain ⟨q1, q2, q3, q4, rfl, rfl, rfl, rfl, q9, q10, rfl, q12, q13, q14, q15, q16, q17, q18, q19⟩ := id hRo
  obtain ⟨⟨⟨rfl, ha1, ha2⟩, hZ, hLy⟩, ⟨rfl, hb1, hb2⟩, ⟨hn, hOK⟩, hNo⟩ := id hCu
  have h36 := ix36 q2 q4
  unfold wp_X7_count wp_X8_count
  have model : ∀ post : Int32 → Int32 → Prop, (l1 = 0 → post (nI C) 0) → (l1 = 1 → post (nI R) 0) → (l1 = 2 → post (nI n) 0) → (l1 = 3 → post (nI (cnt (fun b => decide (0 < sm (L b) 6)) n)) 0) → (l1 = 4 → post (nI (cnt (fun i => !decide (tt (i / 6) (i % 6) = 0)) 36)) 0) → (l1 = 5 → post M_textSize 0) → (¬ l1 = 0 → ¬ l1 = 1 → ¬ l1 = 2 → ¬ l1 = 3 → ¬ l1 = 4 → ¬ l1 = 5 → post (-2) 0) → zl2 (bd_X8_count_9 (nI C) (nI R) (nI n) M_textSize M_turns M_left l1 post) 0 0 := by
    intro post p0 p1 p2 p3 p4 p5 p6
    refine zu2_2 n (by omega) (fun k acc => acc = nI (cnt (fun b => decide (0 < sm (L b) 6)) k)) 0 rfl (by omega) rfl (fun k acc rec hk hJ hrec => ?_)
    unfold bd_X8_count_9
    refine br_le (by omega) (by omega) (fun q => ?_) (fun q => ?_)
    · rw [show k = n by omega] at hJ
      refine zu2_2 36 (by omega) (fun k acc => acc = nI (cnt (fun i => !decide (tt (i / 6) (i % 6) = 0)) k)) 0 rfl (by omega) rfl (fun i acc2 rec2 hi hJ2 hrec2 => ?_)
      unfold bd_X8_count_44
      refine br_le (a := i) (b := 36) (by omega) (by omega) (fun q2 => ?_) (fun q2 => ⟨vp_in_nI (by omega) (by omega), ?_⟩)
      · rw [show i = 36 by omega] at hJ2
        rw [hJ, hJ2]
        exact ⟨p0, fun e0 => ⟨p1, fun e1 => ⟨p2, fun e2 => ⟨p3, fun e3 => ⟨p4, fun e4 => ⟨p5, fun e5 => p6 e0 e1 e2 e3 e4 e5⟩⟩⟩⟩⟩⟩
      · rw [nI_clamp (by omega), nI_1]
        have ht := q16 (i / 6) (i % 6) (by omega) (by omega)
        rw [show 6 * (i / 6) + i % 6 = i by omega] at ht
        rw [ht]
        refine br_neq (b := 0) (by have := q17 (i / 6) (i % 6); omega) (by omega) (fun e => hrec2 _ q2 ?_) (fun e => hrec2 _ q2 ?_)
        · rw [cnt_step_y (by rw [decide_eq_false e]; rfl), hJ2, nI_1]
        · rw [cnt_step_n (by rw [decide_eq_true e]; rfl), hJ2, Int32.add_zero]
    · refine sp_leftOf q (by omega) (fun r hr => hb2 k r q hr) ?_
      have h9 : sm (L k) 6 ≤ 9 * 6 := sm_le (fun r _ => ((hOK k q).2.2.2.2.2 r).1)
      rw [nI_1]
      refine br_le (a := 0) (by omega) (by omega) (fun e => hrec _ q ?_) (fun e => hrec _ q ?_)
      · rw [cnt_step_n (decide_eq_false (by omega)), hJ, Int32.add_zero]
      · rw [cnt_step_y (decide_eq_true e), hJ, nI_1]
  have bad : ∀ {x y : Int32} {P : Prop}, l1 = x → l1 = y → x ≠ y → P := fun a b c => absurd (a.symm.trans b) c
  refine ⟨fun e0 => model _ (fun _ => ⟨rfl, hR⟩) (fun z => bad e0 z (by decide)) (fun z => bad e0 z (by decide)) (fun z => bad e0 z (by decide)) (fun z => bad e0 z (by decide)) (fun z => bad e0 z (by decide)) (fun z _ _ _ _ _ => absurd e0 z), fun e0 => ⟨fun e1 => model _ (fun z => absurd z e0) (fun _ => ⟨rfl, hR⟩) (fun z => bad e1 z (by decide)) (fun z => bad e1 z (by decide)) (fun z => bad e1 z (by decide)) (fun z => bad e1 z (by decide)) (fun _ z _ _ _ _ => absurd e1 z), fun e1 => ⟨fun e2 => model _ (fun z => absurd z e0) (fun z => absurd z e1) (fun _ => ⟨rfl, hR⟩) (fun z => bad e2 z (by decide)) (fun z => bad e2 z (by decide)) (fun z => bad e2 z (by decide)) (fun _ _ z _ _ _ => absurd e2 z), fun e2 => ⟨fun e3 => ?_, fun e3 => ⟨fun e4 => ?_, fun e4 => ⟨fun e5 => model _ (fun z => absurd z e0) (fun z => absurd z e1) (fun z => absurd z e2) (fun z => absurd z e3) (fun z => absurd z e4) (fun _ => ⟨by rw [hm1, hm2], hR⟩) (fun _ _ _ _ _ z => absurd e5 z), fun e5 => model _ (fun z => absurd z e0) (fun z => absurd z e1) (fun z => absurd z e2) (fun z => absurd z e3) (fun z => absurd z e4) (fun z => absurd z e5) (fun _ _ _ _ _ _ => ⟨rfl, hR⟩)⟩⟩⟩⟩⟩⟩
  · unfold wp_X1_countRemaining
    refine zu2_2 n (by omega) (fun k acc => acc = nI (cnt (fun b => decide (0 < sm (L b) 6)) k)) 0 rfl (by omega) rfl (fun k acc rec hk hJ hrec => ?_)
    unfold bd_X1_countRemaining_4
    refine br_le (by omega) (by omega) (fun q => ?_) (fun q => ?_)
    · rw [hJ, show k = n by omega]
      exact model _ (fun z => absurd z e0) (fun z => absurd z e1) (fun z => absurd z e2) (fun _ => ⟨rfl, hR⟩) (fun z => bad e3 z (by decide)) (fun z => bad e3 z (by decide)) (fun _ _ _ z _ _ => absurd e3 z)
    · refine sp_remainsOf (by omega) (fun r hr => ha2 k r q hr) ?_
      have h9 : sm (L k) 6 ≤ 9 * 6 := sm_le (fun r _ => ((hOK k q).2.2.2.2.2 r).1)
      rw [nI_1]
      refine br_le (a := 0) (by omega) (by omega) (fun e => hrec _ q ?_) (fun e => hrec _ q ?_)
      · rw [cnt_step_n (decide_eq_false (by omega)), hJ]
      · rw [cnt_step_y (decide_eq_true e), hJ, nI_1]
  · unfold wp_X3_countOpenings
    refine zu2_2 (C * R) (by omega) (fun k acc => acc = nI (cnt (fun i => !decide (tt (i / R) (i % R) = 0)) k)) 0 rfl (by omega) rfl (fun k acc rec hk hJ hrec => ?_)
    unfold bd_X3_countOpenings_4
    refine br_le (by omega) (by omega) (fun q => ?_) (fun q => ⟨vp_in_nI (by omega) (by omega), ?_⟩)
    · rw [hJ, show k = C * R by omega]
      refine model _ (fun z => absurd z e0) (fun z => absurd z e1) (fun z => absurd z e2) (fun z => absurd z e3) (fun _ => ⟨?_, hR⟩) (fun z => bad e4 z (by decide)) (fun _ _ _ _ z _ => absurd e4 z)
      rw [cnt_66 (p := fun c r => !decide (tt c r = 0)) q2 q4 (fun c r hcr => by rw [decide_eq_true (q19 c r hcr)]; rfl)]
    · obtain ⟨i1, i2⟩ := ix2 q
      unfold wp_X3_isOpening
      rw [nI_clamp (by omega), q12 k q, nI_1]
      refine ⟨vp_in_nI (by omega) (by omega), ?_⟩
      rw [nI_clamp (by omega), q14 _ _ i1 i2]
      refine br_eq (b := 0) (by have := q17 (k / R) (k % R); omega) (by omega) (fun e => f01 (hrec _ q ?_)) (fun e => t01 (hrec _ q ?_))
      · rw [cnt_step_n (by rw [decide_eq_true e]; rfl), hJ]
      · rw [cnt_step_y (by rw [decide_eq_false e]; rfl), hJ, nI_1]
theorem pu_write {F_columns : Int32} {F_rows : Int32} {F_steepness : Int32} {F_size : Int32} {F_cells : Nat → Int32} {F_wearing : Nat → Int32} {F_turning : Nat → Int32} {c_laid : Int32} {c_columns : Nat → Int32} {c_rows : Nat → Int32} {c_lengths : Nat → Int32} {c_sorts : Nat → Int32} {c_thicknesses : Nat → Int32} {c_remains : Nat → Int32} {c_lying : Nat → Int64} {k0_laid : Int32} {k0_columns : Nat → Int32} {k0_rows : Nat → Int32} {k0_lengths : Nat → Int32} {k0_sorts : Nat → Int32} {k0_thicknesses : Nat → Int32} {k0_remains : Nat → Int32} {k0_lying : Nat → Int64} {k1_laid : Int32} {k1_columns : Nat → Int32} {k1_rows : Nat → Int32} {k1_lengths : Nat → Int32} {k1_sorts : Nat → Int32} {k1_thicknesses : Nat → Int32} {k1_remains : Nat → Int32} {k1_lying : Nat → Int64} {S_isKept : Nat → Int32} {Ag_from : Nat → Int32} {Ag_to : Nat → Int32} {T_length : Int32} {T_bytes : Nat → Int32} {M_columns : Int32} {M_rows : Int32} {M_pitch : Int32} {M_turns : Nat → Int32} {M_wears : Nat → Int32} {M_laid : Int32} {M_bCol : Nat → Int32} {M_bRow : Nat → Int32} {M_bLong : Nat → Int32} {M_bSort : Nat → Int32} {M_bThick : Nat → Int32} {M_left : Nat → Int32} {M_keptLaid : Nat → Int32} {M_isKept : Nat → Int32} {M_keptCol : Nat → Int32} {M_keptRow : Nat → Int32} {M_keptLong : Nat → Int32} {M_keptSort : Nat → Int32} {M_keptThick : Nat → Int32} {M_keptLeft : Nat → Int32} {M_froms : Nat → Int32} {M_tos : Nat → Int32} {M_text : Nat → Int32} {M_textSize : Int32} (hR : Rel F_columns F_rows F_steepness F_size F_cells F_wearing F_turning c_laid c_columns c_rows c_lengths c_sorts c_thicknesses c_remains c_lying k0_laid k0_columns k0_rows k0_lengths k0_sorts k0_thicknesses k0_remains k0_lying k1_laid k1_columns k1_rows k1_lengths k1_sorts k1_thicknesses k1_remains k1_lying S_isKept Ag_from Ag_to T_length T_bytes M_columns M_rows M_pitch M_turns M_wears M_laid M_bCol M_bRow M_bLong M_bSort M_bThick M_left M_keptLaid M_isKept M_keptCol M_keptRow M_keptLong M_keptSort M_keptThick M_keptLeft M_froms M_tos M_text M_textSize) (l1 : Int32) (l2 : Int64) : wp_X7_write T_length T_bytes l1 l2 (fun (r : Int32) (T_bytes' : Nat → Int32) (T_length' : Int32) => wp_X8_write M_textSize M_text l1 l2 (fun (r' : Int32) (M_thrown' : Int32) (M_text' : Nat → Int32) (M_textSize' : Int32) => r = r' ∧ Rel F_columns F_rows F_steepness F_size F_cells F_wearing F_turning c_laid c_columns c_rows c_lengths c_sorts c_thicknesses c_remains c_lying k0_laid k0_columns k0_rows k0_lengths k0_sorts k0_thicknesses k0_remains k0_lying k1_laid k1_columns k1_rows k1_lengths k1_sorts k1_thicknesses k1_remains k1_lying S_isKept Ag_from Ag_to T_length' T_bytes' M_columns M_rows M_pitch M_turns M_wears M_laid M_bCol M_bRow M_bLong M_bSort M_bThick M_left M_keptLaid M_isKept M_keptCol M_keptRow M_keptLong M_keptSort M_keptThick M_keptLeft M_froms M_tos M_text' M_textSize')) := by
  obtain ⟨C, R, tt, wr, n, col, row, len, srt, thk, L, hRo, hCu, h3, h4, h5, m, rfl, rfl, hm3, hm4⟩ := id hR
  unfold wp_X7_write wp_X8_write
  rcases num_cases l1 1 8 (by omega) with ⟨k, hk1, hk2, rfl⟩ | hno
  · refine sp_withY rfl (a := 1) (b := 8) rfl rfl (by omega) hk1 hk2 (t10 ?_)
    unfold wp_X5_append
    rw [nI_add]
    refine br_le (a := 60) (b := m + k) (by omega) (by omega) (fun q => ?_) (fun q => ?_)
    · refine zd3_1 k (by omega) (fun j B N => N = nI (m + (k - j)) ∧ ∀ i, i < m + (k - j) → B i = if i < m then T_bytes i else ((jlushr l2 ((8 : Int32) * nI (k - 1 - (i - m)))) &&& (255 : Int64)).toInt32) k (nI_m1 k) (Nat.le_refl k) ⟨by rw [Nat.sub_self]; rfl, fun i hi => by rw [if_pos (by omega)]⟩ (fun B N rec hJ => ?_) (fun j B N rec hj hJ hrec => ?_)
      · unfold bd_X5_append_19
        refine neg_yes ?_
        obtain ⟨rfl, hB⟩ := hJ
        refine sp_minY rfl (a := 1) (b := 8) rfl rfl (by omega) hk1 hk2 (t10 ?_)
        refine br_le (a := 60) (b := m + k) (by omega) (by omega) (fun _ => ?_) (fun z => absurd z (by omega))
        refine zd3_1 k (by omega) (fun j B N => N = nI (m + (k - j)) ∧ ∀ i, i < m + (k - j) → B i = if i < m then M_text i else ((jlushr l2 ((8 : Int32) * nI (k - 1 - (i - m)))) &&& (255 : Int64)).toInt32) k (nI_m1 k) (Nat.le_refl k) ⟨by rw [Nat.sub_self]; rfl, fun i hi => by rw [if_pos (by omega)]⟩ (fun B2 N2 rec2 hJ2 => ?_) (fun j B2 N2 rec2 hj hJ2 hrec2 => ?_)
        · unfold bd_X8_write_39
          refine neg_yes ?_
          obtain ⟨rfl, hB2⟩ := hJ2
          refine ⟨rfl, C, R, tt, wr, n, col, row, len, srt, thk, L, hRo, hCu, h3, h4, h5, m + (k - 0), rfl, rfl, by omega, fun i hi => ?_⟩
          rw [hB i hi, hB2 i hi]
          by_cases e : i < m
          · rw [if_pos e, if_pos e]; exact hm4 i e
          · rw [if_neg e, if_neg e]
            obtain ⟨v, hv1, hv2⟩ := byte_val (jlushr l2 ((8 : Int32) * nI (k - 1 - (i - m))))
            exact ⟨v, hv1, hv2, hv2⟩
        · unfold bd_X8_write_39
          obtain ⟨rfl, hB2⟩ := hJ2
          refine neg_no (by omega) ⟨vp_in_nI (by omega) (by omega), ?_⟩
          rw [nI_clamp (by omega), nI_1]
          refine hrec2 _ _ ⟨by rw [show m + (k - (j + 1)) + 1 = m + (k - j) by omega], fun i hi => ?_⟩
          by_cases e : i = m + (k - (j + 1))
          · rw [e, upd_at, if_neg (by omega), byte_eq l2 (by omega), show k - 1 - (m + (k - (j + 1)) - m) = j by omega]
          · rw [upd_ne e, hB2 i (by omega)]
      · unfold bd_X5_append_19
        obtain ⟨rfl, hB⟩ := hJ
        refine neg_no (by omega) ⟨vp_in_nI (by omega) (by omega), ?_⟩
        rw [nI_clamp (by omega), nI_1]
        refine hrec _ _ ⟨by rw [show m + (k - (j + 1)) + 1 = m + (k - j) by omega], fun i hi => ?_⟩
        by_cases e : i = m + (k - (j + 1))
        · rw [e, upd_at, if_neg (by omega), show k - 1 - (m + (k - (j + 1)) - m) = j by omega]
        · rw [upd_ne e, hB i (by omega)]
    · refine sp_minY rfl (a := 1) (b := 8) rfl rfl (by omega) hk1 hk2 (t10 ?_)
      exact br_le (a := 60) (b := m + k) (by omega) (by omega) (fun z => absurd z (by omega)) (fun _ => ⟨rfl, hR⟩)
  · refine sp_withN (a := 1) (b := 8) rfl rfl (by omega) (by omega) hno (f10 ?_)
    exact sp_minX (a := 1) (b := 8) rfl rfl (by omega) (by omega) hno (f10 ⟨rfl, hR⟩)
