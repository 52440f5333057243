/-! PAIRS B: what is told of single cells, columns and bundles -/
theorem upd_at {f : Nat → Int32} {k : Nat} {x : Int32} : upd f k x k = x := if_pos rfl
theorem upd_ne {f : Nat → Int32} {k j : Nat} {x : Int32} (h : j ≠ k) : upd f k x j = f j := if_neg h
/-- a function of cells, changed at one -/
def set2 (f : Nat → Nat → Nat) (c r v : Nat) : Nat → Nat → Nat := fun a b => if a = c ∧ b = r then v else f a b
theorem set2_10 {f : Nat → Nat → Nat} {g : Nat → Int32} {C R c r v : Nat} (hR : R ≤ 10) (hr : r < R) (h : ∀ a b, a < C → b < R → g (10 * a + b) = nI (f a b)) : ∀ a b, a < C → b < R → upd g (10 * c + r) (nI v) (10 * a + b) = nI (set2 f c r v a b) := by
  intro a b ha hb
  unfold set2
  by_cases e : a = c ∧ b = r
  · rw [if_pos e, e.1, e.2, upd_at]
  · rw [if_neg e, upd_ne (by omega), h a b ha hb]
theorem set2_6 {f : Nat → Nat → Nat} {g : Nat → Int32} {C R c r v : Nat} (hR : R ≤ 6) (hr : r < R) (h : ∀ a b, a < C → b < R → g (6 * a + b) = nI (f a b)) : ∀ a b, a < C → b < R → upd g (6 * c + r) (nI v) (6 * a + b) = nI (set2 f c r v a b) := by
  intro a b ha hb
  unfold set2
  by_cases e : a = c ∧ b = r
  · rw [if_pos e, e.1, e.2, upd_at]
  · rw [if_neg e, upd_ne (by omega), h a b ha hb]
theorem yy {p A B : Prop} (h : p) (a : A) : (p → A) ∧ (¬ p → B) := ⟨fun _ => a, fun z => absurd h z⟩
theorem nn {p A B : Prop} (h : ¬ p) (b : B) : (p → A) ∧ (¬ p → B) := ⟨fun z => absurd z h, fun _ => b⟩
theorem yx {p A B : Prop} (h : p) (a : A) : (¬ p → B) ∧ (p → A) := ⟨fun z => absurd h z, fun _ => a⟩
theorem nx {p A B : Prop} (h : ¬ p) (b : B) : (¬ p → B) ∧ (p → A) := ⟨fun _ => b, fun z => absurd z h⟩
theorem pu_wear {F_columns : Int32} {F_rows : Int32} {F_steepness : Int32} {F_size : Int32} {F_cells : Nat → Int32} {F_wearing : Nat → Int32} {F_turning : Nat → Int32} {c_laid : Int32} {c_columns : Nat → Int32} {c_rows : Nat → Int32} {c_lengths : Nat → Int32} {c_sorts : Nat → Int32} {c_thicknesses : Nat → Int32} {c_remains : Nat → Int32} {c_lying : Nat → Int64} {k0_laid : Int32} {k0_columns : Nat → Int32} {k0_rows : Nat → Int32} {k0_lengths : Nat → Int32} {k0_sorts : Nat → Int32} {k0_thicknesses : Nat → Int32} {k0_remains : Nat → Int32} {k0_lying : Nat → Int64} {k1_laid : Int32} {k1_columns : Nat → Int32} {k1_rows : Nat → Int32} {k1_lengths : Nat → Int32} {k1_sorts : Nat → Int32} {k1_thicknesses : Nat → Int32} {k1_remains : Nat → Int32} {k1_lying : Nat → Int64} {S_isKept : Nat → Int32} {Ag_from : Nat → Int32} {Ag_to : Nat → Int32} {T_length : Int32} {T_bytes : Nat → Int32} {M_columns : Int32} {M_rows : Int32} {M_pitch : Int32} {M_turns : Nat → Int32} {M_wears : Nat → Int32} {M_laid : Int32} {M_bCol : Nat → Int32} {M_bRow : Nat → Int32} {M_bLong : Nat → Int32} {M_bSort : Nat → Int32} {M_bThick : Nat → Int32} {M_left : Nat → Int32} {M_keptLaid : Nat → Int32} {M_isKept : Nat → Int32} {M_keptCol : Nat → Int32} {M_keptRow : Nat → Int32} {M_keptLong : Nat → Int32} {M_keptSort : Nat → Int32} {M_keptThick : Nat → Int32} {M_keptLeft : Nat → Int32} {M_froms : Nat → Int32} {M_tos : Nat → Int32} {M_text : Nat → Int32} {M_textSize : Int32} (hR : Rel F_columns F_rows F_steepness F_size F_cells F_wearing F_turning c_laid c_columns c_rows c_lengths c_sorts c_thicknesses c_remains c_lying k0_laid k0_columns k0_rows k0_lengths k0_sorts k0_thicknesses k0_remains k0_lying k1_laid k1_columns k1_rows k1_lengths k1_sorts k1_thicknesses k1_remains k1_lying S_isKept Ag_from Ag_to T_length T_bytes M_columns M_rows M_pitch M_turns M_wears M_laid M_bCol M_bRow M_bLong M_bSort M_bThick M_left M_keptLaid M_isKept M_keptCol M_keptRow M_keptLong M_keptSort M_keptThick M_keptLeft M_froms M_tos M_text M_textSize) (l1 : Int32) (l2 : Int32) (l3 : Int32) : wp_X7_wear F_columns F_rows F_wearing l1 l2 l3 (fun (r : Int32) (F_wearing' : Nat → Int32) => wp_X8_wear M_columns M_rows M_wears l1 l2 l3 (fun (r' : Int32) (M_thrown' : Int32) (M_wears' : Nat → Int32) => r = r' ∧ Rel F_columns F_rows F_steepness F_size F_cells F_wearing' F_turning c_laid c_columns c_rows c_lengths c_sorts c_thicknesses c_remains c_lying k0_laid k0_columns k0_rows k0_lengths k0_sorts k0_thicknesses k0_remains k0_lying k1_laid k1_columns k1_rows k1_lengths k1_sorts k1_thicknesses k1_remains k1_lying S_isKept Ag_from Ag_to T_length T_bytes M_columns M_rows M_pitch M_turns M_wears' M_laid M_bCol M_bRow M_bLong M_bSort M_bThick M_left M_keptLaid M_isKept M_keptCol M_keptRow M_keptLong M_keptSort M_keptThick M_keptLeft M_froms M_tos M_text M_textSize)) := by
  obtain ⟨C, R, tt, wr, n, col, row, len, srt, thk, L, hRo, hCu, hR2⟩ := id hR
  obtain ⟨q1, q2, q3, q4, rfl, rfl, rfl, rfl, q9, q10, q11, q12, q13, q14, q15, q16, q17, q18, q19⟩ := id hRo
  unfold wp_X7_wear wp_X8_wear
  rcases cell_cases l1 l2 C R with ⟨c, r, hc, hr, rfl, rfl⟩ | hno
  · refine sp_hasCellY (by omega) (by omega) hc hr (t10 ?_)
    rcases num_cases l3 1 3 (by omega) with ⟨k, hk1, hk2, rfl⟩ | hno
    · refine sp_withY rfl (a := 1) (b := 3) rfl rfl (by omega) hk1 hk2 (t10 (sp_cellOf ⟨vp_in_nI (by omega) (by omega), vp_in_nI (by omega) (by omega), ?_⟩))
      refine sp_noCellY (by omega) (by omega) hc hr (f01 ?_)
      refine sp_minY rfl (a := 1) (b := 3) rfl rfl (by omega) hk1 hk2 (t10 ?_)
      rw [nI_6]
      refine ⟨vp_in_nI (by omega) (by omega), vp_in_nI (by omega) (by omega), ?_⟩
      rw [nI_clamp (by omega), nI_clamp (by omega)]
      refine ⟨by rw [q13 c r hc hr, q15 c r (by omega) (by omega)], C, R, tt, set2 wr c r k, n, col, row, len, srt, thk, L, ⟨q1, q2, q3, q4, rfl, rfl, rfl, rfl, q9, q10, q11, q12, set2_10 (by omega) hr q13, q14, set2_6 (by omega) (by omega) q15, q16, q17, fun a b => ?_, q19⟩, hCu, hR2⟩
      unfold set2
      by_cases e : a = c ∧ b = r
      · rw [if_pos e]; exact ⟨hk1, hk2⟩
      · rw [if_neg e]; exact q18 a b
    · refine sp_withN (a := 1) (b := 3) rfl rfl (by omega) (by omega) hno (f10 ?_)
      refine sp_noCellY (by omega) (by omega) hc hr (f01 ?_)
      exact sp_minX (a := 1) (b := 3) rfl rfl (by omega) (by omega) hno (f10 ⟨rfl, hR⟩)
  · exact sp_hasCellN (by omega) (by omega) hno (f10 (sp_noCellN (by omega) (by omega) hno (t01 ⟨rfl, hR⟩)))
theorem pu_opening {F_columns : Int32} {F_rows : Int32} {F_steepness : Int32} {F_size : Int32} {F_cells : Nat → Int32} {F_wearing : Nat → Int32} {F_turning : Nat → Int32} {c_laid : Int32} {c_columns : Nat → Int32} {c_rows : Nat → Int32} {c_lengths : Nat → Int32} {c_sorts : Nat → Int32} {c_thicknesses : Nat → Int32} {c_remains : Nat → Int32} {c_lying : Nat → Int64} {k0_laid : Int32} {k0_columns : Nat → Int32} {k0_rows : Nat → Int32} {k0_lengths : Nat → Int32} {k0_sorts : Nat → Int32} {k0_thicknesses : Nat → Int32} {k0_remains : Nat → Int32} {k0_lying : Nat → Int64} {k1_laid : Int32} {k1_columns : Nat → Int32} {k1_rows : Nat → Int32} {k1_lengths : Nat → Int32} {k1_sorts : Nat → Int32} {k1_thicknesses : Nat → Int32} {k1_remains : Nat → Int32} {k1_lying : Nat → Int64} {S_isKept : Nat → Int32} {Ag_from : Nat → Int32} {Ag_to : Nat → Int32} {T_length : Int32} {T_bytes : Nat → Int32} {M_columns : Int32} {M_rows : Int32} {M_pitch : Int32} {M_turns : Nat → Int32} {M_wears : Nat → Int32} {M_laid : Int32} {M_bCol : Nat → Int32} {M_bRow : Nat → Int32} {M_bLong : Nat → Int32} {M_bSort : Nat → Int32} {M_bThick : Nat → Int32} {M_left : Nat → Int32} {M_keptLaid : Nat → Int32} {M_isKept : Nat → Int32} {M_keptCol : Nat → Int32} {M_keptRow : Nat → Int32} {M_keptLong : Nat → Int32} {M_keptSort : Nat → Int32} {M_keptThick : Nat → Int32} {M_keptLeft : Nat → Int32} {M_froms : Nat → Int32} {M_tos : Nat → Int32} {M_text : Nat → Int32} {M_textSize : Int32} (hR : Rel F_columns F_rows F_steepness F_size F_cells F_wearing F_turning c_laid c_columns c_rows c_lengths c_sorts c_thicknesses c_remains c_lying k0_laid k0_columns k0_rows k0_lengths k0_sorts k0_thicknesses k0_remains k0_lying k1_laid k1_columns k1_rows k1_lengths k1_sorts k1_thicknesses k1_remains k1_lying S_isKept Ag_from Ag_to T_length T_bytes M_columns M_rows M_pitch M_turns M_wears M_laid M_bCol M_bRow M_bLong M_bSort M_bThick M_left M_keptLaid M_isKept M_keptCol M_keptRow M_keptLong M_keptSort M_keptThick M_keptLeft M_froms M_tos M_text M_textSize) (l1 : Int32) (l2 : Int32) (l3 : Int32) : wp_X7_opening F_columns F_rows F_turning c_lying l1 l2 l3 (fun (r : Int32) (F_turning' : Nat → Int32) => wp_X8_opening M_columns M_rows M_laid M_turns M_bCol M_left l1 l2 l3 (fun (r' : Int32) (M_thrown' : Int32) (M_turns' : Nat → Int32) => r = r' ∧ Rel F_columns F_rows F_steepness F_size F_cells F_wearing F_turning' c_laid c_columns c_rows c_lengths c_sorts c_thicknesses c_remains c_lying k0_laid k0_columns k0_rows k0_lengths k0_sorts k0_thicknesses k0_remains k0_lying k1_laid k1_columns k1_rows k1_lengths k1_sorts k1_thicknesses k1_remains k1_lying S_isKept Ag_from Ag_to T_length T_bytes M_columns M_rows M_pitch M_turns' M_wears M_laid M_bCol M_bRow M_bLong M_bSort M_bThick M_left M_keptLaid M_isKept M_keptCol M_keptRow M_keptLong M_keptSort M_keptThick M_keptLeft M_froms M_tos M_text M_textSize)) := by
  obtain ⟨C, R, tt, wr, n, col, row, len, srt, thk, L, hRo, hCu, hR2⟩ := id hR
  obtain ⟨q1, q2, q3, q4, rfl, rfl, rfl, rfl, q9, q10, q11, q12, q13, q14, q15, q16, q17, q18, q19⟩ := id hRo
  have hB := CurR.B q2 hCu
  obtain ⟨⟨hA, hZ, hLy⟩, ⟨rfl, hb1, hb2⟩, ⟨hn, hOK⟩, hNo⟩ := id hCu
  unfold wp_X7_opening wp_X8_opening
  rcases cell_cases l1 l2 C R with ⟨c, r, hc, hr, rfl, rfl⟩ | hno
  · refine sp_hasCellY (by omega) (by omega) hc hr (t10 ?_)
    rcases num_cases l3 0 2 (by omega) with ⟨k, hk1, hk2, rfl⟩ | hno
    · refine sp_withY rfl (a := 0) (b := 2) rfl rfl (by omega) hk1 hk2 (t10 (sp_cellOf ⟨vp_in_nI (by omega) (by omega), ?_⟩))
      have hz := lyZero hLy (by omega : n ≤ 64) (fun c r b hb => lyB_big hb) hc hr
      rw [nI_clamp (by omega)]
      refine ⟨fun z => ⟨vp_in_nI (by omega) (by omega), vp_in_nI (by omega) (by omega), ?_⟩, fun z => ?_⟩
      · refine sp_noCellY (by omega) (by omega) hc hr (f01 ?_)
        refine sp_minY rfl (a := 0) (b := 2) rfl rfl (by omega) hk1 hk2 (t10 ?_)
        refine sp_topOf hB (by omega) (by omega) (Nat.le_refl n) ?_
        rw [hz.mp z]
        refine yy rfl ?_
        rw [nI_6]
        refine ⟨vp_in_nI (by omega) (by omega), vp_in_nI (by omega) (by omega), ?_⟩
        rw [nI_clamp (by omega)]
        refine ⟨by rw [q14 c r hc hr, q16 c r (by omega) (by omega)], C, R, set2 tt c r k, wr, n, col, row, len, srt, thk, L, ⟨q1, q2, q3, q4, rfl, rfl, rfl, rfl, q9, q10, q11, q12, q13, set2_10 (by omega) hr q14, q15, set2_6 (by omega) (by omega) q16, fun a b => ?_, q18, fun a b hab => ?_⟩, ⟨⟨hA, hZ, hLy⟩, ⟨rfl, hb1, hb2⟩, ⟨hn, hOK⟩, fun b r' hb hr' => ?_⟩, hR2⟩
        · unfold set2
          by_cases e : a = c ∧ b = r
          · rw [if_pos e]; exact hk2
          · rw [if_neg e]; exact q17 a b
        · unfold set2
          rw [if_neg (fun e => hab (by rw [e.1, e.2]; exact ⟨hc, hr⟩))]
          exact q19 a b hab
        · unfold set2
          by_cases e : col b = c ∧ r' = r
          · have := topO_none.mp (hz.mp z) b hb
            rw [lyB_in hb e.1, ← e.2, decide_eq_true hr'] at this
            cases this
          · rw [if_neg e]; exact hNo b r' hb hr'
      · refine sp_noCellY (by omega) (by omega) hc hr (f01 ?_)
        refine sp_minY rfl (a := 0) (b := 2) rfl rfl (by omega) hk1 hk2 (t10 ?_)
        refine sp_topOf hB (by omega) (by omega) (Nat.le_refl n) ?_
        cases htop : topO (lyB n col L c r) n with
        | none => exact absurd (hz.mpr htop) z
        | some b => exact nn (nI_ne9 (by have := (topO_some htop).1; omega)) ⟨rfl, hR⟩
    · refine sp_withN (a := 0) (b := 2) rfl rfl (by omega) (by omega) hno (f10 ?_)
      refine sp_noCellY (by omega) (by omega) hc hr (f01 ?_)
      exact sp_minX (a := 0) (b := 2) rfl rfl (by omega) (by omega) hno (f10 ⟨rfl, hR⟩)
  · exact sp_hasCellN (by omega) (by omega) hno (f10 (sp_noCellN (by omega) (by omega) hno (t01 ⟨rfl, hR⟩)))
theorem pu_left {F_columns : Int32} {F_rows : Int32} {F_steepness : Int32} {F_size : Int32} {F_cells : Nat → Int32} {F_wearing : Nat → Int32} {F_turning : Nat → Int32} {c_laid : Int32} {c_columns : Nat → Int32} {c_rows : Nat → Int32} {c_lengths : Nat → Int32} {c_sorts : Nat → Int32} {c_thicknesses : Nat → Int32} {c_remains : Nat → Int32} {c_lying : Nat → Int64} {k0_laid : Int32} {k0_columns : Nat → Int32} {k0_rows : Nat → Int32} {k0_lengths : Nat → Int32} {k0_sorts : Nat → Int32} {k0_thicknesses : Nat → Int32} {k0_remains : Nat → Int32} {k0_lying : Nat → Int64} {k1_laid : Int32} {k1_columns : Nat → Int32} {k1_rows : Nat → Int32} {k1_lengths : Nat → Int32} {k1_sorts : Nat → Int32} {k1_thicknesses : Nat → Int32} {k1_remains : Nat → Int32} {k1_lying : Nat → Int64} {S_isKept : Nat → Int32} {Ag_from : Nat → Int32} {Ag_to : Nat → Int32} {T_length : Int32} {T_bytes : Nat → Int32} {M_columns : Int32} {M_rows : Int32} {M_pitch : Int32} {M_turns : Nat → Int32} {M_wears : Nat → Int32} {M_laid : Int32} {M_bCol : Nat → Int32} {M_bRow : Nat → Int32} {M_bLong : Nat → Int32} {M_bSort : Nat → Int32} {M_bThick : Nat → Int32} {M_left : Nat → Int32} {M_keptLaid : Nat → Int32} {M_isKept : Nat → Int32} {M_keptCol : Nat → Int32} {M_keptRow : Nat → Int32} {M_keptLong : Nat → Int32} {M_keptSort : Nat → Int32} {M_keptThick : Nat → Int32} {M_keptLeft : Nat → Int32} {M_froms : Nat → Int32} {M_tos : Nat → Int32} {M_text : Nat → Int32} {M_textSize : Int32} (hR : Rel F_columns F_rows F_steepness F_size F_cells F_wearing F_turning c_laid c_columns c_rows c_lengths c_sorts c_thicknesses c_remains c_lying k0_laid k0_columns k0_rows k0_lengths k0_sorts k0_thicknesses k0_remains k0_lying k1_laid k1_columns k1_rows k1_lengths k1_sorts k1_thicknesses k1_remains k1_lying S_isKept Ag_from Ag_to T_length T_bytes M_columns M_rows M_pitch M_turns M_wears M_laid M_bCol M_bRow M_bLong M_bSort M_bThick M_left M_keptLaid M_isKept M_keptCol M_keptRow M_keptLong M_keptSort M_keptThick M_keptLeft M_froms M_tos M_text M_textSize) (l1 : Int32) (l2 : Int32) : wp_X7_left F_rows c_laid c_remains l1 l2 (fun (r : Int32)  => wp_X8_left M_rows M_laid M_left l1 l2 (fun (r' : Int32) (M_thrown' : Int32) => r = r' ∧ Rel F_columns F_rows F_steepness F_size F_cells F_wearing F_turning c_laid c_columns c_rows c_lengths c_sorts c_thicknesses c_remains c_lying k0_laid k0_columns k0_rows k0_lengths k0_sorts k0_thicknesses k0_remains k0_lying k1_laid k1_columns k1_rows k1_lengths k1_sorts k1_thicknesses k1_remains k1_lying S_isKept Ag_from Ag_to T_length T_bytes M_columns M_rows M_pitch M_turns M_wears M_laid M_bCol M_bRow M_bLong M_bSort M_bThick M_left M_keptLaid M_isKept M_keptCol M_keptRow M_keptLong M_keptSort M_keptThick M_keptLeft M_froms M_tos M_text M_textSize)) := by
  obtain ⟨C, R, tt, wr, n, col, row, len, srt, thk, L, hRo, hCu, hR2⟩ := id hR
  obtain ⟨-, h2, -, h4, rfl, rfl, rfl, rfl, -⟩ := id hRo
  obtain ⟨⟨⟨rfl, ha1, ha2⟩, hZ, hLy⟩, ⟨rfl, hb1, hb2⟩, ⟨hn, hOK⟩, hNo⟩ := id hCu
  unfold wp_X7_left wp_X8_left
  rcases nI_or l1 n with ⟨b, hb, rfl⟩ | hno
  · refine sp_wasLaid (by omega) (fun _ => t01 ?_) (fun z => absurd ⟨b, hb, rfl⟩ z)
    rcases nI_or l2 R with ⟨r, hr, rfl⟩ | hno2
    · refine sp_hasRow (by omega) (fun _ => t10 ?_) (fun z => absurd ⟨r, hr, rfl⟩ z)
      rw [nI_6']
      refine ⟨vp_in_nI (by omega) (by omega), ?_⟩
      refine sp_noBundle (by omega) (fun _ => f10 ?_) (fun z => absurd ⟨b, hb, rfl⟩ z)
      refine sp_min0 (by omega) (fun _ => t10 ?_) (fun z => absurd ⟨r, hr, rfl⟩ z)
      rw [nI_6]
      refine ⟨vp_in_nI (by omega) (by omega), ?_⟩
      rw [nI_clamp (by omega), ha2 b r hb (by omega), hb2 b r hb (by omega)]
      exact ⟨rfl, hR⟩
    · refine sp_hasRow (by omega) (fun z => absurd z hno2) (fun _ => f10 ?_)
      refine sp_noBundle (by omega) (fun _ => f10 ?_) (fun z => absurd ⟨b, hb, rfl⟩ z)
      exact sp_min0 (by omega) (fun z => absurd z hno2) (fun _ => f10 ⟨rfl, hR⟩)
  · refine sp_wasLaid (by omega) (fun z => absurd z hno) (fun _ => f01 ?_)
    exact sp_noBundle (by omega) (fun z => absurd z hno) (fun _ => t10 ⟨rfl, hR⟩)
theorem pu_about {F_columns : Int32} {F_rows : Int32} {F_steepness : Int32} {F_size : Int32} {F_cells : Nat → Int32} {F_wearing : Nat → Int32} {F_turning : Nat → Int32} {c_laid : Int32} {c_columns : Nat → Int32} {c_rows : Nat → Int32} {c_lengths : Nat → Int32} {c_sorts : Nat → Int32} {c_thicknesses : Nat → Int32} {c_remains : Nat → Int32} {c_lying : Nat → Int64} {k0_laid : Int32} {k0_columns : Nat → Int32} {k0_rows : Nat → Int32} {k0_lengths : Nat → Int32} {k0_sorts : Nat → Int32} {k0_thicknesses : Nat → Int32} {k0_remains : Nat → Int32} {k0_lying : Nat → Int64} {k1_laid : Int32} {k1_columns : Nat → Int32} {k1_rows : Nat → Int32} {k1_lengths : Nat → Int32} {k1_sorts : Nat → Int32} {k1_thicknesses : Nat → Int32} {k1_remains : Nat → Int32} {k1_lying : Nat → Int64} {S_isKept : Nat → Int32} {Ag_from : Nat → Int32} {Ag_to : Nat → Int32} {T_length : Int32} {T_bytes : Nat → Int32} {M_columns : Int32} {M_rows : Int32} {M_pitch : Int32} {M_turns : Nat → Int32} {M_wears : Nat → Int32} {M_laid : Int32} {M_bCol : Nat → Int32} {M_bRow : Nat → Int32} {M_bLong : Nat → Int32} {M_bSort : Nat → Int32} {M_bThick : Nat → Int32} {M_left : Nat → Int32} {M_keptLaid : Nat → Int32} {M_isKept : Nat → Int32} {M_keptCol : Nat → Int32} {M_keptRow : Nat → Int32} {M_keptLong : Nat → Int32} {M_keptSort : Nat → Int32} {M_keptThick : Nat → Int32} {M_keptLeft : Nat → Int32} {M_froms : Nat → Int32} {M_tos : Nat → Int32} {M_text : Nat → Int32} {M_textSize : Int32} (hR : Rel F_columns F_rows F_steepness F_size F_cells F_wearing F_turning c_laid c_columns c_rows c_lengths c_sorts c_thicknesses c_remains c_lying k0_laid k0_columns k0_rows k0_lengths k0_sorts k0_thicknesses k0_remains k0_lying k1_laid k1_columns k1_rows k1_lengths k1_sorts k1_thicknesses k1_remains k1_lying S_isKept Ag_from Ag_to T_length T_bytes M_columns M_rows M_pitch M_turns M_wears M_laid M_bCol M_bRow M_bLong M_bSort M_bThick M_left M_keptLaid M_isKept M_keptCol M_keptRow M_keptLong M_keptSort M_keptThick M_keptLeft M_froms M_tos M_text M_textSize) (l1 : Int32) (l2 : Int32) : wp_X7_about c_laid c_columns c_rows c_lengths c_sorts c_thicknesses c_remains l1 l2 (fun (r : Int32)  => wp_X8_about M_laid M_bCol M_bRow M_bLong M_bSort M_bThick M_left l1 l2 (fun (r' : Int32) (M_thrown' : Int32) => r = r' ∧ Rel F_columns F_rows F_steepness F_size F_cells F_wearing F_turning c_laid c_columns c_rows c_lengths c_sorts c_thicknesses c_remains c_lying k0_laid k0_columns k0_rows k0_lengths k0_sorts k0_thicknesses k0_remains k0_lying k1_laid k1_columns k1_rows k1_lengths k1_sorts k1_thicknesses k1_remains k1_lying S_isKept Ag_from Ag_to T_length T_bytes M_columns M_rows M_pitch M_turns M_wears M_laid M_bCol M_bRow M_bLong M_bSort M_bThick M_left M_keptLaid M_isKept M_keptCol M_keptRow M_keptLong M_keptSort M_keptThick M_keptLeft M_froms M_tos M_text M_textSize)) := by
  obtain ⟨C, R, tt, wr, n, col, row, len, srt, thk, L, hRo, hCu, hR2⟩ := id hR
  obtain ⟨⟨⟨rfl, ha1, ha2⟩, hZ, hLy⟩, ⟨rfl, hb1, hb2⟩, ⟨hn, hOK⟩, hNo⟩ := id hCu
  unfold wp_X7_about wp_X8_about
  rcases nI_or l1 n with ⟨b, hb, rfl⟩ | hno
  · refine sp_wasLaid (by omega) (fun _ => t10 ?_) (fun z => absurd ⟨b, hb, rfl⟩ z)
    obtain ⟨a1, a2, a3, a4, a5⟩ := ha1 b hb
    obtain ⟨b1, b2, b3, b4, b5⟩ := hb1 b hb
    refine ⟨fun e0 => ⟨vp_in_nI (by omega) (by omega), ?_⟩, fun e0 => ⟨fun e1 => ⟨vp_in_nI (by omega) (by omega), ?_⟩, fun e1 => ⟨fun e2 => ⟨vp_in_nI (by omega) (by omega), ?_⟩, fun e2 => ⟨fun e3 => ⟨vp_in_nI (by omega) (by omega), ?_⟩, fun e3 => ⟨fun e4 => ⟨vp_in_nI (by omega) (by omega), ?_⟩, fun e4 => ⟨fun e5 => ?_, fun e5 => ?_⟩⟩⟩⟩⟩⟩
    · refine sp_noBundle (by omega) (fun _ => f01 (yy e0 ⟨vp_in_nI (by omega) (by omega), ?_, hR⟩)) (fun z => absurd ⟨b, hb, rfl⟩ z)
      rw [nI_clamp (by omega), a1, b1]
    · refine sp_noBundle (by omega) (fun _ => f01 (nn e0 (yy e1 ⟨vp_in_nI (by omega) (by omega), ?_, hR⟩))) (fun z => absurd ⟨b, hb, rfl⟩ z)
      rw [nI_clamp (by omega), a2, b2]
    · refine sp_noBundle (by omega) (fun _ => f01 (nn e0 (nn e1 (yy e2 ⟨vp_in_nI (by omega) (by omega), ?_, hR⟩)))) (fun z => absurd ⟨b, hb, rfl⟩ z)
      rw [nI_clamp (by omega), a3, b3]
    · refine sp_noBundle (by omega) (fun _ => f01 (nn e0 (nn e1 (nn e2 (yy e3 ⟨vp_in_nI (by omega) (by omega), ?_, hR⟩))))) (fun z => absurd ⟨b, hb, rfl⟩ z)
      rw [nI_clamp (by omega), a4, b4]
    · refine sp_noBundle (by omega) (fun _ => f01 (nn e0 (nn e1 (nn e2 (nn e3 (yy e4 ⟨vp_in_nI (by omega) (by omega), ?_, hR⟩)))))) (fun z => absurd ⟨b, hb, rfl⟩ z)
      rw [nI_clamp (by omega), a5, b5]
    · refine sp_remainsOf (by omega) (fun r hr => ha2 b r hb hr) ?_
      refine sp_noBundle (by omega) (fun _ => f01 (nn e0 (nn e1 (nn e2 (nn e3 (nn e4 (yy e5 ?_))))))) (fun z => absurd ⟨b, hb, rfl⟩ z)
      exact sp_leftOf hb (by omega) (fun r hr => hb2 b r hb hr) ⟨rfl, hR⟩
    · exact sp_noBundle (by omega) (fun _ => f01 (nn e0 (nn e1 (nn e2 (nn e3 (nn e4 (nn e5 ⟨rfl, hR⟩))))))) (fun z => absurd ⟨b, hb, rfl⟩ z)
  · refine sp_wasLaid (by omega) (fun z => absurd z hno) (fun _ => f10 ?_)
    exact sp_noBundle (by omega) (fun z => absurd z hno) (fun _ => t01 ⟨rfl, hR⟩)
theorem pu_weight {F_columns : Int32} {F_rows : Int32} {F_steepness : Int32} {F_size : Int32} {F_cells : Nat → Int32} {F_wearing : Nat → Int32} {F_turning : Nat → Int32} {c_laid : Int32} {c_columns : Nat → Int32} {c_rows : Nat → Int32} {c_lengths : Nat → Int32} {c_sorts : Nat → Int32} {c_thicknesses : Nat → Int32} {c_remains : Nat → Int32} {c_lying : Nat → Int64} {k0_laid : Int32} {k0_columns : Nat → Int32} {k0_rows : Nat → Int32} {k0_lengths : Nat → Int32} {k0_sorts : Nat → Int32} {k0_thicknesses : Nat → Int32} {k0_remains : Nat → Int32} {k0_lying : Nat → Int64} {k1_laid : Int32} {k1_columns : Nat → Int32} {k1_rows : Nat → Int32} {k1_lengths : Nat → Int32} {k1_sorts : Nat → Int32} {k1_thicknesses : Nat → Int32} {k1_remains : Nat → Int32} {k1_lying : Nat → Int64} {S_isKept : Nat → Int32} {Ag_from : Nat → Int32} {Ag_to : Nat → Int32} {T_length : Int32} {T_bytes : Nat → Int32} {M_columns : Int32} {M_rows : Int32} {M_pitch : Int32} {M_turns : Nat → Int32} {M_wears : Nat → Int32} {M_laid : Int32} {M_bCol : Nat → Int32} {M_bRow : Nat → Int32} {M_bLong : Nat → Int32} {M_bSort : Nat → Int32} {M_bThick : Nat → Int32} {M_left : Nat → Int32} {M_keptLaid : Nat → Int32} {M_isKept : Nat → Int32} {M_keptCol : Nat → Int32} {M_keptRow : Nat → Int32} {M_keptLong : Nat → Int32} {M_keptSort : Nat → Int32} {M_keptThick : Nat → Int32} {M_keptLeft : Nat → Int32} {M_froms : Nat → Int32} {M_tos : Nat → Int32} {M_text : Nat → Int32} {M_textSize : Int32} (hR : Rel F_columns F_rows F_steepness F_size F_cells F_wearing F_turning c_laid c_columns c_rows c_lengths c_sorts c_thicknesses c_remains c_lying k0_laid k0_columns k0_rows k0_lengths k0_sorts k0_thicknesses k0_remains k0_lying k1_laid k1_columns k1_rows k1_lengths k1_sorts k1_thicknesses k1_remains k1_lying S_isKept Ag_from Ag_to T_length T_bytes M_columns M_rows M_pitch M_turns M_wears M_laid M_bCol M_bRow M_bLong M_bSort M_bThick M_left M_keptLaid M_isKept M_keptCol M_keptRow M_keptLong M_keptSort M_keptThick M_keptLeft M_froms M_tos M_text M_textSize) (l1 : Int32) : wp_X7_weight F_columns F_rows c_laid c_remains c_lying l1 (fun (r : Int32)  => wp_X8_weight M_columns M_laid M_bCol M_left l1 (fun (r' : Int32) (M_thrown' : Int32) => r = r' ∧ Rel F_columns F_rows F_steepness F_size F_cells F_wearing F_turning c_laid c_columns c_rows c_lengths c_sorts c_thicknesses c_remains c_lying k0_laid k0_columns k0_rows k0_lengths k0_sorts k0_thicknesses k0_remains k0_lying k1_laid k1_columns k1_rows k1_lengths k1_sorts k1_thicknesses k1_remains k1_lying S_isKept Ag_from Ag_to T_length T_bytes M_columns M_rows M_pitch M_turns M_wears M_laid M_bCol M_bRow M_bLong M_bSort M_bThick M_left M_keptLaid M_isKept M_keptCol M_keptRow M_keptLong M_keptSort M_keptThick M_keptLeft M_froms M_tos M_text M_textSize)) := by
  obtain ⟨C, R, tt, wr, n, col, row, len, srt, thk, L, hRo, hCu, hR2⟩ := id hR
  obtain ⟨-, h2, -, h4, rfl, rfl, rfl, rfl, -⟩ := id hRo
  have hB := CurR.B h2 hCu
  obtain ⟨⟨⟨rfl, ha1, ha2⟩, hZ, hLy⟩, ⟨rfl, hb1, hb2⟩, ⟨hn, hOK⟩, hNo⟩ := id hCu
  unfold wp_X7_weight wp_X8_weight
  rcases nI_or l1 C with ⟨c, hc, rfl⟩ | hno
  · refine sp_hasColumnY (by omega) hc (t10 ?_)
    refine sp_weigh h2 h4 hn ha2 (fun b r hb hr => ((hOK b hb).2.2.2.2.2 r).2 hr) hLy hc ?_
    refine sp_noColumnY (by omega) hc (f01 ?_)
    exact sp_weightOf hB (by omega) ⟨rfl, hR⟩
  · exact sp_hasColumnN (by omega) hno (f10 (sp_noColumnN (by omega) hno (t01 ⟨rfl, hR⟩)))
theorem pu_over {F_columns : Int32} {F_rows : Int32} {F_steepness : Int32} {F_size : Int32} {F_cells : Nat → Int32} {F_wearing : Nat → Int32} {F_turning : Nat → Int32} {c_laid : Int32} {c_columns : Nat → Int32} {c_rows : Nat → Int32} {c_lengths : Nat → Int32} {c_sorts : Nat → Int32} {c_thicknesses : Nat → Int32} {c_remains : Nat → Int32} {c_lying : Nat → Int64} {k0_laid : Int32} {k0_columns : Nat → Int32} {k0_rows : Nat → Int32} {k0_lengths : Nat → Int32} {k0_sorts : Nat → Int32} {k0_thicknesses : Nat → Int32} {k0_remains : Nat → Int32} {k0_lying : Nat → Int64} {k1_laid : Int32} {k1_columns : Nat → Int32} {k1_rows : Nat → Int32} {k1_lengths : Nat → Int32} {k1_sorts : Nat → Int32} {k1_thicknesses : Nat → Int32} {k1_remains : Nat → Int32} {k1_lying : Nat → Int64} {S_isKept : Nat → Int32} {Ag_from : Nat → Int32} {Ag_to : Nat → Int32} {T_length : Int32} {T_bytes : Nat → Int32} {M_columns : Int32} {M_rows : Int32} {M_pitch : Int32} {M_turns : Nat → Int32} {M_wears : Nat → Int32} {M_laid : Int32} {M_bCol : Nat → Int32} {M_bRow : Nat → Int32} {M_bLong : Nat → Int32} {M_bSort : Nat → Int32} {M_bThick : Nat → Int32} {M_left : Nat → Int32} {M_keptLaid : Nat → Int32} {M_isKept : Nat → Int32} {M_keptCol : Nat → Int32} {M_keptRow : Nat → Int32} {M_keptLong : Nat → Int32} {M_keptSort : Nat → Int32} {M_keptThick : Nat → Int32} {M_keptLeft : Nat → Int32} {M_froms : Nat → Int32} {M_tos : Nat → Int32} {M_text : Nat → Int32} {M_textSize : Int32} (hR : Rel F_columns F_rows F_steepness F_size F_cells F_wearing F_turning c_laid c_columns c_rows c_lengths c_sorts c_thicknesses c_remains c_lying k0_laid k0_columns k0_rows k0_lengths k0_sorts k0_thicknesses k0_remains k0_lying k1_laid k1_columns k1_rows k1_lengths k1_sorts k1_thicknesses k1_remains k1_lying S_isKept Ag_from Ag_to T_length T_bytes M_columns M_rows M_pitch M_turns M_wears M_laid M_bCol M_bRow M_bLong M_bSort M_bThick M_left M_keptLaid M_isKept M_keptCol M_keptRow M_keptLong M_keptSort M_keptThick M_keptLeft M_froms M_tos M_text M_textSize) (l1 : Int32) (l2 : Int32) : wp_X7_over F_rows c_laid c_columns c_lying l1 l2 (fun (r : Int32)  => wp_X8_over M_laid M_bCol M_left l1 l2 (fun (r' : Int32) (M_thrown' : Int32) => r = r' ∧ Rel F_columns F_rows F_steepness F_size F_cells F_wearing F_turning c_laid c_columns c_rows c_lengths c_sorts c_thicknesses c_remains c_lying k0_laid k0_columns k0_rows k0_lengths k0_sorts k0_thicknesses k0_remains k0_lying k1_laid k1_columns k1_rows k1_lengths k1_sorts k1_thicknesses k1_remains k1_lying S_isKept Ag_from Ag_to T_length T_bytes M_columns M_rows M_pitch M_turns M_wears M_laid M_bCol M_bRow M_bLong M_bSort M_bThick M_left M_keptLaid M_isKept M_keptCol M_keptRow M_keptLong M_keptSort M_keptThick M_keptLeft M_froms M_tos M_text M_textSize)) := by
  obtain ⟨C, R, tt, wr, n, col, row, len, srt, thk, L, hRo, hCu, hR2⟩ := id hR
  obtain ⟨-, h2, -, h4, rfl, rfl, rfl, rfl, -⟩ := id hRo
  have hB := CurR.B h2 hCu
  obtain ⟨⟨⟨rfl, ha1, ha2⟩, hZ, hLy⟩, ⟨rfl, hb1, hb2⟩, ⟨hn, hOK⟩, hNo⟩ := id hCu
  unfold wp_X7_over wp_X8_over
  rcases nI_or l1 n with ⟨b, hb, rfl⟩ | hno
  · refine sp_wasLaid (by omega) (fun _ => t01 ?_) (fun z => absurd ⟨b, hb, rfl⟩ z)
    rcases nI_or l2 n with ⟨o, ho, rfl⟩ | hno2
    · refine sp_wasLaid (by omega) (fun _ => t10 ?_) (fun z => absurd ⟨o, ho, rfl⟩ z)
      refine sp_liesOver h2 h4 hn (fun b hb => ⟨(ha1 b hb).1, (hOK b hb).1⟩) (fun b r hb hr => ((hOK b hb).2.2.2.2.2 r).2 hr) hLy hb ho ?_
      cases hv : overM col L b o
      · refine f01 ?_
        refine sp_noBundle (by omega) (fun _ => f10 ?_) (fun z => absurd ⟨b, hb, rfl⟩ z)
        refine sp_noBundle (by omega) (fun _ => f01 ?_) (fun z => absurd ⟨o, ho, rfl⟩ z)
        refine sp_isOver hB hb ho ?_
        rw [hv]
        exact f01 ⟨rfl, hR⟩
      · refine t01 ?_
        refine sp_noBundle (by omega) (fun _ => f10 ?_) (fun z => absurd ⟨b, hb, rfl⟩ z)
        refine sp_noBundle (by omega) (fun _ => f01 ?_) (fun z => absurd ⟨o, ho, rfl⟩ z)
        refine sp_isOver hB hb ho ?_
        rw [hv]
        exact t01 ⟨rfl, hR⟩
    · refine sp_wasLaid (by omega) (fun z => absurd z hno2) (fun _ => f10 ?_)
      refine sp_noBundle (by omega) (fun _ => f10 ?_) (fun z => absurd ⟨b, hb, rfl⟩ z)
      exact sp_noBundle (by omega) (fun z => absurd z hno2) (fun _ => t01 ⟨rfl, hR⟩)
  · refine sp_wasLaid (by omega) (fun z => absurd z hno) (fun _ => f01 ?_)
    exact sp_noBundle (by omega) (fun z => absurd z hno) (fun _ => t10 ⟨rfl, hR⟩)
