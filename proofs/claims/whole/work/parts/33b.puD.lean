/-! PAIRS D: lay, roof -/
theorem bunOK_add {C R n : Nat} {col row len srt thk : Nat → Nat} {L : Nat → Nat → Nat} {c r ln st tk low : Nat} (h : BunOK C R n col row len srt thk L) (hn : n < 40) (hc : c < C) (hr : r < R) (hl : 1 ≤ ln ∧ ln ≤ 3) (hs : st < 6) (ht : 1 ≤ tk ∧ tk ≤ 9) : BunOK C R (n + 1) (set1 col n c) (set1 row n r) (set1 len n ln) (set1 srt n st) (set1 thk n tk) (layL L n low r tk) := by
  obtain ⟨-, h2⟩ := h
  refine ⟨by omega, fun b hb => ?_⟩
  unfold set1 layL
  by_cases e : b = n
  · simp only [if_pos e]
    refine ⟨hc, hr, hl, hs, ht, fun i => ?_⟩
    by_cases e2 : low ≤ i ∧ i ≤ r
    · rw [if_pos e2]; exact ⟨ht.2, fun z => by omega⟩
    · rw [if_neg e2]; exact ⟨by omega, fun _ => rfl⟩
  · simp only [if_neg e]
    exact h2 b (by omega)
theorem noOp_add {tt : Nat → Nat → Nat} {n : Nat} {col : Nat → Nat} {L : Nat → Nat → Nat} {c r ln tk low : Nat} (h : NoOp tt n col L) (hlow : LowP tt c r ln low) : NoOp tt (n + 1) (set1 col n c) (layL L n low r tk) := by
  intro b i hb hi
  unfold set1
  unfold layL at hi
  by_cases e : b = n
  · rw [if_pos e] at hi ⊢
    by_cases e2 : low ≤ i ∧ i ≤ r
    · exact hlow.2.2.1 i e2.1 e2.2
    · rw [if_neg e2] at hi; omega
  · rw [if_neg e] at hi ⊢
    exact h b i (by omega) hi
theorem pu_lay {F_columns : Int32} {F_rows : Int32} {F_steepness : Int32} {F_size : Int32} {F_cells : Nat → Int32} {F_wearing : Nat → Int32} {F_turning : Nat → Int32} {c_laid : Int32} {c_columns : Nat → Int32} {c_rows : Nat → Int32} {c_lengths : Nat → Int32} {c_sorts : Nat → Int32} {c_thicknesses : Nat → Int32} {c_remains : Nat → Int32} {c_lying : Nat → Int64} {k0_laid : Int32} {k0_columns : Nat → Int32} {k0_rows : Nat → Int32} {k0_lengths : Nat → Int32} {k0_sorts : Nat → Int32} {k0_thicknesses : Nat → Int32} {k0_remains : Nat → Int32} {k0_lying : Nat → Int64} {k1_laid : Int32} {k1_columns : Nat → Int32} {k1_rows : Nat → Int32} {k1_lengths : Nat → Int32} {k1_sorts : Nat → Int32} {k1_thicknesses : Nat → Int32} {k1_remains : Nat → Int32} {k1_lying : Nat → Int64} {S_isKept : Nat → Int32} {Ag_from : Nat → Int32} {Ag_to : Nat → Int32} {T_length : Int32} {T_bytes : Nat → Int32} {M_columns : Int32} {M_rows : Int32} {M_pitch : Int32} {M_turns : Nat → Int32} {M_wears : Nat → Int32} {M_laid : Int32} {M_bCol : Nat → Int32} {M_bRow : Nat → Int32} {M_bLong : Nat → Int32} {M_bSort : Nat → Int32} {M_bThick : Nat → Int32} {M_left : Nat → Int32} {M_keptLaid : Nat → Int32} {M_isKept : Nat → Int32} {M_keptCol : Nat → Int32} {M_keptRow : Nat → Int32} {M_keptLong : Nat → Int32} {M_keptSort : Nat → Int32} {M_keptThick : Nat → Int32} {M_keptLeft : Nat → Int32} {M_froms : Nat → Int32} {M_tos : Nat → Int32} {M_text : Nat → Int32} {M_textSize : Int32} (hR : Rel F_columns F_rows F_steepness F_size F_cells F_wearing F_turning c_laid c_columns c_rows c_lengths c_sorts c_thicknesses c_remains c_lying k0_laid k0_columns k0_rows k0_lengths k0_sorts k0_thicknesses k0_remains k0_lying k1_laid k1_columns k1_rows k1_lengths k1_sorts k1_thicknesses k1_remains k1_lying S_isKept Ag_from Ag_to T_length T_bytes M_columns M_rows M_pitch M_turns M_wears M_laid M_bCol M_bRow M_bLong M_bSort M_bThick M_left M_keptLaid M_isKept M_keptCol M_keptRow M_keptLong M_keptSort M_keptThick M_keptLeft M_froms M_tos M_text M_textSize) (l1 : Int32) (l2 : Int32) (l3 : Int32) (l4 : Int32) (l5 : Int32) : wp_X7_lay F_columns F_rows F_turning c_laid c_columns c_rows c_lengths c_sorts c_thicknesses c_remains c_lying l1 l2 l3 l4 l5 (fun (r : Int32) (c_laid' : Int32) (c_columns' : Nat → Int32) (c_rows' : Nat → Int32) (c_lengths' : Nat → Int32) (c_sorts' : Nat → Int32) (c_thicknesses' : Nat → Int32) (c_remains' : Nat → Int32) (c_lying' : Nat → Int64) => wp_X8_lay M_columns M_rows M_laid M_turns M_bCol M_bRow M_bLong M_bSort M_bThick M_left l1 l2 l3 l4 l5 (fun (r' : Int32) (M_thrown' : Int32) (M_laid' : Int32) (M_bCol' : Nat → Int32) (M_bRow' : Nat → Int32) (M_bLong' : Nat → Int32) (M_bSort' : Nat → Int32) (M_bThick' : Nat → Int32) (M_left' : Nat → Int32) => r = r' ∧ Rel F_columns F_rows F_steepness F_size F_cells F_wearing F_turning c_laid' c_columns' c_rows' c_lengths' c_sorts' c_thicknesses' c_remains' c_lying' k0_laid k0_columns k0_rows k0_lengths k0_sorts k0_thicknesses k0_remains k0_lying k1_laid k1_columns k1_rows k1_lengths k1_sorts k1_thicknesses k1_remains k1_lying S_isKept Ag_from Ag_to T_length T_bytes M_columns M_rows M_pitch M_turns M_wears M_laid' M_bCol' M_bRow' M_bLong' M_bSort' M_bThick' M_left' M_keptLaid M_isKept M_keptCol M_keptRow M_keptLong M_keptSort M_keptThick M_keptLeft M_froms M_tos M_text M_textSize)) := by
  obtain ⟨C, R, tt, wr, n, col, row, len, srt, thk, L, hRo, hCu, hR2⟩ := id hR
  have hC := hRo.C
  have hM := hRo.M
  obtain ⟨q1, q2, q3, q4, rfl, rfl, rfl, rfl, q9, q10, q11, q12, q13, q14, q15, q16, q17, q18, q19⟩ := id hRo
  obtain ⟨hA, hMb, hBO, hNo⟩ := id hCu
  obtain rfl := hA.1.1
  obtain rfl := hMb.1
  have hn := hBO.1
  unfold wp_X7_lay wp_X8_lay wp_X7_isSort wp_X7_isLength wp_X7_isThickness
  rcases cell_cases l1 l2 C R with ⟨c, r, hc, hr, rfl, rfl⟩ | hno
  · refine sp_hasCellY (by omega) (by omega) hc hr (t01 ?_)
    rcases num_cases l4 0 5 (by omega) with ⟨st, -, hst, rfl⟩ | hno
    · refine sp_withY rfl (a := 0) (b := 5) rfl rfl (by omega) (by omega) hst ⟨Or.inr rfl, t10 ?_⟩
      rcases num_cases l3 1 3 (by omega) with ⟨ln, hl1, hl2, rfl⟩ | hno
      · refine sp_withY rfl (a := 1) (b := 3) rfl rfl (by omega) hl1 hl2 ⟨Or.inr rfl, t01 ?_⟩
        rcases num_cases l5 1 9 (by omega) with ⟨tk, ht1, ht2, rfl⟩ | hno
        · refine sp_withY rfl (a := 1) (b := 9) rfl rfl (by omega) ht1 ht2 ⟨Or.inr rfl, t10 (sp_cellOf ?_)⟩
          have hturn : M_turns (nI (6 * c + r)).toNatClampNeg = nI (tt c r) := by
            rw [nI_clamp (by omega), q16 c r (by omega) (by omega)]
          refine sp_isOpening hC hc hr (fun z => f01 ?_) (fun z => t01 ?_)
          · by_cases hn40 : n < 40
            · refine sp_add hC hA hn40 hc hr z ⟨hl1, hl2⟩ ⟨ht1, ht2⟩ (fun low aLeft' a' hlow hA' => ?_)
              refine sp_noCellY (by omega) (by omega) hc hr (f10 ?_)
              refine sp_minY rfl (a := 0) (b := 5) rfl rfl (by omega) (by omega) hst (t10 ?_)
              refine sp_minY rfl (a := 1) (b := 3) rfl rfl (by omega) hl1 hl2 (t01 ?_)
              refine sp_minY rfl (a := 1) (b := 9) rfl rfl (by omega) ht1 ht2 (t10 ?_)
              rw [nI_6]
              refine ⟨vp_in_nI (by omega) (by omega), ?_⟩
              rw [hturn, z]
              refine yy rfl (nx (fun e => absurd (nI_inj (b := 40) (by omega) (by omega) e) (by omega)) ?_)
              refine sp_put hM hMb (by omega) hc hr ⟨hl1, hl2⟩ ⟨ht1, ht2⟩ hlow (fun mLeft' hl' hfar => ?_)
              exact ⟨(nI_pred n).symm, C, R, tt, wr, n + 1, set1 col n c, set1 row n r, set1 len n ln, set1 srt n st, set1 thk n tk, layL L n low r tk, hRo, ⟨hA', bunA_add hMb hl', bunOK_add hBO hn40 hc hr ⟨hl1, hl2⟩ (by omega) ⟨ht1, ht2⟩, noOp_add hNo hlow⟩, hR2⟩
            · unfold wp_X1_add
              refine br_lt (b := 40) (by omega) (by omega) (fun q => absurd q (by omega)) (fun _ => ?_)
              refine sp_noCellY (by omega) (by omega) hc hr (f10 ?_)
              refine sp_minY rfl (a := 0) (b := 5) rfl rfl (by omega) (by omega) hst (t10 ?_)
              refine sp_minY rfl (a := 1) (b := 3) rfl rfl (by omega) hl1 hl2 (t01 ?_)
              refine sp_minY rfl (a := 1) (b := 9) rfl rfl (by omega) ht1 ht2 (t10 ?_)
              rw [nI_6]
              refine ⟨vp_in_nI (by omega) (by omega), ?_⟩
              rw [hturn, z]
              exact yy rfl (yx (by rw [show n = 40 by omega]; rfl) ⟨rfl, hR⟩)
          · refine sp_noCellY (by omega) (by omega) hc hr (f10 ?_)
            refine sp_minY rfl (a := 0) (b := 5) rfl rfl (by omega) (by omega) hst (t10 ?_)
            refine sp_minY rfl (a := 1) (b := 3) rfl rfl (by omega) hl1 hl2 (t01 ?_)
            refine sp_minY rfl (a := 1) (b := 9) rfl rfl (by omega) ht1 ht2 (t10 ?_)
            rw [nI_6]
            refine ⟨vp_in_nI (by omega) (by omega), ?_⟩
            rw [hturn]
            exact nn (fun e => z (nI_inj (b := 0) (by have := q17 c r; omega) (by omega) e)) ⟨rfl, hR⟩
        · refine sp_withN (a := 1) (b := 9) rfl rfl (by omega) (by omega) hno ⟨Or.inl rfl, f10 ?_⟩
          refine sp_noCellY (by omega) (by omega) hc hr (f10 ?_)
          refine sp_minY rfl (a := 0) (b := 5) rfl rfl (by omega) (by omega) hst (t10 ?_)
          refine sp_minY rfl (a := 1) (b := 3) rfl rfl (by omega) hl1 hl2 (t01 ?_)
          exact sp_minX (a := 1) (b := 9) rfl rfl (by omega) (by omega) hno (f10 ⟨rfl, hR⟩)
      · refine sp_withN (a := 1) (b := 3) rfl rfl (by omega) (by omega) hno ⟨Or.inl rfl, f01 ?_⟩
        refine sp_noCellY (by omega) (by omega) hc hr (f10 ?_)
        refine sp_minY rfl (a := 0) (b := 5) rfl rfl (by omega) (by omega) hst (t10 ?_)
        exact sp_minX (a := 1) (b := 3) rfl rfl (by omega) (by omega) hno (f01 ⟨rfl, hR⟩)
    · refine sp_withN (a := 0) (b := 5) rfl rfl (by omega) (by omega) hno ⟨Or.inl rfl, f10 ?_⟩
      refine sp_noCellY (by omega) (by omega) hc hr (f10 ?_)
      exact sp_minX (a := 0) (b := 5) rfl rfl (by omega) (by omega) hno (f10 ⟨rfl, hR⟩)
  · exact sp_hasCellN (by omega) (by omega) hno (f01 (sp_noCellN (by omega) (by omega) hno (t10 ⟨rfl, hR⟩)))
theorem sp_fill {n : Nat} (hn : n < 2 ^ 31) {a : Nat → Int32} {v : Int32} {post : (Nat → Int32) → Prop} (h : ∀ a', (∀ j, a' j = if j < n then v else a j) → post a') : wp_J7_fill_53178 n a v post := by
  unfold wp_J7_fill_53178
  refine zu2_1 n hn (fun k B => ∀ j, B j = if j < k then v else a j) 0 rfl (by omega) (fun j => rfl) (fun k B rec hk hJ hrec => ?_)
  unfold bd_J7_fill_53178_5
  refine br_le (a := k) (b := n) (by omega) hn (fun q => h B (by rw [show n = k by omega]; exact hJ)) (fun q => ⟨vp_in_nI q (by omega), ?_⟩)
  rw [nI_1, nI_clamp (by omega)]
  refine hrec _ q (fun j => ?_)
  by_cases e : j = k
  · rw [e, up_at, if_pos (by omega)]
  · rw [up_ne e, hJ]
    by_cases e2 : j < k
    · rw [if_pos e2, if_pos (by omega)]
    · rw [if_neg e2, if_neg (by omega)]
theorem sp_fillL {n : Nat} (hn : n < 2 ^ 31) {a : Nat → Int64} {v : Int64} {post : (Nat → Int64) → Prop} (h : ∀ a', (∀ j, a' j = if j < n then v else a j) → post a') : wp_J7_fill_d0a16 n a v post := by
  unfold wp_J7_fill_d0a16
  refine zu2_1 n hn (fun k B => ∀ j, B j = if j < k then v else a j) 0 rfl (by omega) (fun j => rfl) (fun k B rec hk hJ hrec => ?_)
  unfold bd_J7_fill_d0a16_6
  refine br_le (a := k) (b := n) (by omega) hn (fun q => h B (by rw [show n = k by omega]; exact hJ)) (fun q => ⟨vp_in_nI q (by omega), ?_⟩)
  rw [nI_1, nI_clamp (by omega)]
  refine hrec _ q (fun j => ?_)
  by_cases e : j = k
  · rw [e, vL_at, if_pos (by omega)]
  · rw [vL_ne e, hJ]
    by_cases e2 : j < k
    · rw [if_pos e2, if_pos (by omega)]
    · rw [if_neg e2, if_neg (by omega)]
theorem sp_raise {C R : Nat} (hC : C ≤ 6) (hR : R ≤ 6) {cl w t : Nat → Int32} {post : Int32 → Int32 → Int32 → (Nat → Int32) → (Nat → Int32) → (Nat → Int32) → Prop} (h : ∀ cl' w' t', (∀ i, i < C * R → cl' i = nI (10 * (i / R) + i % R)) → (∀ j, j < 60 → w' j = nI 1) → (∀ j, j < 60 → t' j = nI 0) → post (nI C) (nI R) (nI (C * R)) cl' w' t') : wp_X3_raise cl w t (nI C) (nI R) post := by
  have h36 := ix36 hC hR
  unfold wp_X3_raise
  refine zu3_1 C (by omega) (fun k sz cl => sz = nI (R * k) ∧ ∀ i, i < R * k → cl i = nI (10 * (i / R) + i % R)) 0 rfl (by omega) ⟨rfl, fun i hi => absurd hi (Nat.not_lt_zero i)⟩ (fun k sz cl2 rec hk hJ hrec => ?_)
  unfold bd_X3_raise_17
  refine br_le (by omega) (by omega) (fun q => ?_) (fun q => ?_)
  · have hk1 : k = C := by omega
    subst hk1
    rw [Nat.mul_comm R k] at hJ
    obtain ⟨rfl, hcl⟩ := hJ
    refine sp_fill (by omega) (fun w' hw => sp_fill (by omega) (fun t' ht => h cl2 w' t' hcl (fun j hj => ?_) (fun j hj => ?_)))
    · rw [hw, if_pos hj]; rfl
    · rw [ht, if_pos hj]; rfl
  · refine zu3_1 R (by omega) (fun m sz cl => sz = nI (R * k + m) ∧ ∀ i, i < R * k + m → cl i = nI (10 * (i / R) + i % R)) 0 rfl (by omega) hJ (fun m sz2 cl3 rec2 hm hJ2 hrec2 => ?_)
    obtain ⟨rfl, hcl⟩ := hJ2
    unfold bd_X3_raise_28
    refine br_le (by omega) (by omega) (fun q2 => ?_) (fun q2 => sp_cellOf ?_)
    · rw [nI_1]
      have hm1 : m = R := by omega
      subst hm1
      exact hrec _ _ q ⟨by rw [Nat.mul_succ], by rw [Nat.mul_succ]; exact hcl⟩
    · have hlt := ix3 q q2
      refine ⟨vp_in_nI (by omega) (by omega), ?_⟩
      rw [nI_clamp (by omega), nI_1, nI_1]
      refine hrec2 _ _ q2 ⟨rfl, fun i hi => ?_⟩
      by_cases e : i = R * k + m
      · rw [e, up_at, (ix1 q2).1, (ix1 q2).2]
      · rw [up_ne e]; exact hcl i (by omega)
theorem curR_zero {C R : Nat} (hC : C ≤ 6) (hR : R ≤ 6) {tt : Nat → Nat → Nat} {aCol aRow aLen aSrt aThk aLeft : Nat → Int32} {ly : Nat → Int64} {mCol mRow mLen mSrt mThk mLeft : Nat → Int32} (h1 : ∀ j, j < 240 → aLeft j = 0) (h2 : ∀ j, j < 60 → ly j = 0) : CurR C R tt 0 (fun _ => 0) (fun _ => 0) (fun _ => 0) (fun _ => 0) (fun _ => 0) (fun _ _ => 0) 0 aCol aRow aLen aSrt aThk aLeft ly 0 mCol mRow mLen mSrt mThk mLeft := by
  refine ⟨⟨⟨rfl, fun b hb => absurd hb (Nat.not_lt_zero b), fun b r hb => absurd hb (Nat.not_lt_zero b)⟩, fun b r h3 h4 h5 => h1 _ (by omega), fun c r hc hr b => ?_⟩, ⟨rfl, fun b hb => absurd hb (Nat.not_lt_zero b), fun b r hb => absurd hb (Nat.not_lt_zero b)⟩, ⟨by omega, fun b hb => absurd hb (Nat.not_lt_zero b)⟩, fun b r hb => absurd hb (Nat.not_lt_zero b)⟩
  rw [h2 _ (by omega), lb_zero, lyB_big (Nat.zero_le b)]
theorem pu_roof {F_columns : Int32} {F_rows : Int32} {F_steepness : Int32} {F_size : Int32} {F_cells : Nat → Int32} {F_wearing : Nat → Int32} {F_turning : Nat → Int32} {c_laid : Int32} {c_columns : Nat → Int32} {c_rows : Nat → Int32} {c_lengths : Nat → Int32} {c_sorts : Nat → Int32} {c_thicknesses : Nat → Int32} {c_remains : Nat → Int32} {c_lying : Nat → Int64} {k0_laid : Int32} {k0_columns : Nat → Int32} {k0_rows : Nat → Int32} {k0_lengths : Nat → Int32} {k0_sorts : Nat → Int32} {k0_thicknesses : Nat → Int32} {k0_remains : Nat → Int32} {k0_lying : Nat → Int64} {k1_laid : Int32} {k1_columns : Nat → Int32} {k1_rows : Nat → Int32} {k1_lengths : Nat → Int32} {k1_sorts : Nat → Int32} {k1_thicknesses : Nat → Int32} {k1_remains : Nat → Int32} {k1_lying : Nat → Int64} {S_isKept : Nat → Int32} {Ag_from : Nat → Int32} {Ag_to : Nat → Int32} {T_length : Int32} {T_bytes : Nat → Int32} {M_columns : Int32} {M_rows : Int32} {M_pitch : Int32} {M_turns : Nat → Int32} {M_wears : Nat → Int32} {M_laid : Int32} {M_bCol : Nat → Int32} {M_bRow : Nat → Int32} {M_bLong : Nat → Int32} {M_bSort : Nat → Int32} {M_bThick : Nat → Int32} {M_left : Nat → Int32} {M_keptLaid : Nat → Int32} {M_isKept : Nat → Int32} {M_keptCol : Nat → Int32} {M_keptRow : Nat → Int32} {M_keptLong : Nat → Int32} {M_keptSort : Nat → Int32} {M_keptThick : Nat → Int32} {M_keptLeft : Nat → Int32} {M_froms : Nat → Int32} {M_tos : Nat → Int32} {M_text : Nat → Int32} {M_textSize : Int32} (hR : Rel F_columns F_rows F_steepness F_size F_cells F_wearing F_turning c_laid c_columns c_rows c_lengths c_sorts c_thicknesses c_remains c_lying k0_laid k0_columns k0_rows k0_lengths k0_sorts k0_thicknesses k0_remains k0_lying k1_laid k1_columns k1_rows k1_lengths k1_sorts k1_thicknesses k1_remains k1_lying S_isKept Ag_from Ag_to T_length T_bytes M_columns M_rows M_pitch M_turns M_wears M_laid M_bCol M_bRow M_bLong M_bSort M_bThick M_left M_keptLaid M_isKept M_keptCol M_keptRow M_keptLong M_keptSort M_keptThick M_keptLeft M_froms M_tos M_text M_textSize) (l1 : Int32) (l2 : Int32) : wp_X7_roof S_isKept F_columns F_rows F_size F_cells F_wearing F_turning c_laid c_remains c_lying l1 l2 (fun (r : Int32) (S_isKept' : Nat → Int32) (F_columns' : Int32) (F_rows' : Int32) (F_size' : Int32) (F_cells' : Nat → Int32) (F_wearing' : Nat → Int32) (F_turning' : Nat → Int32) (c_laid' : Int32) (c_remains' : Nat → Int32) (c_lying' : Nat → Int64) => wp_X8_roof M_columns M_rows M_laid M_turns M_wears M_isKept l1 l2 (fun (r' : Int32) (M_thrown' : Int32) (M_columns' : Int32) (M_rows' : Int32) (M_turns' : Nat → Int32) (M_wears' : Nat → Int32) (M_laid' : Int32) (M_isKept' : Nat → Int32) => r = r' ∧ Rel F_columns' F_rows' F_steepness F_size' F_cells' F_wearing' F_turning' c_laid' c_columns c_rows c_lengths c_sorts c_thicknesses c_remains' c_lying' k0_laid k0_columns k0_rows k0_lengths k0_sorts k0_thicknesses k0_remains k0_lying k1_laid k1_columns k1_rows k1_lengths k1_sorts k1_thicknesses k1_remains k1_lying S_isKept' Ag_from Ag_to T_length T_bytes M_columns' M_rows' M_pitch M_turns' M_wears' M_laid' M_bCol M_bRow M_bLong M_bSort M_bThick M_left M_keptLaid M_isKept' M_keptCol M_keptRow M_keptLong M_keptSort M_keptThick M_keptLeft M_froms M_tos M_text M_textSize)) := by
  obtain ⟨C0, R0, tt, wr, n, col, row, len, srt, thk, L, hRo, hCu, hS0, hS1, hAg, hTx⟩ := id hR
  obtain ⟨-, -, -, -, -, -, -, -, q9, q10, -⟩ := id hRo
  unfold wp_X7_roof wp_X8_roof
  rcases num_cases l1 1 6 (by omega) with ⟨C, hC1, hC2, rfl⟩ | hno
  · refine sp_withY rfl (a := 1) (b := 6) rfl rfl (by omega) hC1 hC2 (t01 ?_)
    rcases num_cases l2 1 6 (by omega) with ⟨R, hR1, hR2, rfl⟩ | hno
    · refine sp_withY rfl (a := 1) (b := 6) rfl rfl (by omega) hR1 hR2 (t10 ?_)
      refine sp_raise hC2 hR2 (fun cl w t hcl hw ht => ?_)
      unfold wp_X1_bare
      refine sp_fill (by omega) (fun rem hrem => sp_fillL (by omega) (fun ly hly => ?_))
      refine zu2_1 2 (by omega) (fun k B => ∀ j, j < k → B j = 0) 0 rfl (by omega) (fun j hj => absurd hj (Nat.not_lt_zero j)) (fun k B rec hk hJ hrec => ?_)
      unfold bd_X7_roof_41
      refine br_le (a := k) (b := 2) (by omega) (by omega) (fun q => ?_) (fun q => ⟨vp_in_nI (by omega) (by omega), ?_⟩)
      · refine sp_minY rfl (a := 1) (b := 6) rfl rfl (by omega) hC1 hC2 (t01 ?_)
        refine sp_minY rfl (a := 1) (b := 6) rfl rfl (by omega) hR1 hR2 (t10 ?_)
        refine zu3_1 36 (by omega) (fun k T W => (∀ j, j < k → T j = nI 0) ∧ (∀ j, j < k → W j = nI 1)) 0 rfl (by omega) ⟨fun j hj => absurd hj (Nat.not_lt_zero j), fun j hj => absurd hj (Nat.not_lt_zero j)⟩ (fun i T W rec2 hi hJ2 hrec2 => ?_)
        obtain ⟨hT, hW⟩ := hJ2
        unfold bd_X8_roof_44
        refine br_le (a := i) (b := 36) (by omega) (by omega) (fun q2 => ⟨vp_in_nI (n := 0) (by omega) (by omega), vp_in_nI (n := 1) (by omega) (by omega), ?_⟩) (fun q2 => ⟨vp_in_nI (by omega) (by omega), vp_in_nI (by omega) (by omega), ?_⟩)
        · refine ⟨(pk_mul C R).symm, C, R, fun _ _ => 0, fun _ _ => 1, 0, fun _ => 0, fun _ => 0, fun _ => 0, fun _ => 0, fun _ => 0, fun _ _ => 0, ⟨hC1, hC2, hR1, hR2, rfl, rfl, rfl, rfl, q9, q10, rfl, hcl, fun c r hc hr => hw _ (by omega), fun c r hc hr => ht _ (by omega), fun c r hc hr => hW _ (by omega), fun c r hc hr => hT _ (by omega), fun _ _ => Nat.zero_le 2, fun _ _ => ⟨Nat.le_refl 1, (show 1 ≤ 3 by omega)⟩, fun _ _ _ => rfl⟩, curR_zero hC2 hR2 (fun j hj => by rw [hrem, if_pos hj]) (fun j hj => by rw [hly, if_pos hj]), Or.inl ⟨hJ 0 (by omega), ?_⟩, Or.inl ⟨hJ 1 (by omega), ?_⟩, hAg, hTx⟩
          · rfl
          · rfl
        · rw [nI_clamp (by omega), nI_1]
          refine hrec2 _ _ q2 ⟨fun j hj => ?_, fun j hj => ?_⟩
          · by_cases e : j = i
            · rw [e, up_at]; rfl
            · rw [up_ne e]; exact hT j (by omega)
          · by_cases e : j = i
            · rw [e, up_at]; rfl
            · rw [up_ne e]; exact hW j (by omega)
      · rw [nI_clamp (by omega), nI_1]
        refine hrec _ q (fun j hj => ?_)
        by_cases e : j = k
        · rw [e, up_at]
        · rw [up_ne e]; exact hJ j (by omega)
    · refine sp_withN (a := 1) (b := 6) rfl rfl (by omega) (by omega) hno (f10 ?_)
      refine sp_minY rfl (a := 1) (b := 6) rfl rfl (by omega) hC1 hC2 (t01 ?_)
      exact sp_minX (a := 1) (b := 6) rfl rfl (by omega) (by omega) hno (f10 ⟨rfl, hR⟩)
  · refine sp_withN (a := 1) (b := 6) rfl rfl (by omega) (by omega) hno (f01 ?_)
    exact sp_minX (a := 1) (b := 6) rfl rfl (by omega) (by omega) hno (f01 ⟨rfl, hR⟩)
