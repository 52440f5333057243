/-! PAIRS P: burnt, worst, clear -/
theorem isWind_Y {w : Nat} (hw : w ≤ 4) {post : Int32 → Prop} (h : post 1) : wp_X7_isWind (nI w) post := sp_withY rfl (a := 0) (b := 4) rfl rfl (by omega) (by omega) hw ⟨Or.inr rfl, h⟩
theorem isWind_N {v : Int32} (hn : ¬ (((0 : Nat) : Int) ≤ v.toInt ∧ v.toInt ≤ ((4 : Nat) : Int))) {post : Int32 → Prop} (h : post 0) : wp_X7_isWind v post := sp_withN (a := 0) (b := 4) rfl rfl (by omega) (by omega) hn ⟨Or.inl rfl, h⟩
theorem pu_burnt {F_columns : Int32} {F_rows : Int32} {F_steepness : Int32} {F_size : Int32} {F_cells : Nat → Int32} {F_wearing : Nat → Int32} {F_turning : Nat → Int32} {c_laid : Int32} {c_columns : Nat → Int32} {c_rows : Nat → Int32} {c_lengths : Nat → Int32} {c_sorts : Nat → Int32} {c_thicknesses : Nat → Int32} {c_remains : Nat → Int32} {c_lying : Nat → Int64} {k0_laid : Int32} {k0_columns : Nat → Int32} {k0_rows : Nat → Int32} {k0_lengths : Nat → Int32} {k0_sorts : Nat → Int32} {k0_thicknesses : Nat → Int32} {k0_remains : Nat → Int32} {k0_lying : Nat → Int64} {k1_laid : Int32} {k1_columns : Nat → Int32} {k1_rows : Nat → Int32} {k1_lengths : Nat → Int32} {k1_sorts : Nat → Int32} {k1_thicknesses : Nat → Int32} {k1_remains : Nat → Int32} {k1_lying : Nat → Int64} {S_isKept : Nat → Int32} {Ag_from : Nat → Int32} {Ag_to : Nat → Int32} {T_length : Int32} {T_bytes : Nat → Int32} {M_columns : Int32} {M_rows : Int32} {M_pitch : Int32} {M_turns : Nat → Int32} {M_wears : Nat → Int32} {M_laid : Int32} {M_bCol : Nat → Int32} {M_bRow : Nat → Int32} {M_bLong : Nat → Int32} {M_bSort : Nat → Int32} {M_bThick : Nat → Int32} {M_left : Nat → Int32} {M_keptLaid : Nat → Int32} {M_isKept : Nat → Int32} {M_keptCol : Nat → Int32} {M_keptRow : Nat → Int32} {M_keptLong : Nat → Int32} {M_keptSort : Nat → Int32} {M_keptThick : Nat → Int32} {M_keptLeft : Nat → Int32} {M_froms : Nat → Int32} {M_tos : Nat → Int32} {M_text : Nat → Int32} {M_textSize : Int32} {M_isStraw : Nat → Int32} {M_isBurnt : Nat → Int32} (hR : Rel F_columns F_rows F_steepness F_size F_cells F_wearing F_turning c_laid c_columns c_rows c_lengths c_sorts c_thicknesses c_remains c_lying k0_laid k0_columns k0_rows k0_lengths k0_sorts k0_thicknesses k0_remains k0_lying k1_laid k1_columns k1_rows k1_lengths k1_sorts k1_thicknesses k1_remains k1_lying S_isKept Ag_from Ag_to T_length T_bytes M_columns M_rows M_pitch M_turns M_wears M_laid M_bCol M_bRow M_bLong M_bSort M_bThick M_left M_keptLaid M_isKept M_keptCol M_keptRow M_keptLong M_keptSort M_keptThick M_keptLeft M_froms M_tos M_text M_textSize) (l1 : Int32) (l2 : Int32) (l3 : Int32) : wp_X7_burnt F_columns F_rows F_size F_cells c_lying l1 l2 l3 (fun (r : Int32)  => wp_X8_burnt M_columns M_rows M_laid M_bCol M_left M_isStraw M_isBurnt l1 l2 l3 (fun (r' : Int32) (M_thrown' : Int32) (M_isStraw' : Nat → Int32) (M_isBurnt' : Nat → Int32) => r = r' ∧ Rel F_columns F_rows F_steepness F_size F_cells F_wearing F_turning c_laid c_columns c_rows c_lengths c_sorts c_thicknesses c_remains c_lying k0_laid k0_columns k0_rows k0_lengths k0_sorts k0_thicknesses k0_remains k0_lying k1_laid k1_columns k1_rows k1_lengths k1_sorts k1_thicknesses k1_remains k1_lying S_isKept Ag_from Ag_to T_length T_bytes M_columns M_rows M_pitch M_turns M_wears M_laid M_bCol M_bRow M_bLong M_bSort M_bThick M_left M_keptLaid M_isKept M_keptCol M_keptRow M_keptLong M_keptSort M_keptThick M_keptLeft M_froms M_tos M_text M_textSize)) := by
  obtain ⟨C, R, tt, wr, n, col, row, len, srt, thk, L, hRo, hCu, hR2⟩ := id hR
  have hCe : CellsC C R F_size F_cells := hRo.Ce
  obtain ⟨-, h2, -, h4, rfl, rfl, rfl, rfl, -⟩ := id hRo
  have hB := CurR.B h2 hCu
  obtain ⟨⟨⟨-, -, -⟩, -, hLy⟩, ⟨rfl, -, -⟩, ⟨hn, -⟩, -⟩ := id hCu
  unfold wp_X7_burnt wp_X8_burnt
  rcases cell_cases l1 l2 C R with ⟨c, r, hc, hr, rfl, rfl⟩ | hno
  · refine sp_hasCellY (by omega) (by omega) hc hr (t10 ?_)
    rcases num_cases l3 0 4 (by omega) with ⟨w, hw1, hw2, rfl⟩ | hno
    · refine isWind_Y hw2 (t10 (sp_strawCells h2 h4 hn hCe hLy (fun x hx => sp_cellOf ?_)))
      refine sp_spread hx (by omega) (by omega) (by omega) (fun y hy => sp_bitCount ?_)
      have hcn : cnt (lb y) 64 = nB (stW C R n col L) w c r := hy.count
      rw [hcn]
      refine sp_noCellY (by omega) (by omega) hc hr (f01 ?_)
      refine sp_minY rfl (a := 0) (b := 4) rfl rfl (by omega) hw1 hw2 (t10 ?_)
      refine sp_layStraw h2 h4 hB (fun S hS => ?_)
      exact sp_burn h2 h4 (fun c r z => stW_in z) hS (by omega) (by omega) (by omega) (fun B _ => ⟨rfl, hR⟩)
    · refine isWind_N hno (f10 ?_)
      refine sp_noCellY (by omega) (by omega) hc hr (f01 ?_)
      exact sp_minX (a := 0) (b := 4) rfl rfl (by omega) (by omega) hno (f10 ⟨rfl, hR⟩)
  · exact sp_hasCellN (by omega) (by omega) hno (f10 (sp_noCellN (by omega) (by omega) hno (t01 ⟨rfl, hR⟩)))
theorem pu_worst {F_columns : Int32} {F_rows : Int32} {F_steepness : Int32} {F_size : Int32} {F_cells : Nat → Int32} {F_wearing : Nat → Int32} {F_turning : Nat → Int32} {c_laid : Int32} {c_columns : Nat → Int32} {c_rows : Nat → Int32} {c_lengths : Nat → Int32} {c_sorts : Nat → Int32} {c_thicknesses : Nat → Int32} {c_remains : Nat → Int32} {c_lying : Nat → Int64} {k0_laid : Int32} {k0_columns : Nat → Int32} {k0_rows : Nat → Int32} {k0_lengths : Nat → Int32} {k0_sorts : Nat → Int32} {k0_thicknesses : Nat → Int32} {k0_remains : Nat → Int32} {k0_lying : Nat → Int64} {k1_laid : Int32} {k1_columns : Nat → Int32} {k1_rows : Nat → Int32} {k1_lengths : Nat → Int32} {k1_sorts : Nat → Int32} {k1_thicknesses : Nat → Int32} {k1_remains : Nat → Int32} {k1_lying : Nat → Int64} {S_isKept : Nat → Int32} {Ag_from : Nat → Int32} {Ag_to : Nat → Int32} {T_length : Int32} {T_bytes : Nat → Int32} {M_columns : Int32} {M_rows : Int32} {M_pitch : Int32} {M_turns : Nat → Int32} {M_wears : Nat → Int32} {M_laid : Int32} {M_bCol : Nat → Int32} {M_bRow : Nat → Int32} {M_bLong : Nat → Int32} {M_bSort : Nat → Int32} {M_bThick : Nat → Int32} {M_left : Nat → Int32} {M_keptLaid : Nat → Int32} {M_isKept : Nat → Int32} {M_keptCol : Nat → Int32} {M_keptRow : Nat → Int32} {M_keptLong : Nat → Int32} {M_keptSort : Nat → Int32} {M_keptThick : Nat → Int32} {M_keptLeft : Nat → Int32} {M_froms : Nat → Int32} {M_tos : Nat → Int32} {M_text : Nat → Int32} {M_textSize : Int32} {M_isStraw : Nat → Int32} {M_isBurnt : Nat → Int32} (hR : Rel F_columns F_rows F_steepness F_size F_cells F_wearing F_turning c_laid c_columns c_rows c_lengths c_sorts c_thicknesses c_remains c_lying k0_laid k0_columns k0_rows k0_lengths k0_sorts k0_thicknesses k0_remains k0_lying k1_laid k1_columns k1_rows k1_lengths k1_sorts k1_thicknesses k1_remains k1_lying S_isKept Ag_from Ag_to T_length T_bytes M_columns M_rows M_pitch M_turns M_wears M_laid M_bCol M_bRow M_bLong M_bSort M_bThick M_left M_keptLaid M_isKept M_keptCol M_keptRow M_keptLong M_keptSort M_keptThick M_keptLeft M_froms M_tos M_text M_textSize) (l1 : Int32) : wp_X7_worst F_size F_cells c_lying l1 (fun (r : Int32)  => wp_X8_worst M_columns M_rows M_laid M_bCol M_left M_isStraw M_isBurnt l1 (fun (r' : Int32) (M_thrown' : Int32) (M_isStraw' : Nat → Int32) (M_isBurnt' : Nat → Int32) => r = r' ∧ Rel F_columns F_rows F_steepness F_size F_cells F_wearing F_turning c_laid c_columns c_rows c_lengths c_sorts c_thicknesses c_remains c_lying k0_laid k0_columns k0_rows k0_lengths k0_sorts k0_thicknesses k0_remains k0_lying k1_laid k1_columns k1_rows k1_lengths k1_sorts k1_thicknesses k1_remains k1_lying S_isKept Ag_from Ag_to T_length T_bytes M_columns M_rows M_pitch M_turns M_wears M_laid M_bCol M_bRow M_bLong M_bSort M_bThick M_left M_keptLaid M_isKept M_keptCol M_keptRow M_keptLong M_keptSort M_keptThick M_keptLeft M_froms M_tos M_text M_textSize)) := by
  obtain ⟨C, R, tt, wr, n, col, row, len, srt, thk, L, hRo, hCu, hR2⟩ := id hR
  have hCe : CellsC C R F_size F_cells := hRo.Ce
  obtain ⟨-, h2, -, h4, rfl, rfl, rfl, rfl, -⟩ := id hRo
  have hB := CurR.B h2 hCu
  obtain ⟨⟨⟨-, -, -⟩, -, hLy⟩, ⟨rfl, -, -⟩, ⟨hn, -⟩, -⟩ := id hCu
  unfold wp_X7_worst wp_X8_worst
  rcases num_cases l1 0 4 (by omega) with ⟨w, hw1, hw2, rfl⟩ | hno
  · refine isWind_Y hw2 (t01 (sp_strawCells h2 h4 hn hCe hLy (fun x hx => ?_)))
    refine sp_worstSpark h2 h4 (fun c r z => stW_in z) hx (by omega) (fun v m hm hW => ?_)
    refine sp_minY rfl (a := 0) (b := 4) rfl rfl (by omega) hw1 hw2 (t10 ?_)
    refine sp_layStraw h2 h4 hB (fun S hS => ?_)
    refine sp_worstOf h2 h4 (fun c r z => stW_in z) hS (by omega) (fun v' m' x B hm' hW' hV => ?_)
    obtain ⟨e1, e2⟩ := hW.uniq (fun c r z => by omega) hW'
    subst e1 e2
    rcases hV with ⟨g1, g2, rfl⟩ | ⟨g1, j, rfl, g3, rfl⟩
    · exact yx rfl ⟨g2, hR⟩
    · refine nx (fun e => ?_) ⟨?_, hR⟩
      · have := nI_inj (b := 0) (by omega) (by omega) e
        omega
      · rw [show (100 : Int32) = nI 100 from rfl, nI_irem (by omega) (by omega) (by omega), show (99 : Int32) = nI 99 from rfl, nI_subN (by omega)]
        congr 1
        omega
  · refine isWind_N hno (f01 ?_)
    exact sp_minX (a := 0) (b := 4) rfl rfl (by omega) (by omega) hno (f10 ⟨rfl, hR⟩)
noncomputable def mOf (P : Nat → Nat → Prop) (N : Nat → Nat → Nat) : Nat := Classical.epsilon (fun m => ∃ v, WorstP P N v m)
theorem mOf_eq {P : Nat → Nat → Prop} {N : Nat → Nat → Nat} {v : Int32} {m : Nat} (hP : ∀ c r, P c r → r < 10) (h : WorstP P N v m) : mOf P N = m := by
  have h1 : ∃ v, WorstP P N v (mOf P N) := Classical.epsilon_spec (p := fun m => ∃ v, WorstP P N v m) ⟨m, v, h⟩
  obtain ⟨v', h1⟩ := h1
  exact (h1.uniq hP h).2
def rmB (St : Nat → Nat → Bool) (c0 r0 c r : Nat) : Bool := St c r && !decide (c = c0 ∧ r = r0)
theorem rmB_in {St : Nat → Nat → Bool} {c0 r0 c r : Nat} (h : rmB St c0 r0 c r = true) : St c r = true := by
  unfold rmB at h
  rw [Bool.and_eq_true] at h
  exact h.1
noncomputable def clM (C R : Nat) (St : Nat → Nat → Bool) (w c r : Nat) : Nat := mOf (fun c r => c < C ∧ r < R) (nB (rmB St c r) w)
def ClearP (P : Nat → Nat → Prop) (St : Nat → Nat → Bool) (M : Nat → Nat → Nat) (i : Nat) (v : Int32) (l : Nat) : Prop := (l = i ∧ v = -9 ∧ ∀ c r, P c r → St c r = false) ∨ ∃ a b, P a b ∧ St a b = true ∧ M a b = l ∧ l < i ∧ v = nI (10 * a + b) ∧ (∀ c r, P c r → St c r = true → l ≤ M c r) ∧ ∀ c r, P c r → St c r = true → 10 * c + r < 10 * a + b → l < M c r
theorem ClearP.congr {P P' : Nat → Nat → Prop} {St : Nat → Nat → Bool} {M : Nat → Nat → Nat} {i : Nat} {v : Int32} {l : Nat} (h : ClearP P St M i v l) (hp : ∀ c r, P c r ↔ P' c r) : ClearP P' St M i v l := by
  rcases h with ⟨h1, h2, h3⟩ | ⟨a, b, h1, h2, h3, h4, h5, h6, h7⟩
  · exact Or.inl ⟨h1, h2, fun c r z => h3 c r ((hp c r).mpr z)⟩
  · exact Or.inr ⟨a, b, (hp a b).mp h1, h2, h3, h4, h5, fun c r z => h6 c r ((hp c r).mpr z), fun c r z => h7 c r ((hp c r).mpr z)⟩
theorem ClearP.skip {P P' : Nat → Nat → Prop} {St : Nat → Nat → Bool} {M : Nat → Nat → Nat} {i : Nat} {v : Int32} {l c0 r0 : Nat} (h : ClearP P St M i v l) (hp : ∀ c r, P' c r → P c r ∨ (c = c0 ∧ r = r0)) (hp2 : ∀ c r, P c r → P' c r) (hs : St c0 r0 = false) : ClearP P' St M i v l := by
  have hq : ∀ c r, P' c r → St c r = true → P c r := fun c r z z2 => by
    rcases hp c r z with z | ⟨rfl, rfl⟩
    · exact z
    · rw [hs] at z2; cases z2
  rcases h with ⟨h1, h2, h3⟩ | ⟨a, b, h1, h2, h3, h4, h5, h6, h7⟩
  · refine Or.inl ⟨h1, h2, fun c r z => ?_⟩
    rcases hp c r z with z | ⟨rfl, rfl⟩
    · exact h3 c r z
    · exact hs
  · exact Or.inr ⟨a, b, hp2 a b h1, h2, h3, h4, h5, fun c r z z2 => h6 c r (hq c r z z2) z2, fun c r z z2 => h7 c r (hq c r z z2) z2⟩
theorem ClearP.keep {P P' : Nat → Nat → Prop} {St : Nat → Nat → Bool} {M : Nat → Nat → Nat} {i : Nat} {v : Int32} {l c0 r0 : Nat} (h : ClearP P St M i v l) (hp : ∀ c r, P' c r → P c r ∨ (c = c0 ∧ r = r0)) (hp2 : ∀ c r, P c r → P' c r) (hlt : ∀ c r, P c r → 10 * c + r < 10 * c0 + r0) (hle : l ≤ M c0 r0) (hi : M c0 r0 < i) : ClearP P' St M i v l := by
  rcases h with ⟨h1, h2, h3⟩ | ⟨a, b, h1, h2, h3, h4, h5, h6, h7⟩
  · omega
  · refine Or.inr ⟨a, b, hp2 a b h1, h2, h3, h4, h5, fun c r z z2 => ?_, fun c r z z2 z3 => ?_⟩
    · rcases hp c r z with z | ⟨rfl, rfl⟩
      · exact h6 c r z z2
      · exact hle
    · rcases hp c r z with z | ⟨rfl, rfl⟩
      · exact h7 c r z z2 z3
      · have := hlt a b h1; omega
theorem ClearP.take {P P' : Nat → Nat → Prop} {St : Nat → Nat → Bool} {M : Nat → Nat → Nat} {i : Nat} {v : Int32} {l c0 r0 : Nat} (h : ClearP P St M i v l) (hp : ∀ c r, P' c r → P c r ∨ (c = c0 ∧ r = r0)) (h0 : P' c0 r0) (hs : St c0 r0 = true) (hgt : M c0 r0 < l) : ClearP P' St M i (nI (10 * c0 + r0)) (M c0 r0) := by
  have hle : l ≤ i ∧ ∀ c r, P c r → St c r = true → l ≤ M c r := by
    rcases h with ⟨h1, h2, h3⟩ | ⟨a, b, h1, h2, h3, h4, h5, h6, h7⟩
    · exact ⟨by omega, fun c r z z2 => by rw [h3 c r z] at z2; cases z2⟩
    · exact ⟨by omega, h6⟩
  refine Or.inr ⟨c0, r0, h0, hs, rfl, by omega, rfl, fun c r z z2 => ?_, fun c r z z2 z3 => ?_⟩
  · rcases hp c r z with z | ⟨rfl, rfl⟩
    · have := hle.2 c r z z2; omega
    · exact Nat.le_refl _
  · rcases hp c r z with z | ⟨rfl, rfl⟩
    · have := hle.2 c r z z2; omega
    · omega
theorem ClearP.uniq {P : Nat → Nat → Prop} {St : Nat → Nat → Bool} {M : Nat → Nat → Nat} {i i' : Nat} {v v' : Int32} {l l' : Nat} (h : ClearP P St M i v l) (h' : ClearP P St M i' v' l') : v = v' := by
  rcases h with ⟨h1, h2, h3⟩ | ⟨a, b, h1, h2, h3, h4, h5, h6, h7⟩
  · rcases h' with ⟨g1, g2, g3⟩ | ⟨a', b', g1, g2, g3, g4, g5, g6, g7⟩
    · rw [h2, g2]
    · rw [h3 a' b' g1] at g2; cases g2
  · rcases h' with ⟨g1, g2, g3⟩ | ⟨a', b', g1, g2, g3, g4, g5, g6, g7⟩
    · rw [g3 a b h1] at h2; cases h2
    · have e1 := h6 a' b' g1 g2
      have e2 := g6 a b h1 h2
      have e4 : 10 * a + b = 10 * a' + b' := by
        by_cases e5 : 10 * a + b < 10 * a' + b'
        · have := g7 a b h1 h2 e5; omega
        · by_cases e6 : 10 * a' + b' < 10 * a + b
          · have := h7 a' b' g1 g2 e6; omega
          · omega
      rw [h5, g5, e4]
theorem StX.rm {x : Int64} {St : Nat → Nat → Bool} (hx : StX x St) {c0 r0 : Nat} (hc : c0 < 6) (hr : r0 < 6) : StX (x &&& (jlshl (1 : Int64) (nI (10 * c0 + r0)) ^^^ (-1 : Int64))) (rmB St c0 r0) := by
  refine ⟨fun c r h1 h2 => ?_, fun k hk => ?_, fun c r z => hx.2.2 c r (rmB_in z)⟩
  · rw [lb_and, lb_not _ (by omega), lb_bit (by omega), hx.1 c r h1 h2]
    unfold rmB
    by_cases e : c = c0 ∧ r = r0
    · rw [decide_eq_true e, decide_eq_true (by omega)]
    · rw [decide_eq_false e, decide_eq_false (by omega)]
  · rw [lb_and, hx.2.1 k hk, Bool.false_and]
theorem sp_bestCleared {C R : Nat} (hC : C ≤ 6) (hR : R ≤ 6) {St : Nat → Nat → Bool} (hSt : ∀ c r, St c r = true → c < C ∧ r < R) {x : Int64} (hx : StX x St) {w : Nat} (hw : w < 5) {post : Int32 → Prop} (h : ∀ v l, ClearP (fun c r => c < C ∧ r < R) St (clM C R St w) 60 v l → post v) : wp_X2_bestCleared x (nI w) post := by
  unfold wp_X2_bestCleared
  refine zu3_3 60 (by omega) (fun k l3 l4 => ∃ l, l4 = nI l ∧ l ≤ 60 ∧ ClearP (fun c r => (c < C ∧ r < R) ∧ 10 * c + r < k) St (clM C R St w) 60 l3 l) 0 rfl (by omega) ⟨60, rfl, by omega, Or.inl ⟨rfl, rfl, fun c r z => absurd z.2 (by omega)⟩⟩ (fun k l3 l4 rec hk hJ hrec => ?_)
  obtain ⟨l, rfl, hl, hW⟩ := hJ
  unfold bd_X2_bestCleared_10
  refine br_le (a := k) (b := 60) (by omega) (by omega) (fun q => ?_) (fun q => ?_)
  · have hk1 : k = 60 := by omega
    subst hk1
    exact h l3 l (hW.congr (fun c r => ⟨fun z => z.1, fun z => ⟨z, by omega⟩⟩))
  · have hk0 : 10 * (k / 10) + k % 10 = k := by omega
    refine sp_isIn (by omega) ?_
    have hb := hx.1 (k / 10) (k % 10) (by omega) (by omega)
    rw [hk0] at hb
    rw [hb, nI_1]
    have hp : ∀ c r, ((c < C ∧ r < R) ∧ 10 * c + r < k + 1) → ((c < C ∧ r < R) ∧ 10 * c + r < k) ∨ (c = k / 10 ∧ r = k % 10) := fun c r z => by
      by_cases e : 10 * c + r < k
      · exact Or.inl ⟨z.1, e⟩
      · have e2 : 10 * c + r = k := by omega
        exact Or.inr ⟨by omega, by omega⟩
    have hp2 : ∀ c r, ((c < C ∧ r < R) ∧ 10 * c + r < k) → ((c < C ∧ r < R) ∧ 10 * c + r < k + 1) := fun c r z => ⟨z.1, by omega⟩
    have hlt : ∀ c r, ((c < C ∧ r < R) ∧ 10 * c + r < k) → 10 * c + r < 10 * (k / 10) + k % 10 := fun c r z => by rw [hk0]; exact z.2
    cases hs : St (k / 10) (k % 10) with
    | false => exact f01 (hrec _ _ (by omega) ⟨l, rfl, hl, hW.skip hp hp2 hs⟩)
    | true =>
      have hin := hSt _ _ hs
      refine t01 ?_
      have hx2 := hx.rm (c0 := k / 10) (r0 := k % 10) (by omega) (by omega)
      rw [hk0] at hx2
      refine sp_worstSpark hC hR (fun c r z => hSt c r (rmB_in z)) hx2 hw (fun v m hm hWo => ?_)
      have hM : clM C R St w (k / 10) (k % 10) = m := mOf_eq (fun c r z => by omega) hWo
      have last : jn_X2_bestCleared_68 l3 (nI l) (nI k) rec (nI m) := by
        unfold jn_X2_bestCleared_68
        rw [nI_1]
        refine br_le (by omega) (by omega) (fun z => ?_) (fun z => ?_)
        · exact hrec _ _ (by omega) ⟨l, rfl, hl, hW.keep hp hp2 hlt (by rw [hM]; exact z) (by omega)⟩
        · have := hW.take hp ⟨hin, by omega⟩ hs (by rw [hM]; exact z)
          rw [hk0, hM] at this
          exact hrec _ _ (by omega) ⟨m, rfl, by omega, this⟩
      rcases hWo with ⟨g1, g2, -⟩ | ⟨a, b, g1, g2, g3, g4, -, -⟩
      · rw [g2]
        refine yx rfl ?_
        rw [g1] at last
        exact last
      · rw [g4]
        refine nx (nI_ne9 (by omega)) ?_
        refine sp_spread hx2 hw (by omega) (by omega) (fun y hy => sp_bitCount ?_)
        have hcn : cnt (lb y) 64 = nB (rmB St (k / 10) (k % 10)) w a b := hy.count
        rw [hcn, g3]
        exact last
theorem StM.rm {St : Nat → Nat → Bool} {S : Nat → Int32} (hS : StM St S) {c0 r0 : Nat} (hc : c0 < 6) (hr : r0 < 6) : StM (rmB St c0 r0) (upd S (6 * c0 + r0) 0) := by
  intro c r h1 h2
  unfold rmB
  by_cases e : c = c0 ∧ r = r0
  · rw [e.1, e.2, up_at, decide_eq_true ⟨rfl, rfl⟩, Bool.not_true, Bool.and_false]; rfl
  · rw [up_ne (by omega), decide_eq_false e, Bool.not_false, Bool.and_true]
    exact hS c r h1 h2
theorem StM.put {St : Nat → Nat → Bool} {S : Nat → Int32} (hS : StM St S) {c0 r0 : Nat} (hc : c0 < 6) (hr : r0 < 6) (h : St c0 r0 = true) : StM St (upd (upd S (6 * c0 + r0) 0) (6 * c0 + r0) 1) := by
  intro c r h1 h2
  by_cases e : c = c0 ∧ r = r0
  · rw [e.1, e.2, up_at, h]; rfl
  · rw [up_ne (by omega), up_ne (by omega)]
    exact hS c r h1 h2
theorem nI_idiv {a d : Nat} (ha : a < 2 ^ 31) (h0 : 0 < d) (hd : d < 2 ^ 31) : nI a / nI d = nI (a / d) := pk_div ha h0 hd
theorem pu_clear {F_columns : Int32} {F_rows : Int32} {F_steepness : Int32} {F_size : Int32} {F_cells : Nat → Int32} {F_wearing : Nat → Int32} {F_turning : Nat → Int32} {c_laid : Int32} {c_columns : Nat → Int32} {c_rows : Nat → Int32} {c_lengths : Nat → Int32} {c_sorts : Nat → Int32} {c_thicknesses : Nat → Int32} {c_remains : Nat → Int32} {c_lying : Nat → Int64} {k0_laid : Int32} {k0_columns : Nat → Int32} {k0_rows : Nat → Int32} {k0_lengths : Nat → Int32} {k0_sorts : Nat → Int32} {k0_thicknesses : Nat → Int32} {k0_remains : Nat → Int32} {k0_lying : Nat → Int64} {k1_laid : Int32} {k1_columns : Nat → Int32} {k1_rows : Nat → Int32} {k1_lengths : Nat → Int32} {k1_sorts : Nat → Int32} {k1_thicknesses : Nat → Int32} {k1_remains : Nat → Int32} {k1_lying : Nat → Int64} {S_isKept : Nat → Int32} {Ag_from : Nat → Int32} {Ag_to : Nat → Int32} {T_length : Int32} {T_bytes : Nat → Int32} {M_columns : Int32} {M_rows : Int32} {M_pitch : Int32} {M_turns : Nat → Int32} {M_wears : Nat → Int32} {M_laid : Int32} {M_bCol : Nat → Int32} {M_bRow : Nat → Int32} {M_bLong : Nat → Int32} {M_bSort : Nat → Int32} {M_bThick : Nat → Int32} {M_left : Nat → Int32} {M_keptLaid : Nat → Int32} {M_isKept : Nat → Int32} {M_keptCol : Nat → Int32} {M_keptRow : Nat → Int32} {M_keptLong : Nat → Int32} {M_keptSort : Nat → Int32} {M_keptThick : Nat → Int32} {M_keptLeft : Nat → Int32} {M_froms : Nat → Int32} {M_tos : Nat → Int32} {M_text : Nat → Int32} {M_textSize : Int32} {M_isStraw : Nat → Int32} {M_isBurnt : Nat → Int32} (hR : Rel F_columns F_rows F_steepness F_size F_cells F_wearing F_turning c_laid c_columns c_rows c_lengths c_sorts c_thicknesses c_remains c_lying k0_laid k0_columns k0_rows k0_lengths k0_sorts k0_thicknesses k0_remains k0_lying k1_laid k1_columns k1_rows k1_lengths k1_sorts k1_thicknesses k1_remains k1_lying S_isKept Ag_from Ag_to T_length T_bytes M_columns M_rows M_pitch M_turns M_wears M_laid M_bCol M_bRow M_bLong M_bSort M_bThick M_left M_keptLaid M_isKept M_keptCol M_keptRow M_keptLong M_keptSort M_keptThick M_keptLeft M_froms M_tos M_text M_textSize) (l1 : Int32) : wp_X7_clear F_size F_cells c_lying l1 (fun (r : Int32)  => wp_X8_clear M_columns M_rows M_laid M_bCol M_left M_isStraw M_isBurnt l1 (fun (r' : Int32) (M_thrown' : Int32) (M_isStraw' : Nat → Int32) (M_isBurnt' : Nat → Int32) => r = r' ∧ Rel F_columns F_rows F_steepness F_size F_cells F_wearing F_turning c_laid c_columns c_rows c_lengths c_sorts c_thicknesses c_remains c_lying k0_laid k0_columns k0_rows k0_lengths k0_sorts k0_thicknesses k0_remains k0_lying k1_laid k1_columns k1_rows k1_lengths k1_sorts k1_thicknesses k1_remains k1_lying S_isKept Ag_from Ag_to T_length T_bytes M_columns M_rows M_pitch M_turns M_wears M_laid M_bCol M_bRow M_bLong M_bSort M_bThick M_left M_keptLaid M_isKept M_keptCol M_keptRow M_keptLong M_keptSort M_keptThick M_keptLeft M_froms M_tos M_text M_textSize)) := by
  obtain ⟨C, R, tt, wr, n, col, row, len, srt, thk, L, hRo, hCu, hR2⟩ := id hR
  have hCe : CellsC C R F_size F_cells := hRo.Ce
  obtain ⟨-, h2, -, h4, rfl, rfl, rfl, rfl, -⟩ := id hRo
  have hB := CurR.B h2 hCu
  obtain ⟨⟨⟨-, -, -⟩, -, hLy⟩, ⟨rfl, -, -⟩, ⟨hn, -⟩, -⟩ := id hCu
  unfold wp_X7_clear wp_X8_clear
  rcases num_cases l1 0 4 (by omega) with ⟨w, hw1, hw2, rfl⟩ | hno
  · refine isWind_Y hw2 (t01 (sp_strawCells h2 h4 hn hCe hLy (fun x hx => ?_)))
    refine sp_bestCleared h2 h4 (fun c r z => stW_in z) hx (by omega) (fun v l hW => ?_)
    refine sp_minY rfl (a := 0) (b := 4) rfl rfl (by omega) hw1 hw2 (t10 ?_)
    refine sp_layStraw h2 h4 hB (fun S hS => ?_)
    refine zu5_3 C (by omega) (fun c l2 l3 S _ => StM (stW C R n col L) S ∧ ∃ l, l3 = nI l ∧ l ≤ 100000 ∧ ClearP (fun c' r' => c' < c ∧ r' < R) (stW C R n col L) (clM C R (stW C R n col L) w) 100000 l2 l) 0 rfl (by omega) ⟨hS, 100000, rfl, by omega, Or.inl ⟨rfl, rfl, fun c r z => absurd z.1 (Nat.not_lt_zero c)⟩⟩ (fun c l2 l3 S1 B1 rec hc hJ hrec => ?_)
    obtain ⟨hS1, l, rfl, hl, hC1⟩ := hJ
    unfold bd_X8_clear_33
    refine br_le (by omega) (by omega) (fun q => ?_) (fun q => ?_)
    · have hc1 : c = C := by omega
      subst hc1
      exact ⟨hW.uniq hC1, hR⟩
    · refine zu5_3 R (by omega) (fun r l2 l3 S _ => StM (stW C R n col L) S ∧ ∃ l, l3 = nI l ∧ l ≤ 100000 ∧ ClearP (fun c' r' => (c' < c ∧ r' < R) ∨ (c' = c ∧ r' < r)) (stW C R n col L) (clM C R (stW C R n col L) w) 100000 l2 l) 0 rfl (by omega) ⟨hS1, l, rfl, hl, hC1.congr (fun c' r' => ⟨fun z => Or.inl z, fun z => by rcases z with z | z; exact z; exact absurd z.2 (Nat.not_lt_zero r')⟩)⟩ (fun r l2 l3 S2 B2 rec2 hr hJ2 hrec2 => ?_)
      obtain ⟨hS2, l, rfl, hl, hC2⟩ := hJ2
      unfold bd_X8_clear_45
      refine br_le (by omega) (by omega) (fun q2 => ?_) (fun q2 => ?_)
      · have hr1 : r = R := by omega
        subst hr1
        rw [nI_1]
        exact hrec _ _ _ _ q ⟨hS2, l, rfl, hl, hC2.congr (fun c' r' => ⟨fun z => by omega, fun z => by omega⟩)⟩
      · have v36 : vp_in (nI (6 * c + r)) 36 := vp_in_nI (by omega) (by omega)
        have hp : ∀ c' r', ((c' < c ∧ r' < R) ∨ (c' = c ∧ r' < r + 1)) → ((c' < c ∧ r' < R) ∨ (c' = c ∧ r' < r)) ∨ (c' = c ∧ r' = r) := fun c' r' z => by omega
        have hp2 : ∀ c' r', ((c' < c ∧ r' < R) ∨ (c' = c ∧ r' < r)) → ((c' < c ∧ r' < R) ∨ (c' = c ∧ r' < r + 1)) := fun c' r' z => by omega
        have hlt : ∀ c' r', ((c' < c ∧ r' < R) ∨ (c' = c ∧ r' < r)) → 10 * c' + r' < 10 * c + r := fun c' r' z => by omega
        rw [nI_6, nI_10, nI_1, nI_clamp (by omega), hS2 c r (by omega) (by omega)]
        refine ⟨v36, brx_c (fun e => ⟨v36, ?_⟩) (fun e => hrec2 _ _ _ _ q2 ⟨hS2, l, rfl, hl, hC2.skip hp hp2 e⟩)⟩
        refine sp_worstOf h2 h4 (fun c r z => stW_in (rmB_in z)) (hS2.rm (by omega) (by omega)) (by omega) (fun v' m x' B' hm hW' hV => ⟨v36, ?_⟩)
        have hM : clM C R (stW C R n col L) w c r = m := mOf_eq (fun c r z => by omega) hW'
        have hx' : x' / (100 : Int32) = nI m := by
          rw [show (100 : Int32) = nI 100 from rfl]
          rcases hV with ⟨g1, g2, rfl⟩ | ⟨g1, j, g2, g3, rfl⟩
          · rw [nI_idiv (by omega) (by omega) (by omega), g1]
          · rw [nI_idiv (by omega) (by omega) (by omega), show (100 * m + (99 - j)) / 100 = m by omega]
        rw [hx']
        have hS3 := hS2.put (c0 := c) (r0 := r) (by omega) (by omega) e
        refine br_le (by omega) (by omega) (fun z => ?_) (fun z => ?_)
        · exact hrec2 _ _ _ _ q2 ⟨hS3, l, rfl, hl, hC2.keep hp hp2 hlt (by rw [hM]; exact z) (by omega)⟩
        · have := hC2.take hp (Or.inr ⟨rfl, by omega⟩) e (by rw [hM]; exact z)
          rw [hM] at this
          exact hrec2 _ _ _ _ q2 ⟨hS3, m, rfl, by omega, this⟩
  · refine isWind_N hno (f01 ?_)
    exact sp_minX (a := 0) (b := 4) rfl rfl (by omega) (by omega) hno (f10 ⟨rfl, hR⟩)
