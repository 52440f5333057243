/-! PAIRS F: keep, again -/
/-- A is g with k numbers of f from place o on -/
def CpyP (f g : Nat → Int32) (o k : Nat) (A : Nat → Int32) : Prop := ∀ j, A j = if o ≤ j ∧ j < o + k then f (j - o) else g j
theorem CpyP.zero (f g : Nat → Int32) (o : Nat) : CpyP f g o 0 g := fun j => by rw [if_neg (by omega)]
theorem CpyP.step {f g : Nat → Int32} {o k p : Nat} {A : Nat → Int32} {x : Int32} (h : CpyP f g o k A) (hp : p = o + k) (hx : x = f k) : CpyP f g o (k + 1) (upd A p x) := by
  intro j
  subst hp hx
  by_cases e : j = o + k
  · rw [e, up_at, if_pos (by omega), show o + k - o = k by omega]
  · rw [up_ne e, h j]
    by_cases e2 : o ≤ j ∧ j < o + k
    · rw [if_pos e2, if_pos (by omega)]
    · rw [if_neg e2, if_neg (by omega)]
theorem CpyP.in {f g : Nat → Int32} {o k : Nat} {A : Nat → Int32} (h : CpyP f g o k A) {j : Nat} (hj : j < k) : A (o + j) = f j := by
  rw [h, if_pos (by omega), show o + j - o = j by omega]
theorem CpyP.out {f g : Nat → Int32} {o k : Nat} {A : Nat → Int32} (h : CpyP f g o k A) {j : Nat} (hj : j < o ∨ o + k ≤ j) : A j = g j := by
  rw [h, if_neg (by omega)]
theorem sp_keepM {s : Nat} (hs : s < 2) {M_laid : Int32} {M_bCol M_bRow M_bLong M_bSort M_bThick M_left M_keptLaid M_isKept M_keptCol M_keptRow M_keptLong M_keptSort M_keptThick M_keptLeft : Nat → Int32} {post : Int32 → Int32 → (Nat → Int32) → (Nat → Int32) → (Nat → Int32) → (Nat → Int32) → (Nat → Int32) → (Nat → Int32) → (Nat → Int32) → (Nat → Int32) → Prop} (h : ∀ kc kr kl ks kt kL, CpyP M_bCol M_keptCol (40 * s) 40 kc → CpyP M_bRow M_keptRow (40 * s) 40 kr → CpyP M_bLong M_keptLong (40 * s) 40 kl → CpyP M_bSort M_keptSort (40 * s) 40 ks → CpyP M_bThick M_keptThick (40 * s) 40 kt → CpyP M_left M_keptLeft (240 * s) 240 kL → post M_laid 0 (upd M_keptLaid s M_laid) (upd M_isKept s 1) kc kr kl ks kt kL) : wp_X8_keep M_laid M_bCol M_bRow M_bLong M_bSort M_bThick M_left M_keptLaid M_isKept M_keptCol M_keptRow M_keptLong M_keptSort M_keptThick M_keptLeft (nI s) post := by
  unfold wp_X8_keep
  refine sp_minY rfl (a := 0) (b := 1) rfl rfl (by omega) (by omega) (by omega) (t10 ⟨vp_in_nI (by omega) (by omega), vp_in_nI (by omega) (by omega), ?_⟩)
  refine zu6_1 40 (by omega) (fun k a b c d e => CpyP M_bCol M_keptCol (40 * s) k a ∧ CpyP M_bRow M_keptRow (40 * s) k b ∧ CpyP M_bLong M_keptLong (40 * s) k c ∧ CpyP M_bSort M_keptSort (40 * s) k d ∧ CpyP M_bThick M_keptThick (40 * s) k e) 0 rfl (by omega) ⟨CpyP.zero _ _ _, CpyP.zero _ _ _, CpyP.zero _ _ _, CpyP.zero _ _ _, CpyP.zero _ _ _⟩ (fun k a b c d e rec hk hJ hrec => ?_)
  obtain ⟨ha, hb, hc, hd, he⟩ := hJ
  unfold bd_X8_keep_36
  rw [nI_40]
  have v1 : k < 40 → vp_in (nI k) 80 := fun q => vp_in_nI (by omega) (by omega)
  have v2 : k < 40 → vp_in (nI (40 * s + k)) 80 := fun q => vp_in_nI (by omega) (by omega)
  refine br_le (a := k) (b := 40) (by omega) (by omega) (fun q => ?_) (fun q => ⟨v1 q, v2 q, v1 q, v2 q, v1 q, v2 q, v1 q, v2 q, v1 q, v2 q, ?_⟩)
  · have hk1 : k = 40 := by omega
    subst hk1
    refine zu2_1 240 (by omega) (fun k a => CpyP M_left M_keptLeft (240 * s) k a) 0 rfl (by omega) (CpyP.zero _ _ _) (fun k f rec2 hk2 hf hrec2 => ?_)
    unfold bd_X8_keep_135
    rw [nI_240]
    refine br_le (a := k) (b := 240) (by omega) (by omega) (fun q2 => ?_) (fun q2 => ⟨vp_in_nI (by omega) (by omega), vp_in_nI (by omega) (by omega), ?_⟩)
    · have hk3 : k = 240 := by omega
      subst hk3
      rw [nI_clamp (by omega)]
      exact h a b c d e f ha hb hc hd he hf
    · rw [nI_1, nI_clamp (by omega), nI_clamp (by omega)]
      exact hrec2 _ q2 (hf.step rfl rfl)
  · rw [nI_1, nI_clamp (by omega), nI_clamp (by omega)]
    exact hrec _ _ _ _ _ q ⟨ha.step rfl rfl, hb.step rfl rfl, hc.step rfl rfl, hd.step rfl rfl, he.step rfl rfl⟩
theorem sp_againM {s : Nat} (hs : s < 2) {M_bCol M_bRow M_bLong M_bSort M_bThick M_left M_keptLaid M_keptCol M_keptRow M_keptLong M_keptSort M_keptThick M_keptLeft : Nat → Int32} {post : Int32 → Int32 → Int32 → (Nat → Int32) → (Nat → Int32) → (Nat → Int32) → (Nat → Int32) → (Nat → Int32) → (Nat → Int32) → Prop} (h : ∀ kc kr kl ks kt kL, CpyP (fun j => M_keptCol (40 * s + j)) M_bCol 0 40 kc → CpyP (fun j => M_keptRow (40 * s + j)) M_bRow 0 40 kr → CpyP (fun j => M_keptLong (40 * s + j)) M_bLong 0 40 kl → CpyP (fun j => M_keptSort (40 * s + j)) M_bSort 0 40 ks → CpyP (fun j => M_keptThick (40 * s + j)) M_bThick 0 40 kt → CpyP (fun j => M_keptLeft (240 * s + j)) M_left 0 240 kL → post (M_keptLaid s) 0 (M_keptLaid s) kc kr kl ks kt kL) : zl6 (bd_X8_again_49 M_left M_keptLaid M_keptCol M_keptRow M_keptLong M_keptSort M_keptThick M_keptLeft (nI s) post) 0 M_bCol M_bRow M_bLong M_bSort M_bThick := by
  refine zu6_1 40 (by omega) (fun k a b c d e => CpyP (fun j => M_keptCol (40 * s + j)) M_bCol 0 k a ∧ CpyP (fun j => M_keptRow (40 * s + j)) M_bRow 0 k b ∧ CpyP (fun j => M_keptLong (40 * s + j)) M_bLong 0 k c ∧ CpyP (fun j => M_keptSort (40 * s + j)) M_bSort 0 k d ∧ CpyP (fun j => M_keptThick (40 * s + j)) M_bThick 0 k e) 0 rfl (by omega) ⟨CpyP.zero _ _ _, CpyP.zero _ _ _, CpyP.zero _ _ _, CpyP.zero _ _ _, CpyP.zero _ _ _⟩ (fun k a b c d e rec hk hJ hrec => ?_)
  obtain ⟨ha, hb, hc, hd, he⟩ := hJ
  unfold bd_X8_again_49
  rw [nI_40]
  have v1 : k < 40 → vp_in (nI k) 80 := fun q => vp_in_nI (by omega) (by omega)
  have v2 : k < 40 → vp_in (nI (40 * s + k)) 80 := fun q => vp_in_nI (by omega) (by omega)
  refine br_le (a := k) (b := 40) (by omega) (by omega) (fun q => ?_) (fun q => ⟨v2 q, v1 q, v2 q, v1 q, v2 q, v1 q, v2 q, v1 q, v2 q, v1 q, ?_⟩)
  · have hk1 : k = 40 := by omega
    subst hk1
    refine zu2_1 240 (by omega) (fun k a => CpyP (fun j => M_keptLeft (240 * s + j)) M_left 0 k a) 0 rfl (by omega) (CpyP.zero _ _ _) (fun k f rec2 hk2 hf hrec2 => ?_)
    unfold bd_X8_again_148
    rw [nI_240]
    refine br_le (a := k) (b := 240) (by omega) (by omega) (fun q2 => ?_) (fun q2 => ⟨vp_in_nI (by omega) (by omega), vp_in_nI (by omega) (by omega), ?_⟩)
    · have hk3 : k = 240 := by omega
      subst hk3
      rw [nI_clamp (by omega)]
      exact h a b c d e f ha hb hc hd he hf
    · rw [nI_1, nI_clamp (by omega), nI_clamp (by omega)]
      exact hrec2 _ q2 (hf.step (Nat.zero_add k).symm rfl)
  · rw [nI_1, nI_clamp (by omega), nI_clamp (by omega)]
    exact hrec _ _ _ _ _ q ⟨ha.step (Nat.zero_add k).symm rfl, hb.step (Nat.zero_add k).symm rfl, hc.step (Nat.zero_add k).symm rfl, hd.step (Nat.zero_add k).symm rfl, he.step (Nat.zero_add k).symm rfl⟩
theorem slotR_new {C R n s : Nat} {isK : Nat → Int32} {col row len srt thk : Nat → Nat} {L : Nat → Nat → Nat} {aL : Int32} {aCol aRow aLen aSrt aThk aLeft : Nat → Int32} {ly : Nat → Int64} {mL : Int32} {mK mLd bCol bRow bLen bSrt bThk bLeft mCol mRow mLen mSrt mThk mLeft kc kr kl ks kt kL : Nat → Int32} (hA : CoatA C R n col row len srt thk L aL aCol aRow aLen aSrt aThk aLeft ly) (hB : BunA n col row len srt thk L mL bCol bRow bLen bSrt bThk bLeft) (hO : BunOK C R n col row len srt thk L) (h1 : CpyP bCol mCol (40 * s) 40 kc) (h2 : CpyP bRow mRow (40 * s) 40 kr) (h3 : CpyP bLen mLen (40 * s) 40 kl) (h4 : CpyP bSrt mSrt (40 * s) 40 ks) (h5 : CpyP bThk mThk (40 * s) 40 kt) (h6 : CpyP bLeft mLeft (240 * s) 240 kL) : SlotR C R s (upd isK s 1) aL aCol aRow aLen aSrt aThk aLeft ly (upd mK s 1) (upd mLd s mL) kc kr kl ks kt kL := by
  refine Or.inr ⟨up_at, up_at, n, col, row, len, srt, thk, L, hA, ?_, hO⟩
  rw [up_at]
  exact bunA_congr hB hO.1 (fun j hj => h1.in hj) (fun j hj => h2.in hj) (fun j hj => h3.in hj) (fun j hj => h4.in hj) (fun j hj => h5.in hj) (fun j hj => h6.in hj)
theorem slotR_old {C R s s' : Nat} {isK : Nat → Int32} {aL : Int32} {aCol aRow aLen aSrt aThk aLeft : Nat → Int32} {ly : Nat → Int64} {mL : Int32} {mK mLd bCol bRow bLen bSrt bThk bLeft mCol mRow mLen mSrt mThk mLeft kc kr kl ks kt kL : Nat → Int32} (hne : s' ≠ s) (h : SlotR C R s' isK aL aCol aRow aLen aSrt aThk aLeft ly mK mLd mCol mRow mLen mSrt mThk mLeft) (h1 : CpyP bCol mCol (40 * s) 40 kc) (h2 : CpyP bRow mRow (40 * s) 40 kr) (h3 : CpyP bLen mLen (40 * s) 40 kl) (h4 : CpyP bSrt mSrt (40 * s) 40 ks) (h5 : CpyP bThk mThk (40 * s) 40 kt) (h6 : CpyP bLeft mLeft (240 * s) 240 kL) : SlotR C R s' (upd isK s 1) aL aCol aRow aLen aSrt aThk aLeft ly (upd mK s 1) (upd mLd s mL) kc kr kl ks kt kL := by
  unfold SlotR
  rw [up_ne hne, up_ne hne, up_ne hne]
  rcases h with h | ⟨e1, e2, n, col, row, len, srt, thk, L, hA, hB, hO⟩
  · exact Or.inl h
  · refine Or.inr ⟨e1, e2, n, col, row, len, srt, thk, L, hA, ?_, hO⟩
    exact bunA_congr hB hO.1 (fun j hj => h1.out (by omega)) (fun j hj => h2.out (by omega)) (fun j hj => h3.out (by omega)) (fun j hj => h4.out (by omega)) (fun j hj => h5.out (by omega)) (fun j hj => h6.out (by omega))
theorem pu_keep {F_columns : Int32} {F_rows : Int32} {F_steepness : Int32} {F_size : Int32} {F_cells : Nat → Int32} {F_wearing : Nat → Int32} {F_turning : Nat → Int32} {c_laid : Int32} {c_columns : Nat → Int32} {c_rows : Nat → Int32} {c_lengths : Nat → Int32} {c_sorts : Nat → Int32} {c_thicknesses : Nat → Int32} {c_remains : Nat → Int32} {c_lying : Nat → Int64} {k0_laid : Int32} {k0_columns : Nat → Int32} {k0_rows : Nat → Int32} {k0_lengths : Nat → Int32} {k0_sorts : Nat → Int32} {k0_thicknesses : Nat → Int32} {k0_remains : Nat → Int32} {k0_lying : Nat → Int64} {k1_laid : Int32} {k1_columns : Nat → Int32} {k1_rows : Nat → Int32} {k1_lengths : Nat → Int32} {k1_sorts : Nat → Int32} {k1_thicknesses : Nat → Int32} {k1_remains : Nat → Int32} {k1_lying : Nat → Int64} {S_isKept : Nat → Int32} {Ag_from : Nat → Int32} {Ag_to : Nat → Int32} {T_length : Int32} {T_bytes : Nat → Int32} {M_columns : Int32} {M_rows : Int32} {M_pitch : Int32} {M_turns : Nat → Int32} {M_wears : Nat → Int32} {M_laid : Int32} {M_bCol : Nat → Int32} {M_bRow : Nat → Int32} {M_bLong : Nat → Int32} {M_bSort : Nat → Int32} {M_bThick : Nat → Int32} {M_left : Nat → Int32} {M_keptLaid : Nat → Int32} {M_isKept : Nat → Int32} {M_keptCol : Nat → Int32} {M_keptRow : Nat → Int32} {M_keptLong : Nat → Int32} {M_keptSort : Nat → Int32} {M_keptThick : Nat → Int32} {M_keptLeft : Nat → Int32} {M_froms : Nat → Int32} {M_tos : Nat → Int32} {M_text : Nat → Int32} {M_textSize : Int32} (hR : Rel F_columns F_rows F_steepness F_size F_cells F_wearing F_turning c_laid c_columns c_rows c_lengths c_sorts c_thicknesses c_remains c_lying k0_laid k0_columns k0_rows k0_lengths k0_sorts k0_thicknesses k0_remains k0_lying k1_laid k1_columns k1_rows k1_lengths k1_sorts k1_thicknesses k1_remains k1_lying S_isKept Ag_from Ag_to T_length T_bytes M_columns M_rows M_pitch M_turns M_wears M_laid M_bCol M_bRow M_bLong M_bSort M_bThick M_left M_keptLaid M_isKept M_keptCol M_keptRow M_keptLong M_keptSort M_keptThick M_keptLeft M_froms M_tos M_text M_textSize) (l1 : Int32) : wp_X7_keep S_isKept c_laid c_columns c_rows c_lengths c_sorts c_thicknesses c_remains c_lying k0_laid k0_columns k0_rows k0_lengths k0_sorts k0_thicknesses k0_remains k0_lying k1_laid k1_columns k1_rows k1_lengths k1_sorts k1_thicknesses k1_remains k1_lying l1 (fun (r : Int32) (S_isKept' : Nat → Int32) (k0_laid' : Int32) (k0_columns' : Nat → Int32) (k0_rows' : Nat → Int32) (k0_lengths' : Nat → Int32) (k0_sorts' : Nat → Int32) (k0_thicknesses' : Nat → Int32) (k0_remains' : Nat → Int32) (k0_lying' : Nat → Int64) (k1_laid' : Int32) (k1_columns' : Nat → Int32) (k1_rows' : Nat → Int32) (k1_lengths' : Nat → Int32) (k1_sorts' : Nat → Int32) (k1_thicknesses' : Nat → Int32) (k1_remains' : Nat → Int32) (k1_lying' : Nat → Int64) => wp_X8_keep M_laid M_bCol M_bRow M_bLong M_bSort M_bThick M_left M_keptLaid M_isKept M_keptCol M_keptRow M_keptLong M_keptSort M_keptThick M_keptLeft l1 (fun (r' : Int32) (M_thrown' : Int32) (M_keptLaid' : Nat → Int32) (M_isKept' : Nat → Int32) (M_keptCol' : Nat → Int32) (M_keptRow' : Nat → Int32) (M_keptLong' : Nat → Int32) (M_keptSort' : Nat → Int32) (M_keptThick' : Nat → Int32) (M_keptLeft' : Nat → Int32) => r = r' ∧ Rel F_columns F_rows F_steepness F_size F_cells F_wearing F_turning c_laid c_columns c_rows c_lengths c_sorts c_thicknesses c_remains c_lying k0_laid' k0_columns' k0_rows' k0_lengths' k0_sorts' k0_thicknesses' k0_remains' k0_lying' k1_laid' k1_columns' k1_rows' k1_lengths' k1_sorts' k1_thicknesses' k1_remains' k1_lying' S_isKept' Ag_from Ag_to T_length T_bytes M_columns M_rows M_pitch M_turns M_wears M_laid M_bCol M_bRow M_bLong M_bSort M_bThick M_left M_keptLaid' M_isKept' M_keptCol' M_keptRow' M_keptLong' M_keptSort' M_keptThick' M_keptLeft' M_froms M_tos M_text M_textSize)) := by
  obtain ⟨C, R, tt, wr, n, col, row, len, srt, thk, L, hRo, hCu, hS0, hS1, h5⟩ := id hR
  obtain ⟨-, h2, -, h4, -⟩ := id hRo
  obtain ⟨hA, hMb, hBO, hNo⟩ := id hCu
  obtain rfl := hA.1.1
  obtain rfl := hMb.1
  have hn := hBO.1
  unfold wp_X7_keep wp_X7_isSlot
  rcases num_cases l1 0 1 (by omega) with ⟨s, -, hs, rfl⟩ | hno
  · refine sp_withY rfl (a := 0) (b := 1) rfl rfl (by omega) (by omega) hs ⟨Or.inr rfl, t10 ?_⟩
    have hs2 : s = 0 ∨ s = 1 := by omega
    rcases hs2 with rfl | rfl
    · refine yy rfl (sp_become hA hn h2 h4 (fun bCol' bRow' bLen' bSrt' bThk' bLeft' b' hA' => ⟨vp_in_nI (by omega) (by omega), ?_⟩))
      rw [nI_clamp (by omega)]
      refine sp_keepM (by omega) (fun kc kr kl ks kt kL g1 g2 g3 g4 g5 g6 => ⟨rfl, C, R, tt, wr, n, col, row, len, srt, thk, L, hRo, hCu, ?_, ?_, h5⟩)
      · exact slotR_new hA' hMb hBO g1 g2 g3 g4 g5 g6
      · exact slotR_old (by omega) hS1 g1 g2 g3 g4 g5 g6
    · refine nn (by decide) (sp_become hA hn h2 h4 (fun bCol' bRow' bLen' bSrt' bThk' bLeft' b' hA' => ⟨vp_in_nI (by omega) (by omega), ?_⟩))
      rw [nI_clamp (by omega)]
      refine sp_keepM (by omega) (fun kc kr kl ks kt kL g1 g2 g3 g4 g5 g6 => ⟨rfl, C, R, tt, wr, n, col, row, len, srt, thk, L, hRo, hCu, ?_, ?_, h5⟩)
      · exact slotR_old (by omega) hS0 g1 g2 g3 g4 g5 g6
      · exact slotR_new hA' hMb hBO g1 g2 g3 g4 g5 g6
  · refine sp_withN (a := 0) (b := 1) rfl rfl (by omega) (by omega) hno ⟨Or.inl rfl, f10 ?_⟩
    unfold wp_X8_keep
    exact sp_minX (a := 0) (b := 1) rfl rfl (by omega) (by omega) hno (f10 ⟨rfl, hR⟩)
theorem pu_again {F_columns : Int32} {F_rows : Int32} {F_steepness : Int32} {F_size : Int32} {F_cells : Nat → Int32} {F_wearing : Nat → Int32} {F_turning : Nat → Int32} {c_laid : Int32} {c_columns : Nat → Int32} {c_rows : Nat → Int32} {c_lengths : Nat → Int32} {c_sorts : Nat → Int32} {c_thicknesses : Nat → Int32} {c_remains : Nat → Int32} {c_lying : Nat → Int64} {k0_laid : Int32} {k0_columns : Nat → Int32} {k0_rows : Nat → Int32} {k0_lengths : Nat → Int32} {k0_sorts : Nat → Int32} {k0_thicknesses : Nat → Int32} {k0_remains : Nat → Int32} {k0_lying : Nat → Int64} {k1_laid : Int32} {k1_columns : Nat → Int32} {k1_rows : Nat → Int32} {k1_lengths : Nat → Int32} {k1_sorts : Nat → Int32} {k1_thicknesses : Nat → Int32} {k1_remains : Nat → Int32} {k1_lying : Nat → Int64} {S_isKept : Nat → Int32} {Ag_from : Nat → Int32} {Ag_to : Nat → Int32} {T_length : Int32} {T_bytes : Nat → Int32} {M_columns : Int32} {M_rows : Int32} {M_pitch : Int32} {M_turns : Nat → Int32} {M_wears : Nat → Int32} {M_laid : Int32} {M_bCol : Nat → Int32} {M_bRow : Nat → Int32} {M_bLong : Nat → Int32} {M_bSort : Nat → Int32} {M_bThick : Nat → Int32} {M_left : Nat → Int32} {M_keptLaid : Nat → Int32} {M_isKept : Nat → Int32} {M_keptCol : Nat → Int32} {M_keptRow : Nat → Int32} {M_keptLong : Nat → Int32} {M_keptSort : Nat → Int32} {M_keptThick : Nat → Int32} {M_keptLeft : Nat → Int32} {M_froms : Nat → Int32} {M_tos : Nat → Int32} {M_text : Nat → Int32} {M_textSize : Int32} (hR : Rel F_columns F_rows F_steepness F_size F_cells F_wearing F_turning c_laid c_columns c_rows c_lengths c_sorts c_thicknesses c_remains c_lying k0_laid k0_columns k0_rows k0_lengths k0_sorts k0_thicknesses k0_remains k0_lying k1_laid k1_columns k1_rows k1_lengths k1_sorts k1_thicknesses k1_remains k1_lying S_isKept Ag_from Ag_to T_length T_bytes M_columns M_rows M_pitch M_turns M_wears M_laid M_bCol M_bRow M_bLong M_bSort M_bThick M_left M_keptLaid M_isKept M_keptCol M_keptRow M_keptLong M_keptSort M_keptThick M_keptLeft M_froms M_tos M_text M_textSize) (l1 : Int32) : wp_X7_again S_isKept F_size F_cells F_turning c_laid c_columns c_rows c_lengths c_sorts c_thicknesses c_remains c_lying k0_laid k0_columns k0_rows k0_lengths k0_sorts k0_thicknesses k0_remains k0_lying k1_laid k1_columns k1_rows k1_lengths k1_sorts k1_thicknesses k1_remains k1_lying l1 (fun (r : Int32) (c_laid' : Int32) (c_columns' : Nat → Int32) (c_rows' : Nat → Int32) (c_lengths' : Nat → Int32) (c_sorts' : Nat → Int32) (c_thicknesses' : Nat → Int32) (c_remains' : Nat → Int32) (c_lying' : Nat → Int64) => wp_X8_again M_laid M_turns M_bCol M_bRow M_bLong M_bSort M_bThick M_left M_keptLaid M_isKept M_keptCol M_keptRow M_keptLong M_keptSort M_keptThick M_keptLeft l1 (fun (r' : Int32) (M_thrown' : Int32) (M_laid' : Int32) (M_bCol' : Nat → Int32) (M_bRow' : Nat → Int32) (M_bLong' : Nat → Int32) (M_bSort' : Nat → Int32) (M_bThick' : Nat → Int32) (M_left' : Nat → Int32) => r = r' ∧ Rel F_columns F_rows F_steepness F_size F_cells F_wearing F_turning c_laid' c_columns' c_rows' c_lengths' c_sorts' c_thicknesses' c_remains' c_lying' k0_laid k0_columns k0_rows k0_lengths k0_sorts k0_thicknesses k0_remains k0_lying k1_laid k1_columns k1_rows k1_lengths k1_sorts k1_thicknesses k1_remains k1_lying S_isKept Ag_from Ag_to T_length T_bytes M_columns M_rows M_pitch M_turns M_wears M_laid' M_bCol' M_bRow' M_bLong' M_bSort' M_bThick' M_left' M_keptLaid M_isKept M_keptCol M_keptRow M_keptLong M_keptSort M_keptThick M_keptLeft M_froms M_tos M_text M_textSize)) := by
  obtain ⟨C, R, tt, wr, n0, col0, row0, len0, srt0, thk0, L0, hRo, hCu, hS0, hS1, h5⟩ := id hR
  have hC := hRo.C
  have hM := hRo.M
  have hCe : CellsC C R F_size F_cells := hRo.Ce
  obtain ⟨-, h2, -, h4, -⟩ := id hRo
  unfold wp_X7_again wp_X7_isSlot
  rcases num_cases l1 0 1 (by omega) with ⟨s, -, hs, rfl⟩ | hno
  · refine sp_withY rfl (a := 0) (b := 1) rfl rfl (by omega) (by omega) hs ⟨Or.inr rfl, t10 ⟨vp_in_nI (by omega) (by omega), ?_⟩⟩
    rw [nI_clamp (by omega)]
    have hs2 : s = 0 ∨ s = 1 := by omega
    rcases hs2 with rfl | rfl
    · rcases id hS0 with ⟨e1, e2⟩ | ⟨e1, e2, n, col, row, len, srt, thk, L, hA, hMb, hBO⟩
      · refine yy e1 ?_
        unfold wp_X8_again
        refine sp_minY rfl (a := 0) (b := 1) rfl rfl (by omega) (by omega) (by omega) (t10 ⟨vp_in_nI (by omega) (by omega), ?_⟩)
        rw [nI_clamp (by omega)]
        exact yy e2 ⟨rfl, hR⟩
      · rw [e1]
        obtain ⟨hn, hO⟩ := id hBO
        have hA1 : k0_laid = nI n := hA.1.1
        have hMb1 : M_keptLaid 0 = nI n := hMb.1
        refine nn (by decide) (yy rfl ?_)
        refine sp_lieOnOpening hC hCe hA.2.2 hn (fun b hb => (hO b hb).1) (fun b r hb hr => ((hO b hb).2.2.2.2.2 r).2 hr) (fun no => f01 (yy rfl ?_)) (fun no => t01 ?_)
        · refine sp_become hA hn h2 h4 (fun bCol' bRow' bLen' bSrt' bThk' bLeft' b' hA' => ?_)
          unfold wp_X8_again
          refine sp_minY rfl (a := 0) (b := 1) rfl rfl (by omega) (by omega) (by omega) (t10 ⟨vp_in_nI (by omega) (by omega), ?_⟩)
          rw [nI_clamp (by omega), e2]
          refine nn (by decide) ?_
          refine sp_isBarred hM (by omega) hn hMb1 (fun b hb => ⟨(hMb.2.1 b hb).1, by have := (hO b hb).1; omega⟩) (fun b r hb hr => ⟨hMb.2.2 b r hb hr, ((hO b hb).2.2.2.2.2 r).1⟩) (fun b r hb hr => ((hO b hb).2.2.2.2.2 r).2 (by omega)) (fun _ => f01 ⟨vp_in_nI (by omega) (by omega), ?_⟩) (fun z => absurd no z)
          refine sp_againM (by omega) (fun kc kr kl ks kt kL g1 g2 g3 g4 g5 g6 => ⟨by rw [hA1, hMb1], C, R, tt, wr, n, col, row, len, srt, thk, L, hRo, ⟨hA', ?_, hBO, no⟩, hS0, hS1, h5⟩)
          have q : ∀ {f g A : Nat → Int32} {k j : Nat}, CpyP f g 0 k A → j < k → A j = f j := fun {f g A k j} h hj => by have := h.in hj; rwa [Nat.zero_add] at this
          exact bunA_congr hMb hn (fun j hj => q g1 hj) (fun j hj => q g2 hj) (fun j hj => q g3 hj) (fun j hj => q g4 hj) (fun j hj => q g5 hj) (fun j hj => q g6 hj)
        · unfold wp_X8_again
          refine sp_minY rfl (a := 0) (b := 1) rfl rfl (by omega) (by omega) (by omega) (t10 ⟨vp_in_nI (by omega) (by omega), ?_⟩)
          rw [nI_clamp (by omega), e2]
          refine nn (by decide) ?_
          exact sp_isBarred hM (by omega) hn hMb1 (fun b hb => ⟨(hMb.2.1 b hb).1, by have := (hO b hb).1; omega⟩) (fun b r hb hr => ⟨hMb.2.2 b r hb hr, ((hO b hb).2.2.2.2.2 r).1⟩) (fun b r hb hr => ((hO b hb).2.2.2.2.2 r).2 (by omega)) (fun z => absurd z no) (fun _ => t01 ⟨rfl, hR⟩)
    · rcases id hS1 with ⟨e1, e2⟩ | ⟨e1, e2, n, col, row, len, srt, thk, L, hA, hMb, hBO⟩
      · refine yy e1 ?_
        unfold wp_X8_again
        refine sp_minY rfl (a := 0) (b := 1) rfl rfl (by omega) (by omega) (by omega) (t10 ⟨vp_in_nI (by omega) (by omega), ?_⟩)
        rw [nI_clamp (by omega)]
        exact yy e2 ⟨rfl, hR⟩
      · rw [e1]
        obtain ⟨hn, hO⟩ := id hBO
        have hA1 : k1_laid = nI n := hA.1.1
        have hMb1 : M_keptLaid 1 = nI n := hMb.1
        refine nn (by decide) (nn (by decide) ?_)
        refine sp_lieOnOpening hC hCe hA.2.2 hn (fun b hb => (hO b hb).1) (fun b r hb hr => ((hO b hb).2.2.2.2.2 r).2 hr) (fun no => f01 (nn (by decide) ?_)) (fun no => t01 ?_)
        · refine sp_become hA hn h2 h4 (fun bCol' bRow' bLen' bSrt' bThk' bLeft' b' hA' => ?_)
          unfold wp_X8_again
          refine sp_minY rfl (a := 0) (b := 1) rfl rfl (by omega) (by omega) (by omega) (t10 ⟨vp_in_nI (by omega) (by omega), ?_⟩)
          rw [nI_clamp (by omega), e2]
          refine nn (by decide) ?_
          refine sp_isBarred hM (by omega) hn hMb1 (fun b hb => ⟨(hMb.2.1 b hb).1, by have := (hO b hb).1; omega⟩) (fun b r hb hr => ⟨hMb.2.2 b r hb hr, ((hO b hb).2.2.2.2.2 r).1⟩) (fun b r hb hr => ((hO b hb).2.2.2.2.2 r).2 (by omega)) (fun _ => f01 ⟨vp_in_nI (by omega) (by omega), ?_⟩) (fun z => absurd no z)
          refine sp_againM (by omega) (fun kc kr kl ks kt kL g1 g2 g3 g4 g5 g6 => ⟨by rw [hA1, hMb1], C, R, tt, wr, n, col, row, len, srt, thk, L, hRo, ⟨hA', ?_, hBO, no⟩, hS0, hS1, h5⟩)
          have q : ∀ {f g A : Nat → Int32} {k j : Nat}, CpyP f g 0 k A → j < k → A j = f j := fun {f g A k j} h hj => by have := h.in hj; rwa [Nat.zero_add] at this
          exact bunA_congr hMb hn (fun j hj => q g1 hj) (fun j hj => q g2 hj) (fun j hj => q g3 hj) (fun j hj => q g4 hj) (fun j hj => q g5 hj) (fun j hj => q g6 hj)
        · unfold wp_X8_again
          refine sp_minY rfl (a := 0) (b := 1) rfl rfl (by omega) (by omega) (by omega) (t10 ⟨vp_in_nI (by omega) (by omega), ?_⟩)
          rw [nI_clamp (by omega), e2]
          refine nn (by decide) ?_
          exact sp_isBarred hM (by omega) hn hMb1 (fun b hb => ⟨(hMb.2.1 b hb).1, by have := (hO b hb).1; omega⟩) (fun b r hb hr => ⟨hMb.2.2 b r hb hr, ((hO b hb).2.2.2.2.2 r).1⟩) (fun b r hb hr => ((hO b hb).2.2.2.2.2 r).2 (by omega)) (fun z => absurd z no) (fun _ => t01 ⟨rfl, hR⟩)
  · refine sp_withN (a := 0) (b := 1) rfl rfl (by omega) (by omega) hno ⟨Or.inl rfl, f10 ?_⟩
    unfold wp_X8_again
    exact sp_minX (a := 0) (b := 1) rfl rfl (by omega) (by omega) hno (f10 ⟨rfl, hR⟩)
