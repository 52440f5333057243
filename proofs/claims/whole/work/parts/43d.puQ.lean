/-! PAIRS Q: proof, fewest -/
def btr : Option Nat → Nat → Bool
  | none, _ => true
  | some w, k => decide (pcN k < pcN w)
theorem bstW_succ (p : Nat → Bool) (k : Nat) : bstW p (k + 1) = if (btr (bstW p k) k && p k) = true then some k else bstW p k := by
  rw [bstW]
  cases bstW p k <;> rfl
theorem sp_bits {w : Nat} (hw : w < 64) {post : Int32 → Prop} (h : post (nI (pcN w))) : wp_X8_bits (nI w) post := by
  unfold wp_X8_bits
  refine zu2_2 6 (by omega) (fun k x => x = nI (cnt (fun i => w.testBit i) k)) 0 rfl (by omega) rfl (fun k x rec hk hJ hrec => ?_)
  subst hJ
  unfold bd_X8_bits_4
  refine br_le (a := k) (b := 6) (by omega) (by omega) (fun q => ?_) (fun q => ?_)
  · have hk1 : k = 6 := by omega
    subst hk1
    exact h
  · rw [shr1 w hw k q, nI_1]
    refine hrec _ q ?_
    cases hb : w.testBit k with
    | true => rw [cnt_step_y hb, if_pos rfl, nI_1]
    | false => rw [cnt_step_n hb, if_neg (by decide), Int32.add_zero]
theorem sp_findFewest {C R lap n : Nat} {tt : Nat → Nat → Nat} {Mp : Int32} {Mt : Nat → Int32} (hRo : RoofM C R lap tt (nI C) (nI R) Mp Mt) {col : Nat → Nat} {L : Nat → Nat → Nat} {aCol aRow aLen aSrt aThk aLeft : Nat → Int32} (hB : BunM n col L aCol aLeft) (hn : n ≤ 40) {ly : Nat → Nat → Nat → Bool} (hlyn : ∀ c r b, n ≤ b → ly c r b = false) {c0 ln : Nat} (hly : ∀ c r b, c ≠ c0 → ly c r b = lyB n col L c r b) (hbare : ∀ b r, b < n → col b = c0 → L b r = 0) (hc : c0 < C) (hl : 1 ≤ ln ∧ ln ≤ 3) {pm ea : Int32} {places isT : Nat → Int32} {post : Int32 → Int32 → (Nat → Int32) → (Nat → Int32) → (Nat → Int32) → (Nat → Int32) → (Nat → Int32) → (Nat → Int32) → (Nat → Int32) → Int32 → Int32 → (Nat → Int32) → Prop} (h : ∀ b1 b2 b3 b4 b5 b6, SamT n aCol b1 → SamT n aRow b2 → SamT n aLen b3 → SamT n aSrt b4 → SamT n aThk b5 → SamT (6 * n) aLeft b6 → ∀ x1 x2 x3 x4, post (oI (bstW (prfB C R lap tt c0 ln ly) (2 ^ R))) (nI n) b1 b2 b3 b4 b5 b6 x1 x2 x3 x4) : wp_X8_findFewest (nI C) (nI R) Mp (nI n) pm ea Mt aCol aRow aLen aSrt aThk aLeft places isT (nI c0) (nI ln) post := by
  have hR6 : R ≤ 6 := hRo.2.2.2.1
  have h64 := p64 hR6
  unfold wp_X8_findFewest
  refine zu13_2 (2 ^ R) (by omega) (fun k l3 la b1 b2 b3 b4 b5 b6 _ _ _ _ => l3 = oI (bstW (prfB C R lap tt c0 ln ly) k) ∧ la = nI n ∧ SamT n aCol b1 ∧ SamT n aRow b2 ∧ SamT n aLen b3 ∧ SamT n aSrt b4 ∧ SamT n aThk b5 ∧ SamT (6 * n) aLeft b6) 0 rfl (Nat.zero_le _) ⟨rfl, rfl, SamT.refl, SamT.refl, SamT.refl, SamT.refl, SamT.refl, SamT.refl⟩ (fun k l3 la b1 b2 b3 b4 b5 b6 x1 x2 x3 x4 rec hk hJ hrec => ?_)
  obtain ⟨rfl, rfl, s1, s2, s3, s4, s5, s6⟩ := hJ
  unfold bd_X8_findFewest_6
  rw [shl64 R (by omega)]
  refine br_le (by omega) (by omega) (fun q => ?_) (fun q => ?_)
  · have hk1 : k = 2 ^ R := by omega
    rw [hk1]
    exact h b1 b2 b3 b4 b5 b6 s1 s2 s3 s4 s5 s6 _ _ _ _
  · have jn0 : btr (bstW (prfB C R lap tt c0 ln ly) k) k = false → jn_X8_findFewest_40 (nI C) (nI R) Mp Mt (nI c0) (nI ln) (oI (bstW (prfB C R lap tt c0 ln ly) k)) (nI k) (nI n) b1 b2 b3 b4 b5 b6 x1 x2 x3 x4 rec 0 := fun e => by
      unfold jn_X8_findFewest_40
      rw [nI_1]
      refine f01 (hrec _ _ _ _ _ _ _ _ _ _ _ _ q ⟨?_, rfl, s1, s2, s3, s4, s5, s6⟩)
      rw [bstW_succ, e, Bool.false_and, if_neg (by decide)]
    have jn1 : btr (bstW (prfB C R lap tt c0 ln ly) k) k = true → jn_X8_findFewest_40 (nI C) (nI R) Mp Mt (nI c0) (nI ln) (oI (bstW (prfB C R lap tt c0 ln ly) k)) (nI k) (nI n) b1 b2 b3 b4 b5 b6 x1 x2 x3 x4 rec 1 := fun e => by
      unfold jn_X8_findFewest_40
      rw [nI_1]
      refine t01 ?_
      refine sp_isProofM hRo (hB.sam s1 s6) hn hlyn hly hbare hc hl (by omega) (fun d1 d2 d3 d4 d5 d6 t1 t2 t3 t4 t5 t6 y1 y2 y3 y4 => ?_)
      refine brx_c (fun z => hrec _ _ _ _ _ _ _ _ _ _ _ _ q ⟨?_, rfl, s1.trans t1, s2.trans t2, s3.trans t3, s4.trans t4, s5.trans t5, s6.trans t6⟩) (fun z => hrec _ _ _ _ _ _ _ _ _ _ _ _ q ⟨?_, rfl, s1.trans t1, s2.trans t2, s3.trans t3, s4.trans t4, s5.trans t5, s6.trans t6⟩)
      · rw [bstW_succ, e, z, if_pos (by decide)]; rfl
      · rw [bstW_succ, z, Bool.and_false, if_neg (by decide)]
    cases hb : bstW (prfB C R lap tt c0 ln ly) k with
    | none =>
      rw [hb] at jn0 jn1
      exact yy rfl (jn1 rfl)
    | some w =>
      rw [hb] at jn0 jn1
      have hwk := (bstW_lt hb).1
      have g1 := pcN_le w
      have g2 := pcN_le k
      refine nn (nI_ne9 (by omega)) (sp_bits (by omega) ?_)
      show wp_X8_bits (nI w) _
      refine sp_bits (by omega) ?_
      exact br_le (by omega) (by omega) (fun z => jn0 (decide_eq_false (by omega))) (fun z => jn1 (decide_eq_true z))
theorem itL_other {n : Nat} {col : Nat → Nat} {c : Nat} {L : Nat → Nat → Nat} {b : Nat} (hb : col b ≠ c) : ∀ k r, itL n col c L k b r = L b r
  | 0, r => rfl
  | k + 1, r => by
    rw [itL]
    cases ht : topC n col (itL n col c L k) c with
    | none => exact itL_other hb k r
    | some b' =>
      show clrL (itL n col c L k) b' b r = L b r
      have h1 := (topO_some ht).2
      unfold strB at h1
      rw [Bool.and_eq_true] at h1
      have h2 := of_decide_eq_true h1.1
      unfold clrL
      rw [if_neg (fun e => hb (by rw [e]; exact h2))]
      exact itL_other hb k r
theorem sp_bare {n : Nat} (hn : n ≤ 80) {col : Nat → Nat} {L : Nat → Nat → Nat} {bCol left : Nat → Int32} (hcol : ∀ b, b < n → bCol b = nI (col b) ∧ col b < 6) (hL : LeftM n L left) {c : Nat} (hc : c < 6) {post : (Nat → Int32) → Prop} (h : ∀ s left', LeftM n (itL n col c L s) left' → topC n col (itL n col c L s) c = none → post left') : wp_X8_bare (nI n) bCol left (nI c) post := by
  unfold wp_X8_bare
  have hw : ∀ (L : Nat → Nat → Nat) (l : Nat → Int32), LeftM n L l → wgtM n col (fun b r => (l (6 * b + r)).toNatClampNeg) c = wgtM n col L c := fun L l hl => by
    unfold wgtM
    refine sm_congr (fun b hb => ?_)
    by_cases e : col b = c
    · rw [if_pos e, if_pos e]
      refine sm_congr (fun r hr => ?_)
      have g := hl b r hb hr
      show (l (6 * b + r)).toNatClampNeg = L b r
      rw [g.1, nI_clamp (by omega)]
    · rw [if_neg e, if_neg e]
  refine ⟨fun x l => (x = 0 ∨ x = 1) ∧ ∃ s, LeftM n (itL n col c L s) l ∧ (x = 0 → topC n col (itL n col c L s) c = none), fun x l => wgtM n col (fun b r => (l (6 * b + r)).toNatClampNeg) c + (if x = 0 then 0 else 1), ⟨Or.inr rfl, 0, hL, fun z => absurd z (by decide)⟩, ?_⟩
  rintro x l ⟨hx, s, hl, ht⟩
  unfold bd_X8_bare_2
  rcases hx with rfl | rfl
  · exact yy rfl (h s l hl (ht rfl))
  · refine nn (by decide) ?_
    refine sp_takeOne hn hcol hl hc (fun hnone => ⟨⟨Or.inl rfl, s, hl, fun _ => hnone⟩, ?_⟩) (fun b l' hs hl' => ⟨⟨Or.inr rfl, s + 1, ?_, fun z => absurd z (by decide)⟩, ?_⟩)
    · show wgtM n col (fun b r => (l (6 * b + r)).toNatClampNeg) c + (if (0 : Int32) = 0 then 0 else 1) < wgtM n col (fun b r => (l (6 * b + r)).toNatClampNeg) c + (if (1 : Int32) = 0 then 0 else 1)
      rw [if_pos rfl, if_neg (by decide)]; omega
    · rw [itL, hs]; exact hl'
    · show wgtM n col (fun b r => (l' (6 * b + r)).toNatClampNeg) c + (if (1 : Int32) = 0 then 0 else 1) < wgtM n col (fun b r => (l (6 * b + r)).toNatClampNeg) c + (if (1 : Int32) = 0 then 0 else 1)
      rw [hw _ l hl, hw _ l' hl']
      obtain ⟨g1, g2⟩ := topO_some hs
      unfold strB at g2
      rw [Bool.and_eq_true] at g2
      have g3 := of_decide_eq_true g2.1
      have g4 := of_decide_eq_true g2.2
      have := wgt_clr (n := n) (L := itL n col c L s) g1 g3
      omega
theorem bare_col {n : Nat} {col : Nat → Nat} {L : Nat → Nat → Nat} {c : Nat} (hz : ∀ b r, b < n → 6 ≤ r → L b r = 0) (h : topC n col L c = none) : ∀ b r, b < n → col b = c → L b r = 0 := by
  intro b r hb hcb
  have h1 := topO_none.mp h b hb
  unfold strB at h1
  rw [decide_eq_true hcb, Bool.true_and] at h1
  have h2 : ¬ 0 < sm (L b) 6 := of_decide_eq_false h1
  by_cases hr : r < 6
  · have h3 : sm (fun k => if k = r then L b r else 0) 6 ≤ sm (L b) 6 := sm_mono (fun k _ => by
      by_cases e : k = r
      · rw [if_pos e, e]; exact Nat.le_refl _
      · rw [if_neg e]; exact Nat.zero_le _)
    rw [sm_pt hr] at h3
    omega
  · exact hz b r hb (by omega)
theorem lyB_itL {n : Nat} {col : Nat → Nat} {L : Nat → Nat → Nat} {c0 s : Nat} (c r b : Nat) (h : c ≠ c0) : lyB n col L c r b = lyB n col (itL n col c0 L s) c r b := by
  unfold lyB
  by_cases e : col b = c
  · rw [itL_other (by rw [e]; exact h)]
  · rw [decide_eq_false e, Bool.false_and, Bool.false_and]
theorem wayHi {R : Nat} (hR : R ≤ 6) : jishl (1 : Int32) (nI R) - (1 : Int32) = nI (2 ^ R - 1) := by
  rw [shl64 R (by omega)]
  exact nI_subN (b := 1) Nat.one_le_two_pow
theorem pu_proof {F_columns : Int32} {F_rows : Int32} {F_steepness : Int32} {F_size : Int32} {F_cells : Nat → Int32} {F_wearing : Nat → Int32} {F_turning : Nat → Int32} {c_laid : Int32} {c_columns : Nat → Int32} {c_rows : Nat → Int32} {c_lengths : Nat → Int32} {c_sorts : Nat → Int32} {c_thicknesses : Nat → Int32} {c_remains : Nat → Int32} {c_lying : Nat → Int64} {k0_laid : Int32} {k0_columns : Nat → Int32} {k0_rows : Nat → Int32} {k0_lengths : Nat → Int32} {k0_sorts : Nat → Int32} {k0_thicknesses : Nat → Int32} {k0_remains : Nat → Int32} {k0_lying : Nat → Int64} {k1_laid : Int32} {k1_columns : Nat → Int32} {k1_rows : Nat → Int32} {k1_lengths : Nat → Int32} {k1_sorts : Nat → Int32} {k1_thicknesses : Nat → Int32} {k1_remains : Nat → Int32} {k1_lying : Nat → Int64} {S_isKept : Nat → Int32} {Ag_from : Nat → Int32} {Ag_to : Nat → Int32} {T_length : Int32} {T_bytes : Nat → Int32} {M_columns : Int32} {M_rows : Int32} {M_pitch : Int32} {M_turns : Nat → Int32} {M_wears : Nat → Int32} {M_laid : Int32} {M_bCol : Nat → Int32} {M_bRow : Nat → Int32} {M_bLong : Nat → Int32} {M_bSort : Nat → Int32} {M_bThick : Nat → Int32} {M_left : Nat → Int32} {M_keptLaid : Nat → Int32} {M_isKept : Nat → Int32} {M_keptCol : Nat → Int32} {M_keptRow : Nat → Int32} {M_keptLong : Nat → Int32} {M_keptSort : Nat → Int32} {M_keptThick : Nat → Int32} {M_keptLeft : Nat → Int32} {M_froms : Nat → Int32} {M_tos : Nat → Int32} {M_text : Nat → Int32} {M_textSize : Int32} {R_passed : Int32} {R_runs : Int32} {R_end : Int32} {R_eavesColumn : Int32} {R_cell : Int32} {R_bundle : Int32} {R_turnedAt : Int64} {R_places : Nat → Int32} {Tr_lying : Nat → Int64} {M_heldLaid : Int32} {M_placeMany : Int32} {M_eaves : Int32} {M_heldCol : Nat → Int32} {M_heldRow : Nat → Int32} {M_heldLong : Nat → Int32} {M_heldSort : Nat → Int32} {M_heldThick : Nat → Int32} {M_heldLeft : Nat → Int32} {M_places : Nat → Int32} {M_isTurned : Nat → Int32} (hR : Rel F_columns F_rows F_steepness F_size F_cells F_wearing F_turning c_laid c_columns c_rows c_lengths c_sorts c_thicknesses c_remains c_lying k0_laid k0_columns k0_rows k0_lengths k0_sorts k0_thicknesses k0_remains k0_lying k1_laid k1_columns k1_rows k1_lengths k1_sorts k1_thicknesses k1_remains k1_lying S_isKept Ag_from Ag_to T_length T_bytes M_columns M_rows M_pitch M_turns M_wears M_laid M_bCol M_bRow M_bLong M_bSort M_bThick M_left M_keptLaid M_isKept M_keptCol M_keptRow M_keptLong M_keptSort M_keptThick M_keptLeft M_froms M_tos M_text M_textSize) (l1 : Int32) (l2 : Int32) (l3 : Int32) : wp_X7_proof F_columns F_rows F_steepness F_turning c_lying R_passed R_runs R_end R_eavesColumn R_cell R_bundle R_turnedAt R_places Tr_lying l1 l2 l3 (fun (r : Int32) (R_places' : Nat → Int32) (R_passed' : Int32) (R_runs' : Int32) (R_end' : Int32) (R_eavesColumn' : Int32) (R_cell' : Int32) (R_bundle' : Int32) (R_turnedAt' : Int64) (Tr_lying' : Nat → Int64) => wp_X8_proof M_columns M_rows M_pitch M_laid M_heldLaid M_placeMany M_eaves M_turns M_bCol M_bRow M_bLong M_bSort M_bThick M_left M_heldCol M_heldRow M_heldLong M_heldSort M_heldThick M_heldLeft M_places M_isTurned l1 l2 l3 (fun (r' : Int32) (M_thrown' : Int32) (M_laid' : Int32) (M_bCol' : Nat → Int32) (M_bRow' : Nat → Int32) (M_bLong' : Nat → Int32) (M_bSort' : Nat → Int32) (M_bThick' : Nat → Int32) (M_left' : Nat → Int32) (M_heldLaid' : Int32) (M_heldCol' : Nat → Int32) (M_heldRow' : Nat → Int32) (M_heldLong' : Nat → Int32) (M_heldSort' : Nat → Int32) (M_heldThick' : Nat → Int32) (M_heldLeft' : Nat → Int32) (M_places' : Nat → Int32) (M_placeMany' : Int32) (M_eaves' : Int32) (M_isTurned' : Nat → Int32) => r = r' ∧ Rel F_columns F_rows F_steepness F_size F_cells F_wearing F_turning c_laid c_columns c_rows c_lengths c_sorts c_thicknesses c_remains c_lying k0_laid k0_columns k0_rows k0_lengths k0_sorts k0_thicknesses k0_remains k0_lying k1_laid k1_columns k1_rows k1_lengths k1_sorts k1_thicknesses k1_remains k1_lying S_isKept Ag_from Ag_to T_length T_bytes M_columns M_rows M_pitch M_turns M_wears M_laid' M_bCol' M_bRow' M_bLong' M_bSort' M_bThick' M_left' M_keptLaid M_isKept M_keptCol M_keptRow M_keptLong M_keptSort M_keptThick M_keptLeft M_froms M_tos M_text M_textSize)) := by
  obtain ⟨C, R, tt, wr, n, col, row, len, srt, thk, L, hRo, hCu, hR2⟩ := id hR
  have hC := hRo.C
  have hM := hRo.M
  obtain ⟨-, h2, -, h4, rfl, rfl, rfl, rfl, -⟩ := id hRo
  have hB := CurR.B h2 hCu
  obtain ⟨hA, hMb, hBO, hNo⟩ := id hCu
  obtain ⟨rfl, hb1, hb2⟩ := id hMb
  obtain ⟨hn, hOK⟩ := id hBO
  have h64 := p64 h4
  have h9 : ∀ b r, b < n → L b r ≤ 9 := fun b r hb => ((hOK b hb).2.2.2.2.2 r).1
  unfold wp_X7_proof wp_X8_proof wp_X7_isLength
  rw [wayHi h4]
  rcases nI_or l1 C with ⟨c, hc, rfl⟩ | hno
  · refine sp_hasColumnY (by omega) hc (t10 ?_)
    rcases num_cases l2 1 3 (by omega) with ⟨ln, hl1, hl2, rfl⟩ | hno
    · refine sp_withY rfl (a := 1) (b := 3) rfl rfl (by omega) hl1 hl2 ⟨Or.inr rfl, t01 ?_⟩
      rcases num_cases l3 0 (2 ^ R - 1) (by omega) with ⟨w, hw1, hw2, rfl⟩ | hno
      · refine sp_withY rfl (a := 0) (b := 2 ^ R - 1) rfl rfl (by omega) hw1 hw2 (t10 ?_)
        refine sp_isProofC hC hA.2.2 (fun c r b hb => lyB_big (by omega)) hc ⟨hl1, hl2⟩ (by omega) (fun a1 a2 a3 a4 a5 a6 a7 a8 a9 => ?_)
        refine brx_c (fun z => ?_) (fun z => ?_)
        all_goals
          refine sp_noColumnY (by omega) hc (f01 ?_)
          refine sp_minY rfl (a := 1) (b := 3) rfl rfl (by omega) hl1 hl2 (t01 ?_)
          refine sp_minY rfl (a := 0) (b := 2 ^ R - 1) rfl (nI_lN (by omega)) (by omega) hw1 hw2 (t10 ?_)
          refine sp_hold (fun kc kr kl ks kt kL g1 g2 g3 g4 g5 g6 => ?_)
          refine sp_bare (by omega) hB.2.1 (fun b r hb hr => ⟨hb2 b r hb hr, h9 b r hb⟩) (by omega) (fun s left' hl' ht => ?_)
          refine sp_isProofM (ly := lyB n col L) hM ⟨by omega, hB.2.1, hl'⟩ hn (fun c r b hb => lyB_big hb) (fun c' r b hne => lyB_itL c' r b hne) (bare_col (fun b r hb hr => le_zero_of (itL_le n col c L s b r) (((hOK b hb).2.2.2.2.2 r).2 (by omega))) ht) hc ⟨hl1, hl2⟩ (by omega) (fun d1 d2 d3 d4 d5 d6 t1 t2 t3 t4 t5 t6 y1 y2 y3 y4 => ?_)
          rw [z]
          refine sp_back (fun bc br bl bs bt bL q1 q2 q3 q4 q5 q6 => ?_)
          have fin : BunA n col row len srt thk L (nI n) bc br bl bs bt bL := bunA_congr hMb hn (fun j hj => (q1 j (by omega)).trans (g1 j (by omega))) (fun j hj => (q2 j (by omega)).trans (g2 j (by omega))) (fun j hj => (q3 j (by omega)).trans (g3 j (by omega))) (fun j hj => (q4 j (by omega)).trans (g4 j (by omega))) (fun j hj => (q5 j (by omega)).trans (g5 j (by omega))) (fun j hj => (q6 j (by omega)).trans (g6 j (by omega)))
          first
            | exact t01 ⟨rfl, C, R, tt, wr, n, col, row, len, srt, thk, L, hRo, ⟨hA, fin, hBO, hNo⟩, hR2⟩
            | exact f01 ⟨rfl, C, R, tt, wr, n, col, row, len, srt, thk, L, hRo, ⟨hA, fin, hBO, hNo⟩, hR2⟩
      · refine sp_withN (a := 0) (b := 2 ^ R - 1) rfl rfl (by omega) (by omega) hno (f10 ?_)
        refine sp_noColumnY (by omega) hc (f01 ?_)
        refine sp_minY rfl (a := 1) (b := 3) rfl rfl (by omega) hl1 hl2 (t01 ?_)
        exact sp_minX (a := 0) (b := 2 ^ R - 1) rfl (nI_lN (by omega)) (by omega) (by omega) hno (f10 ⟨rfl, hR⟩)
    · refine sp_withN (a := 1) (b := 3) rfl rfl (by omega) (by omega) hno ⟨Or.inl rfl, f01 ?_⟩
      refine sp_noColumnY (by omega) hc (f01 ?_)
      exact sp_minX (a := 1) (b := 3) rfl rfl (by omega) (by omega) hno (f01 ⟨rfl, hR⟩)
  · exact sp_hasColumnN (by omega) hno (f10 (sp_noColumnN (by omega) hno (t01 ⟨rfl, hR⟩)))
theorem pu_fewest {F_columns : Int32} {F_rows : Int32} {F_steepness : Int32} {F_size : Int32} {F_cells : Nat → Int32} {F_wearing : Nat → Int32} {F_turning : Nat → Int32} {c_laid : Int32} {c_columns : Nat → Int32} {c_rows : Nat → Int32} {c_lengths : Nat → Int32} {c_sorts : Nat → Int32} {c_thicknesses : Nat → Int32} {c_remains : Nat → Int32} {c_lying : Nat → Int64} {k0_laid : Int32} {k0_columns : Nat → Int32} {k0_rows : Nat → Int32} {k0_lengths : Nat → Int32} {k0_sorts : Nat → Int32} {k0_thicknesses : Nat → Int32} {k0_remains : Nat → Int32} {k0_lying : Nat → Int64} {k1_laid : Int32} {k1_columns : Nat → Int32} {k1_rows : Nat → Int32} {k1_lengths : Nat → Int32} {k1_sorts : Nat → Int32} {k1_thicknesses : Nat → Int32} {k1_remains : Nat → Int32} {k1_lying : Nat → Int64} {S_isKept : Nat → Int32} {Ag_from : Nat → Int32} {Ag_to : Nat → Int32} {T_length : Int32} {T_bytes : Nat → Int32} {M_columns : Int32} {M_rows : Int32} {M_pitch : Int32} {M_turns : Nat → Int32} {M_wears : Nat → Int32} {M_laid : Int32} {M_bCol : Nat → Int32} {M_bRow : Nat → Int32} {M_bLong : Nat → Int32} {M_bSort : Nat → Int32} {M_bThick : Nat → Int32} {M_left : Nat → Int32} {M_keptLaid : Nat → Int32} {M_isKept : Nat → Int32} {M_keptCol : Nat → Int32} {M_keptRow : Nat → Int32} {M_keptLong : Nat → Int32} {M_keptSort : Nat → Int32} {M_keptThick : Nat → Int32} {M_keptLeft : Nat → Int32} {M_froms : Nat → Int32} {M_tos : Nat → Int32} {M_text : Nat → Int32} {M_textSize : Int32} {R_passed : Int32} {R_runs : Int32} {R_end : Int32} {R_eavesColumn : Int32} {R_cell : Int32} {R_bundle : Int32} {R_turnedAt : Int64} {R_places : Nat → Int32} {Tr_lying : Nat → Int64} {M_heldLaid : Int32} {M_placeMany : Int32} {M_eaves : Int32} {M_heldCol : Nat → Int32} {M_heldRow : Nat → Int32} {M_heldLong : Nat → Int32} {M_heldSort : Nat → Int32} {M_heldThick : Nat → Int32} {M_heldLeft : Nat → Int32} {M_places : Nat → Int32} {M_isTurned : Nat → Int32} (hR : Rel F_columns F_rows F_steepness F_size F_cells F_wearing F_turning c_laid c_columns c_rows c_lengths c_sorts c_thicknesses c_remains c_lying k0_laid k0_columns k0_rows k0_lengths k0_sorts k0_thicknesses k0_remains k0_lying k1_laid k1_columns k1_rows k1_lengths k1_sorts k1_thicknesses k1_remains k1_lying S_isKept Ag_from Ag_to T_length T_bytes M_columns M_rows M_pitch M_turns M_wears M_laid M_bCol M_bRow M_bLong M_bSort M_bThick M_left M_keptLaid M_isKept M_keptCol M_keptRow M_keptLong M_keptSort M_keptThick M_keptLeft M_froms M_tos M_text M_textSize) (l1 : Int32) (l2 : Int32) : wp_X7_fewest F_columns F_rows F_steepness F_turning c_lying R_passed R_runs R_end R_eavesColumn R_cell R_bundle R_turnedAt R_places Tr_lying l1 l2 (fun (r : Int32) (R_places' : Nat → Int32) (R_passed' : Int32) (R_runs' : Int32) (R_end' : Int32) (R_eavesColumn' : Int32) (R_cell' : Int32) (R_bundle' : Int32) (R_turnedAt' : Int64) (Tr_lying' : Nat → Int64) => wp_X8_fewest M_columns M_rows M_pitch M_laid M_heldLaid M_placeMany M_eaves M_turns M_bCol M_bRow M_bLong M_bSort M_bThick M_left M_heldCol M_heldRow M_heldLong M_heldSort M_heldThick M_heldLeft M_places M_isTurned l1 l2 (fun (r' : Int32) (M_thrown' : Int32) (M_laid' : Int32) (M_bCol' : Nat → Int32) (M_bRow' : Nat → Int32) (M_bLong' : Nat → Int32) (M_bSort' : Nat → Int32) (M_bThick' : Nat → Int32) (M_left' : Nat → Int32) (M_heldLaid' : Int32) (M_heldCol' : Nat → Int32) (M_heldRow' : Nat → Int32) (M_heldLong' : Nat → Int32) (M_heldSort' : Nat → Int32) (M_heldThick' : Nat → Int32) (M_heldLeft' : Nat → Int32) (M_places' : Nat → Int32) (M_placeMany' : Int32) (M_eaves' : Int32) (M_isTurned' : Nat → Int32) => r = r' ∧ Rel F_columns F_rows F_steepness F_size F_cells F_wearing F_turning c_laid c_columns c_rows c_lengths c_sorts c_thicknesses c_remains c_lying k0_laid k0_columns k0_rows k0_lengths k0_sorts k0_thicknesses k0_remains k0_lying k1_laid k1_columns k1_rows k1_lengths k1_sorts k1_thicknesses k1_remains k1_lying S_isKept Ag_from Ag_to T_length T_bytes M_columns M_rows M_pitch M_turns M_wears M_laid' M_bCol' M_bRow' M_bLong' M_bSort' M_bThick' M_left' M_keptLaid M_isKept M_keptCol M_keptRow M_keptLong M_keptSort M_keptThick M_keptLeft M_froms M_tos M_text M_textSize)) := by
  obtain ⟨C, R, tt, wr, n, col, row, len, srt, thk, L, hRo, hCu, hR2⟩ := id hR
  have hC := hRo.C
  have hM := hRo.M
  obtain ⟨-, h2, -, h4, rfl, rfl, rfl, rfl, -⟩ := id hRo
  have hB := CurR.B h2 hCu
  obtain ⟨hA, hMb, hBO, hNo⟩ := id hCu
  obtain ⟨rfl, hb1, hb2⟩ := id hMb
  obtain ⟨hn, hOK⟩ := id hBO
  have h9 : ∀ b r, b < n → L b r ≤ 9 := fun b r hb => ((hOK b hb).2.2.2.2.2 r).1
  unfold wp_X7_fewest wp_X8_fewest wp_X7_isLength
  rcases nI_or l1 C with ⟨c, hc, rfl⟩ | hno
  · refine sp_hasColumnY (by omega) hc (t10 ?_)
    rcases num_cases l2 1 3 (by omega) with ⟨ln, hl1, hl2, rfl⟩ | hno
    · refine sp_withY rfl (a := 1) (b := 3) rfl rfl (by omega) hl1 hl2 ⟨Or.inr rfl, t10 ?_⟩
      refine sp_leastWay hC hA.2.2 (fun c r b hb => lyB_big (by omega)) hc ⟨hl1, hl2⟩ (fun a1 a2 a3 a4 a5 a6 a7 a8 a9 => ?_)
      refine sp_noColumnY (by omega) hc (f01 ?_)
      refine sp_minY rfl (a := 1) (b := 3) rfl rfl (by omega) hl1 hl2 (t10 ?_)
      refine sp_hold (fun kc kr kl ks kt kL g1 g2 g3 g4 g5 g6 => ?_)
      refine sp_bare (by omega) hB.2.1 (fun b r hb hr => ⟨hb2 b r hb hr, h9 b r hb⟩) (by omega) (fun s left' hl' ht => ?_)
      refine sp_findFewest (ly := lyB n col L) hM ⟨by omega, hB.2.1, hl'⟩ hn (fun c r b hb => lyB_big hb) (fun c' r b hne => lyB_itL c' r b hne) (bare_col (fun b r hb hr => le_zero_of (itL_le n col c L s b r) (((hOK b hb).2.2.2.2.2 r).2 (by omega))) ht) hc ⟨hl1, hl2⟩ (fun d1 d2 d3 d4 d5 d6 t1 t2 t3 t4 t5 t6 y1 y2 y3 y4 => ?_)
      refine sp_back (fun bc br bl bs bt bL q1 q2 q3 q4 q5 q6 => ?_)
      have fin : BunA n col row len srt thk L (nI n) bc br bl bs bt bL := bunA_congr hMb hn (fun j hj => (q1 j (by omega)).trans (g1 j (by omega))) (fun j hj => (q2 j (by omega)).trans (g2 j (by omega))) (fun j hj => (q3 j (by omega)).trans (g3 j (by omega))) (fun j hj => (q4 j (by omega)).trans (g4 j (by omega))) (fun j hj => (q5 j (by omega)).trans (g5 j (by omega))) (fun j hj => (q6 j (by omega)).trans (g6 j (by omega)))
      exact ⟨rfl, C, R, tt, wr, n, col, row, len, srt, thk, L, hRo, ⟨hA, fin, hBO, hNo⟩, hR2⟩
    · refine sp_withN (a := 1) (b := 3) rfl rfl (by omega) (by omega) hno ⟨Or.inl rfl, f10 ?_⟩
      refine sp_noColumnY (by omega) hc (f01 ?_)
      exact sp_minX (a := 1) (b := 3) rfl rfl (by omega) (by omega) hno (f10 ⟨rfl, hR⟩)
  · exact sp_hasColumnN (by omega) hno (f10 (sp_noColumnN (by omega) hno (t01 ⟨rfl, hR⟩)))
