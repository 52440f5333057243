/-! PURE STRIP: the topmost bundles of a column come off -/
def topC (n : Nat) (col : Nat → Nat) (L : Nat → Nat → Nat) (c : Nat) : Option Nat := topO (strB col L c) n
def itL (n : Nat) (col : Nat → Nat) (c : Nat) (L : Nat → Nat → Nat) : Nat → Nat → Nat → Nat
  | 0 => L
  | k + 1 => match topC n col (itL n col c L k) c with
    | none => itL n col c L k
    | some b => clrL (itL n col c L k) b
def LeL (L' L : Nat → Nat → Nat) : Prop := ∀ b r, L' b r ≤ L b r
theorem itL_le (n : Nat) (col : Nat → Nat) (c : Nat) (L : Nat → Nat → Nat) : ∀ k, LeL (itL n col c L k) L
  | 0 => fun b r => Nat.le_refl _
  | k + 1 => by
    intro b r
    have ih := itL_le n col c L k b r
    rw [itL]
    cases topC n col (itL n col c L k) c with
    | none => exact ih
    | some b' =>
      show clrL _ b' b r ≤ _
      unfold clrL
      by_cases e : b = b'
      · rw [if_pos e]; omega
      · rw [if_neg e]; exact ih
theorem bunOK_le {C R n : Nat} {col row len srt thk : Nat → Nat} {L L' : Nat → Nat → Nat} (h : BunOK C R n col row len srt thk L) (hl : LeL L' L) : BunOK C R n col row len srt thk L' := by
  obtain ⟨h1, h2⟩ := h
  refine ⟨h1, fun b hb => ?_⟩
  obtain ⟨g1, g2, g3, g4, g5, g6⟩ := h2 b hb
  exact ⟨g1, g2, g3, g4, g5, fun r => ⟨Nat.le_trans (hl b r) (g6 r).1, fun z => Nat.le_zero.mp (Nat.le_trans (hl b r) (Nat.le_of_eq ((g6 r).2 z)))⟩⟩
theorem noOp_le {tt : Nat → Nat → Nat} {n : Nat} {col : Nat → Nat} {L L' : Nat → Nat → Nat} (h : NoOp tt n col L) (hl : LeL L' L) : NoOp tt n col L' := fun b r hb hr => h b r hb (Nat.lt_of_lt_of_le hr (hl b r))
theorem stA_congr {C R n : Nat} {col : Nat → Nat} {L L' : Nat → Nat → Nat} {rem : Nat → Int32} {ly : Nat → Int64} (hR : R ≤ 6) (h : StA C R n col L rem ly) (hl : ∀ b r, b < n → r < 6 → L' b r = L b r) : StA C R n col L' rem ly := by
  obtain ⟨h1, h2, h3⟩ := h
  refine ⟨fun b r hb hr => by rw [h1 b r hb hr, hl b r hb hr], h2, fun c r hc hr b => ?_⟩
  rw [h3 c r hc hr]
  unfold lyB
  by_cases e : b < n
  · rw [hl b r e (by omega)]
  · rw [decide_eq_false e, Bool.false_and, Bool.false_and]
theorem orB_none {p : Nat → Bool} : ∀ {n : Nat}, (∀ k, k < n → p k = false) → orB p n = false
  | 0, _ => rfl
  | n + 1, h => by rw [orB, orB_none (fun k hk => h k (by omega)), h n (by omega)]; rfl
theorem topC_of {C R n : Nat} (hR : R ≤ 6) (hn : n ≤ 64) {col : Nat → Nat} {L : Nat → Nat → Nat} (hz : ∀ b r, b < n → R ≤ r → L b r = 0) {c : Nat} {x : Int64} (hx : ∀ b, lb x b = orB (fun r => lyB n col L c r b) R) : gtop (lb x) 64 = oI (topC n col L c) := by
  rw [gtop_oI, topO_cut (m := n) (by omega) (fun k h1 _ => by rw [hx]; exact orB_none (fun r _ => lyB_big h1))]
  unfold topC
  rw [topO_congr (fun k hk => by rw [hx, strB_orB hR hz hk])]
/-- the class takes the topmost bundles off, w at most: s of them -/
theorem sp_removeGreatest {C R n : Nat} (hC : C ≤ 6) (hR : R ≤ 6) (hn : n ≤ 40) {col : Nat → Nat} {L : Nat → Nat → Nat} {rem : Nat → Int32} {ly : Nat → Int64} (hS : StA C R n col L rem ly) (hz : ∀ b r, b < n → R ≤ r → L b r = 0) (h9 : ∀ b r, b < n → L b r ≤ 9) {c w : Nat} (hc : c < C) (hw : w < 2 ^ 30) {holes : Int32} {post : Int32 → (Nat → Int32) → (Nat → Int64) → Int32 → Prop} (h : ∀ s rem' ly' holes', s ≤ w → (∀ i, i < s → topC n col (itL n col c L i) c ≠ none) → (s = w ∨ topC n col (itL n col c L s) c = none) → StA C R n col (itL n col c L s) rem' ly' → post (nI s) rem' ly' holes') : wp_X1_removeGreatest (nI R) holes rem ly (nI c) (nI w) post := by
  unfold wp_X1_removeGreatest
  refine zu4_1 w (by omega) (fun k re l ho => StA C R n col (itL n col c L k) re l ∧ ∀ i, i < k → topC n col (itL n col c L i) c ≠ none) 0 rfl (by omega) ⟨hS, fun i hi => absurd hi (Nat.not_lt_zero i)⟩ (fun k re l ho rec hk hJ hrec => ?_)
  obtain ⟨hJ1, hJ2⟩ := hJ
  have hle := itL_le n col c L k
  unfold bd_X1_removeGreatest_2
  refine br_le (by omega) (by omega) (fun q => ?_) (fun q => ?_)
  · have hk1 : k = w := by omega
    subst hk1
    exact h k re l ho (Nat.le_refl k) hJ2 (Or.inl rfl) hJ1
  · refine sp_inColumn hC hR hJ1.2.2 hc (fun x hx => sp_greatest ?_)
    rw [topC_of (C := C) hR (by omega) (fun b r hb hr => Nat.le_zero.mp (Nat.le_trans (hle b r) (Nat.le_of_eq (hz b r hb hr)))) hx]
    cases htop : topC n col (itL n col c L k) c with
    | none => exact ⟨fun z => absurd rfl z, fun _ => h k re l ho (by omega) hJ2 (Or.inr htop) hJ1⟩
    | some b =>
      obtain ⟨hb, hsb⟩ := topO_some htop
      have hcb : col b = c := by
        unfold strB at hsb
        rw [Bool.and_eq_true] at hsb
        exact of_decide_eq_true hsb.1
      refine nx (nI_ne9 (by omega)) ?_
      refine zu4_1 R (by omega) (fun m re l ho => StA C R n col (fun b' r' => if b' = b ∧ r' < m then 0 else itL n col c L k b' r') re l) 0 rfl (by omega) (stA_congr hR hJ1 (fun b' r' _ _ => if_neg (by omega))) (fun m re2 l2 ho2 rec2 hm hS2 hrec2 => ?_)
      unfold bd_X1_removeGreatest_29
      rw [nI_1, nI_1]
      refine br_le (by omega) (by omega) (fun q2 => ?_) (fun q2 => sp_cellOf ?_)
      · have hm1 : m = R := by omega
        subst hm1
        refine hrec _ _ _ q ⟨stA_congr hR hS2 (fun b' r' hb' hr' => ?_), fun i hi => ?_⟩
        · rw [itL, htop]
          show clrL _ b b' r' = _
          unfold clrL
          by_cases e : b' = b
          · rw [if_pos e]
            by_cases e2 : r' < m
            · rw [if_pos ⟨e, e2⟩]
            · rw [if_neg (fun z => e2 z.2)]
              exact (Nat.le_zero.mp (Nat.le_trans (hle b' r') (Nat.le_of_eq (hz b' r' hb' (by omega))))).symm
          · rw [if_neg e, if_neg (fun z => e z.1)]
        · by_cases e : i = k
          · rw [e, htop]; exact fun z => nomatch z
          · exact hJ2 i (by omega)
      · have hval : (fun b' r' => if b' = b ∧ r' < m then 0 else itL n col c L k b' r') b m = itL n col c L k b m := if_neg (by omega)
        have hb9 : itL n col c L k b m ≤ 9 := Nat.le_trans (hle b m) (h9 b m hb)
        refine sp_lose hC hR hn hS2 hb hcb hc q2 (Nat.le_trans (Nat.le_of_eq hval) hb9) (w := 9) (by omega) (fun re3 l3 ho3 hS3 _ => ?_)
        refine hrec2 _ _ _ q2 (stA_congr hR hS3 (fun b' r' hb' hr' => ?_))
        unfold loseL
        by_cases e : b' = b ∧ r' = m
        · rw [if_pos e, if_pos ⟨e.1, by omega⟩]
          show 0 = (if _ then _ else _) - 9
          rw [if_neg (by omega)]; omega
        · rw [if_neg e]
          show _ = (if b' = b ∧ r' < m then 0 else itL n col c L k b' r')
          by_cases e2 : b' = b ∧ r' < m
          · rw [if_pos e2, if_pos ⟨e2.1, by omega⟩]
          · rw [if_neg e2, if_neg (by omega)]
def LeftM (n : Nat) (L : Nat → Nat → Nat) (left : Nat → Int32) : Prop := ∀ b r, b < n → r < 6 → left (6 * b + r) = nI (L b r) ∧ L b r ≤ 9
theorem sp_takeOne {n : Nat} (hn : n ≤ 80) {col : Nat → Nat} {L : Nat → Nat → Nat} {bCol left : Nat → Int32} (hcol : ∀ b, b < n → bCol b = nI (col b) ∧ col b < 6) (hL : LeftM n L left) {c : Nat} (hc : c < 6) {post : Int32 → (Nat → Int32) → Prop} (h0 : topC n col L c = none → post 0 left) (h1 : ∀ b left', topC n col L c = some b → LeftM n (clrL L b) left' → post 1 left') : wp_X8_takeOne (nI n) bCol left (nI c) post := by
  unfold wp_X8_takeOne
  refine zd1_1 n (by omega) (fun k => topO (strB col L c) n = topO (strB col L c) k) n (nI_m1 n) (Nat.le_refl n) rfl (fun rec hJ => ?_) (fun k rec hk hJ hrec => ?_)
  · unfold bd_X8_takeOne_7
    exact neg_yes (h0 hJ)
  · obtain ⟨e1, e2⟩ := hcol k hk
    unfold bd_X8_takeOne_7
    refine neg_no (by omega) ⟨vp_in_nI (by omega) (by omega), ?_⟩
    rw [nI_clamp (by omega), e1]
    refine br_neq (by omega) (by omega) (fun q => hrec ?_) (fun q => ?_)
    · rw [hJ, topO]; unfold strB; rw [decide_eq_false q]; simp
    · refine sp_leftOf hk hn (fun r hr => (hL k r hk hr).1) ?_
      have h54 : sm (L k) 6 ≤ 9 * 6 := by
        have : ∀ m, m ≤ 6 → sm (L k) m ≤ 9 * m := by
          intro m hm
          induction m with
          | zero => exact Nat.le_refl 0
          | succ m ih => rw [sm]; have := ih (by omega); have := (hL k m hk (by omega)).2; omega
        exact this 6 (Nat.le_refl 6)
      refine br_le (a := 0) (by omega) (by omega) (fun q2 => hrec ?_) (fun q2 => ?_)
      · rw [hJ, topO]; unfold strB; rw [decide_eq_false (show ¬ 0 < sm (L k) 6 by omega)]; simp
      · have hs : strB col L c k = true := by unfold strB; rw [decide_eq_true q, decide_eq_true q2]; rfl
        have ht : topC n col L c = some k := by unfold topC; rw [hJ, topO, if_pos hs]
        refine zu2_1 6 (by omega) (fun m B => ∀ b r, b < n → r < 6 → B (6 * b + r) = nI (if b = k ∧ r < m then 0 else L b r)) 0 rfl (by omega) (fun b r hb hr => by rw [if_neg (by omega)]; exact (hL b r hb hr).1) (fun m B rec2 hm hJ2 hrec2 => ?_)
        unfold bd_X8_takeOne_31
        rw [nI_6]
        refine br_le (a := m) (b := 6) (by omega) (by omega) (fun q3 => h1 k B ht (fun b r hb hr => ?_)) (fun q3 => ⟨vp_in_nI (by omega) (by omega), ?_⟩)
        · rw [hJ2 b r hb hr]
          unfold clrL
          by_cases e : b = k
          · rw [if_pos e, if_pos ⟨e, by omega⟩]; exact ⟨rfl, by omega⟩
          · rw [if_neg e, if_neg (fun z => e z.1)]; exact ⟨rfl, (hL b r hb hr).2⟩
        · rw [nI_1, nI_clamp (by omega)]
          refine hrec2 _ q3 (fun b r hb hr => ?_)
          by_cases e : b = k ∧ r = m
          · rw [e.1, e.2, up_at, if_pos ⟨rfl, by omega⟩]; rfl
          · rw [up_ne (by omega), hJ2 b r hb hr]
            by_cases e2 : b = k ∧ r < m
            · rw [if_pos e2, if_pos ⟨e2.1, by omega⟩]
            · rw [if_neg e2, if_neg (by omega)]
