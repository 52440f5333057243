/-! PURE TAKE: straw comes off -/
def StA (C R n : Nat) (col : Nat → Nat) (L : Nat → Nat → Nat) (rem : Nat → Int32) (ly : Nat → Int64) : Prop := (∀ b r, b < n → r < 6 → rem (6 * b + r) = nI (L b r)) ∧ ZeroFrom n rem ∧ LyC C R (lyB n col L) ly
def loseL (L : Nat → Nat → Nat) (b r w : Nat) : Nat → Nat → Nat := fun b' r' => if b' = b ∧ r' = r then L b r - w else L b' r'
def clrL (L : Nat → Nat → Nat) (b : Nat) : Nat → Nat → Nat := fun b' r' => if b' = b then 0 else L b' r'
theorem lyB_lose {n : Nat} {col : Nat → Nat} {L L' : Nat → Nat → Nat} {c r b : Nat} (h : col b = c → (0 < L' b r ↔ 0 < L b r)) : lyB n col L' c r b = lyB n col L c r b := by
  unfold lyB
  by_cases e : col b = c
  · have := h e
    by_cases e2 : 0 < L b r
    · rw [decide_eq_true (this.mpr e2), decide_eq_true e2]
    · rw [decide_eq_false (fun z => e2 (this.mp z)), decide_eq_false e2]
  · rw [decide_eq_false e, Bool.false_and, Bool.false_and]
theorem sp_lose {C R n : Nat} (hC : C ≤ 6) (hR : R ≤ 6) (hn : n ≤ 40) {col : Nat → Nat} {L : Nat → Nat → Nat} {rem : Nat → Int32} {ly : Nat → Int64} (hS : StA C R n col L rem ly) {b c r w : Nat} (hb : b < n) (hcb : col b = c) (hc : c < C) (hr : r < R) (h9 : L b r ≤ 9) (hw : w ≤ 9) {holes : Int32} {post : Int32 → (Nat → Int32) → (Nat → Int64) → Int32 → Prop} (h : ∀ rem' ly' holes', StA C R n col (loseL L b r w) rem' ly' → ((holes' = holes ∧ (0 < L b r - w ↔ 0 < L b r)) ∨ holes' = holes + 1) → post (nI (min (L b r) w)) rem' ly' holes') : wp_X1_lose holes rem ly (nI b) (nI (10 * c + r)) (nI w) post := by
  obtain ⟨h1, h2, h3⟩ := hS
  unfold wp_X1_lose
  refine sp_rowOf (by omega) ?_
  rw [show (10 * c + r) % 10 = r by omega, nI_6']
  have v : vp_in (nI (6 * b + r)) 240 := vp_in_nI (by omega) (by omega)
  rw [nI_clamp (show 6 * b + r < 2 ^ 31 by omega), nI_clamp (show 10 * c + r < 2 ^ 31 by omega), h1 b r hb (by omega)]
  refine ⟨v, fun t ht => ?_⟩
  have ht2 : t = nI (min (L b r) w) := by
    rw [ht]
    by_cases e : L b r < w
    · rw [if_pos ((nI_ltI (by omega) (by omega)).mpr e), show min (L b r) w = L b r by omega]
    · rw [if_neg (fun z => e ((nI_ltI (by omega) (by omega)).mp z)), show min (L b r) w = w by omega]
  subst ht2
  have e1 : nI (L b r) - nI (min (L b r) w) = nI (L b r - w) := by
    rw [nI_subN (by omega), show L b r - min (L b r) w = L b r - w by omega]
  rw [e1, up_at]
  have r1 : ∀ b' r', b' < n → r' < 6 → upd rem (6 * b + r) (nI (L b r - w)) (6 * b' + r') = nI (loseL L b r w b' r') := by
    intro b' r' hb' hr'
    unfold loseL
    by_cases e : b' = b ∧ r' = r
    · rw [if_pos e, e.1, e.2, up_at]
    · rw [if_neg e, up_ne (by omega), h1 b' r' hb' hr']
  have r2 : ZeroFrom n (upd rem (6 * b + r) (nI (L b r - w))) := by
    intro b' r' g1 g2 g3
    rw [up_ne (by omega)]
    exact h2 b' r' g1 g2 g3
  refine ⟨v, v, ?_, ?_⟩
  · intro hz
    have hm : min (L b r) w = 0 := by
      by_cases e : min (L b r) w = 0
      · exact e
      · exact absurd ((nI_leI (b := 0) (by omega) (by omega)).mp hz) (by omega)
    refine h _ _ _ ⟨r1, r2, fun c' r' hc' hr' k => ?_⟩ (Or.inl ⟨rfl, by omega⟩)
    rw [h3 c' r' hc' hr']
    refine (lyB_lose (fun _ => ?_)).symm
    unfold loseL
    by_cases e : k = b ∧ r' = r
    · rw [if_pos e, e.1, e.2]; omega
    · rw [if_neg e]
  · intro hz
    have hm : 0 < min (L b r) w := by
      by_cases e : min (L b r) w = 0
      · exact absurd (by rw [e]; decide) hz
      · omega
    refine ⟨v, fun z => ?_, fun z => ⟨vp_in_nI (by omega) (by omega), vp_in_nI (by omega) (by omega), ?_⟩⟩
    · have hne : L b r - w ≠ 0 := fun e => z (by rw [e]; rfl)
      refine h _ _ _ ⟨r1, r2, fun c' r' hc' hr' k => ?_⟩ (Or.inl ⟨rfl, by omega⟩)
      rw [h3 c' r' hc' hr']
      refine (lyB_lose (fun _ => ?_)).symm
      unfold loseL
      by_cases e : k = b ∧ r' = r
      · rw [if_pos e, e.1, e.2]; omega
      · rw [if_neg e]
    · have he : L b r - w = 0 := nI_inj (b := 0) (by omega) (by omega) z
      refine h _ _ _ ⟨r1, r2, fun c' r' hc' hr' k => ?_⟩ (Or.inr rfl)
      by_cases e : 10 * c' + r' = 10 * c + r
      · have e3 : c' = c := by omega
        have e4 : r' = r := by omega
        subst e3 e4
        rw [vL_at, lb_and, h3 c' r' hc' hr']
        by_cases hk : k < 64
        · rw [lb_not _ hk, lb_bit (by omega)]
          by_cases e5 : k = b
          · subst e5
            rw [decide_eq_true (rfl : k = k), lyB_in hb hcb, lyB_in hb hcb]
            unfold loseL
            rw [if_pos ⟨rfl, rfl⟩, he]; simp
          · rw [decide_eq_false e5, Bool.not_false, Bool.and_true]
            refine (lyB_lose (fun _ => ?_)).symm
            unfold loseL
            rw [if_neg (fun z => e5 z.1)]
        · rw [lyB_big (by omega), lyB_big (by omega), Bool.false_and]
      · rw [vL_ne e, h3 c' r' hc' hr']
        refine (lyB_lose (fun hk => ?_)).symm
        unfold loseL
        rw [if_neg (fun z => e (by rw [← hk, z.1, z.2, hcb]))]
theorem sp_inColumn {C R n : Nat} (hC : C ≤ 6) (hR : R ≤ 6) {col : Nat → Nat} {L : Nat → Nat → Nat} {a : Nat → Int64} (hLy : LyC C R (lyB n col L) a) {c : Nat} (hc : c < C) {post : Int64 → Prop} (h : ∀ x, (∀ b, lb x b = orB (fun r => lyB n col L c r b) R) → post x) : wp_X1_inColumn (nI R) a (nI c) post := by
  unfold wp_X1_inColumn
  refine zu2_2 R (by omega) (fun k x => ∀ b, lb x b = orB (fun r => lyB n col L c r b) k) 0 rfl (by omega) (fun b => lb_zero b) (fun k x rec hk hJ hrec => ?_)
  unfold bd_X1_inColumn_5
  refine br_le (by omega) (by omega) (fun q => h x (by rw [show R = k by omega]; exact hJ)) (fun q => sp_cellOf ⟨vp_in_nI (by omega) (by omega), ?_⟩)
  rw [nI_1, nI_clamp (by omega)]
  refine hrec _ q (fun b => ?_)
  rw [lb_or, hJ, hLy c k hc q, orB]
/-- bundle b of column c has straw -/
def strB (col : Nat → Nat) (L : Nat → Nat → Nat) (c b : Nat) : Bool := decide (col b = c) && decide (0 < sm (L b) 6)
theorem sm_pos {f : Nat → Nat} : ∀ {n : Nat}, decide (0 < sm f n) = orB (fun r => decide (0 < f r)) n
  | 0 => rfl
  | n + 1 => by
    rw [orB, ← sm_pos, sm]
    by_cases e : 0 < f n
    · rw [decide_eq_true e, Bool.or_true]; exact decide_eq_true (by omega)
    · rw [decide_eq_false e, Bool.or_false, show f n = 0 by omega, Nat.add_zero]
theorem strB_orB {R n : Nat} (hR : R ≤ 6) {col : Nat → Nat} {L : Nat → Nat → Nat} (hz : ∀ b r, b < n → R ≤ r → L b r = 0) {c b : Nat} (hb : b < n) : orB (fun r => lyB n col L c r b) R = strB col L c b := by
  unfold strB
  rw [sm_pos, orB_cut hR (fun k hk _ => decide_eq_false (by rw [hz b k hb hk]; omega))]
  by_cases e : col b = c
  · rw [decide_eq_true e, Bool.true_and]
    exact orB_congr (fun k _ => lyB_in hb e)
  · rw [decide_eq_false e, Bool.false_and]
    have : ∀ m, orB (fun r => lyB n col L c r b) m = false := by
      intro m
      induction m with
      | zero => rfl
      | succ m ih => rw [orB, ih]; unfold lyB; rw [decide_eq_false e]; simp
    exact this R
