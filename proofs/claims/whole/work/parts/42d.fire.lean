/-! PURE FIRE 4: straw, the worst spark -/
def stW (C R n : Nat) (col : Nat → Nat) (L : Nat → Nat → Nat) (c r : Nat) : Bool := decide (c < C ∧ r < R) && (topO (lyB n col L c r) n).isSome
theorem stW_in {C R n : Nat} {col : Nat → Nat} {L : Nat → Nat → Nat} {c r : Nat} (h : stW C R n col L c r = true) : c < C ∧ r < R := by
  unfold stW at h
  rw [Bool.and_eq_true, decide_eq_true_iff] at h
  exact h.1
theorem sp_strawCells {C R n : Nat} (hC : C ≤ 6) (hR : R ≤ 6) (hn : n ≤ 40) {col : Nat → Nat} {L : Nat → Nat → Nat} {Fz : Int32} {Fcells : Nat → Int32} (hCe : CellsC C R Fz Fcells) {a : Nat → Int64} (hLy : LyC C R (lyB n col L) a) {post : Int64 → Prop} (h : ∀ x, StX x (stW C R n col L) → post x) : wp_X1_strawCells Fz Fcells a post := by
  have h36 := ix36 hC hR
  obtain ⟨rfl, hcl⟩ := hCe
  unfold wp_X1_strawCells
  refine zu2_2 (C * R) (by omega) (fun k x => (∀ c r, c < 6 → r < 10 → lb x (10 * c + r) = (stW C R n col L c r && decide (R * c + r < k))) ∧ ∀ j, 60 ≤ j → lb x j = false) 0 rfl (by omega) ⟨fun c r _ _ => by rw [lb_zero, decide_eq_false (by omega), Bool.and_false], fun j _ => lb_zero j⟩ (fun k x rec hk hJ hrec => ?_)
  obtain ⟨g1, g2⟩ := hJ
  unfold bd_X1_strawCells_4
  refine br_le (by omega) (by omega) (fun q => ?_) (fun q => ⟨vp_in_nI (by omega) (by omega), ?_⟩)
  · have hk1 : k = C * R := by omega
    subst hk1
    refine h x ⟨fun c r hc hr => ?_, g2, fun c r z => ?_⟩
    · rw [g1 c r hc hr]
      cases hs : stW C R n col L c r with
      | false => rfl
      | true =>
        have := stW_in hs
        rw [decide_eq_true (ix3 this.1 this.2)]; rfl
    · have := stW_in z
      omega
  · obtain ⟨i1, i2⟩ := ix2 q
    have hk0 : R * (k / R) + k % R = k := Nat.div_add_mod k R
    rw [nI_clamp (by omega), hcl k q, nI_1]
    refine ⟨vp_in_nI (by omega) (by omega), ?_⟩
    rw [nI_clamp (by omega)]
    have hzero := lyZero hLy (by omega : n ≤ 64) (fun c r b hb => lyB_big hb) i1 i2
    have same : ∀ c r, ¬ (c = k / R ∧ r = k % R) → (stW C R n col L c r && decide (R * c + r < k + 1)) = (stW C R n col L c r && decide (R * c + r < k)) := fun c r hne => by
      cases hs : stW C R n col L c r with
      | false => rfl
      | true =>
        have hin := stW_in hs
        by_cases e : R * c + r < k
        · rw [decide_eq_true e, decide_eq_true (show R * c + r < k + 1 by omega)]
        · rw [decide_eq_false e, decide_eq_false]
          intro z
          have e2 : R * c + r = k := by omega
          have e3 := ix1 (c := c) hin.2
          rw [e2] at e3
          exact hne ⟨e3.1.symm, e3.2.symm⟩
    have here : stW C R n col L (k / R) (k % R) = (topO (lyB n col L (k / R) (k % R)) n).isSome := by
      unfold stW
      rw [decide_eq_true ⟨i1, i2⟩, Bool.true_and]
    refine ⟨fun z => hrec _ q ⟨fun c r hc hr => ?_, g2⟩, fun z => ⟨vp_in_nI (by omega) (by omega), hrec _ q ⟨fun c r hc hr => ?_, fun j hj => ?_⟩⟩⟩
    · rw [g1 c r hc hr]
      by_cases e : c = k / R ∧ r = k % R
      · have e5 := here
        rw [hzero.mp z] at e5
        rw [e.1, e.2, e5]; rfl
      · rw [same c r e]
    · rw [lb_or, lb_bit (by omega), g1 c r hc hr]
      by_cases e : c = k / R ∧ r = k % R
      · have e5 := here
        cases htop : topO (lyB n col L (k / R) (k % R)) n with
        | none => exact absurd (hzero.mpr htop) z
        | some b =>
          rw [htop] at e5
          rw [e.1, e.2, e5, decide_eq_true rfl, decide_eq_true (show R * (k / R) + k % R < k + 1 by omega), Bool.or_true]; rfl
      · rw [same c r e, decide_eq_false (show ¬ 10 * c + r = 10 * (k / R) + k % R by omega), Bool.or_false]
    · rw [lb_or, lb_bit (by omega), g2 j hj, decide_eq_false (by omega)]; rfl
theorem sp_layStraw {C R n : Nat} (hC : C ≤ 6) (hR : R ≤ 6) {col : Nat → Nat} {L : Nat → Nat → Nat} {bCol left S0 : Nat → Int32} (hB : BunM n col L bCol left) {post : (Nat → Int32) → Prop} (h : ∀ S, StM (stW C R n col L) S → post S) : wp_X8_layStraw (nI C) (nI R) (nI n) bCol left S0 post := by
  have h80 := hB.1
  unfold wp_X8_layStraw
  refine zu2_1 6 (by omega) (fun c S => ∀ c' r, c' < c → r < 6 → S (6 * c' + r) = if stW C R n col L c' r then 1 else 0) 0 rfl (by omega) (fun c' r hc => absurd hc (Nat.not_lt_zero c')) (fun c S rec hc hJ hrec => ?_)
  unfold bd_X8_layStraw_2
  refine br_le (a := c) (b := 6) (by omega) (by omega) (fun q => h S (fun c' r hc' hr => hJ c' r (by omega) hr)) (fun q => ?_)
  refine zu2_1 6 (by omega) (fun r S => (∀ c' r, c' < c → r < 6 → S (6 * c' + r) = if stW C R n col L c' r then 1 else 0) ∧ ∀ r', r' < r → S (6 * c + r') = if stW C R n col L c r' then 1 else 0) 0 rfl (by omega) ⟨hJ, fun r' hr' => absurd hr' (Nat.not_lt_zero r')⟩ (fun r S2 rec2 hr hJ2 hrec2 => ?_)
  obtain ⟨g1, g2⟩ := hJ2
  unfold bd_X8_layStraw_10
  refine br_le (a := r) (b := 6) (by omega) (by omega) (fun q2 => ?_) (fun q2 => ?_)
  · rw [nI_1]
    refine hrec _ q (fun c' r' hc' hr' => ?_)
    by_cases e : c' = c
    · rw [e]; exact g2 r' (by omega)
    · exact g1 c' r' (by omega) hr'
  · have v36 : vp_in (nI (6 * c + r)) 36 := vp_in_nI (by omega) (by omega)
    have stp : ∀ x : Int32, x = (if stW C R n col L c r then 1 else 0) → rec2 (nI (r + 1)) (upd S2 (6 * c + r) x) := fun x hx => by
      refine hrec2 _ q2 ⟨fun c' r' hc' hr' => ?_, fun r' hr' => ?_⟩
      · rw [up_ne (by omega)]; exact g1 c' r' hc' hr'
      · by_cases e : r' = r
        · rw [e, up_at, hx]
        · rw [up_ne (by omega)]; exact g2 r' (by omega)
    rw [nI_6, nI_clamp (by omega), nI_1]
    by_cases hin : c < C ∧ r < R
    · refine sp_noCellY (by omega) (by omega) hin.1 hin.2 (f10 ?_)
      refine sp_topOf hB (by omega) (by omega) (Nat.le_refl n) ?_
      have hst : stW C R n col L c r = (topO (lyB n col L c r) n).isSome := by
        unfold stW
        rw [decide_eq_true hin, Bool.true_and]
      cases ht : topO (lyB n col L c r) n with
      | none =>
        rw [ht] at hst
        exact yy rfl ⟨v36, stp _ (by rw [hst]; rfl)⟩
      | some b =>
        rw [ht] at hst
        have := (topO_some ht).1
        exact nn (nI_ne9 (by omega)) ⟨v36, stp _ (by rw [hst]; rfl)⟩
    · refine sp_noCellN (by omega) (by omega) (fun z => hin ?_) (t10 ⟨v36, stp _ ?_⟩)
      · obtain ⟨⟨k1, z1, z2⟩, k2, z3, z4⟩ := z
        have e1 := nI_inj (by omega) (by omega) z2
        have e2 := nI_inj (by omega) (by omega) z4
        omega
      · unfold stW
        rw [decide_eq_false hin]; rfl
def WorstP (P : Nat → Nat → Prop) (N : Nat → Nat → Nat) (v : Int32) (m : Nat) : Prop := (m = 0 ∧ v = -9 ∧ ∀ c r, P c r → N c r = 0) ∨ ∃ a b, P a b ∧ 0 < m ∧ N a b = m ∧ v = nI (10 * a + b) ∧ (∀ c r, P c r → N c r ≤ m) ∧ ∀ c r, P c r → 10 * c + r < 10 * a + b → N c r < m
theorem WorstP.congr {P P' : Nat → Nat → Prop} {N : Nat → Nat → Nat} {v : Int32} {m : Nat} (h : WorstP P N v m) (hp : ∀ c r, P c r ↔ P' c r) : WorstP P' N v m := by
  rcases h with ⟨h1, h2, h3⟩ | ⟨a, b, h1, h2, h3, h4, h5, h6⟩
  · exact Or.inl ⟨h1, h2, fun c r z => h3 c r ((hp c r).mpr z)⟩
  · exact Or.inr ⟨a, b, (hp a b).mp h1, h2, h3, h4, fun c r z => h5 c r ((hp c r).mpr z), fun c r z => h6 c r ((hp c r).mpr z)⟩
theorem WorstP.keep {P P' : Nat → Nat → Prop} {N : Nat → Nat → Nat} {v : Int32} {m c0 r0 : Nat} (h : WorstP P N v m) (hp : ∀ c r, P' c r → P c r ∨ (c = c0 ∧ r = r0)) (hp2 : ∀ c r, P c r → P' c r) (hlt : ∀ c r, P c r → 10 * c + r < 10 * c0 + r0) (hle : N c0 r0 ≤ m) : WorstP P' N v m := by
  rcases h with ⟨h1, h2, h3⟩ | ⟨a, b, h1, h2, h3, h4, h5, h6⟩
  · refine Or.inl ⟨h1, h2, fun c r z => ?_⟩
    rcases hp c r z with z | ⟨rfl, rfl⟩
    · exact h3 c r z
    · omega
  · refine Or.inr ⟨a, b, hp2 a b h1, h2, h3, h4, fun c r z => ?_, fun c r z z2 => ?_⟩
    · rcases hp c r z with z | ⟨rfl, rfl⟩
      · exact h5 c r z
      · exact hle
    · rcases hp c r z with z | ⟨rfl, rfl⟩
      · exact h6 c r z z2
      · have := hlt a b h1; omega
theorem WorstP.take {P P' : Nat → Nat → Prop} {N : Nat → Nat → Nat} {v : Int32} {m c0 r0 : Nat} (h : WorstP P N v m) (hp : ∀ c r, P' c r → P c r ∨ (c = c0 ∧ r = r0)) (h0 : P' c0 r0) (hgt : m < N c0 r0) : WorstP P' N (nI (10 * c0 + r0)) (N c0 r0) := by
  have hle : ∀ c r, P c r → N c r ≤ m := by
    rcases h with ⟨h1, h2, h3⟩ | ⟨a, b, h1, h2, h3, h4, h5, h6⟩
    · intro c r z; have := h3 c r z; omega
    · exact h5
  refine Or.inr ⟨c0, r0, h0, by omega, rfl, rfl, fun c r z => ?_, fun c r z z2 => ?_⟩
  · rcases hp c r z with z | ⟨rfl, rfl⟩
    · have := hle c r z; omega
    · exact Nat.le_refl _
  · rcases hp c r z with z | ⟨rfl, rfl⟩
    · have := hle c r z; omega
    · omega
theorem WorstP.uniq {P : Nat → Nat → Prop} {N : Nat → Nat → Nat} {v v' : Int32} {m m' : Nat} (hP : ∀ c r, P c r → r < 10) (h : WorstP P N v m) (h' : WorstP P N v' m') : v = v' ∧ m = m' := by
  rcases h with ⟨h1, h2, h3⟩ | ⟨a, b, h1, h2, h3, h4, h5, h6⟩
  · rcases h' with ⟨g1, g2, g3⟩ | ⟨a', b', g1, g2, g3, g4, g5, g6⟩
    · exact ⟨by rw [h2, g2], by omega⟩
    · have := h3 a' b' g1; omega
  · rcases h' with ⟨g1, g2, g3⟩ | ⟨a', b', g1, g2, g3, g4, g5, g6⟩
    · have := g3 a b h1; omega
    · have e1 := h5 a' b' g1
      have e2 := g5 a b h1
      have e3 : m = m' := by omega
      refine ⟨?_, e3⟩
      have e4 : 10 * a + b = 10 * a' + b' := by
        by_cases e5 : 10 * a + b < 10 * a' + b'
        · have := g6 a b h1 e5; omega
        · by_cases e6 : 10 * a' + b' < 10 * a + b
          · have := h6 a' b' g1 e6; omega
          · omega
      rw [h4, g4, e4]
theorem sp_worstSpark {C R : Nat} (hC : C ≤ 6) (hR : R ≤ 6) {St : Nat → Nat → Bool} (hSt : ∀ c r, St c r = true → c < C ∧ r < R) {x : Int64} (hx : StX x St) {w : Nat} (hw : w < 5) {post : Int32 → Prop} (h : ∀ v m, m ≤ 36 → WorstP (fun c r => c < C ∧ r < R) (nB St w) v m → post v) : wp_X2_worstSpark x (nI w) post := by
  unfold wp_X2_worstSpark
  refine zu4_4 60 (by omega) (fun k l3 l4 l5 => ∃ m, l4 = nI m ∧ m ≤ 36 ∧ WorstP (fun c r => (c < C ∧ r < R) ∧ 10 * c + r < k) (nB St w) l3 m ∧ ∀ c r, c < 6 → r < 6 → lb l5 (10 * c + r) = true → nB St w c r ≤ m) 0 rfl (by omega) ⟨0, rfl, by omega, Or.inl ⟨rfl, rfl, fun c r z => absurd z.2 (by omega)⟩, fun c r _ _ z => by rw [lb_zero] at z; cases z⟩ (fun k l3 l4 l5 rec hk hJ hrec => ?_)
  obtain ⟨m, rfl, hm, hW, hA⟩ := hJ
  unfold bd_X2_worstSpark_12
  refine br_le (a := k) (b := 60) (by omega) (by omega) (fun q => ?_) (fun q => ?_)
  · have hk1 : k = 60 := by omega
    subst hk1
    refine h l3 m hm (hW.congr (fun c r => ⟨fun z => z.1, fun z => ⟨z, by omega⟩⟩))
  · have hk0 : 10 * (k / 10) + k % 10 = k := by omega
    refine sp_isIn (by omega) ?_
    rw [lb_and, lb_not _ (by omega), nI_1]
    have hb := hx.1 (k / 10) (k % 10) (by omega) (by omega)
    rw [hk0] at hb
    rw [hb]
    have hp : ∀ c r, ((c < C ∧ r < R) ∧ 10 * c + r < k + 1) → ((c < C ∧ r < R) ∧ 10 * c + r < k) ∨ (c = k / 10 ∧ r = k % 10) := fun c r z => by
      by_cases e : 10 * c + r < k
      · exact Or.inl ⟨z.1, e⟩
      · have e2 : 10 * c + r = k := by omega
        exact Or.inr ⟨by omega, by omega⟩
    have hp2 : ∀ c r, ((c < C ∧ r < R) ∧ 10 * c + r < k) → ((c < C ∧ r < R) ∧ 10 * c + r < k + 1) := fun c r z => ⟨z.1, by omega⟩
    have hlt : ∀ c r, ((c < C ∧ r < R) ∧ 10 * c + r < k) → 10 * c + r < 10 * (k / 10) + k % 10 := fun c r z => by rw [hk0]; exact z.2
    have skip : nB St w (k / 10) (k % 10) ≤ m → rec l3 (nI m) l5 (nI (k + 1)) := fun hle => hrec _ _ _ (by omega) ⟨m, rfl, hm, hW.keep hp hp2 hlt hle, hA⟩
    cases hs : St (k / 10) (k % 10) with
    | false =>
      rw [Bool.false_and]
      exact f01 (skip (by rw [nB_0 hs]; exact Nat.zero_le m))
    | true =>
      have hin := hSt _ _ hs
      rw [Bool.true_and]
      cases hl : lb l5 k with
      | true =>
        rw [Bool.not_true]
        exact f01 (skip (hA _ _ (by omega) (by omega) (by rw [hk0]; exact hl)))
      | false =>
        rw [Bool.not_false]
        refine t01 ?_
        rw [← congrArg nI hk0]
        refine sp_spread hx hw (by omega) (by omega) (fun y hy => sp_bitCount ?_)
        have hcn : cnt (lb y) 64 = nB St w (k / 10) (k % 10) := hy.count
        have h36 := gc_le (clB St w (k / 10) (k % 10))
        have hbd : nB St w (k / 10) (k % 10) ≤ 36 := h36
        rw [hcn]
        have hor : ∀ m', nB St w (k / 10) (k % 10) ≤ m' → m ≤ m' → ∀ c r, c < 6 → r < 6 → lb (l5 ||| y) (10 * c + r) = true → nB St w c r ≤ m' := fun m' h1 h2 c r hc hr z => by
          rw [lb_or, Bool.or_eq_true] at z
          rcases z with z | z
          · have := hA c r hc hr z; omega
          · rw [hy.1 c r hc (by omega)] at z
            have := nB_le (clB_iff.mp z)
            omega
        refine br_le (by omega) (by omega) (fun q2 => ?_) (fun q2 => sp_bitCount ?_)
        · exact hrec _ _ _ (by omega) ⟨m, rfl, hm, hW.keep hp hp2 hlt q2, hor m q2 (Nat.le_refl m)⟩
        · rw [hcn]
          exact hrec _ _ _ (by omega) ⟨_, rfl, hbd, hW.take hp ⟨hin, by omega⟩ q2, hor _ (Nat.le_refl _) (by omega)⟩
def WoV (v : Int32) (m : Nat) (x : Int32) : Prop := (m = 0 ∧ v = -9 ∧ x = nI 0) ∨ (0 < m ∧ ∃ j, v = nI j ∧ j ≤ 55 ∧ x = nI (100 * m + (99 - j)))
theorem sp_worstOf {C R : Nat} (hC : C ≤ 6) (hR : R ≤ 6) {St : Nat → Nat → Bool} (hSt : ∀ c r, St c r = true → c < C ∧ r < R) {S B0 : Nat → Int32} (hS : StM St S) {w : Nat} (hw : w < 5) {post : Int32 → (Nat → Int32) → Prop} (h : ∀ v m x B, m ≤ 36 → WorstP (fun c r => c < C ∧ r < R) (nB St w) v m → WoV v m x → post x B) : wp_X8_worstOf (nI C) (nI R) S B0 (nI w) post := by
  have wj : ∀ {P : Nat → Nat → Prop} {v : Int32} {m : Nat} {x : Int32}, WorstP P (nB St w) v m → WoV v m x → (∀ c r, P c r → c < 6 ∧ r < 6) → (m = 0 ∧ x = nI 0) ∨ (0 < m ∧ ∃ a b, P a b ∧ x = nI (100 * m + (99 - (10 * a + b)))) := by
    intro P v m x h1 h2 h3
    rcases h1 with ⟨g1, g2, g3⟩ | ⟨a, b, g1, g2, g3, g4, g5, g6⟩
    · rcases h2 with ⟨e1, e2, e3⟩ | ⟨e1, e2⟩
      · exact Or.inl ⟨e1, e3⟩
      · omega
    · rcases h2 with ⟨e1, e2, e3⟩ | ⟨e1, j, e2, e3, e4⟩
      · omega
      · have hab := h3 a b g1
        have := nI_inj (a := 10 * a + b) (b := j) (by omega) (by omega) (by rw [← g4, e2])
        exact Or.inr ⟨g2, a, b, g1, by rw [this]; exact e4⟩
  unfold wp_X8_worstOf
  refine zu3_2 C (by omega) (fun c x B => ∃ v m, m ≤ 36 ∧ WorstP (fun c' r' => c' < c ∧ r' < R) (nB St w) v m ∧ WoV v m x) 0 rfl (by omega) ⟨-9, 0, by omega, Or.inl ⟨rfl, rfl, fun c r z => absurd z.1 (Nat.not_lt_zero c)⟩, Or.inl ⟨rfl, rfl, rfl⟩⟩ (fun c x B rec hc hJ hrec => ?_)
  obtain ⟨v, m, hm, hW, hV⟩ := hJ
  unfold bd_X8_worstOf_4
  refine br_le (by omega) (by omega) (fun q => ?_) (fun q => ?_)
  · have hc1 : c = C := by omega
    subst hc1
    exact h v m x B hm hW hV
  · refine zu3_2 R (by omega) (fun r x B => ∃ v m, m ≤ 36 ∧ WorstP (fun c' r' => (c' < c ∧ r' < R) ∨ (c' = c ∧ r' < r)) (nB St w) v m ∧ WoV v m x) 0 rfl (by omega) ⟨v, m, hm, hW.congr (fun c' r' => ⟨fun z => Or.inl z, fun z => by rcases z with z | z; exact z; exact absurd z.2 (Nat.not_lt_zero r')⟩), hV⟩ (fun r x B2 rec2 hr hJ2 hrec2 => ?_)
    obtain ⟨v, m, hm, hW, hV⟩ := hJ2
    unfold bd_X8_worstOf_15
    refine br_le (by omega) (by omega) (fun q2 => ?_) (fun q2 => ?_)
    · have hr1 : r = R := by omega
      subst hr1
      rw [nI_1]
      exact hrec _ _ q ⟨v, m, hm, hW.congr (fun c' r' => ⟨fun z => by omega, fun z => by omega⟩), hV⟩
    · refine sp_burn hC hR hSt hS hw (by omega) (by omega) (fun B3 hB3 l6 hl6 => ?_)
      have h36 : nB St w c r ≤ 36 := gc_le _
      have e6 : l6 = nI (100 * nB St w c r + (99 - (10 * c + r))) := by
        rw [hl6, show (100 : Int32) = nI 100 from rfl, show (99 : Int32) = nI 99 from rfl, show (10 : Int32) = nI 10 from rfl, pk_mul, nI_add, pk_mul, nI_subN (by omega), nI_subN (by omega)]
        congr 1
        omega
      rw [nI_1]
      have hp : ∀ c' r', ((c' < c ∧ r' < R) ∨ (c' = c ∧ r' < r + 1)) → ((c' < c ∧ r' < R) ∨ (c' = c ∧ r' < r)) ∨ (c' = c ∧ r' = r) := fun c' r' z => by omega
      have hp2 : ∀ c' r', ((c' < c ∧ r' < R) ∨ (c' = c ∧ r' < r)) → ((c' < c ∧ r' < R) ∨ (c' = c ∧ r' < r + 1)) := fun c' r' z => by omega
      have hlt : ∀ c' r', ((c' < c ∧ r' < R) ∨ (c' = c ∧ r' < r)) → 10 * c' + r' < 10 * c + r := fun c' r' z => by omega
      have hwj := wj hW hV (fun c' r' z => by omega)
      refine br_le (a := 0) (by omega) (by omega) (fun z => ?_) (fun z => ?_)
      · exact hrec2 _ _ q2 ⟨v, m, hm, hW.keep hp hp2 hlt (by omega), hV⟩
      · rw [e6]
        rcases hwj with ⟨g1, rfl⟩ | ⟨g1, a, b, g2, rfl⟩
        · refine br_le (by omega) (by omega) (fun z2 => by omega) (fun z2 => ?_)
          exact hrec2 _ _ q2 ⟨_, _, h36, hW.take hp (Or.inr ⟨rfl, by omega⟩) (by omega), Or.inr ⟨by omega, 10 * c + r, rfl, by omega, rfl⟩⟩
        · have hab := hlt a b g2
          refine br_le (by omega) (by omega) (fun z2 => ?_) (fun z2 => ?_)
          · exact hrec2 _ _ q2 ⟨v, m, hm, hW.keep hp hp2 hlt (by omega), hV⟩
          · exact hrec2 _ _ q2 ⟨_, _, h36, hW.take hp (Or.inr ⟨rfl, by omega⟩) (by omega), Or.inr ⟨by omega, 10 * c + r, rfl, by omega, rfl⟩⟩
