/-! PURE MORE: weight, what lies over what, bytes -/
theorem topO_none {p : Nat → Bool} : ∀ {n : Nat}, topO p n = none ↔ ∀ k, k < n → p k = false
  | 0 => ⟨fun _ k hk => absurd hk (Nat.not_lt_zero k), fun _ => rfl⟩
  | n + 1 => by
    rw [topO]
    by_cases h : p n = true
    · rw [if_pos h]
      exact ⟨(fun e => nomatch e), (fun q => absurd (q n (by omega)) (by rw [h]; decide))⟩
    · rw [if_neg h, topO_none]
      constructor
      · intro q k hk
        by_cases e : k = n
        · rw [e]; simpa using h
        · exact q k (by omega)
      · intro q k hk; exact q k (by omega)
theorem lyZero {C R n : Nat} {ly : Nat → Nat → Nat → Bool} {a : Nat → Int64} (hLy : LyC C R ly a) (hn : n ≤ 64) (hlyn : ∀ c r b, n ≤ b → ly c r b = false) {c r : Nat} (hc : c < C) (hr : r < R) : a (10 * c + r) = 0 ↔ topO (ly c r) n = none := by
  rw [lb_zero_iff, topO_none]
  constructor
  · intro h k hk; rw [← hLy c r hc hr]; exact h k (by omega)
  · intro h k hk
    rw [hLy c r hc hr]
    by_cases e : k < n
    · exact h k e
    · exact hlyn c r k (by omega)
/-- how thick the bundles are on a cell -/
def thkM (n : Nat) (col : Nat → Nat) (L : Nat → Nat → Nat) (c r : Nat) : Nat := sm (fun b => if col b = c then L b r else 0) n
theorem sp_thicknessAt {C R n : Nat} {col : Nat → Nat} {L : Nat → Nat → Nat} {left : Nat → Int32} {a : Nat → Int64} (hC : C ≤ 6) (hR : R ≤ 6) (hn : n ≤ 40) (hL : ∀ b r, b < n → r < 6 → left (6 * b + r) = nI (L b r)) (hLy : LyC C R (lyB n col L) a) {c r : Nat} (hc : c < C) (hr : r < R) {post : Int32 → Prop} (h : post (nI (thkM n col L c r))) : wp_X1_thicknessAt (nI n) left a (nI (10 * c + r)) post := by
  unfold wp_X1_thicknessAt
  refine zu2_2 n (by omega) (fun k acc => acc = nI (sm (fun b => if col b = c then L b r else 0) k)) 0 rfl (by omega) rfl (fun k acc rec hk hJ hrec => ?_)
  unfold bd_X1_thicknessAt_4
  refine br_le (by omega) (by omega) (fun q => ?_) (fun q => ⟨vp_in_nI (by omega) (by omega), ?_⟩)
  · rw [hJ, show k = n by omega]; exact h
  · rw [nI_clamp (by omega)]
    refine sp_isIn (by omega) (bool_cases rfl (fun hq => ?_) (fun hq => ?_))
    · rw [nI_1]
      refine hrec _ q ?_
      rw [hLy c r hc hr] at hq
      rw [hJ, sm]
      by_cases e : col k = c
      · rw [lyB_in q e] at hq
        have : L k r = 0 := by have := of_decide_eq_false hq; omega
        rw [if_pos e, this]; rfl
      · rw [if_neg e]; rfl
    · refine sp_rowOf (by omega) ?_
      rw [show (10 * c + r) % 10 = r by omega, nI_6']
      refine ⟨vp_in_nI (by omega) (by omega), ?_⟩
      intro v hv
      rw [nI_clamp (by omega), hL k r q (by omega), hJ, nI_add] at hv
      rw [nI_1, hv]
      refine hrec _ q ?_
      rw [hLy c r hc hr] at hq
      obtain ⟨-, e, -⟩ := lyB_true hq
      rw [sm, if_pos e]
def wgtM (n : Nat) (col : Nat → Nat) (L : Nat → Nat → Nat) (c : Nat) : Nat := sm (fun b => if col b = c then sm (L b) 6 else 0) n
theorem wgt_eq {R n : Nat} {col : Nat → Nat} {L : Nat → Nat → Nat} {c : Nat} (hR : R ≤ 6) (hz : ∀ b r, b < n → R ≤ r → L b r = 0) : sm (fun r => thkM n col L c r) R = wgtM n col L c := by
  unfold thkM wgtM
  rw [sm_swap]
  refine sm_congr (fun b hb => ?_)
  by_cases e : col b = c
  · rw [if_pos e]
    rw [sm_congr (g := L b) (fun r _ => if_pos e)]
    exact (sm_cut hR (fun k h1 _ => hz b k hb h1)).symm
  · rw [if_neg e, sm_congr (g := fun _ => 0) (fun r _ => if_neg e), sm_zero]
theorem sp_weigh {C R n : Nat} {col : Nat → Nat} {L : Nat → Nat → Nat} {left : Nat → Int32} {a : Nat → Int64} (hC : C ≤ 6) (hR : R ≤ 6) (hn : n ≤ 40) (hL : ∀ b r, b < n → r < 6 → left (6 * b + r) = nI (L b r)) (hz : ∀ b r, b < n → R ≤ r → L b r = 0) (hLy : LyC C R (lyB n col L) a) {c : Nat} (hc : c < C) {post : Int32 → Prop} (h : post (nI (wgtM n col L c))) : wp_X1_weigh (nI R) (nI n) left a (nI c) post := by
  rw [← wgt_eq hR hz] at h
  unfold wp_X1_weigh
  refine zu2_2 R (by omega) (fun k acc => acc = nI (sm (fun r => thkM n col L c r) k)) 0 rfl (by omega) rfl (fun k acc rec hk hJ hrec => ?_)
  unfold bd_X1_weigh_4
  refine br_le (by omega) (by omega) (fun q => ?_) (fun q => ?_)
  · rw [hJ, show k = R by omega]; exact h
  · refine sp_cellOf ?_
    refine sp_thicknessAt hC hR hn hL hLy hc q ?_
    rw [hJ, nI_add, nI_1]
    exact hrec _ q rfl
theorem sp_weightOf {nb : Nat} {col : Nat → Nat} {L : Nat → Nat → Nat} {bCol left : Nat → Int32} (hB : BunM nb col L bCol left) {c : Nat} (hc : c < 6) {post : Int32 → Prop} (h : post (nI (wgtM nb col L c))) : wp_X8_weightOf (nI nb) bCol left (nI c) post := by
  obtain ⟨h80, hcol, hL⟩ := hB
  unfold wp_X8_weightOf
  refine zu2_2 nb (by omega) (fun k acc => acc = nI (sm (fun b => if col b = c then sm (L b) 6 else 0) k)) 0 rfl (by omega) rfl (fun k acc rec hk hJ hrec => ?_)
  unfold bd_X8_weightOf_4
  refine br_le (by omega) (by omega) (fun q => ?_) (fun q => ⟨vp_in_nI (by omega) (by omega), ?_⟩)
  · rw [hJ, show k = nb by omega]; exact h
  · obtain ⟨h1, h2⟩ := hcol k q
    rw [nI_clamp (by omega), h1, nI_1]
    refine br_neq (by omega) (by omega) (fun e => ?_) (fun e => ?_)
    · refine hrec _ q ?_
      rw [hJ, show sm (fun b => if col b = c then sm (L b) 6 else 0) (k + 1) = sm (fun b => if col b = c then sm (L b) 6 else 0) k + (if col k = c then sm (L k) 6 else 0) from rfl, if_neg e, Nat.add_zero, Int32.add_zero]
    · refine sp_leftOf q h80 (fun r hr => (hL k r q hr).1) ?_
      refine hrec _ q ?_
      rw [hJ, show sm (fun b => if col b = c then sm (L b) 6 else 0) (k + 1) = sm (fun b => if col b = c then sm (L b) 6 else 0) k + (if col k = c then sm (L k) 6 else 0) from rfl, if_pos e, nI_add]
def orB (p : Nat → Bool) : Nat → Bool
  | 0 => false
  | m + 1 => orB p m || p m
theorem orB_cut {p : Nat → Bool} {m n : Nat} (h : m ≤ n) (hp : ∀ k, m ≤ k → k < n → p k = false) : orB p n = orB p m := by
  obtain ⟨d, rfl⟩ := Nat.le.dest h
  induction d with
  | zero => rfl
  | succ d ih =>
    rw [← Nat.add_assoc, orB, hp (m + d) (by omega) (by omega), Bool.or_false]
    exact ih (by omega) (fun k h1 h2 => hp k h1 (by omega))
theorem orB_in {p : Nat → Bool} {k : Nat} : ∀ {n : Nat}, k < n → p k = true → orB p n = true
  | 0, h, _ => absurd h (Nat.not_lt_zero k)
  | n + 1, h, hp => by
    rw [orB]
    by_cases e : k = n
    · rw [← e, hp, Bool.or_true]
    · rw [orB_in (by omega) hp, Bool.true_or]
theorem orB_congr {p q : Nat → Bool} : ∀ {n : Nat}, (∀ k, k < n → p k = q k) → orB p n = orB q n
  | 0, _ => rfl
  | n + 1, h => by rw [orB, orB, orB_congr (fun k hk => h k (by omega)), h n (by omega)]
/-- bundle b lies over o -/
def overM (col : Nat → Nat) (L : Nat → Nat → Nat) (b o : Nat) : Bool := decide (o < b) && (decide (col b = col o) && orB (fun r => decide (0 < L b r) && decide (0 < L o r)) 6)
theorem both_iff {x : Int64} {u l : Nat} (hu : u < 64) (hl : l < 64) : (x &&& (jlshl 1 (nI u) ||| jlshl 1 (nI l))) = (jlshl 1 (nI u) ||| jlshl 1 (nI l)) ↔ (lb x u && lb x l) = true := by
  constructor
  · intro h
    have hb : ∀ k, lb (x &&& (jlshl 1 (nI u) ||| jlshl 1 (nI l))) k = lb (jlshl 1 (nI u) ||| jlshl 1 (nI l)) k := fun k => by rw [h]
    have h1 := hb u
    have h2 := hb l
    rw [lb_and, lb_or, lb_bit hu, lb_bit hl] at h1 h2
    simp at h1 h2
    rw [h1, h2]; rfl
  · intro h
    rw [Bool.and_eq_true] at h
    refine lb_ext (fun k hk => ?_)
    rw [lb_and, lb_or, lb_bit hu, lb_bit hl]
    by_cases e1 : k = u
    · subst e1; rw [h.1]; simp
    · by_cases e2 : k = l
      · subst e2; rw [h.2]; simp
      · simp [e1, e2]
theorem sp_liesOver {C R n : Nat} {col : Nat → Nat} {L : Nat → Nat → Nat} {aCol : Nat → Int32} {a : Nat → Int64} (hC : C ≤ 6) (hR : R ≤ 6) (hn : n ≤ 40) (hcol : ∀ b, b < n → aCol b = nI (col b) ∧ col b < C) (hz : ∀ b r, b < n → R ≤ r → L b r = 0) (hLy : LyC C R (lyB n col L) a) {b o : Nat} (hb : b < n) (ho : o < n) {post : Int32 → Prop} (h : post (if overM col L b o then 1 else 0)) : wp_X1_liesOver (nI R) aCol a (nI b) (nI o) post := by
  unfold wp_X1_liesOver
  refine br_lt (by omega) (by omega) (fun q0 => ?_) (fun q0 => ?_)
  · obtain ⟨h1, h2⟩ := hcol b hb
    have eo : overM col L b o = (decide (col b = col o) && orB (fun r => decide (0 < L b r) && decide (0 < L o r)) R) := by
      unfold overM
      rw [decide_eq_true q0, orB_cut hR (fun k hk _ => by rw [hz b k hb hk]; rfl)]; rfl
    rw [eo] at h
    refine zu1_1 R (by omega) (fun k => (decide (col b = col o) && orB (fun r => decide (0 < L b r) && decide (0 < L o r)) k) = false) 0 rfl (by omega) (by simp [orB]) (fun k rec hk hJ hrec => ?_)
    unfold bd_X1_liesOver_18
    refine br_le (by omega) (by omega) (fun q => ?_) (fun q => ⟨vp_in_nI (by omega) (by omega), ?_⟩)
    · rw [show k = R by omega] at hJ; rw [hJ] at h; exact h
    · rw [nI_clamp (by omega), h1]
      refine sp_cellOf ⟨vp_in_nI (by omega) (by omega), ?_⟩
      rw [nI_clamp (by omega), nI_1]
      have key : (lb (a (10 * col b + k)) b && lb (a (10 * col b + k)) o) = (decide (col b = col o) && (decide (0 < L b k) && decide (0 < L o k))) := by
        rw [hLy _ k h2 q, hLy _ k h2 q, lyB_in hb rfl]
        by_cases e : col b = col o
        · rw [lyB_in ho e.symm, decide_eq_true e]; simp
        · unfold lyB
          rw [decide_eq_false (show ¬ col o = col b from fun z => e z.symm), decide_eq_false e]; simp
      refine ⟨fun z => hrec q ?_, fun z => ?_⟩
      · have hk0 : (lb (a (10 * col b + k)) b && lb (a (10 * col b + k)) o) = false := by
          cases hq : (lb (a (10 * col b + k)) b && lb (a (10 * col b + k)) o)
          · rfl
          · exact absurd ((both_iff (by omega) (by omega)).mpr hq) z
        rw [key] at hk0
        rw [orB]
        cases hcc : decide (col b = col o) with
        | false => rfl
        | true => rw [hcc] at hJ hk0; simp at hJ hk0 ⊢; exact ⟨hJ, hk0⟩
      · have hk1 := (both_iff (by omega) (by omega)).mp z
        rw [key, Bool.and_eq_true] at hk1
        rw [hk1.1, orB_in q hk1.2] at h; exact h
  · have : overM col L b o = false := by unfold overM; rw [decide_eq_false (by omega)]; rfl
    rw [this] at h; exact h
theorem sp_isOver {nb : Nat} {col : Nat → Nat} {L : Nat → Nat → Nat} {bCol left : Nat → Int32} (hB : BunM nb col L bCol left) {b o : Nat} (hb : b < nb) (ho : o < nb) {post : Int32 → Prop} (h : post (if overM col L b o then 1 else 0)) : wp_X8_isOver bCol left (nI b) (nI o) post := by
  obtain ⟨h80, hcol, hL⟩ := hB
  unfold wp_X8_isOver
  refine zu2_2 6 (by omega) (fun k acc => acc = if orB (fun r => decide (0 < L b r) && decide (0 < L o r)) k then 1 else 0) 0 rfl (by omega) rfl (fun k acc rec hk hJ hrec => ?_)
  unfold bd_X8_isOver_5
  rw [nI_6, nI_6, show (6 : Int32) = nI 6 from rfl]
  refine br_le (by omega) (by omega) (fun q => ?_) (fun q => ?_)
  · rw [show k = 6 by omega] at hJ
    unfold overM at h
    refine bool_cases hJ (fun z => ?_) (fun z => ?_)
    · rw [z] at h; simpa using h
    · rw [z] at h
      refine br_le (by omega) (by omega) (fun q2 => ?_) (fun q2 => ⟨vp_in_nI (by omega) (by omega), vp_in_nI (by omega) (by omega), ?_⟩)
      · rw [decide_eq_false (by omega)] at h; exact h
      · rw [decide_eq_true q2] at h
        obtain ⟨h1, h2⟩ := hcol b hb
        obtain ⟨h3, h4⟩ := hcol o ho
        rw [nI_clamp (by omega), nI_clamp (by omega), h1, h3]
        refine br_neq (by omega) (by omega) (fun e => ?_) (fun e => ?_)
        · rw [decide_eq_false e] at h; exact h
        · rw [decide_eq_true e] at h; exact h
  · rw [nI_1]
    obtain ⟨h1, h2⟩ := hL b k hb q
    obtain ⟨h3, h4⟩ := hL o k ho q
    refine bool_cases' hJ (fun z => hrec _ q ?_) (fun z => ⟨vp_in_nI (by omega) (by omega), ?_⟩)
    · rw [orB, z]; rfl
    · rw [nI_clamp (by omega), h1, nI_clamp (by omega), h3, show (0 : Int32) = nI 0 from rfl]
      refine br_le (by omega) (by omega) (fun q2 => hrec _ q ?_) (fun q2 => ⟨vp_in_nI (by omega) (by omega), br_le (by omega) (by omega) (fun q3 => hrec _ q ?_) (fun q3 => hrec _ q ?_)⟩)
      · rw [orB, z, decide_eq_false (by omega)]; rfl
      · rw [orB, z, decide_eq_false (show ¬ 0 < L o k by omega)]; simp; rfl
      · rw [orB, z, decide_eq_true q2, decide_eq_true q3]; rfl
