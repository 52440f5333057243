/-! PURE FIRE 1: what burns, as the least set -/
def nbW (w c' r' c r : Nat) : Prop := (r' = r ∧ (c' + 1 = c ∨ c' = c + 1)) ∨ (c' = c ∧ (r' + 1 = r ∨ r' = r + 1)) ∨ (w = 1 ∧ r' = r ∧ c' + 2 = c) ∨ (w = 3 ∧ r' = r ∧ c' = c + 2) ∨ (w = 2 ∧ c' = c ∧ r' + 2 = r) ∨ (w = 4 ∧ c' = c ∧ r' = r + 2)
def windB (w : Nat) (X : Nat → Nat → Bool) (c r : Nat) : Bool := if w = 1 then decide (2 ≤ c) && X (c - 2) r else if w = 2 then decide (2 ≤ r) && X c (r - 2) else if w = 3 then X (c + 2) r else if w = 4 then X c (r + 2) else false
def nbrB (w : Nat) (X : Nat → Nat → Bool) (c r : Nat) : Bool := (decide (1 ≤ c) && X (c - 1) r) || (X (c + 1) r || ((decide (1 ≤ r) && X c (r - 1)) || (X c (r + 1) || windB w X c r)))
theorem windB_iff {w : Nat} {X : Nat → Nat → Bool} {c r : Nat} : windB w X c r = true ↔ (w = 1 ∧ 2 ≤ c ∧ X (c - 2) r = true) ∨ (w = 2 ∧ 2 ≤ r ∧ X c (r - 2) = true) ∨ (w = 3 ∧ X (c + 2) r = true) ∨ (w = 4 ∧ X c (r + 2) = true) := by
  unfold windB
  by_cases e1 : w = 1
  · rw [if_pos e1, Bool.and_eq_true, decide_eq_true_iff]
    constructor
    · rintro ⟨h1, h2⟩; exact Or.inl ⟨e1, h1, h2⟩
    · rintro (⟨-, h1, h2⟩ | ⟨h, -⟩ | ⟨h, -⟩ | ⟨h, -⟩)
      · exact ⟨h1, h2⟩
      · omega
      · omega
      · omega
  · rw [if_neg e1]
    by_cases e2 : w = 2
    · rw [if_pos e2, Bool.and_eq_true, decide_eq_true_iff]
      constructor
      · rintro ⟨h1, h2⟩; exact Or.inr (Or.inl ⟨e2, h1, h2⟩)
      · rintro (⟨h, -⟩ | ⟨-, h1, h2⟩ | ⟨h, -⟩ | ⟨h, -⟩)
        · omega
        · exact ⟨h1, h2⟩
        · omega
        · omega
    · rw [if_neg e2]
      by_cases e3 : w = 3
      · rw [if_pos e3]
        constructor
        · intro h1; exact Or.inr (Or.inr (Or.inl ⟨e3, h1⟩))
        · rintro (⟨h, -⟩ | ⟨h, -⟩ | ⟨-, h1⟩ | ⟨h, -⟩)
          · omega
          · omega
          · exact h1
          · omega
      · rw [if_neg e3]
        by_cases e4 : w = 4
        · rw [if_pos e4]
          constructor
          · intro h1; exact Or.inr (Or.inr (Or.inr ⟨e4, h1⟩))
          · rintro (⟨h, -⟩ | ⟨h, -⟩ | ⟨h, -⟩ | ⟨-, h1⟩)
            · omega
            · omega
            · omega
            · exact h1
        · rw [if_neg e4]
          constructor
          · intro h; cases h
          · rintro (⟨h, -⟩ | ⟨h, -⟩ | ⟨h, -⟩ | ⟨h, -⟩)
            · omega
            · omega
            · omega
            · omega
theorem nbrB_iff {w : Nat} {X : Nat → Nat → Bool} {c r : Nat} : nbrB w X c r = true ↔ ∃ c' r', X c' r' = true ∧ nbW w c' r' c r := by
  unfold nbrB
  rw [Bool.or_eq_true, Bool.or_eq_true, Bool.or_eq_true, Bool.or_eq_true, windB_iff, Bool.and_eq_true, Bool.and_eq_true, decide_eq_true_iff, decide_eq_true_iff]
  constructor
  · rintro (⟨h1, h2⟩ | h1 | ⟨h1, h2⟩ | h1 | ⟨h0, h1, h2⟩ | ⟨h0, h1, h2⟩ | ⟨h0, h1⟩ | ⟨h0, h1⟩)
    · exact ⟨_, _, h2, by unfold nbW; omega⟩
    · exact ⟨_, _, h1, by unfold nbW; omega⟩
    · exact ⟨_, _, h2, by unfold nbW; omega⟩
    · exact ⟨_, _, h1, by unfold nbW; omega⟩
    · exact ⟨_, _, h2, by unfold nbW; omega⟩
    · exact ⟨_, _, h2, by unfold nbW; omega⟩
    · exact ⟨_, _, h1, by unfold nbW; omega⟩
    · exact ⟨_, _, h1, by unfold nbW; omega⟩
  · rintro ⟨c', r', h1, h2⟩
    rcases h2 with ⟨e, e2 | e2⟩ | ⟨e, e2 | e2⟩ | ⟨e0, e, e2⟩ | ⟨e0, e, e2⟩ | ⟨e0, e, e2⟩ | ⟨e0, e, e2⟩
    · subst e e2; exact Or.inl ⟨by omega, h1⟩
    · subst e e2; exact Or.inr (Or.inl h1)
    · subst e e2; exact Or.inr (Or.inr (Or.inl ⟨by omega, h1⟩))
    · subst e e2; exact Or.inr (Or.inr (Or.inr (Or.inl h1)))
    · subst e e2; exact Or.inr (Or.inr (Or.inr (Or.inr (Or.inl ⟨e0, by omega, h1⟩))))
    · subst e e2; exact Or.inr (Or.inr (Or.inr (Or.inr (Or.inr (Or.inr (Or.inl ⟨e0, h1⟩))))))
    · subst e e2; exact Or.inr (Or.inr (Or.inr (Or.inr (Or.inr (Or.inl ⟨e0, by omega, h1⟩)))))
    · subst e e2; exact Or.inr (Or.inr (Or.inr (Or.inr (Or.inr (Or.inr (Or.inr ⟨e0, h1⟩))))))
def Clo (St : Nat → Nat → Bool) (w a b c r : Nat) : Prop := ∀ X : Nat → Nat → Prop, (St a b = true → X a b) → (∀ c' r' c r, X c' r' → nbW w c' r' c r → St c r = true → X c r) → X c r
noncomputable def clB (St : Nat → Nat → Bool) (w a b c r : Nat) : Bool := @decide (Clo St w a b c r) (Classical.propDecidable _)
theorem clB_iff {St : Nat → Nat → Bool} {w a b c r : Nat} : clB St w a b c r = true ↔ Clo St w a b c r := by
  unfold clB
  exact @decide_eq_true_iff _ (Classical.propDecidable _)
theorem Clo.start {St : Nat → Nat → Bool} {w a b : Nat} (h : St a b = true) : Clo St w a b a b := fun X h0 _ => h0 h
theorem Clo.step {St : Nat → Nat → Bool} {w a b c r c' r' : Nat} (h : Clo St w a b c' r') (hn : nbW w c' r' c r) (hs : St c r = true) : Clo St w a b c r := fun X h0 h1 => h1 _ _ _ _ (h X h0 h1) hn hs
theorem Clo.straw {St : Nat → Nat → Bool} {w a b c r : Nat} (h : Clo St w a b c r) : St c r = true := h (fun c r => St c r = true) (fun z => z) (fun _ _ _ _ _ _ z => z)
theorem Clo.spark {St : Nat → Nat → Bool} {w a b c r : Nat} (h : Clo St w a b c r) : St a b = true := h (fun _ _ => St a b = true) (fun z => z) (fun _ _ _ _ z _ _ => z)
theorem Clo.trans {St : Nat → Nat → Bool} {w a b c r d s : Nat} (h : Clo St w a b c r) (h2 : Clo St w c r d s) : Clo St w a b d s := h2 (fun d s => Clo St w a b d s) (fun _ => h) (fun _ _ _ _ z1 z2 z3 => z1.step z2 z3)
/-- what is closed and burns is what burns -/
theorem clB_eq {St X : Nat → Nat → Bool} {w a b : Nat} (h1 : ∀ c r, X c r = true → Clo St w a b c r) (h2 : St a b = true → X a b = true) (h3 : ∀ c r, nbrB w X c r = true → St c r = true → X c r = true) (c r : Nat) : X c r = clB St w a b c r := by
  cases hx : X c r with
  | true => exact (clB_iff.mpr (h1 c r hx)).symm
  | false =>
    refine (Bool.eq_false_iff.mpr (fun z => ?_)).symm
    have := (clB_iff.mp z) (fun c r => X c r = true) h2 (fun c' r' c r g1 g2 g3 => h3 c r (nbrB_iff.mpr ⟨c', r', g1, g2⟩) g3)
    rw [hx] at this; cases this
def gc (X : Nat → Nat → Bool) : Nat := sm (fun c => cnt (X c) 6) 6
noncomputable def nB (St : Nat → Nat → Bool) (w a b : Nat) : Nat := gc (clB St w a b)
theorem cnt_imp {p q : Nat → Bool} : ∀ {n : Nat}, (∀ k, k < n → p k = true → q k = true) → cnt p n ≤ cnt q n
  | 0, _ => Nat.le_refl 0
  | n + 1, h => by
    have ih := cnt_imp (n := n) (fun k hk => h k (by omega))
    cases hp : p n with
    | true => rw [cnt_step_y hp, cnt_step_y (h n (by omega) hp)]; omega
    | false =>
      rw [cnt_step_n hp]
      cases hq : q n with
      | true => rw [cnt_step_y hq]; omega
      | false => rw [cnt_step_n hq]; exact ih
theorem cnt_imp_lt {p q : Nat → Bool} {i : Nat} (hp : p i = false) (hq : q i = true) : ∀ {n : Nat}, i < n → (∀ k, k < n → p k = true → q k = true) → cnt p n < cnt q n
  | 0, hi, _ => absurd hi (Nat.not_lt_zero i)
  | n + 1, hi, h => by
    by_cases e : i = n
    · subst e
      have := cnt_imp (n := i) (fun k hk => h k (by omega))
      rw [cnt_step_n hp, cnt_step_y hq]; omega
    · have ih := cnt_imp_lt hp hq (n := n) (by omega) (fun k hk => h k (by omega))
      cases hpn : p n with
      | true => rw [cnt_step_y hpn, cnt_step_y (h n (by omega) hpn)]; omega
      | false =>
        rw [cnt_step_n hpn]
        cases hqn : q n with
        | true => rw [cnt_step_y hqn]; omega
        | false => rw [cnt_step_n hqn]; exact ih
theorem sm_mono {f g : Nat → Nat} : ∀ {n : Nat}, (∀ k, k < n → f k ≤ g k) → sm f n ≤ sm g n
  | 0, _ => Nat.le_refl 0
  | n + 1, h => by have h1 := sm_mono (n := n) (fun k hk => h k (by omega)); have h2 := h n (by omega); rw [sm, sm]; omega
theorem gc_imp {X Y : Nat → Nat → Bool} (h : ∀ c r, X c r = true → Y c r = true) : gc X ≤ gc Y := sm_mono (fun c _ => cnt_imp (fun r _ => h c r))
theorem gc_le (X : Nat → Nat → Bool) : gc X ≤ 36 := sm_le (c := 6) (n := 6) (fun c _ => cnt_le (X c) 6)
theorem gc_0 {X : Nat → Nat → Bool} (h : ∀ c r, X c r = false) : gc X = 0 := by
  unfold gc
  refine sm_all0 (fun c _ => ?_)
  rw [cnt_cut (m := 0) (by omega) (fun k _ => h c k)]; rfl
theorem gc_36 (X : Nat → Nat → Bool) : cnt (fun i => X (i / 6) (i % 6)) 36 = gc X := cnt_grid X 6
theorem nB_0 {St : Nat → Nat → Bool} {w a b : Nat} (h : St a b = false) : nB St w a b = 0 := by
  refine gc_0 (fun c r => Bool.eq_false_iff.mpr (fun z => ?_))
  have := (clB_iff.mp z).spark
  rw [h] at this; cases this
theorem nB_pos {St : Nat → Nat → Bool} {w a b : Nat} (ha : a < 6) (hb : b < 6) (h : St a b = true) : 0 < nB St w a b := by
  have h1 : clB St w a b a b = true := clB_iff.mpr (Clo.start h)
  have h2 := cnt_imp_lt (p := fun _ => false) (q := clB St w a b a) (i := b) rfl h1 (n := 6) hb (fun k _ z => by cases z)
  have h3 : cnt (clB St w a b a) 6 ≤ gc (clB St w a b) := by
    have h4 : sm (fun c => if c = a then cnt (clB St w a b a) 6 else 0) 6 ≤ gc (clB St w a b) := sm_mono (fun c _ => by
      by_cases e : c = a
      · rw [if_pos e, e]; exact Nat.le_refl _
      · rw [if_neg e]; exact Nat.zero_le _)
    rw [sm_pt ha] at h4
    exact h4
  unfold nB
  omega
theorem nB_le {St : Nat → Nat → Bool} {w a b c r : Nat} (h : Clo St w a b c r) : nB St w c r ≤ nB St w a b := gc_imp (fun d s z => clB_iff.mpr (h.trans (clB_iff.mp z)))
/-- a set of cells in a long -/
def StX (x : Int64) (X : Nat → Nat → Bool) : Prop := (∀ c r, c < 6 → r < 10 → lb x (10 * c + r) = X c r) ∧ (∀ k, 60 ≤ k → lb x k = false) ∧ ∀ c r, X c r = true → c < 6 ∧ r < 6
theorem StX.count {x : Int64} {X : Nat → Nat → Bool} (h : StX x X) : cnt (lb x) 64 = gc X := by
  obtain ⟨h1, h2, h3⟩ := h
  rw [cnt_cut (m := 60) (by omega) (fun k hk => h2 k hk)]
  have e : ∀ k, k < 60 → lb x k = X (k / 10) (k % 10) := fun k hk => by
    rw [← h1 (k / 10) (k % 10) (by omega) (by omega)]
    congr 1
    omega
  rw [cnt_congr e]
  show cnt (fun i => X (i / 10) (i % 10)) (10 * 6) = _
  rw [cnt_grid X 6]
  refine sm_congr (fun c hc => cnt_cut (by omega) (fun k hk => Bool.eq_false_iff.mpr (fun z => ?_)))
  have := (h3 c k z).2
  omega
theorem StX.ext {x y : Int64} {X : Nat → Nat → Bool} (h : StX x X) (h' : StX y X) : x = y := by
  refine lb_ext (fun k _ => ?_)
  by_cases e : k < 60
  · have g1 := h.1 (k / 10) (k % 10) (by omega) (by omega)
    have g2 := h'.1 (k / 10) (k % 10) (by omega) (by omega)
    rw [show 10 * (k / 10) + k % 10 = k by omega] at g1 g2
    rw [g1, g2]
  · rw [h.2.1 k (by omega), h'.2.1 k (by omega)]
