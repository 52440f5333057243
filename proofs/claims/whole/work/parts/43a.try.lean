/-! PURE TRY 1: bundles by other numbers; drops end alike -/
def RelO (P : Nat → Nat → Prop) : Option Nat → Option Nat → Prop
  | none, none => True
  | some a, some b => P a b
  | _, _ => False
/-- the same bundles by other numbers -/
def RenP (ly1 ly2 : Nat → Nat → Nat → Bool) (n1 n2 : Nat) (P : Nat → Nat → Nat → Prop) : Prop :=
  (∀ c r a b, P c a b → ly1 c r a = ly2 c r b) ∧ (∀ c r a b, P c a b → RelO (P c) (topO (ly1 c r) a) (topO (ly2 c r) b)) ∧ ∀ c r, RelO (P c) (topO (ly1 c r) n1) (topO (ly2 c r) n2)
def EndE (x y : wRes) : Prop := x.1 = y.1 ∧ x.2.1 = y.2.1
theorem entW_ren {tt : Nat → Nat → Nat} {ly1 ly2 : Nat → Nat → Nat → Bool} {n1 n2 : Nat} {P : Nat → Nat → Nat → Prop} (hP : RenP ly1 ly2 n1 n2 P) {K1 K2 : Bool → Nat → Nat → Nat → (Nat → Nat → Bool) → List Int32 → wRes} (hK : ∀ o c r a b tn pl1 pl2, (o = false → P c a b) → EndE (K1 o c r a tn pl1) (K2 o c r b tn pl2)) (c r : Nat) (on1 on2 : Option Nat) (h : RelO (P c) on1 on2) (tn : Nat → Nat → Bool) (pl1 pl2 : List Int32) : EndE (entW tt ly1 n1 K1 c r on1 tn pl1) (entW tt ly2 n2 K2 c r on2 tn pl2) := by
  unfold entW
  by_cases e : tt c r ≠ 0
  · rw [if_pos e, if_pos e]
    cases htn : tn c r with
    | true => rw [if_pos rfl, if_pos rfl]; exact ⟨rfl, rfl⟩
    | false => rw [if_neg (by decide), if_neg (by decide)]; exact hK true c r 0 0 _ _ _ (fun z => by cases z)
  · rw [if_neg e, if_neg e]
    have fin : ∀ x y : Option Nat, RelO (P c) x y → EndE (match x with | none => (10 * c + r, -9, pl1) | some b => K1 false c r b tn (pl1 ++ [nI (100 * b + (10 * c + r))])) (match y with | none => (10 * c + r, -9, pl2) | some b => K2 false c r b tn (pl2 ++ [nI (100 * b + (10 * c + r))])) := by
      intro x y hxy
      cases x with
      | none =>
        cases y with
        | none => exact ⟨rfl, rfl⟩
        | some b => exact absurd hxy (fun z => z)
      | some a =>
        cases y with
        | none => exact absurd hxy (fun z => z)
        | some b => exact hK false c r a b _ _ _ (fun _ => hxy)
    cases on1 with
    | none =>
      cases on2 with
      | none => exact fin _ _ (hP.2.2 c r)
      | some b => exact absurd h (fun z => z)
    | some a =>
      cases on2 with
      | none => exact absurd h (fun z => z)
      | some b => exact fin (some a) (some b) h
theorem goW_ren {C R lap : Nat} {tt : Nat → Nat → Nat} {ly1 ly2 : Nat → Nat → Nat → Bool} {n1 n2 : Nat} {P : Nat → Nat → Nat → Prop} (hP : RenP ly1 ly2 n1 n2 P) : ∀ (f : Nat) (o : Bool) (c r a b : Nat) (tn : Nat → Nat → Bool) (pl1 pl2 : List Int32), (o = false → P c a b) → EndE (goW C R lap tt ly1 n1 f o c r a tn pl1) (goW C R lap tt ly2 n2 f o c r b tn pl2)
  | 0, o, c, r, a, b, tn, pl1, pl2, h => ⟨rfl, rfl⟩
  | f + 1, o, c, r, a, b, tn, pl1, pl2, h => by
    have hK : ∀ o c r a b tn pl1 pl2, (o = false → P c a b) → EndE ((fun o c r b tn pl => goW C R lap tt ly1 n1 f o c r b tn pl) o c r a tn pl1) ((fun o c r b tn pl => goW C R lap tt ly2 n2 f o c r b tn pl) o c r b tn pl2) := fun o c r a b tn pl1 pl2 h => goW_ren hP f o c r a b tn pl1 pl2 h
    rw [goW, goW]
    cases o with
    | true =>
      rw [if_pos rfl, if_pos rfl]
      by_cases e1 : tt c r = 1
      · rw [if_pos e1, if_pos e1]
        by_cases e2 : c = 0
        · rw [if_pos e2, if_pos e2]; exact ⟨rfl, rfl⟩
        · rw [if_neg e2, if_neg e2]; exact entW_ren hP hK _ _ none none trivial _ _ _
      · rw [if_neg e1, if_neg e1]
        by_cases e2 : c + 1 = C
        · rw [if_pos e2, if_pos e2]; exact ⟨rfl, rfl⟩
        · rw [if_neg e2, if_neg e2]; exact entW_ren hP hK _ _ none none trivial _ _ _
    | false =>
      have hab := h rfl
      simp only [Bool.false_eq_true, if_false]
      by_cases e1 : r = 0
      · rw [if_pos e1, if_pos e1]; exact ⟨rfl, rfl⟩
      · rw [if_neg e1, if_neg e1, hP.1 c (r - 1) a b hab]
        by_cases e2 : ly2 c (r - 1) b = false ∧ tt c (r - 1) = 0
        · rw [if_pos e2, if_pos e2]
          have ht := hP.2.1 c (r - 1) a b hab
          cases h1 : topO (ly1 c (r - 1)) a with
          | none =>
            cases h2 : topO (ly2 c (r - 1)) b with
            | none => exact ⟨rfl, rfl⟩
            | some b' => rw [h1, h2] at ht; exact absurd ht (fun z => z)
          | some a' =>
            cases h2 : topO (ly2 c (r - 1)) b with
            | none => rw [h1, h2] at ht; exact absurd ht (fun z => z)
            | some b' =>
              rw [h1, h2] at ht
              have hab' : P c a' b' := ht
              have hl : lapsB R lap tt ly1 a' c (r - 1) = lapsB R lap tt ly2 b' c (r - 1) := by
                unfold lapsB chk
                rw [hP.1 c _ a' b' hab', hP.1 c _ a' b' hab']
              show EndE (if lapsB R lap tt ly1 a' c (r - 1) = true then _ else _) (if lapsB R lap tt ly2 b' c (r - 1) = true then _ else _)
              rw [hl]
              by_cases e3 : lapsB R lap tt ly2 b' c (r - 1) = true
              · rw [if_pos e3, if_pos e3]
                exact entW_ren hP hK _ _ (some a') (some b') hab' _ _ _
              · rw [if_neg e3, if_neg e3]; exact ⟨rfl, rfl⟩
        · rw [if_neg e2, if_neg e2]
          exact entW_ren hP hK _ _ (some a) (some b) hab _ _ _
theorem runW_ren {C R lap : Nat} {tt : Nat → Nat → Nat} {ly1 ly2 : Nat → Nat → Nat → Bool} {n1 n2 : Nat} {P : Nat → Nat → Nat → Prop} (hP : RenP ly1 ly2 n1 n2 P) (c r : Nat) : (runW C R lap tt ly1 n1 c r).1 = (runW C R lap tt ly2 n2 c r).1 := (entW_ren hP (fun o c r a b tn pl1 pl2 h => goW_ren hP 64 o c r a b tn pl1 pl2 h) c r none none trivial _ _ _).1
/-- the way wb of the column c0, tried on ly -/
def tryB (tt : Nat → Nat → Nat) (R c0 ln : Nat) (wb : Nat → Bool) (ly : Nat → Nat → Nat → Bool) (c r b : Nat) : Bool := if c = c0 then decide (b < R) && (wb b && decide (lowF tt c0 b ln ≤ r ∧ r ≤ b)) else ly c r b
theorem tops_rel {n : Nat} {wb q1 q2 inr : Nat → Bool} {R : Nat} (h1 : ∀ i, i < R → q1 i = (wb i && inr i)) (h2 : ∀ i, i < R → wb i = true → q2 (n + cnt wb i) = inr i) (h0 : ∀ b, b < n → q2 b = false) : ∀ a, a ≤ R → RelO (fun i j => i < R ∧ wb i = true ∧ j = n + cnt wb i) (topO q1 a) (topO q2 (n + cnt wb a))
  | 0, _ => by
    have : topO q2 (n + cnt wb 0) = none := topO_none.mpr (fun k hk => h0 k (by rw [cnt] at hk; omega))
    rw [this]; trivial
  | a + 1, h => by
    have ih := tops_rel h1 h2 h0 a (by omega)
    rw [topO, h1 a (by omega)]
    cases hw : wb a with
    | false =>
      rw [Bool.false_and, if_neg (by decide), cnt_step_n hw]
      exact ih
    | true =>
      rw [Bool.true_and, cnt_step_y hw, ← Nat.add_assoc, topO, h2 a (by omega) hw]
      cases hi : inr a with
      | true => rw [if_pos rfl, if_pos rfl]; exact ⟨by omega, hw, rfl⟩
      | false => rw [if_neg (by decide), if_neg (by decide)]; exact ih
theorem RelO.refl {P : Nat → Nat → Prop} (h : ∀ a, P a a) : ∀ x : Option Nat, RelO P x x
  | none => trivial
  | some a => h a
/-- what the reference lays behind its bundles lies as the way says -/
theorem try_ren {tt : Nat → Nat → Nat} {R c0 ln n : Nat} {wb : Nat → Bool} {ly ly2 : Nat → Nat → Nat → Bool} (hR : R ≤ 6) (hn : n ≤ 40) (hly : ∀ c r b, n ≤ b → ly c r b = false) (h1 : ∀ c r b, c ≠ c0 → ly2 c r b = ly c r b) (h0 : ∀ r b, b < n → ly2 c0 r b = false) (h2 : ∀ r i, i < R → wb i = true → ly2 c0 r (n + cnt wb i) = decide (lowF tt c0 i ln ≤ r ∧ r ≤ i)) : RenP (tryB tt R c0 ln wb ly) ly2 40 (n + cnt wb R) (fun c a b => if c = c0 then a < R ∧ wb a = true ∧ b = n + cnt wb a else a = b) := by
  have hne : ∀ c r b, c ≠ c0 → tryB tt R c0 ln wb ly c r b = ly c r b := fun c r b h => if_neg h
  have heq : ∀ r b, tryB tt R c0 ln wb ly c0 r b = (decide (b < R) && (wb b && decide (lowF tt c0 b ln ≤ r ∧ r ≤ b))) := fun r b => if_pos rfl
  have tops : ∀ r a, a ≤ R → RelO (fun i j => i < R ∧ wb i = true ∧ j = n + cnt wb i) (topO (tryB tt R c0 ln wb ly c0 r) a) (topO (ly2 c0 r) (n + cnt wb a)) := fun r => tops_rel (inr := fun i => decide (lowF tt c0 i ln ≤ r ∧ r ≤ i)) (fun i hi => by rw [heq, decide_eq_true hi, Bool.true_and]) (fun i hi hw => h2 r i hi hw) (fun b hb => h0 r b hb)
  refine ⟨fun c r a b h => ?_, fun c r a b h => ?_, fun c r => ?_⟩
  · by_cases e : c = c0
    · subst e
      rw [if_pos rfl] at h
      obtain ⟨g1, g2, rfl⟩ := h
      rw [heq, h2 r a g1 g2, decide_eq_true g1, g2]; rfl
    · simp only [if_neg e] at h
      subst h
      rw [hne c r a e, h1 c r a e]
  · by_cases e : c = c0
    · subst e
      simp only [if_true] at h ⊢
      obtain ⟨g1, g2, rfl⟩ := h
      exact tops r a (by omega)
    · simp only [if_neg e] at h ⊢
      subst h
      rw [topO_congr (q := ly2 c r) (fun k _ => by rw [hne c r k e, h1 c r k e])]
      exact RelO.refl (fun _ => rfl) _
  · by_cases e : c = c0
    · subst e
      simp only [if_true]
      rw [topO_cut (m := R) (by omega) (fun k hk _ => by rw [heq, decide_eq_false (by omega), Bool.false_and])]
      exact tops r R (Nat.le_refl R)
    · simp only [if_neg e]
      have e1 : topO (tryB tt R c0 ln wb ly c r) 40 = topO (ly c r) n := by
        rw [topO_congr (q := ly c r) (fun k _ => hne c r k e)]
        exact topO_cut hn (fun k hk _ => hly c r k hk)
      have e2 : topO (ly2 c r) (n + cnt wb R) = topO (ly c r) n := by
        rw [topO_congr (q := ly c r) (fun k _ => h1 c r k e)]
        exact topO_cut (by omega) (fun k hk _ => hly c r k hk)
      rw [e1, e2]
      exact RelO.refl (fun _ => rfl) _
