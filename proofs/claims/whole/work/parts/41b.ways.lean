/-! PURE WAYS 2: vectors counted one after the other -/
def cf (f t : Nat → Nat) : Nat → Nat → ((Nat → Nat) → Nat) → (Nat → Nat) → Nat
  | 0, _, Q, y => Q y
  | d + 1, i, Q, y => sm (fun v => if f i ≤ v ∧ v ≤ t i then cf f t d (i + 1) Q (set1 y i v) else 0) 100
theorem cf_sum {f t : Nat → Nat} {q : Nat → (Nat → Nat) → Nat} {n : Nat} : ∀ (d i : Nat) (y : Nat → Nat), cf f t d i (fun z => sm (fun v => q v z) n) y = sm (fun v => cf f t d i (q v) y) n
  | 0, _, _ => rfl
  | d + 1, i, y => by
    rw [cf]
    have e : ∀ w, w < 100 → (if f i ≤ w ∧ w ≤ t i then cf f t d (i + 1) (fun z => sm (fun v => q v z) n) (set1 y i w) else 0) = sm (fun v => if f i ≤ w ∧ w ≤ t i then cf f t d (i + 1) (q v) (set1 y i w) else 0) n := fun w _ => by
      rw [cf_sum d (i + 1), sm_if]
    rw [sm_congr e, sm_swap]
    exact sm_congr (fun v _ => by rw [cf])
theorem cf_0 {f t : Nat → Nat} : ∀ (d i : Nat) (y : Nat → Nat), cf f t d i (fun _ => 0) y = 0
  | 0, _, _ => rfl
  | d + 1, i, y => by
    rw [cf]
    refine sm_all0 (fun v _ => ?_)
    rw [cf_0 d, ite_self]
theorem cf_if {f t : Nat → Nat} {c : Prop} [Decidable c] {q : (Nat → Nat) → Nat} (d i : Nat) (y : Nat → Nat) : cf f t d i (fun z => if c then q z else 0) y = if c then cf f t d i q y else 0 := by
  by_cases e : c
  · simp only [if_pos e]
  · simp only [if_neg e]
    exact cf_0 d i y
theorem cf_last {f t : Nat → Nat} {Q : (Nat → Nat) → Nat} : ∀ (d i : Nat) (y : Nat → Nat), cf f t (d + 1) i Q y = cf f t d i (fun z => sm (fun v => if f (i + d) ≤ v ∧ v ≤ t (i + d) then Q (set1 z (i + d) v) else 0) 100) y
  | 0, i, y => rfl
  | d + 1, i, y => by
    rw [cf, cf]
    refine sm_congr (fun v _ => ?_)
    rw [cf_last d (i + 1), show i + 1 + d = i + (d + 1) by omega]
theorem bx_cf {f t : Nat → Nat} : ∀ (k : Nat) (Q : (Nat → Nat) → Nat), bx f t (fun _ => true) 100 k Q = cf f t k 0 Q (fun _ => 0)
  | 0, Q => rfl
  | k + 1, Q => by
    rw [bx, if_pos rfl, cf_last, cf_sum]
    refine sm_congr (fun v hv => ?_)
    rw [cf_if, bx_cf k, Nat.zero_add]
    by_cases e : f k ≤ v ∧ v ≤ t k
    · rw [if_pos e, if_pos ⟨e.1, e.2, hv⟩]
    · rw [if_neg e, if_neg (fun z => e ⟨z.1, z.2.1⟩)]
/-- Q asks of the numbers below k alone -/
def Dep (k : Nat) (Q : (Nat → Nat) → Nat) : Prop := ∀ y y' : Nat → Nat, (∀ j, j < k → y j = y' j) → Q y = Q y'
theorem cf_dep {f t : Nat → Nat} {k : Nat} {Q : (Nat → Nat) → Nat} (hQ : Dep k Q) : ∀ (d i : Nat) (y y' : Nat → Nat), i + d = k → (∀ j, j < i → y j = y' j) → cf f t d i Q y = cf f t d i Q y'
  | 0, i, y, y', hk, h => hQ y y' (fun j hj => h j (by omega))
  | d + 1, i, y, y', hk, h => by
    rw [cf, cf]
    refine sm_congr (fun v _ => ?_)
    rw [cf_dep hQ d (i + 1) (set1 y i v) (set1 y' i v) (by omega) (fun j hj => ?_)]
    by_cases e : j = i
    · rw [e, set1_at, set1_at]
    · rw [set1_ne e, set1_ne e]; exact h j (by omega)
/-- those that come after y by the number i -/
def aft (f t : Nat → Nat) (k : Nat) (Q : (Nat → Nat) → Nat) (y : Nat → Nat) (i : Nat) : Nat := sm (fun v => if y i < v ∧ v ≤ t i then cf f t (k - (i + 1)) (i + 1) Q (set1 y i v) else 0) 100
theorem aft_dep {f t : Nat → Nat} {k : Nat} {Q : (Nat → Nat) → Nat} (hQ : Dep k Q) {i : Nat} (hi : i < k) {y y' : Nat → Nat} (h : ∀ j, j ≤ i → y j = y' j) : aft f t k Q y i = aft f t k Q y' i := by
  unfold aft
  rw [h i (Nat.le_refl i)]
  refine sm_congr (fun v _ => ?_)
  rw [cf_dep hQ (k - (i + 1)) (i + 1) (set1 y i v) (set1 y' i v) (by omega) (fun j hj => ?_)]
  by_cases e : j = i
  · rw [e, set1_at, set1_at]
  · rw [set1_ne e, set1_ne e]; exact h j (by omega)
theorem aft_end {f t : Nat → Nat} {k : Nat} {Q : (Nat → Nat) → Nat} {y : Nat → Nat} {i : Nat} (h : y i = t i) : aft f t k Q y i = 0 := by
  unfold aft
  exact sm_all0 (fun v _ => if_neg (by omega))
theorem sm_cut1 {c : Nat → Nat} {a b : Nat → Prop} [DecidablePred a] [DecidablePred b] {w n : Nat} (hw : w < n) (ha : a w) (hb : ¬ b w) (h : ∀ v, v < n → v ≠ w → (a v ↔ b v)) : sm (fun v => if a v then c v else 0) n = c w + sm (fun v => if b v then c v else 0) n := by
  rw [← sm_pt (b := c w) hw, ← sm_add]
  refine sm_congr (fun v hv => ?_)
  by_cases e : v = w
  · subst e
    rw [if_pos ha, if_pos rfl, if_neg hb, Nat.add_zero]
  · rw [if_neg e, Nat.zero_add]
    by_cases e2 : a v
    · rw [if_pos e2, if_pos ((h v hv e).mp e2)]
    · rw [if_neg e2, if_neg (fun z => e2 ((h v hv e).mpr z))]
theorem set1_self {y : Nat → Nat} {i v : Nat} (h : y i = v) : set1 y i v = y := by
  funext j
  by_cases e : j = i
  · rw [e, set1_at, h]
  · rw [set1_ne e]
theorem set1_set1 {y : Nat → Nat} {i v w : Nat} : set1 (set1 y i w) i v = set1 y i v := by
  funext j
  by_cases e : j = i
  · rw [e, set1_at, set1_at]
  · rw [set1_ne e, set1_ne e, set1_ne e]
theorem aft_step {f t : Nat → Nat} {k : Nat} {Q : (Nat → Nat) → Nat} {y : Nat → Nat} {i : Nat} (h : y i < t i) (ht : t i ≤ 99) : aft f t k Q y i = cf f t (k - (i + 1)) (i + 1) Q (set1 y i (y i + 1)) + aft f t k Q (set1 y i (y i + 1)) i := by
  unfold aft
  simp only [set1_at, set1_set1]
  exact sm_cut1 (a := fun v => y i < v ∧ v ≤ t i) (b := fun v => y i + 1 < v ∧ v ≤ t i) (c := fun v => cf f t (k - (i + 1)) (i + 1) Q (set1 y i v)) (w := y i + 1) (by omega) (by omega) (by omega) (fun v _ _ => by omega)
theorem cf_first {f t : Nat → Nat} {k : Nat} {Q : (Nat → Nat) → Nat} (hft : ∀ i, f i ≤ t i) (ht : ∀ i, t i ≤ 99) : ∀ (d i : Nat) (y : Nat → Nat), i + d = k → (∀ j, i ≤ j → j < k → y j = f j) → cf f t d i Q y = Q y + sm (fun j => aft f t k Q y (i + j)) d
  | 0, i, y, hk, h => rfl
  | d + 1, i, y, hk, h => by
    have hy := h i (Nat.le_refl i) (by omega)
    have h1 := hft i
    have h2 := ht i
    rw [cf, sm_first (fun j => aft f t k Q y (i + j)) d]
    rw [sm_cut1 (a := fun v => f i ≤ v ∧ v ≤ t i) (b := fun v => f i < v ∧ v ≤ t i) (c := fun v => cf f t d (i + 1) Q (set1 y i v)) (w := f i) (by omega) (by omega) (by omega) (fun v _ _ => by omega), set1_self hy, cf_first hft ht d (i + 1) y (by omega) (fun j h3 h4 => h j (by omega) h4)]
    have e : aft f t k Q y (i + 0) = sm (fun v => if f i < v ∧ v ≤ t i then cf f t d (i + 1) Q (set1 y i v) else 0) 100 := by
      unfold aft
      rw [Nat.add_zero, hy, show k - (i + 1) = d by omega]
    have e2 : sm (fun j => aft f t k Q y (i + 1 + j)) d = sm (fun j => aft f t k Q y (i + (j + 1))) d := sm_congr (fun j _ => by rw [show i + 1 + j = i + (j + 1) by omega])
    rw [e, e2]
    omega
/-- all that come after y -/
def rest (f t : Nat → Nat) (k : Nat) (Q : (Nat → Nat) → Nat) (y : Nat → Nat) : Nat := sm (aft f t k Q y) k
theorem rest_dep {f t : Nat → Nat} {k : Nat} {Q : (Nat → Nat) → Nat} (hQ : Dep k Q) {y y' : Nat → Nat} (h : ∀ j, j < k → y j = y' j) : rest f t k Q y = rest f t k Q y' := sm_congr (fun i hi => aft_dep hQ hi (fun j hj => h j (by omega)))
theorem rest_start {f t : Nat → Nat} {k : Nat} {Q : (Nat → Nat) → Nat} (hft : ∀ i, f i ≤ t i) (ht : ∀ i, t i ≤ 99) {y : Nat → Nat} (h : ∀ j, j < k → y j = f j) : cf f t k 0 Q y = Q y + rest f t k Q y := by
  rw [cf_first hft ht k 0 y (Nat.zero_add k) (fun j _ hj => h j hj)]
  unfold rest
  exact congrArg (Q y + ·) (sm_congr (fun j _ => by rw [Nat.zero_add]))
theorem rest_end {f t : Nat → Nat} {k : Nat} {Q : (Nat → Nat) → Nat} {y : Nat → Nat} (h : ∀ j, j < k → y j = t j) : rest f t k Q y = 0 := sm_all0 (fun i hi => aft_end (h i hi))
theorem rest_step {f t : Nat → Nat} {k : Nat} {Q : (Nat → Nat) → Nat} (hQ : Dep k Q) (hft : ∀ i, f i ≤ t i) (ht : ∀ i, t i ≤ 99) {y y' : Nat → Nat} {a : Nat} (ha : a < k) (h1 : ∀ j, a < j → j < k → y j = t j) (h2 : y a < t a) (g1 : ∀ j, a < j → j < k → y' j = f j) (g2 : y' a = y a + 1) (g3 : ∀ j, j < a → y' j = y j) : rest f t k Q y = Q y' + rest f t k Q y' := by
  have hle : ∀ j, j ≤ a → set1 y a (y a + 1) j = y' j := fun j hj => by
    by_cases e : j = a
    · rw [e, set1_at, g2]
    · rw [set1_ne e, g3 j (by omega)]
  have e1 : rest f t k Q y = sm (aft f t k Q y) a + aft f t k Q y a := by
    unfold rest
    rw [sm_cut (m := a + 1) (by omega) (fun j h3 h4 => aft_end (h1 j (by omega) h4)), sm]
  have e2 : sm (aft f t k Q y) a = sm (aft f t k Q y') a := sm_congr (fun j hj => aft_dep hQ (by omega) (fun i hi => (g3 i (by omega)).symm))
  have e3 : cf f t (k - (a + 1)) (a + 1) Q (set1 y a (y a + 1)) = cf f t (k - (a + 1)) (a + 1) Q y' := cf_dep hQ _ _ _ _ (by omega) (fun j hj => hle j (by omega))
  have e4 : aft f t k Q (set1 y a (y a + 1)) a = aft f t k Q y' a := aft_dep hQ ha hle
  have e5 := cf_first (Q := Q) hft ht (k - (a + 1)) (a + 1) y' (by omega) (fun j h3 h4 => g1 j (by omega) h4)
  have e6 : rest f t k Q y' = sm (aft f t k Q y') a + aft f t k Q y' a + sm (fun j => aft f t k Q y' (a + 1 + j)) (k - (a + 1)) := by
    unfold rest
    have := sm_split (aft f t k Q y') (a + 1) (k - (a + 1))
    rw [show a + 1 + (k - (a + 1)) = k by omega, sm] at this
    exact this
  rw [e1, e2, aft_step h2 (ht a), e3, e4, e5, e6]
  omega
/-- the numbers that hold, in order -/
def chF (p : Nat → Bool) : Nat → Nat → Nat
  | 0, _ => 0
  | b + 1, j => if p b = true ∧ cnt p b = j then b else chF p b j
theorem chF_ok {p : Nat → Bool} {j : Nat} : ∀ {b : Nat}, j < cnt p b → chF p b j < b ∧ p (chF p b j) = true
  | 0, h => absurd h (Nat.not_lt_zero j)
  | b + 1, h => by
    rw [chF]
    by_cases e : p b = true ∧ cnt p b = j
    · rw [if_pos e]; exact ⟨by omega, e.1⟩
    · rw [if_neg e]
      have : j < cnt p b := by
        cases hp : p b with
        | true => rw [cnt_step_y hp] at h; have : cnt p b ≠ j := fun z => e ⟨hp, z⟩; omega
        | false => rw [cnt_step_n hp] at h; exact h
      have g := chF_ok this
      exact ⟨by omega, g.2⟩
theorem chF_y {p : Nat → Bool} {b : Nat} (hp : p b = true) : chF p (b + 1) (cnt p b) = b := by
  rw [chF, if_pos ⟨hp, rfl⟩]
theorem chF_y2 {p : Nat → Bool} {b j : Nat} (hj : j < cnt p b) : chF p (b + 1) j = chF p b j := by
  rw [chF, if_neg (by omega)]
