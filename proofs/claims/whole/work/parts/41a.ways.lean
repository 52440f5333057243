/-! PURE WAYS 1: vectors counted by the sets of those that come last -/
theorem set1_at {f : Nat → Nat} {n v : Nat} : set1 f n v n = v := if_pos rfl
theorem set1_ne {f : Nat → Nat} {n v b : Nat} (h : b ≠ n) : set1 f n v b = f b := if_neg h
theorem sm_split (f : Nat → Nat) (m : Nat) : ∀ n, sm f (m + n) = sm f m + sm (fun k => f (m + k)) n
  | 0 => rfl
  | n + 1 => by rw [← Nat.add_assoc, sm, sm, sm_split f m n, Nat.add_assoc]
theorem sm_first (f : Nat → Nat) (n : Nat) : sm f (n + 1) = f 0 + sm (fun k => f (k + 1)) n := by
  rw [Nat.add_comm n 1, sm_split f 1 n]
  have : sm f 1 = f 0 := by rw [sm, sm, Nat.zero_add]
  rw [this]
  exact congrArg (f 0 + ·) (sm_congr (fun k _ => by rw [Nat.add_comm]))
theorem sm_pt {b Y : Nat} : ∀ {n : Nat}, Y < n → sm (fun v => if v = Y then b else 0) n = b
  | 0, h => absurd h (Nat.not_lt_zero Y)
  | n + 1, h => by
    rw [sm]
    by_cases e : n = Y
    · subst e
      rw [if_pos rfl, sm_congr (g := fun _ => 0) (fun k hk => if_neg (by omega)), sm_zero, Nat.zero_add]
    · rw [if_neg e, sm_pt (by omega), Nat.add_zero]
theorem add_eq2 {a b c d : Nat} (h1 : a = c) (h2 : b = d) : a + b = c + d := by rw [h1, h2]
theorem sm_all0 {f : Nat → Nat} {n : Nat} (h : ∀ k, k < n → f k = 0) : sm f n = 0 := by
  rw [sm_congr (g := fun _ => 0) h, sm_zero]
theorem sm_if {c : Prop} [Decidable c] (f : Nat → Nat) (n : Nat) : (if c then sm f n else 0) = sm (fun k => if c then f k else 0) n := by
  by_cases e : c
  · rw [if_pos e]; exact sm_congr (fun k _ => (if_pos e).symm)
  · rw [if_neg e, sm_all0 (fun k _ => if_neg e)]
def bx (f t : Nat → Nat) (S : Nat → Bool) (Y : Nat) : Nat → ((Nat → Nat) → Nat) → Nat
  | 0, Q => Q (fun _ => 0)
  | k + 1, Q => if S k = true then sm (fun v => if f k ≤ v ∧ v ≤ t k ∧ v < Y then bx f t S Y k (fun y => Q (set1 y k v)) else 0) 100 else bx f t S Y k Q
theorem bx_congr {f t : Nat → Nat} {S : Nat → Bool} {Y : Nat} : ∀ {k : Nat} {Q Q' : (Nat → Nat) → Nat}, (∀ y, (∀ i, i < k → S i = true → y i < Y) → Q y = Q' y) → bx f t S Y k Q = bx f t S Y k Q'
  | 0, Q, Q', h => h _ (fun i hi => absurd hi (Nat.not_lt_zero i))
  | k + 1, Q, Q', h => by
    rw [bx, bx]
    by_cases hS : S k = true
    · rw [if_pos hS, if_pos hS]
      refine sm_congr (fun v _ => ?_)
      by_cases e : f k ≤ v ∧ v ≤ t k ∧ v < Y
      · rw [if_pos e, if_pos e]
        refine bx_congr (fun y hy => h _ (fun i hi hs => ?_))
        by_cases e2 : i = k
        · rw [e2, set1_at]; exact e.2.2
        · rw [set1_ne e2]; exact hy i (by omega) hs
      · rw [if_neg e, if_neg e]
    · rw [if_neg hS, if_neg hS]
      refine bx_congr (fun y hy => h _ (fun i hi hs => ?_))
      by_cases e2 : i = k
      · rw [e2] at hs; exact absurd hs hS
      · exact hy i (by omega) hs
theorem bx_S {f t : Nat → Nat} {S S' : Nat → Bool} {Y : Nat} : ∀ {k : Nat} {Q : (Nat → Nat) → Nat}, (∀ i, i < k → S i = S' i) → bx f t S Y k Q = bx f t S' Y k Q
  | 0, Q, h => rfl
  | k + 1, Q, h => by
    rw [bx, bx, h k (by omega)]
    by_cases hS : S' k = true
    · rw [if_pos hS, if_pos hS]
      refine sm_congr (fun v _ => ?_)
      rw [bx_S (fun i hi => h i (by omega))]
    · rw [if_neg hS, if_neg hS]
      exact bx_S (fun i hi => h i (by omega))
theorem bx_0 {f t : Nat → Nat} {S : Nat → Bool} {Y : Nat} : ∀ {k : Nat} {Q : (Nat → Nat) → Nat}, (∀ y, Q y = 0) → bx f t S Y k Q = 0
  | 0, Q, h => h _
  | k + 1, Q, h => by
    rw [bx]
    by_cases hS : S k = true
    · rw [if_pos hS]
      refine sm_all0 (fun v _ => ?_)
      rw [bx_0 (fun y => h _), ite_self]
    · rw [if_neg hS]; exact bx_0 h
theorem bx_none {f t : Nat → Nat} {S : Nat → Bool} {Y : Nat} : ∀ {k : Nat} {Q : (Nat → Nat) → Nat}, (∀ i, i < k → S i = false) → bx f t S Y k Q = Q (fun _ => 0)
  | 0, Q, h => rfl
  | k + 1, Q, h => by
    rw [bx, if_neg (by rw [h k (by omega)]; decide)]
    exact bx_none (fun i hi => h i (by omega))
theorem bx_Y0 {f t : Nat → Nat} {S : Nat → Bool} {i : Nat} (hs : S i = true) : ∀ {k : Nat} {Q : (Nat → Nat) → Nat}, i < k → bx f t S 0 k Q = 0
  | 0, Q, h => absurd h (Nat.not_lt_zero i)
  | k + 1, Q, h => by
    rw [bx]
    by_cases hS : S k = true
    · rw [if_pos hS]
      exact sm_all0 (fun v _ => if_neg (by omega))
    · rw [if_neg hS]
      have : i ≠ k := fun e => hS (by rw [← e]; exact hs)
      exact bx_Y0 hs (by omega)
/-- A, of numbers below k, lies in G -/
def sbB (G : Nat → Bool) (A : Nat) : Nat → Bool
  | 0 => true
  | k + 1 => sbB G A k && (!A.testBit k || G k)
def grwB (f t : Nat → Nat) (S : Nat → Bool) (Y i : Nat) : Bool := S i && decide (f i ≤ Y ∧ Y ≤ t i)
def difB (S : Nat → Bool) (A i : Nat) : Bool := S i && !A.testBit i
def ovrN (A Y : Nat) (y : Nat → Nat) : Nat → Nat := fun i => if A.testBit i = true then Y else y i
theorem sbB_iff {G : Nat → Bool} {A : Nat} : ∀ {k : Nat}, sbB G A k = true ↔ ∀ i, i < k → A.testBit i = true → G i = true
  | 0 => ⟨fun _ i hi => absurd hi (Nat.not_lt_zero i), fun _ => rfl⟩
  | k + 1 => by
    rw [sbB, Bool.and_eq_true, sbB_iff (k := k)]
    constructor
    · rintro ⟨h1, h2⟩ i hi ha
      by_cases e : i = k
      · subst e
        rw [ha] at h2
        exact h2
      · exact h1 i (by omega) ha
    · intro h
      refine ⟨fun i hi => h i (by omega), ?_⟩
      cases ha : A.testBit k with
      | false => rfl
      | true => rw [h k (by omega) ha]; rfl
theorem tb_hi {k A j : Nat} (hA : A < 2 ^ k) (hj : k ≤ j) : A.testBit j = false := Nat.testBit_lt_two_pow (Nat.lt_of_lt_of_le hA (Nat.pow_le_pow_right (by omega) hj))
theorem tb_top {k A : Nat} (hA : A < 2 ^ k) : (2 ^ k + A).testBit k = true := by
  rw [Nat.testBit_two_pow_add_eq, tb_hi hA (Nat.le_refl k)]; rfl
theorem tb_add {k A i : Nat} (hA : A < 2 ^ k) (hi : i ≠ k) : (2 ^ k + A).testBit i = A.testBit i := by
  by_cases e : i < k
  · exact Nat.testBit_two_pow_add_gt e A
  · rw [tb_hi hA (by omega), tb_hi (k := k + 1) (by rw [Nat.pow_succ]; omega) (by omega)]
theorem sbB_add {G : Nat → Bool} {k A : Nat} (hA : A < 2 ^ k) : ∀ {m : Nat}, m ≤ k → sbB G (2 ^ k + A) m = sbB G A m
  | 0, _ => rfl
  | m + 1, h => by rw [sbB, sbB, sbB_add hA (by omega), tb_add hA (by omega)]
theorem bx_step {f t : Nat → Nat} {S : Nat → Bool} {Y : Nat} (hY : Y < 100) : ∀ (k : Nat) (Q : (Nat → Nat) → Nat), bx f t S (Y + 1) k Q = sm (fun A => if sbB (grwB f t S Y) A k = true then bx f t (difB S A) Y k (fun y => Q (ovrN A Y y)) else 0) (2 ^ k)
  | 0, Q => by
    show Q (fun _ => 0) = sm _ 1
    rw [sm, sm, Nat.zero_add]
    show _ = if true = true then Q (ovrN 0 Y (fun _ => 0)) else 0
    rw [if_pos rfl]
    refine congrArg Q (funext (fun i => ?_))
    unfold ovrN
    rw [Nat.zero_testBit, if_neg (by decide)]
  | k + 1, Q => by
    have lo : ∀ A, A < 2 ^ k → sbB (grwB f t S Y) A (k + 1) = sbB (grwB f t S Y) A k := fun A hA => by
      rw [sbB, tb_hi hA (Nat.le_refl k)]; simp
    have hi : ∀ A, A < 2 ^ k → sbB (grwB f t S Y) (2 ^ k + A) (k + 1) = (sbB (grwB f t S Y) A k && grwB f t S Y k) := fun A hA => by
      rw [sbB, tb_top hA, sbB_add hA (Nat.le_refl k)]; simp
    rw [Nat.pow_succ, Nat.mul_two, sm_split, bx]
    by_cases hS : S k = true
    · rw [if_pos hS]
      have e1 : sm (fun v => if f k ≤ v ∧ v ≤ t k ∧ v < Y + 1 then bx f t S (Y + 1) k (fun y => Q (set1 y k v)) else 0) 100 = sm (fun v => if f k ≤ v ∧ v ≤ t k ∧ v < Y then bx f t S (Y + 1) k (fun y => Q (set1 y k v)) else 0) 100 + (if f k ≤ Y ∧ Y ≤ t k then bx f t S (Y + 1) k (fun y => Q (set1 y k Y)) else 0) := by
        rw [← sm_pt (b := if f k ≤ Y ∧ Y ≤ t k then bx f t S (Y + 1) k (fun y => Q (set1 y k Y)) else 0) hY, ← sm_add]
        refine sm_congr (fun v _ => ?_)
        by_cases e : v = Y
        · subst e
          rw [if_pos rfl, if_neg (show ¬ (f k ≤ v ∧ v ≤ t k ∧ v < v) by omega), Nat.zero_add]
          by_cases e2 : f k ≤ v ∧ v ≤ t k
          · rw [if_pos e2, if_pos ⟨e2.1, e2.2, by omega⟩]
          · rw [if_neg e2, if_neg (fun z => e2 ⟨z.1, z.2.1⟩)]
        · rw [if_neg e]
          by_cases e2 : f k ≤ v ∧ v ≤ t k ∧ v < Y
          · rw [if_pos e2, if_pos ⟨e2.1, e2.2.1, by omega⟩]
            exact (Nat.add_zero _).symm
          · rw [if_neg e2, if_neg (fun z => e2 ⟨z.1, z.2.1, by omega⟩)]
      rw [e1]
      refine add_eq2 ?_ ?_
      · have e2 : ∀ v, v < 100 → (if f k ≤ v ∧ v ≤ t k ∧ v < Y then bx f t S (Y + 1) k (fun y => Q (set1 y k v)) else 0) = sm (fun A => if f k ≤ v ∧ v ≤ t k ∧ v < Y then (if sbB (grwB f t S Y) A k = true then bx f t (difB S A) Y k (fun y => Q (set1 (ovrN A Y y) k v)) else 0) else 0) (2 ^ k) := fun v _ => by
          rw [bx_step hY k, sm_if]
        rw [sm_congr e2, sm_swap]
        refine sm_congr (fun A hA => ?_)
        rw [lo A hA]
        by_cases e3 : sbB (grwB f t S Y) A k = true
        · rw [if_pos e3, bx]
          have hd : difB S A k = true := by unfold difB; rw [hS, tb_hi hA (Nat.le_refl k)]; rfl
          rw [if_pos hd]
          refine sm_congr (fun v _ => ?_)
          rw [if_pos e3]
          have e4 : (fun y => Q (set1 (ovrN A Y y) k v)) = (fun y => Q (ovrN A Y (set1 y k v))) := by
            funext y
            refine congrArg Q (funext (fun i => ?_))
            unfold ovrN
            by_cases e5 : i = k
            · rw [e5, set1_at, tb_hi hA (Nat.le_refl k), if_neg (by decide), set1_at]
            · rw [set1_ne e5, set1_ne e5]
          rw [e4]
        · rw [if_neg e3]
          refine sm_all0 (fun v _ => ?_)
          rw [if_neg e3, ite_self]
      · rw [bx_step hY k, sm_if]
        refine sm_congr (fun A hA => ?_)
        rw [hi A hA]
        have hg : grwB f t S Y k = decide (f k ≤ Y ∧ Y ≤ t k) := by unfold grwB; rw [hS, Bool.true_and]
        rw [hg]
        by_cases e2 : f k ≤ Y ∧ Y ≤ t k
        · rw [if_pos e2, decide_eq_true e2, Bool.and_true]
          by_cases e3 : sbB (grwB f t S Y) A k = true
          · rw [if_pos e3, if_pos e3, bx]
            have hd : difB S (2 ^ k + A) k = false := by unfold difB; rw [tb_top hA]; simp
            rw [if_neg (by rw [hd]; decide), bx_S (S := difB S (2 ^ k + A)) (S' := difB S A) (fun i hi => by unfold difB; rw [tb_add hA (by omega)])]
            refine bx_congr (fun y _ => congrArg Q (funext (fun i => ?_)))
            unfold ovrN
            by_cases e5 : i = k
            · rw [e5, set1_at, tb_top hA, if_pos rfl]
            · rw [set1_ne e5, tb_add hA e5]
          · rw [if_neg e3, if_neg e3]
        · rw [if_neg e2, decide_eq_false e2, Bool.and_false, if_neg (by decide)]
    · rw [if_neg hS]
      have z : sm (fun A => if sbB (grwB f t S Y) (2 ^ k + A) (k + 1) = true then bx f t (difB S (2 ^ k + A)) Y (k + 1) (fun y => Q (ovrN (2 ^ k + A) Y y)) else 0) (2 ^ k) = 0 := by
        refine sm_all0 (fun A hA => if_neg ?_)
        rw [hi A hA]
        have : grwB f t S Y k = false := by unfold grwB; rw [Bool.eq_false_iff.mpr hS, Bool.false_and]
        rw [this, Bool.and_false]
        decide
      rw [z, Nat.add_zero, bx_step hY k]
      refine sm_congr (fun A hA => ?_)
      rw [lo A hA]
      by_cases e3 : sbB (grwB f t S Y) A k = true
      · rw [if_pos e3, if_pos e3, bx, if_neg]
        unfold difB
        rw [Bool.eq_false_iff.mpr hS, Bool.false_and]
        decide
      · rw [if_neg e3, if_neg e3]
def al (p : Nat → Bool) : Nat → Bool
  | 0 => true
  | n + 1 => al p n && p n
theorem al_iff {p : Nat → Bool} : ∀ {n : Nat}, al p n = true ↔ ∀ i, i < n → p i = true
  | 0 => ⟨fun _ i hi => absurd hi (Nat.not_lt_zero i), fun _ => rfl⟩
  | n + 1 => by
    rw [al, Bool.and_eq_true, al_iff (n := n)]
    constructor
    · rintro ⟨h1, h2⟩ i hi
      by_cases e : i = n
      · rw [e]; exact h2
      · exact h1 i (by omega)
    · intro h
      exact ⟨fun i hi => h i (by omega), h n (by omega)⟩
def al2 (p : Nat → Nat → Bool) (n : Nat) : Bool := al (fun i => al (p i) i) n
theorem al2_iff {p : Nat → Nat → Bool} {n : Nat} : al2 p n = true ↔ ∀ i, i < n → ∀ e, e < i → p i e = true := by
  unfold al2
  rw [al_iff]
  exact ⟨fun h i hi => al_iff.mp (h i hi), fun h i hi => al_iff.mpr (h i hi)⟩
/-- a set has with each number those beneath it -/
def cloB (ov : Nat → Nat → Bool) (S : Nat → Bool) (k : Nat) : Bool := al2 (fun i e => !(S i && ov i e) || S e) k
def okB (ov : Nat → Nat → Bool) (S : Nat → Bool) (k : Nat) (y : Nat → Nat) : Bool := al2 (fun i e => !(S i && (S e && ov i e)) || decide (y e ≤ y i)) k
def QS (ov : Nat → Nat → Bool) (S : Nat → Bool) (k : Nat) (y : Nat → Nat) : Nat := if cloB ov S k = true ∧ okB ov S k y = true then 1 else 0
theorem im_iff {a b : Bool} : (!a || b) = true ↔ (a = true → b = true) := by
  cases a <;> cases b <;> simp
theorem cloB_iff {ov : Nat → Nat → Bool} {S : Nat → Bool} {k : Nat} : cloB ov S k = true ↔ ∀ i, i < k → ∀ e, e < i → S i = true → ov i e = true → S e = true := by
  unfold cloB
  rw [al2_iff]
  refine ⟨fun h i hi e he h1 h2 => im_iff.mp (h i hi e he) (by rw [h1, h2]; rfl), fun h i hi e he => im_iff.mpr (fun z => ?_)⟩
  rw [Bool.and_eq_true] at z
  exact h i hi e he z.1 z.2
theorem okB_iff {ov : Nat → Nat → Bool} {S : Nat → Bool} {k : Nat} {y : Nat → Nat} : okB ov S k y = true ↔ ∀ i, i < k → ∀ e, e < i → S i = true → S e = true → ov i e = true → y e ≤ y i := by
  unfold okB
  rw [al2_iff]
  refine ⟨fun h i hi e he h1 h2 h3 => of_decide_eq_true (im_iff.mp (h i hi e he) (by rw [h1, h2, h3]; rfl)), fun h i hi e he => im_iff.mpr (fun z => ?_)⟩
  rw [Bool.and_eq_true, Bool.and_eq_true] at z
  exact decide_eq_true (h i hi e he z.1 z.2.1 z.2.2)
/-- in how many ways a set, and no other, has years below Y -/
def tW (f t : Nat → Nat) (ov : Nat → Nat → Bool) (k S Y : Nat) : Nat := bx f t (fun i => S.testBit i) Y k (QS ov (fun i => S.testBit i) k)
theorem tW_step {f t : Nat → Nat} {ov : Nat → Nat → Bool} {k S Y : Nat} (hY : Y < 100) (hc : cloB ov (fun i => S.testBit i) k = true) : tW f t ov k S (Y + 1) = sm (fun A => if sbB (grwB f t (fun i => S.testBit i) Y) A k = true then tW f t ov k (S ^^^ A) Y else 0) (2 ^ k) := by
  unfold tW
  rw [bx_step hY]
  refine sm_congr (fun A hA => ?_)
  by_cases e : sbB (grwB f t (fun i => S.testBit i) Y) A k = true
  · rw [if_pos e, if_pos e]
    have hsub : ∀ i, i < k → A.testBit i = true → S.testBit i = true := fun i hi ha => by
      have := sbB_iff.mp e i hi ha
      unfold grwB at this
      rw [Bool.and_eq_true] at this
      exact this.1
    have hdif : ∀ i, i < k → difB (fun i => S.testBit i) A i = (S ^^^ A).testBit i := fun i hi => by
      show (S.testBit i && !A.testBit i) = _
      rw [Nat.testBit_xor]
      cases ha : A.testBit i with
      | false => simp
      | true => rw [hsub i hi ha]; rfl
    rw [bx_S hdif]
    refine bx_congr (fun y hy => ?_)
    have hD : ∀ i, i < k → ((S ^^^ A).testBit i = true ↔ S.testBit i = true ∧ A.testBit i = false) := fun i hi => by
      rw [← hdif i hi]
      unfold difB
      rw [Bool.and_eq_true, Bool.not_eq_true']
    have hS := cloB_iff.mp hc
    unfold QS
    have key : (cloB ov (fun i => S.testBit i) k = true ∧ okB ov (fun i => S.testBit i) k (ovrN A Y y) = true) ↔ (cloB ov (fun i => (S ^^^ A).testBit i) k = true ∧ okB ov (fun i => (S ^^^ A).testBit i) k y = true) := by
      constructor
      · rintro ⟨-, h2⟩
        have h3 := okB_iff.mp h2
        refine ⟨cloB_iff.mpr (fun i hi e he h4 h5 => ?_), okB_iff.mpr (fun i hi e he h4 h5 h6 => ?_)⟩
        · have h6 := (hD i hi).mp h4
          have h7 := hS i hi e he h6.1 h5
          refine (hD e (by omega)).mpr ⟨h7, ?_⟩
          cases ha : A.testBit e with
          | false => rfl
          | true =>
            have h8 := h3 i hi e he h6.1 h7 h5
            unfold ovrN at h8
            rw [ha, h6.2, if_pos rfl, if_neg (by decide)] at h8
            have := hy i hi h4
            omega
        · have g1 := (hD i hi).mp h4
          have g2 := (hD e (by omega)).mp h5
          have h8 := h3 i hi e he g1.1 g2.1 h6
          unfold ovrN at h8
          rw [g1.2, g2.2, if_neg (by decide), if_neg (by decide)] at h8
          exact h8
      · rintro ⟨h1, h2⟩
        have h3 := okB_iff.mp h2
        have h4 := cloB_iff.mp h1
        refine ⟨hc, okB_iff.mpr (fun i hi e he g1 g2 g3 => ?_)⟩
        unfold ovrN
        rcases Bool.eq_false_or_eq_true (A.testBit i) with hai | hai
        · rw [if_pos hai]
          rcases Bool.eq_false_or_eq_true (A.testBit e) with hae | hae
          · rw [if_pos hae]; exact Nat.le_refl Y
          · rw [if_neg (by rw [hae]; decide)]
            have := hy e (by omega) ((hD e (by omega)).mpr ⟨g2, hae⟩)
            omega
        · have d1 := (hD i hi).mpr ⟨g1, hai⟩
          have d2 := h4 i hi e he d1 g3
          have d3 := ((hD e (by omega)).mp d2).2
          rw [if_neg (by rw [d3]; decide), if_neg (by rw [hai]; decide)]
          exact h3 i hi e he d1 d2 g3
    by_cases ek : cloB ov (fun i => S.testBit i) k = true ∧ okB ov (fun i => S.testBit i) k (ovrN A Y y) = true
    · rw [if_pos ek, if_pos (key.mp ek)]
    · rw [if_neg ek, if_neg (fun z => ek (key.mpr z))]
  · rw [if_neg e, if_neg e]
theorem tW_open {f t : Nat → Nat} {ov : Nat → Nat → Bool} {k S Y : Nat} (hc : cloB ov (fun i => S.testBit i) k = false) : tW f t ov k S Y = 0 := by
  unfold tW
  refine bx_0 (fun y => ?_)
  unfold QS
  rw [if_neg (fun z => by rw [hc] at z; exact absurd z.1 (by decide))]
theorem tW_0 {f t : Nat → Nat} {ov : Nat → Nat → Bool} {k Y : Nat} : tW f t ov k 0 Y = 1 := by
  unfold tW
  rw [bx_none (fun i _ => Nat.zero_testBit i)]
  unfold QS
  refine if_pos ⟨cloB_iff.mpr (fun i _ e _ h => ?_), okB_iff.mpr (fun i _ e _ h => ?_)⟩
  · rw [Nat.zero_testBit] at h; cases h
  · rw [Nat.zero_testBit] at h; cases h
theorem tb_some {k S : Nat} (h0 : S ≠ 0) (hk : S < 2 ^ k) : ∃ i, i < k ∧ S.testBit i = true := by
  refine Classical.byContradiction (fun hn => h0 (Nat.eq_of_testBit_eq (fun i => ?_)))
  rw [Nat.zero_testBit]
  by_cases e : i < k
  · cases hb : S.testBit i with
    | false => rfl
    | true => exact absurd ⟨i, e, hb⟩ hn
  · exact tb_hi hk (by omega)
theorem tW_start {f t : Nat → Nat} {ov : Nat → Nat → Bool} {k S : Nat} (h0 : S ≠ 0) (hk : S < 2 ^ k) : tW f t ov k S 0 = 0 := by
  obtain ⟨i, hi, hb⟩ := tb_some h0 hk
  exact bx_Y0 (S := fun i => S.testBit i) hb hi
