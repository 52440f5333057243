/-! PURE DROP: the way of a drop, as a function -/
def topO (p : Nat → Bool) : Nat → Option Nat
  | 0 => none
  | n + 1 => if p n then some n else topO p n
def oI : Option Nat → Int32
  | none => -9
  | some b => nI b
theorem gtop_oI (p : Nat → Bool) : ∀ n, gtop p n = oI (topO p n)
  | 0 => rfl
  | n + 1 => by
    rw [gtop, topO]
    by_cases h : p n = true
    · rw [if_pos h, if_pos h]; rfl
    · rw [if_neg h, if_neg h]; exact gtop_oI p n
theorem topO_some {p : Nat → Bool} : ∀ {n b : Nat}, topO p n = some b → b < n ∧ p b = true
  | 0, b, h => by cases h
  | n + 1, b, h => by
    rw [topO] at h
    by_cases hp : p n = true
    · rw [if_pos hp] at h; cases h; exact ⟨by omega, hp⟩
    · rw [if_neg hp] at h
      have := topO_some h
      exact ⟨by omega, this.2⟩
theorem topO_congr {p q : Nat → Bool} : ∀ {n : Nat}, (∀ k, k < n → p k = q k) → topO p n = topO q n
  | 0, _ => rfl
  | n + 1, h => by rw [topO, topO, topO_congr (fun k hk => h k (by omega)), h n (by omega)]
theorem topO_cut {p : Nat → Bool} {m n : Nat} (h : m ≤ n) (hp : ∀ k, m ≤ k → k < n → p k = false) : topO p n = topO p m := by
  obtain ⟨d, rfl⟩ := Nat.le.dest h
  induction d with
  | zero => rfl
  | succ d ih =>
    rw [← Nat.add_assoc, topO, hp (m + d) (by omega) (by omega), if_neg (by decide)]
    exact ih (by omega) (fun k h1 h2 => hp k h1 (by omega))
abbrev wRes : Type := Nat × Int32 × List Int32
def setT (tn : Nat → Nat → Bool) (c r : Nat) : Nat → Nat → Bool := fun c' r' => if c' = c ∧ r' = r then true else tn c' r'
def chk (R : Nat) (tt : Nat → Nat → Nat) (ly : Nat → Nat → Nat → Bool) (c k b : Nat) : Bool := decide (R ≤ k) || (decide (tt c k ≠ 0) || ly c k b)
def lapsB (R lap : Nat) (tt : Nat → Nat → Nat) (ly : Nat → Nat → Nat → Bool) (b c r : Nat) : Bool := chk R tt ly c (r + 1) b && (decide (lap = 1) || chk R tt ly c (r + 2) b)
def entW (tt : Nat → Nat → Nat) (ly : Nat → Nat → Nat → Bool) (n : Nat) (K : Bool → Nat → Nat → Nat → (Nat → Nat → Bool) → List Int32 → wRes) (c r : Nat) (on : Option Nat) (tn : Nat → Nat → Bool) (pl : List Int32) : wRes :=
  if tt c r ≠ 0 then
    (if tn c r then (10 * c + r, -9, pl) else K true c r 0 (setT tn c r) (pl ++ [nI (9900 + (10 * c + r))]))
  else match (match on with | none => topO (ly c r) n | some b => some b) with
    | none => (10 * c + r, -9, pl)
    | some b => K false c r b tn (pl ++ [nI (100 * b + (10 * c + r))])
def goW (C R lap : Nat) (tt : Nat → Nat → Nat) (ly : Nat → Nat → Nat → Bool) (n : Nat) : Nat → Bool → Nat → Nat → Nat → (Nat → Nat → Bool) → List Int32 → wRes
  | 0, _, _, _, _, _, pl => (0, -9, pl)
  | f + 1, o, c, r, b, tn, pl =>
    if o then
      (if tt c r = 1 then (if c = 0 then (100, -9, pl) else entW tt ly n (fun o c r b tn pl => goW C R lap tt ly n f o c r b tn pl) (c - 1) r none tn pl)
      else (if c + 1 = C then (100, -9, pl) else entW tt ly n (fun o c r b tn pl => goW C R lap tt ly n f o c r b tn pl) (c + 1) r none tn pl))
    else if r = 0 then (100, nI c, pl)
    else if ly c (r - 1) b = false ∧ tt c (r - 1) = 0 then
      match topO (ly c (r - 1)) b with
      | none => (10 * c + (r - 1), -9, pl)
      | some b' => if lapsB R lap tt ly b' c (r - 1) then entW tt ly n (fun o c r b tn pl => goW C R lap tt ly n f o c r b tn pl) c (r - 1) (some b') tn pl else (10 * c + (r - 1), -9, pl)
    else entW tt ly n (fun o c r b tn pl => goW C R lap tt ly n f o c r b tn pl) c (r - 1) (some b) tn pl
/-- where a drop on a cell ends, over whose eaves, its places -/
def runW (C R lap : Nat) (tt : Nat → Nat → Nat) (ly : Nat → Nat → Nat → Bool) (n c r : Nat) : wRes :=
  entW tt ly n (fun o c r b tn pl => goW C R lap tt ly n 64 o c r b tn pl) c r none (fun _ _ => false) []
/-- how many cells of a row are not turned at -/
def unT (tn : Nat → Nat → Bool) (r : Nat) : Nat := cnt (fun c => !tn c r) 6
theorem unT_le (tn : Nat → Nat → Bool) (r : Nat) : unT tn r ≤ 6 := cnt_le _ 6
theorem cnt_set {p q : Nat → Bool} {i : Nat} : ∀ {n : Nat}, i < n → p i = true → q i = false → (∀ k, k < n → k ≠ i → q k = p k) → cnt q n + 1 = cnt p n
  | 0, h, _, _, _ => absurd h (Nat.not_lt_zero i)
  | n + 1, h, hp, hq, hk => by
    rw [cnt, cnt]
    by_cases e : i = n
    · subst e
      rw [hp, hq, cnt_congr (fun k q => hk k (by omega) (by omega))]; simp
    · rw [hk n (by omega) (Ne.symm e), ← cnt_set (by omega) hp hq (fun k q => hk k (by omega))]
      omega
theorem unT_set {tn : Nat → Nat → Bool} {c r : Nat} (hc : c < 6) (h : tn c r = false) : unT (setT tn c r) r + 1 = unT tn r := by
  refine cnt_set (i := c) hc (by simp [h]) (by simp [setT]) (fun k _ hne => ?_)
  simp [setT, hne]
def PlR (pl : List Int32) (places : Nat → Int32) (passed : Int32) : Prop := passed = nI pl.length ∧ ∀ j, j < pl.length → places j = pl.getD j 0
theorem PlR.nil {places : Nat → Int32} : PlR [] places 0 := ⟨rfl, fun j hj => absurd hj (Nat.not_lt_zero j)⟩
theorem PlR.push {pl : List Int32} {places : Nat → Int32} {passed v : Int32} (h : PlR pl places passed) (hn : pl.length < 2 ^ 31) : PlR (pl ++ [v]) (upd places passed.toNatClampNeg v) (passed + 1) := by
  obtain ⟨h1, h2⟩ := h
  refine ⟨by rw [h1, nI_1, List.length_append]; rfl, fun j hj => ?_⟩
  rw [h1, nI_clamp hn]
  rw [List.length_append, List.length_singleton] at hj
  by_cases e : j = pl.length
  · subst e; simp [upd]
  · have : j < pl.length := by omega
    rw [pk_un e, h2 j this]
    simp [List.getD, List.getElem?_append_left this]
