/-! PURE BITS: a long as a set of numbers below 64 -/
def lb (x : Int64) (k : Nat) : Bool := x.toBitVec.getLsbD k
theorem lb_big {x : Int64} {k : Nat} (h : 64 ≤ k) : lb x k = false := BitVec.getLsbD_of_ge _ _ h
theorem lb_ext {x y : Int64} (h : ∀ k, k < 64 → lb x k = lb y k) : x = y := by
  apply Int64.toBitVec_inj.mp
  exact BitVec.eq_of_getLsbD_eq (fun i hi => h i hi)
theorem lb_or (x y : Int64) (k : Nat) : lb (x ||| y) k = (lb x k || lb y k) := by
  unfold lb; rw [Int64.toBitVec_or, BitVec.getLsbD_or]
theorem lb_and (x y : Int64) (k : Nat) : lb (x &&& y) k = (lb x k && lb y k) := by
  unfold lb; rw [Int64.toBitVec_and, BitVec.getLsbD_and]
theorem lb_xor (x y : Int64) (k : Nat) : lb (x ^^^ y) k = (lb x k ^^ lb y k) := by
  unfold lb; rw [Int64.toBitVec_xor, BitVec.getLsbD_xor]
theorem lb_zero (k : Nat) : lb 0 k = false := by
  unfold lb; rw [show (0 : Int64).toBitVec = 0#64 from rfl]; exact BitVec.getLsbD_zero
theorem lb_m1 : ∀ k, k < 64 → lb (-1) k = true := by decide +kernel
theorem lb_one : ∀ k, k < 64 → lb 1 k = decide (k = 0) := by decide +kernel
theorem lb_not (x : Int64) {k : Nat} (hk : k < 64) : lb (x ^^^ (-1)) k = !lb x k := by
  rw [lb_xor, lb_m1 k hk, Bool.xor_true]
theorem lb_zero_iff {x : Int64} : x = 0 ↔ ∀ k, k < 64 → lb x k = false := by
  constructor
  · rintro rfl k _; exact lb_zero k
  · intro h; exact lb_ext (fun k hk => by rw [h k hk, lb_zero])
theorem lb_bit_dec : ∀ b, b < 64 → ∀ k, k < 64 → lb (jlshl 1 (nI b)) k = decide (k = b) := by decide +kernel
theorem lb_bit {b : Nat} (hb : b < 64) (k : Nat) : lb (jlshl 1 (nI b)) k = decide (k = b) := by
  by_cases hk : k < 64
  · exact lb_bit_dec b hb k hk
  · rw [lb_big (by omega)]; exact (decide_eq_false (by omega)).symm
theorem lb_mask_dec : ∀ b, b < 64 → ∀ k, k < 64 → lb (jlshl 1 (nI b) - 1) k = decide (k < b) := by decide +kernel
theorem lb_mask {b : Nat} (hb : b < 64) (k : Nat) : lb (jlshl 1 (nI b) - 1) k = decide (k < b) := by
  by_cases hk : k < 64
  · exact lb_mask_dec b hb k hk
  · rw [lb_big (by omega)]; exact (decide_eq_false (by omega)).symm
theorem lb_cu : ∀ k, k < 64 → ((nI k).toInt64.toUInt64 &&& Int64.toUInt64 63) = UInt64.ofNat k := by decide +kernel
theorem lb_cs : ∀ k, k < 64 → (((nI k).toInt64 &&& 63).toBitVec.smod 64) = BitVec.ofNat 64 k := by decide +kernel
theorem lb_ushr (x : Int64) {s : Nat} (hs : s < 64) (k : Nat) : lb (jlushr x (nI s)) k = lb x (s + k) := by
  unfold jlushr
  rw [lb_cu s hs]
  show (x.toUInt64 >>> UInt64.ofNat s).toBitVec.getLsbD k = x.toUInt64.toBitVec.getLsbD (s + k)
  rw [UInt64.toBitVec_shiftRight]
  show (x.toUInt64.toBitVec >>> ((UInt64.ofNat s).toBitVec % 64#64).toNat).getLsbD k = _
  have h1 : ((UInt64.ofNat s).toBitVec % 64#64).toNat = s := by
    show (BitVec.ofNat 64 s % 64#64).toNat = s
    rw [BitVec.toNat_umod, BitVec.toNat_ofNat, Nat.mod_eq_of_lt (show s < 2 ^ 64 by omega)]
    exact Nat.mod_eq_of_lt hs
  rw [h1, BitVec.getLsbD_ushiftRight]
theorem lb_shl (x : Int64) {s : Nat} (hs : s < 64) {k : Nat} (hk : k < 64) : lb (jlshl x (nI s)) k = (decide (s ≤ k) && lb x (k - s)) := by
  unfold jlshl lb
  rw [Int64.toBitVec_shiftLeft, lb_cs s hs, BitVec.shiftLeft_eq', BitVec.toNat_ofNat, Nat.mod_eq_of_lt (by omega), BitVec.getLsbD_shiftLeft]
  by_cases h : k < s
  · simp [h, hk, Nat.not_le.mpr h]
  · simp [h, hk, Nat.not_lt.mp h]
theorem lb_bitAnd1 (x : Int64) {s : Nat} (hs : s < 64) : (jlushr x (nI s)) &&& (1 : Int64) = 0 ↔ lb x s = false := by
  rw [lb_zero_iff]
  constructor
  · intro h
    have h1 := h 0 (by omega)
    rw [lb_and, lb_ushr x hs, lb_one 0 (by omega)] at h1
    simpa using h1
  · intro h k hk
    rw [lb_and, lb_ushr x hs, lb_one k hk]
    by_cases h0 : k = 0
    · subst h0; simp [h]
    · simp [h0]
/-- how many of the first n -/
def cnt (p : Nat → Bool) : Nat → Nat
  | 0 => 0
  | n + 1 => cnt p n + (if p n then 1 else 0)
theorem cnt_congr {p q : Nat → Bool} : ∀ {n : Nat}, (∀ k, k < n → p k = q k) → cnt p n = cnt q n
  | 0, _ => rfl
  | n + 1, h => by rw [cnt, cnt, cnt_congr (fun k hk => h k (by omega)), h n (by omega)]
theorem cnt_le (p : Nat → Bool) : ∀ n, cnt p n ≤ n
  | 0 => Nat.le_refl 0
  | n + 1 => by have := cnt_le p n; rw [cnt]; split <;> omega
theorem cnt_split (p : Nat → Bool) (m : Nat) : ∀ n, cnt p (m + n) = cnt p m + cnt (fun k => p (m + k)) n
  | 0 => rfl
  | n + 1 => by rw [← Nat.add_assoc, cnt, cnt, cnt_split p m n, Nat.add_assoc]
theorem cnt_cut {p : Nat → Bool} {m n : Nat} (h : m ≤ n) (hp : ∀ k, m ≤ k → p k = false) : cnt p n = cnt p m := by
  obtain ⟨d, rfl⟩ := Nat.le.dest h
  rw [cnt_split]
  have : ∀ d, cnt (fun k => p (m + k)) d = 0 := by
    intro d
    induction d with
    | zero => rfl
    | succ d ih => rw [cnt, ih, hp _ (by omega)]; rfl
  rw [this]; rfl
/-- the greatest below n that has it; -9 -/
def gtop (p : Nat → Bool) : Nat → Int32
  | 0 => -9
  | n + 1 => if p n then nI n else gtop p n
theorem gtop_congr {p q : Nat → Bool} : ∀ {n : Nat}, (∀ k, k < n → p k = q k) → gtop p n = gtop q n
  | 0, _ => rfl
  | n + 1, h => by rw [gtop, gtop, gtop_congr (fun k hk => h k (by omega)), h n (by omega)]
theorem gtop_none {p : Nat → Bool} : ∀ {n : Nat}, (∀ k, k < n → p k = false) → gtop p n = -9
  | 0, _ => rfl
  | n + 1, h => by rw [gtop, h n (by omega), gtop_none (fun k hk => h k (by omega))]; rfl
theorem gtop_cut {p : Nat → Bool} {m n : Nat} (h : m ≤ n) (hp : ∀ k, m ≤ k → k < n → p k = false) : gtop p n = gtop p m := by
  obtain ⟨d, rfl⟩ := Nat.le.dest h
  induction d with
  | zero => rfl
  | succ d ih =>
    rw [← Nat.add_assoc, gtop, hp (m + d) (by omega) (by omega), if_neg (by decide)]
    exact ih (by omega) (fun k h1 h2 => hp k h1 (by omega))
theorem gtop_some {p : Nat → Bool} : ∀ {n : Nat}, (∃ b, b < n ∧ p b = true ∧ (∀ k, b < k → k < n → p k = false) ∧ gtop p n = nI b) ∨ ((∀ k, k < n → p k = false) ∧ gtop p n = -9)
  | 0 => Or.inr ⟨fun k hk => absurd hk (Nat.not_lt_zero k), rfl⟩
  | n + 1 => by
    by_cases h : p n = true
    · exact Or.inl ⟨n, by omega, h, fun k h1 h2 => by omega, by rw [gtop, if_pos h]⟩
    · have hf : p n = false := by simpa using h
      have e : gtop p (n + 1) = gtop p n := by rw [gtop, if_neg h]
      rcases gtop_some (p := p) (n := n) with ⟨b, h1, h2, h3, h4⟩ | ⟨h1, h2⟩
      · exact Or.inl ⟨b, by omega, h2, fun k q1 q2 => by
          by_cases hk : k = n
          · rw [hk]; exact hf
          · exact h3 k q1 (by omega), e.trans h4⟩
      · exact Or.inr ⟨fun k hk => by
          by_cases hk2 : k = n
          · rw [hk2]; exact hf
          · exact h1 k (by omega), e.trans h2⟩
theorem gtop_ne9 {p : Nat → Bool} {n b : Nat} (hb : b < n) (hp : p b = true) : gtop p n ≠ -9 ∨ 2 ^ 31 ≤ n := by
  by_cases hn : 2 ^ 31 ≤ n
  · exact Or.inr hn
  · left
    rcases gtop_some (p := p) (n := n) with ⟨c, h1, h2, h3, h4⟩ | ⟨h1, h2⟩
    · rw [h4]; exact nI_ne9 (by omega)
    · have := h1 b hb; rw [hp] at this; cases this
