/-! PURE BASE: numbers, branches, loops with a counter -/
theorem zm_m11 (x : Int32) : x + (-1) + 1 = x := by
  rw [Int32.add_assoc]
  rw [show ((-1 : Int32) + 1) = 0 from by decide]
  exact Int32.add_zero x
theorem br_le {a b : Nat} {A B : Prop} (ha : a < 2 ^ 31) (hb : b < 2 ^ 31) (h1 : b ≤ a → A) (h2 : a < b → B) : (nI b ≤ nI a → A) ∧ (¬ nI b ≤ nI a → B) :=
  ⟨fun h => h1 ((nI_leI hb ha).mp h), fun h => h2 (Nat.lt_of_not_le (fun q => h ((nI_leI hb ha).mpr q)))⟩
theorem br_lt {a b : Nat} {A B : Prop} (ha : a < 2 ^ 31) (hb : b < 2 ^ 31) (h1 : a < b → A) (h2 : b ≤ a → B) : (nI a < nI b → A) ∧ (¬ nI a < nI b → B) :=
  ⟨fun h => h1 ((nI_ltI ha hb).mp h), fun h => h2 (Nat.le_of_not_lt (fun q => h ((nI_ltI ha hb).mpr q)))⟩
theorem br_eq {a b : Nat} {A B : Prop} (ha : a < 2 ^ 31) (hb : b < 2 ^ 31) (h1 : a = b → A) (h2 : a ≠ b → B) : (nI a = nI b → A) ∧ (¬ nI a = nI b → B) :=
  ⟨fun h => h1 ((nI_eq ha hb).mp h), fun h => h2 (fun q => h ((nI_eq ha hb).mpr q))⟩
theorem br_neq {a b : Nat} {A B : Prop} (ha : a < 2 ^ 31) (hb : b < 2 ^ 31) (h2 : a ≠ b → B) (h1 : a = b → A) : (¬ nI a = nI b → B) ∧ (nI a = nI b → A) :=
  ⟨fun h => h2 (fun q => h ((nI_eq ha hb).mpr q)), fun h => h1 ((nI_eq ha hb).mp h)⟩
theorem nI_lit (n : Nat) : (OfNat.ofNat n : Int32) = nI n := rfl
theorem nI_subN {a b : Nat} (h : b ≤ a) : nI a - nI b = nI (a - b) := pk_sub h
theorem nI_irem {a d : Nat} (ha : a < 2 ^ 31) (h0 : 0 < d) (hd : d < 2 ^ 31) : jirem (nI a) (nI d) = nI (a % d) := pk_rem ha h0 hd
theorem nI_ne9 {a : Nat} (h : a < 2 ^ 31) : ¬ nI a = (-9 : Int32) := by
  intro e
  have h1 := congrArg Int32.toInt e
  rw [nI_toInt h] at h1
  have h2 : ((-9 : Int32)).toInt = -9 := by decide
  omega
/-- a number that a caller tells is one of n places, or none -/
theorem nI_or (a : Int32) (n : Nat) : (∃ k, k < n ∧ a = nI k) ∨ (¬ ∃ k, k < n ∧ a = nI k) := Classical.em _
theorem in_iff {a : Int32} {n : Nat} (hn : n < 2 ^ 31) : (∃ k, k < n ∧ a = nI k) ↔ (0 ≤ a.toInt ∧ a.toInt < n) := by
  constructor
  · rintro ⟨k, hk, rfl⟩
    rw [nI_toInt (by omega)]
    omega
  · rintro ⟨h1, h2⟩
    refine ⟨a.toInt.toNat, by omega, ?_⟩
    apply Int32.toInt_inj.mp
    rw [nI_toInt (by omega)]
    omega
theorem zu1_1 {bd : (Int32 → Prop) → Int32 → Prop}  {c0 : Int32} (n : Nat) (hn : n < 2 ^ 31) (J : Nat → Prop) (k0 : Nat) (hc : c0 = nI k0) (hk0 : k0 ≤ n) (h0 : J k0 ) (hs : ∀ (k : Nat)  (rec : Int32 → Prop), k ≤ n → J k  → (k < n → J (k + 1)  → rec (nI (k + 1))) → bd rec (nI k)) : zl1 bd c0 := by
  refine ⟨fun a1 => ∃ k : Nat, k ≤ n ∧ a1 = nI k ∧ J k , fun a1 => n - a1.toNatClampNeg, ⟨k0, hk0, hc, h0⟩, ?_⟩
  rintro a1 ⟨k, hk, rfl, hJ⟩
  exact hs k  _ hk hJ (fun  hlt hJ2 => ⟨⟨k + 1, hlt, rfl, hJ2⟩, by show n - (nI (k + 1)).toNatClampNeg < n - (nI k).toNatClampNeg; rw [nI_clamp (by omega), nI_clamp (by omega)]; omega⟩)
theorem zd1_1 {bd : (Int32 → Prop) → Int32 → Prop}  {c0 : Int32} (n : Nat) (hn : n < 2 ^ 31) (J : Nat → Prop) (k0 : Nat) (hc : c0 = nI k0 + (-1)) (hk0 : k0 ≤ n) (h0 : J k0 ) (hz : ∀ rec : Int32 → Prop, J 0  → bd rec (-1)) (hs : ∀ (k : Nat)  (rec : Int32 → Prop), k < n → J (k + 1)  → (J k  → rec (nI k + (-1))) → bd rec (nI k)) : zl1 bd c0 := by
  refine ⟨fun a1 => ∃ k : Nat, k ≤ n ∧ a1 = nI k + (-1) ∧ J k , fun a1 => (a1 + 1).toNatClampNeg, ⟨k0, hk0, hc, h0⟩, ?_⟩
  rintro a1 ⟨k, hk, rfl, hJ⟩
  cases k with
  | zero => exact hz  _ hJ
  | succ k =>
    have e1 : nI (k + 1) + (-1) = nI k := pk_m1 k
    simp only [e1]
    exact hs k  _ (by omega) hJ (fun  hJ2 => ⟨⟨k, by omega, rfl, hJ2⟩, by show (nI k + (-1) + 1).toNatClampNeg < (nI k + 1).toNatClampNeg; rw [zm_m11, nI_1, nI_clamp (by omega), nI_clamp (by omega)]; omega⟩)
theorem zu2_1 {A2 : Type} {bd : (Int32 → A2 → Prop) → Int32 → A2 → Prop} {i2 : A2} {c0 : Int32} (n : Nat) (hn : n < 2 ^ 31) (J : Nat → A2 → Prop) (k0 : Nat) (hc : c0 = nI k0) (hk0 : k0 ≤ n) (h0 : J k0 i2) (hs : ∀ (k : Nat) (o2 : A2) (rec : Int32 → A2 → Prop), k ≤ n → J k o2 → (∀ (p2 : A2), k < n → J (k + 1) p2 → rec (nI (k + 1)) p2) → bd rec (nI k) o2) : zl2 bd c0 i2 := by
  refine ⟨fun a1 a2 => ∃ k : Nat, k ≤ n ∧ a1 = nI k ∧ J k a2, fun a1 a2 => n - a1.toNatClampNeg, ⟨k0, hk0, hc, h0⟩, ?_⟩
  rintro a1 a2 ⟨k, hk, rfl, hJ⟩
  exact hs k a2 _ hk hJ (fun p2 hlt hJ2 => ⟨⟨k + 1, hlt, rfl, hJ2⟩, by show n - (nI (k + 1)).toNatClampNeg < n - (nI k).toNatClampNeg; rw [nI_clamp (by omega), nI_clamp (by omega)]; omega⟩)
theorem zd2_1 {A2 : Type} {bd : (Int32 → A2 → Prop) → Int32 → A2 → Prop} {i2 : A2} {c0 : Int32} (n : Nat) (hn : n < 2 ^ 31) (J : Nat → A2 → Prop) (k0 : Nat) (hc : c0 = nI k0 + (-1)) (hk0 : k0 ≤ n) (h0 : J k0 i2) (hz : ∀ (p2 : A2), ∀ rec : Int32 → A2 → Prop, J 0 p2 → bd rec (-1) p2) (hs : ∀ (k : Nat) (o2 : A2) (rec : Int32 → A2 → Prop), k < n → J (k + 1) o2 → (∀ (p2 : A2), J k p2 → rec (nI k + (-1)) p2) → bd rec (nI k) o2) : zl2 bd c0 i2 := by
  refine ⟨fun a1 a2 => ∃ k : Nat, k ≤ n ∧ a1 = nI k + (-1) ∧ J k a2, fun a1 a2 => (a1 + 1).toNatClampNeg, ⟨k0, hk0, hc, h0⟩, ?_⟩
  rintro a1 a2 ⟨k, hk, rfl, hJ⟩
  cases k with
  | zero => exact hz a2 _ hJ
  | succ k =>
    have e1 : nI (k + 1) + (-1) = nI k := pk_m1 k
    simp only [e1]
    exact hs k a2 _ (by omega) hJ (fun p2 hJ2 => ⟨⟨k, by omega, rfl, hJ2⟩, by show (nI k + (-1) + 1).toNatClampNeg < (nI k + 1).toNatClampNeg; rw [zm_m11, nI_1, nI_clamp (by omega), nI_clamp (by omega)]; omega⟩)
theorem zu2_2 {A1 : Type} {bd : (A1 → Int32 → Prop) → A1 → Int32 → Prop} {i1 : A1} {c0 : Int32} (n : Nat) (hn : n < 2 ^ 31) (J : Nat → A1 → Prop) (k0 : Nat) (hc : c0 = nI k0) (hk0 : k0 ≤ n) (h0 : J k0 i1) (hs : ∀ (k : Nat) (o1 : A1) (rec : A1 → Int32 → Prop), k ≤ n → J k o1 → (∀ (p1 : A1), k < n → J (k + 1) p1 → rec p1 (nI (k + 1))) → bd rec o1 (nI k)) : zl2 bd i1 c0 := by
  refine ⟨fun a1 a2 => ∃ k : Nat, k ≤ n ∧ a2 = nI k ∧ J k a1, fun a1 a2 => n - a2.toNatClampNeg, ⟨k0, hk0, hc, h0⟩, ?_⟩
  rintro a1 a2 ⟨k, hk, rfl, hJ⟩
  exact hs k a1 _ hk hJ (fun p1 hlt hJ2 => ⟨⟨k + 1, hlt, rfl, hJ2⟩, by show n - (nI (k + 1)).toNatClampNeg < n - (nI k).toNatClampNeg; rw [nI_clamp (by omega), nI_clamp (by omega)]; omega⟩)
theorem zd2_2 {A1 : Type} {bd : (A1 → Int32 → Prop) → A1 → Int32 → Prop} {i1 : A1} {c0 : Int32} (n : Nat) (hn : n < 2 ^ 31) (J : Nat → A1 → Prop) (k0 : Nat) (hc : c0 = nI k0 + (-1)) (hk0 : k0 ≤ n) (h0 : J k0 i1) (hz : ∀ (p1 : A1), ∀ rec : A1 → Int32 → Prop, J 0 p1 → bd rec p1 (-1)) (hs : ∀ (k : Nat) (o1 : A1) (rec : A1 → Int32 → Prop), k < n → J (k + 1) o1 → (∀ (p1 : A1), J k p1 → rec p1 (nI k + (-1))) → bd rec o1 (nI k)) : zl2 bd i1 c0 := by
  refine ⟨fun a1 a2 => ∃ k : Nat, k ≤ n ∧ a2 = nI k + (-1) ∧ J k a1, fun a1 a2 => (a2 + 1).toNatClampNeg, ⟨k0, hk0, hc, h0⟩, ?_⟩
  rintro a1 a2 ⟨k, hk, rfl, hJ⟩
  cases k with
  | zero => exact hz a1 _ hJ
  | succ k =>
    have e1 : nI (k + 1) + (-1) = nI k := pk_m1 k
    simp only [e1]
    exact hs k a1 _ (by omega) hJ (fun p1 hJ2 => ⟨⟨k, by omega, rfl, hJ2⟩, by show (nI k + (-1) + 1).toNatClampNeg < (nI k + 1).toNatClampNeg; rw [zm_m11, nI_1, nI_clamp (by omega), nI_clamp (by omega)]; omega⟩)
theorem zu3_1 {A2 A3 : Type} {bd : (Int32 → A2 → A3 → Prop) → Int32 → A2 → A3 → Prop} {i2 : A2} {i3 : A3} {c0 : Int32} (n : Nat) (hn : n < 2 ^ 31) (J : Nat → A2 → A3 → Prop) (k0 : Nat) (hc : c0 = nI k0) (hk0 : k0 ≤ n) (h0 : J k0 i2 i3) (hs : ∀ (k : Nat) (o2 : A2) (o3 : A3) (rec : Int32 → A2 → A3 → Prop), k ≤ n → J k o2 o3 → (∀ (p2 : A2) (p3 : A3), k < n → J (k + 1) p2 p3 → rec (nI (k + 1)) p2 p3) → bd rec (nI k) o2 o3) : zl3 bd c0 i2 i3 := by
  refine ⟨fun a1 a2 a3 => ∃ k : Nat, k ≤ n ∧ a1 = nI k ∧ J k a2 a3, fun a1 a2 a3 => n - a1.toNatClampNeg, ⟨k0, hk0, hc, h0⟩, ?_⟩
  rintro a1 a2 a3 ⟨k, hk, rfl, hJ⟩
  exact hs k a2 a3 _ hk hJ (fun p2 p3 hlt hJ2 => ⟨⟨k + 1, hlt, rfl, hJ2⟩, by show n - (nI (k + 1)).toNatClampNeg < n - (nI k).toNatClampNeg; rw [nI_clamp (by omega), nI_clamp (by omega)]; omega⟩)
theorem zd3_1 {A2 A3 : Type} {bd : (Int32 → A2 → A3 → Prop) → Int32 → A2 → A3 → Prop} {i2 : A2} {i3 : A3} {c0 : Int32} (n : Nat) (hn : n < 2 ^ 31) (J : Nat → A2 → A3 → Prop) (k0 : Nat) (hc : c0 = nI k0 + (-1)) (hk0 : k0 ≤ n) (h0 : J k0 i2 i3) (hz : ∀ (p2 : A2) (p3 : A3), ∀ rec : Int32 → A2 → A3 → Prop, J 0 p2 p3 → bd rec (-1) p2 p3) (hs : ∀ (k : Nat) (o2 : A2) (o3 : A3) (rec : Int32 → A2 → A3 → Prop), k < n → J (k + 1) o2 o3 → (∀ (p2 : A2) (p3 : A3), J k p2 p3 → rec (nI k + (-1)) p2 p3) → bd rec (nI k) o2 o3) : zl3 bd c0 i2 i3 := by
  refine ⟨fun a1 a2 a3 => ∃ k : Nat, k ≤ n ∧ a1 = nI k + (-1) ∧ J k a2 a3, fun a1 a2 a3 => (a1 + 1).toNatClampNeg, ⟨k0, hk0, hc, h0⟩, ?_⟩
  rintro a1 a2 a3 ⟨k, hk, rfl, hJ⟩
  cases k with
  | zero => exact hz a2 a3 _ hJ
  | succ k =>
    have e1 : nI (k + 1) + (-1) = nI k := pk_m1 k
    simp only [e1]
    exact hs k a2 a3 _ (by omega) hJ (fun p2 p3 hJ2 => ⟨⟨k, by omega, rfl, hJ2⟩, by show (nI k + (-1) + 1).toNatClampNeg < (nI k + 1).toNatClampNeg; rw [zm_m11, nI_1, nI_clamp (by omega), nI_clamp (by omega)]; omega⟩)
theorem zu3_2 {A1 A3 : Type} {bd : (A1 → Int32 → A3 → Prop) → A1 → Int32 → A3 → Prop} {i1 : A1} {i3 : A3} {c0 : Int32} (n : Nat) (hn : n < 2 ^ 31) (J : Nat → A1 → A3 → Prop) (k0 : Nat) (hc : c0 = nI k0) (hk0 : k0 ≤ n) (h0 : J k0 i1 i3) (hs : ∀ (k : Nat) (o1 : A1) (o3 : A3) (rec : A1 → Int32 → A3 → Prop), k ≤ n → J k o1 o3 → (∀ (p1 : A1) (p3 : A3), k < n → J (k + 1) p1 p3 → rec p1 (nI (k + 1)) p3) → bd rec o1 (nI k) o3) : zl3 bd i1 c0 i3 := by
  refine ⟨fun a1 a2 a3 => ∃ k : Nat, k ≤ n ∧ a2 = nI k ∧ J k a1 a3, fun a1 a2 a3 => n - a2.toNatClampNeg, ⟨k0, hk0, hc, h0⟩, ?_⟩
  rintro a1 a2 a3 ⟨k, hk, rfl, hJ⟩
  exact hs k a1 a3 _ hk hJ (fun p1 p3 hlt hJ2 => ⟨⟨k + 1, hlt, rfl, hJ2⟩, by show n - (nI (k + 1)).toNatClampNeg < n - (nI k).toNatClampNeg; rw [nI_clamp (by omega), nI_clamp (by omega)]; omega⟩)
theorem zd3_2 {A1 A3 : Type} {bd : (A1 → Int32 → A3 → Prop) → A1 → Int32 → A3 → Prop} {i1 : A1} {i3 : A3} {c0 : Int32} (n : Nat) (hn : n < 2 ^ 31) (J : Nat → A1 → A3 → Prop) (k0 : Nat) (hc : c0 = nI k0 + (-1)) (hk0 : k0 ≤ n) (h0 : J k0 i1 i3) (hz : ∀ (p1 : A1) (p3 : A3), ∀ rec : A1 → Int32 → A3 → Prop, J 0 p1 p3 → bd rec p1 (-1) p3) (hs : ∀ (k : Nat) (o1 : A1) (o3 : A3) (rec : A1 → Int32 → A3 → Prop), k < n → J (k + 1) o1 o3 → (∀ (p1 : A1) (p3 : A3), J k p1 p3 → rec p1 (nI k + (-1)) p3) → bd rec o1 (nI k) o3) : zl3 bd i1 c0 i3 := by
  refine ⟨fun a1 a2 a3 => ∃ k : Nat, k ≤ n ∧ a2 = nI k + (-1) ∧ J k a1 a3, fun a1 a2 a3 => (a2 + 1).toNatClampNeg, ⟨k0, hk0, hc, h0⟩, ?_⟩
  rintro a1 a2 a3 ⟨k, hk, rfl, hJ⟩
  cases k with
  | zero => exact hz a1 a3 _ hJ
  | succ k =>
    have e1 : nI (k + 1) + (-1) = nI k := pk_m1 k
    simp only [e1]
    exact hs k a1 a3 _ (by omega) hJ (fun p1 p3 hJ2 => ⟨⟨k, by omega, rfl, hJ2⟩, by show (nI k + (-1) + 1).toNatClampNeg < (nI k + 1).toNatClampNeg; rw [zm_m11, nI_1, nI_clamp (by omega), nI_clamp (by omega)]; omega⟩)
theorem zu3_3 {A1 A2 : Type} {bd : (A1 → A2 → Int32 → Prop) → A1 → A2 → Int32 → Prop} {i1 : A1} {i2 : A2} {c0 : Int32} (n : Nat) (hn : n < 2 ^ 31) (J : Nat → A1 → A2 → Prop) (k0 : Nat) (hc : c0 = nI k0) (hk0 : k0 ≤ n) (h0 : J k0 i1 i2) (hs : ∀ (k : Nat) (o1 : A1) (o2 : A2) (rec : A1 → A2 → Int32 → Prop), k ≤ n → J k o1 o2 → (∀ (p1 : A1) (p2 : A2), k < n → J (k + 1) p1 p2 → rec p1 p2 (nI (k + 1))) → bd rec o1 o2 (nI k)) : zl3 bd i1 i2 c0 := by
  refine ⟨fun a1 a2 a3 => ∃ k : Nat, k ≤ n ∧ a3 = nI k ∧ J k a1 a2, fun a1 a2 a3 => n - a3.toNatClampNeg, ⟨k0, hk0, hc, h0⟩, ?_⟩
  rintro a1 a2 a3 ⟨k, hk, rfl, hJ⟩
  exact hs k a1 a2 _ hk hJ (fun p1 p2 hlt hJ2 => ⟨⟨k + 1, hlt, rfl, hJ2⟩, by show n - (nI (k + 1)).toNatClampNeg < n - (nI k).toNatClampNeg; rw [nI_clamp (by omega), nI_clamp (by omega)]; omega⟩)
theorem zd3_3 {A1 A2 : Type} {bd : (A1 → A2 → Int32 → Prop) → A1 → A2 → Int32 → Prop} {i1 : A1} {i2 : A2} {c0 : Int32} (n : Nat) (hn : n < 2 ^ 31) (J : Nat → A1 → A2 → Prop) (k0 : Nat) (hc : c0 = nI k0 + (-1)) (hk0 : k0 ≤ n) (h0 : J k0 i1 i2) (hz : ∀ (p1 : A1) (p2 : A2), ∀ rec : A1 → A2 → Int32 → Prop, J 0 p1 p2 → bd rec p1 p2 (-1)) (hs : ∀ (k : Nat) (o1 : A1) (o2 : A2) (rec : A1 → A2 → Int32 → Prop), k < n → J (k + 1) o1 o2 → (∀ (p1 : A1) (p2 : A2), J k p1 p2 → rec p1 p2 (nI k + (-1))) → bd rec o1 o2 (nI k)) : zl3 bd i1 i2 c0 := by
  refine ⟨fun a1 a2 a3 => ∃ k : Nat, k ≤ n ∧ a3 = nI k + (-1) ∧ J k a1 a2, fun a1 a2 a3 => (a3 + 1).toNatClampNeg, ⟨k0, hk0, hc, h0⟩, ?_⟩
  rintro a1 a2 a3 ⟨k, hk, rfl, hJ⟩
  cases k with
  | zero => exact hz a1 a2 _ hJ
  | succ k =>
    have e1 : nI (k + 1) + (-1) = nI k := pk_m1 k
    simp only [e1]
    exact hs k a1 a2 _ (by omega) hJ (fun p1 p2 hJ2 => ⟨⟨k, by omega, rfl, hJ2⟩, by show (nI k + (-1) + 1).toNatClampNeg < (nI k + 1).toNatClampNeg; rw [zm_m11, nI_1, nI_clamp (by omega), nI_clamp (by omega)]; omega⟩)
theorem zu4_1 {A2 A3 A4 : Type} {bd : (Int32 → A2 → A3 → A4 → Prop) → Int32 → A2 → A3 → A4 → Prop} {i2 : A2} {i3 : A3} {i4 : A4} {c0 : Int32} (n : Nat) (hn : n < 2 ^ 31) (J : Nat → A2 → A3 → A4 → Prop) (k0 : Nat) (hc : c0 = nI k0) (hk0 : k0 ≤ n) (h0 : J k0 i2 i3 i4) (hs : ∀ (k : Nat) (o2 : A2) (o3 : A3) (o4 : A4) (rec : Int32 → A2 → A3 → A4 → Prop), k ≤ n → J k o2 o3 o4 → (∀ (p2 : A2) (p3 : A3) (p4 : A4), k < n → J (k + 1) p2 p3 p4 → rec (nI (k + 1)) p2 p3 p4) → bd rec (nI k) o2 o3 o4) : zl4 bd c0 i2 i3 i4 := by
  refine ⟨fun a1 a2 a3 a4 => ∃ k : Nat, k ≤ n ∧ a1 = nI k ∧ J k a2 a3 a4, fun a1 a2 a3 a4 => n - a1.toNatClampNeg, ⟨k0, hk0, hc, h0⟩, ?_⟩
  rintro a1 a2 a3 a4 ⟨k, hk, rfl, hJ⟩
  exact hs k a2 a3 a4 _ hk hJ (fun p2 p3 p4 hlt hJ2 => ⟨⟨k + 1, hlt, rfl, hJ2⟩, by show n - (nI (k + 1)).toNatClampNeg < n - (nI k).toNatClampNeg; rw [nI_clamp (by omega), nI_clamp (by omega)]; omega⟩)
theorem zd4_1 {A2 A3 A4 : Type} {bd : (Int32 → A2 → A3 → A4 → Prop) → Int32 → A2 → A3 → A4 → Prop} {i2 : A2} {i3 : A3} {i4 : A4} {c0 : Int32} (n : Nat) (hn : n < 2 ^ 31) (J : Nat → A2 → A3 → A4 → Prop) (k0 : Nat) (hc : c0 = nI k0 + (-1)) (hk0 : k0 ≤ n) (h0 : J k0 i2 i3 i4) (hz : ∀ (p2 : A2) (p3 : A3) (p4 : A4), ∀ rec : Int32 → A2 → A3 → A4 → Prop, J 0 p2 p3 p4 → bd rec (-1) p2 p3 p4) (hs : ∀ (k : Nat) (o2 : A2) (o3 : A3) (o4 : A4) (rec : Int32 → A2 → A3 → A4 → Prop), k < n → J (k + 1) o2 o3 o4 → (∀ (p2 : A2) (p3 : A3) (p4 : A4), J k p2 p3 p4 → rec (nI k + (-1)) p2 p3 p4) → bd rec (nI k) o2 o3 o4) : zl4 bd c0 i2 i3 i4 := by
  refine ⟨fun a1 a2 a3 a4 => ∃ k : Nat, k ≤ n ∧ a1 = nI k + (-1) ∧ J k a2 a3 a4, fun a1 a2 a3 a4 => (a1 + 1).toNatClampNeg, ⟨k0, hk0, hc, h0⟩, ?_⟩
  rintro a1 a2 a3 a4 ⟨k, hk, rfl, hJ⟩
  cases k with
  | zero => exact hz a2 a3 a4 _ hJ
  | succ k =>
    have e1 : nI (k + 1) + (-1) = nI k := pk_m1 k
    simp only [e1]
    exact hs k a2 a3 a4 _ (by omega) hJ (fun p2 p3 p4 hJ2 => ⟨⟨k, by omega, rfl, hJ2⟩, by show (nI k + (-1) + 1).toNatClampNeg < (nI k + 1).toNatClampNeg; rw [zm_m11, nI_1, nI_clamp (by omega), nI_clamp (by omega)]; omega⟩)
theorem zu4_2 {A1 A3 A4 : Type} {bd : (A1 → Int32 → A3 → A4 → Prop) → A1 → Int32 → A3 → A4 → Prop} {i1 : A1} {i3 : A3} {i4 : A4} {c0 : Int32} (n : Nat) (hn : n < 2 ^ 31) (J : Nat → A1 → A3 → A4 → Prop) (k0 : Nat) (hc : c0 = nI k0) (hk0 : k0 ≤ n) (h0 : J k0 i1 i3 i4) (hs : ∀ (k : Nat) (o1 : A1) (o3 : A3) (o4 : A4) (rec : A1 → Int32 → A3 → A4 → Prop), k ≤ n → J k o1 o3 o4 → (∀ (p1 : A1) (p3 : A3) (p4 : A4), k < n → J (k + 1) p1 p3 p4 → rec p1 (nI (k + 1)) p3 p4) → bd rec o1 (nI k) o3 o4) : zl4 bd i1 c0 i3 i4 := by
  refine ⟨fun a1 a2 a3 a4 => ∃ k : Nat, k ≤ n ∧ a2 = nI k ∧ J k a1 a3 a4, fun a1 a2 a3 a4 => n - a2.toNatClampNeg, ⟨k0, hk0, hc, h0⟩, ?_⟩
  rintro a1 a2 a3 a4 ⟨k, hk, rfl, hJ⟩
  exact hs k a1 a3 a4 _ hk hJ (fun p1 p3 p4 hlt hJ2 => ⟨⟨k + 1, hlt, rfl, hJ2⟩, by show n - (nI (k + 1)).toNatClampNeg < n - (nI k).toNatClampNeg; rw [nI_clamp (by omega), nI_clamp (by omega)]; omega⟩)
theorem zd4_2 {A1 A3 A4 : Type} {bd : (A1 → Int32 → A3 → A4 → Prop) → A1 → Int32 → A3 → A4 → Prop} {i1 : A1} {i3 : A3} {i4 : A4} {c0 : Int32} (n : Nat) (hn : n < 2 ^ 31) (J : Nat → A1 → A3 → A4 → Prop) (k0 : Nat) (hc : c0 = nI k0 + (-1)) (hk0 : k0 ≤ n) (h0 : J k0 i1 i3 i4) (hz : ∀ (p1 : A1) (p3 : A3) (p4 : A4), ∀ rec : A1 → Int32 → A3 → A4 → Prop, J 0 p1 p3 p4 → bd rec p1 (-1) p3 p4) (hs : ∀ (k : Nat) (o1 : A1) (o3 : A3) (o4 : A4) (rec : A1 → Int32 → A3 → A4 → Prop), k < n → J (k + 1) o1 o3 o4 → (∀ (p1 : A1) (p3 : A3) (p4 : A4), J k p1 p3 p4 → rec p1 (nI k + (-1)) p3 p4) → bd rec o1 (nI k) o3 o4) : zl4 bd i1 c0 i3 i4 := by
  refine ⟨fun a1 a2 a3 a4 => ∃ k : Nat, k ≤ n ∧ a2 = nI k + (-1) ∧ J k a1 a3 a4, fun a1 a2 a3 a4 => (a2 + 1).toNatClampNeg, ⟨k0, hk0, hc, h0⟩, ?_⟩
  rintro a1 a2 a3 a4 ⟨k, hk, rfl, hJ⟩
  cases k with
  | zero => exact hz a1 a3 a4 _ hJ
  | succ k =>
    have e1 : nI (k + 1) + (-1) = nI k := pk_m1 k
    simp only [e1]
    exact hs k a1 a3 a4 _ (by omega) hJ (fun p1 p3 p4 hJ2 => ⟨⟨k, by omega, rfl, hJ2⟩, by show (nI k + (-1) + 1).toNatClampNeg < (nI k + 1).toNatClampNeg; rw [zm_m11, nI_1, nI_clamp (by omega), nI_clamp (by omega)]; omega⟩)
theorem zu4_3 {A1 A2 A4 : Type} {bd : (A1 → A2 → Int32 → A4 → Prop) → A1 → A2 → Int32 → A4 → Prop} {i1 : A1} {i2 : A2} {i4 : A4} {c0 : Int32} (n : Nat) (hn : n < 2 ^ 31) (J : Nat → A1 → A2 → A4 → Prop) (k0 : Nat) (hc : c0 = nI k0) (hk0 : k0 ≤ n) (h0 : J k0 i1 i2 i4) (hs : ∀ (k : Nat) (o1 : A1) (o2 : A2) (o4 : A4) (rec : A1 → A2 → Int32 → A4 → Prop), k ≤ n → J k o1 o2 o4 → (∀ (p1 : A1) (p2 : A2) (p4 : A4), k < n → J (k + 1) p1 p2 p4 → rec p1 p2 (nI (k + 1)) p4) → bd rec o1 o2 (nI k) o4) : zl4 bd i1 i2 c0 i4 := by
  refine ⟨fun a1 a2 a3 a4 => ∃ k : Nat, k ≤ n ∧ a3 = nI k ∧ J k a1 a2 a4, fun a1 a2 a3 a4 => n - a3.toNatClampNeg, ⟨k0, hk0, hc, h0⟩, ?_⟩
  rintro a1 a2 a3 a4 ⟨k, hk, rfl, hJ⟩
  exact hs k a1 a2 a4 _ hk hJ (fun p1 p2 p4 hlt hJ2 => ⟨⟨k + 1, hlt, rfl, hJ2⟩, by show n - (nI (k + 1)).toNatClampNeg < n - (nI k).toNatClampNeg; rw [nI_clamp (by omega), nI_clamp (by omega)]; omega⟩)
theorem zd4_3 {A1 A2 A4 : Type} {bd : (A1 → A2 → Int32 → A4 → Prop) → A1 → A2 → Int32 → A4 → Prop} {i1 : A1} {i2 : A2} {i4 : A4} {c0 : Int32} (n : Nat) (hn : n < 2 ^ 31) (J : Nat → A1 → A2 → A4 → Prop) (k0 : Nat) (hc : c0 = nI k0 + (-1)) (hk0 : k0 ≤ n) (h0 : J k0 i1 i2 i4) (hz : ∀ (p1 : A1) (p2 : A2) (p4 : A4), ∀ rec : A1 → A2 → Int32 → A4 → Prop, J 0 p1 p2 p4 → bd rec p1 p2 (-1) p4) (hs : ∀ (k : Nat) (o1 : A1) (o2 : A2) (o4 : A4) (rec : A1 → A2 → Int32 → A4 → Prop), k < n → J (k + 1) o1 o2 o4 → (∀ (p1 : A1) (p2 : A2) (p4 : A4), J k p1 p2 p4 → rec p1 p2 (nI k + (-1)) p4) → bd rec o1 o2 (nI k) o4) : zl4 bd i1 i2 c0 i4 := by
  refine ⟨fun a1 a2 a3 a4 => ∃ k : Nat, k ≤ n ∧ a3 = nI k + (-1) ∧ J k a1 a2 a4, fun a1 a2 a3 a4 => (a3 + 1).toNatClampNeg, ⟨k0, hk0, hc, h0⟩, ?_⟩
  rintro a1 a2 a3 a4 ⟨k, hk, rfl, hJ⟩
  cases k with
  | zero => exact hz a1 a2 a4 _ hJ
  | succ k =>
    have e1 : nI (k + 1) + (-1) = nI k := pk_m1 k
    simp only [e1]
    exact hs k a1 a2 a4 _ (by omega) hJ (fun p1 p2 p4 hJ2 => ⟨⟨k, by omega, rfl, hJ2⟩, by show (nI k + (-1) + 1).toNatClampNeg < (nI k + 1).toNatClampNeg; rw [zm_m11, nI_1, nI_clamp (by omega), nI_clamp (by omega)]; omega⟩)
theorem zu4_4 {A1 A2 A3 : Type} {bd : (A1 → A2 → A3 → Int32 → Prop) → A1 → A2 → A3 → Int32 → Prop} {i1 : A1} {i2 : A2} {i3 : A3} {c0 : Int32} (n : Nat) (hn : n < 2 ^ 31) (J : Nat → A1 → A2 → A3 → Prop) (k0 : Nat) (hc : c0 = nI k0) (hk0 : k0 ≤ n) (h0 : J k0 i1 i2 i3) (hs : ∀ (k : Nat) (o1 : A1) (o2 : A2) (o3 : A3) (rec : A1 → A2 → A3 → Int32 → Prop), k ≤ n → J k o1 o2 o3 → (∀ (p1 : A1) (p2 : A2) (p3 : A3), k < n → J (k + 1) p1 p2 p3 → rec p1 p2 p3 (nI (k + 1))) → bd rec o1 o2 o3 (nI k)) : zl4 bd i1 i2 i3 c0 := by
  refine ⟨fun a1 a2 a3 a4 => ∃ k : Nat, k ≤ n ∧ a4 = nI k ∧ J k a1 a2 a3, fun a1 a2 a3 a4 => n - a4.toNatClampNeg, ⟨k0, hk0, hc, h0⟩, ?_⟩
  rintro a1 a2 a3 a4 ⟨k, hk, rfl, hJ⟩
  exact hs k a1 a2 a3 _ hk hJ (fun p1 p2 p3 hlt hJ2 => ⟨⟨k + 1, hlt, rfl, hJ2⟩, by show n - (nI (k + 1)).toNatClampNeg < n - (nI k).toNatClampNeg; rw [nI_clamp (by omega), nI_clamp (by omega)]; omega⟩)
theorem zd4_4 {A1 A2 A3 : Type} {bd : (A1 → A2 → A3 → Int32 → Prop) → A1 → A2 → A3 → Int32 → Prop} {i1 : A1} {i2 : A2} {i3 : A3} {c0 : Int32} (n : Nat) (hn : n < 2 ^ 31) (J : Nat → A1 → A2 → A3 → Prop) (k0 : Nat) (hc : c0 = nI k0 + (-1)) (hk0 : k0 ≤ n) (h0 : J k0 i1 i2 i3) (hz : ∀ (p1 : A1) (p2 : A2) (p3 : A3), ∀ rec : A1 → A2 → A3 → Int32 → Prop, J 0 p1 p2 p3 → bd rec p1 p2 p3 (-1)) (hs : ∀ (k : Nat) (o1 : A1) (o2 : A2) (o3 : A3) (rec : A1 → A2 → A3 → Int32 → Prop), k < n → J (k + 1) o1 o2 o3 → (∀ (p1 : A1) (p2 : A2) (p3 : A3), J k p1 p2 p3 → rec p1 p2 p3 (nI k + (-1))) → bd rec o1 o2 o3 (nI k)) : zl4 bd i1 i2 i3 c0 := by
  refine ⟨fun a1 a2 a3 a4 => ∃ k : Nat, k ≤ n ∧ a4 = nI k + (-1) ∧ J k a1 a2 a3, fun a1 a2 a3 a4 => (a4 + 1).toNatClampNeg, ⟨k0, hk0, hc, h0⟩, ?_⟩
  rintro a1 a2 a3 a4 ⟨k, hk, rfl, hJ⟩
  cases k with
  | zero => exact hz a1 a2 a3 _ hJ
  | succ k =>
    have e1 : nI (k + 1) + (-1) = nI k := pk_m1 k
    simp only [e1]
    exact hs k a1 a2 a3 _ (by omega) hJ (fun p1 p2 p3 hJ2 => ⟨⟨k, by omega, rfl, hJ2⟩, by show (nI k + (-1) + 1).toNatClampNeg < (nI k + 1).toNatClampNeg; rw [zm_m11, nI_1, nI_clamp (by omega), nI_clamp (by omega)]; omega⟩)
theorem zu5_1 {A2 A3 A4 A5 : Type} {bd : (Int32 → A2 → A3 → A4 → A5 → Prop) → Int32 → A2 → A3 → A4 → A5 → Prop} {i2 : A2} {i3 : A3} {i4 : A4} {i5 : A5} {c0 : Int32} (n : Nat) (hn : n < 2 ^ 31) (J : Nat → A2 → A3 → A4 → A5 → Prop) (k0 : Nat) (hc : c0 = nI k0) (hk0 : k0 ≤ n) (h0 : J k0 i2 i3 i4 i5) (hs : ∀ (k : Nat) (o2 : A2) (o3 : A3) (o4 : A4) (o5 : A5) (rec : Int32 → A2 → A3 → A4 → A5 → Prop), k ≤ n → J k o2 o3 o4 o5 → (∀ (p2 : A2) (p3 : A3) (p4 : A4) (p5 : A5), k < n → J (k + 1) p2 p3 p4 p5 → rec (nI (k + 1)) p2 p3 p4 p5) → bd rec (nI k) o2 o3 o4 o5) : zl5 bd c0 i2 i3 i4 i5 := by
  refine ⟨fun a1 a2 a3 a4 a5 => ∃ k : Nat, k ≤ n ∧ a1 = nI k ∧ J k a2 a3 a4 a5, fun a1 a2 a3 a4 a5 => n - a1.toNatClampNeg, ⟨k0, hk0, hc, h0⟩, ?_⟩
  rintro a1 a2 a3 a4 a5 ⟨k, hk, rfl, hJ⟩
  exact hs k a2 a3 a4 a5 _ hk hJ (fun p2 p3 p4 p5 hlt hJ2 => ⟨⟨k + 1, hlt, rfl, hJ2⟩, by show n - (nI (k + 1)).toNatClampNeg < n - (nI k).toNatClampNeg; rw [nI_clamp (by omega), nI_clamp (by omega)]; omega⟩)
theorem zd5_1 {A2 A3 A4 A5 : Type} {bd : (Int32 → A2 → A3 → A4 → A5 → Prop) → Int32 → A2 → A3 → A4 → A5 → Prop} {i2 : A2} {i3 : A3} {i4 : A4} {i5 : A5} {c0 : Int32} (n : Nat) (hn : n < 2 ^ 31) (J : Nat → A2 → A3 → A4 → A5 → Prop) (k0 : Nat) (hc : c0 = nI k0 + (-1)) (hk0 : k0 ≤ n) (h0 : J k0 i2 i3 i4 i5) (hz : ∀ (p2 : A2) (p3 : A3) (p4 : A4) (p5 : A5), ∀ rec : Int32 → A2 → A3 → A4 → A5 → Prop, J 0 p2 p3 p4 p5 → bd rec (-1) p2 p3 p4 p5) (hs : ∀ (k : Nat) (o2 : A2) (o3 : A3) (o4 : A4) (o5 : A5) (rec : Int32 → A2 → A3 → A4 → A5 → Prop), k < n → J (k + 1) o2 o3 o4 o5 → (∀ (p2 : A2) (p3 : A3) (p4 : A4) (p5 : A5), J k p2 p3 p4 p5 → rec (nI k + (-1)) p2 p3 p4 p5) → bd rec (nI k) o2 o3 o4 o5) : zl5 bd c0 i2 i3 i4 i5 := by
  refine ⟨fun a1 a2 a3 a4 a5 => ∃ k : Nat, k ≤ n ∧ a1 = nI k + (-1) ∧ J k a2 a3 a4 a5, fun a1 a2 a3 a4 a5 => (a1 + 1).toNatClampNeg, ⟨k0, hk0, hc, h0⟩, ?_⟩
  rintro a1 a2 a3 a4 a5 ⟨k, hk, rfl, hJ⟩
  cases k with
  | zero => exact hz a2 a3 a4 a5 _ hJ
  | succ k =>
    have e1 : nI (k + 1) + (-1) = nI k := pk_m1 k
    simp only [e1]
    exact hs k a2 a3 a4 a5 _ (by omega) hJ (fun p2 p3 p4 p5 hJ2 => ⟨⟨k, by omega, rfl, hJ2⟩, by show (nI k + (-1) + 1).toNatClampNeg < (nI k + 1).toNatClampNeg; rw [zm_m11, nI_1, nI_clamp (by omega), nI_clamp (by omega)]; omega⟩)
theorem zu5_2 {A1 A3 A4 A5 : Type} {bd : (A1 → Int32 → A3 → A4 → A5 → Prop) → A1 → Int32 → A3 → A4 → A5 → Prop} {i1 : A1} {i3 : A3} {i4 : A4} {i5 : A5} {c0 : Int32} (n : Nat) (hn : n < 2 ^ 31) (J : Nat → A1 → A3 → A4 → A5 → Prop) (k0 : Nat) (hc : c0 = nI k0) (hk0 : k0 ≤ n) (h0 : J k0 i1 i3 i4 i5) (hs : ∀ (k : Nat) (o1 : A1) (o3 : A3) (o4 : A4) (o5 : A5) (rec : A1 → Int32 → A3 → A4 → A5 → Prop), k ≤ n → J k o1 o3 o4 o5 → (∀ (p1 : A1) (p3 : A3) (p4 : A4) (p5 : A5), k < n → J (k + 1) p1 p3 p4 p5 → rec p1 (nI (k + 1)) p3 p4 p5) → bd rec o1 (nI k) o3 o4 o5) : zl5 bd i1 c0 i3 i4 i5 := by
  refine ⟨fun a1 a2 a3 a4 a5 => ∃ k : Nat, k ≤ n ∧ a2 = nI k ∧ J k a1 a3 a4 a5, fun a1 a2 a3 a4 a5 => n - a2.toNatClampNeg, ⟨k0, hk0, hc, h0⟩, ?_⟩
  rintro a1 a2 a3 a4 a5 ⟨k, hk, rfl, hJ⟩
  exact hs k a1 a3 a4 a5 _ hk hJ (fun p1 p3 p4 p5 hlt hJ2 => ⟨⟨k + 1, hlt, rfl, hJ2⟩, by show n - (nI (k + 1)).toNatClampNeg < n - (nI k).toNatClampNeg; rw [nI_clamp (by omega), nI_clamp (by omega)]; omega⟩)
theorem zd5_2 {A1 A3 A4 A5 : Type} {bd : (A1 → Int32 → A3 → A4 → A5 → Prop) → A1 → Int32 → A3 → A4 → A5 → Prop} {i1 : A1} {i3 : A3} {i4 : A4} {i5 : A5} {c0 : Int32} (n : Nat) (hn : n < 2 ^ 31) (J : Nat → A1 → A3 → A4 → A5 → Prop) (k0 : Nat) (hc : c0 = nI k0 + (-1)) (hk0 : k0 ≤ n) (h0 : J k0 i1 i3 i4 i5) (hz : ∀ (p1 : A1) (p3 : A3) (p4 : A4) (p5 : A5), ∀ rec : A1 → Int32 → A3 → A4 → A5 → Prop, J 0 p1 p3 p4 p5 → bd rec p1 (-1) p3 p4 p5) (hs : ∀ (k : Nat) (o1 : A1) (o3 : A3) (o4 : A4) (o5 : A5) (rec : A1 → Int32 → A3 → A4 → A5 → Prop), k < n → J (k + 1) o1 o3 o4 o5 → (∀ (p1 : A1) (p3 : A3) (p4 : A4) (p5 : A5), J k p1 p3 p4 p5 → rec p1 (nI k + (-1)) p3 p4 p5) → bd rec o1 (nI k) o3 o4 o5) : zl5 bd i1 c0 i3 i4 i5 := by
  refine ⟨fun a1 a2 a3 a4 a5 => ∃ k : Nat, k ≤ n ∧ a2 = nI k + (-1) ∧ J k a1 a3 a4 a5, fun a1 a2 a3 a4 a5 => (a2 + 1).toNatClampNeg, ⟨k0, hk0, hc, h0⟩, ?_⟩
  rintro a1 a2 a3 a4 a5 ⟨k, hk, rfl, hJ⟩
  cases k with
  | zero => exact hz a1 a3 a4 a5 _ hJ
  | succ k =>
    have e1 : nI (k + 1) + (-1) = nI k := pk_m1 k
    simp only [e1]
    exact hs k a1 a3 a4 a5 _ (by omega) hJ (fun p1 p3 p4 p5 hJ2 => ⟨⟨k, by omega, rfl, hJ2⟩, by show (nI k + (-1) + 1).toNatClampNeg < (nI k + 1).toNatClampNeg; rw [zm_m11, nI_1, nI_clamp (by omega), nI_clamp (by omega)]; omega⟩)
theorem zu5_3 {A1 A2 A4 A5 : Type} {bd : (A1 → A2 → Int32 → A4 → A5 → Prop) → A1 → A2 → Int32 → A4 → A5 → Prop} {i1 : A1} {i2 : A2} {i4 : A4} {i5 : A5} {c0 : Int32} (n : Nat) (hn : n < 2 ^ 31) (J : Nat → A1 → A2 → A4 → A5 → Prop) (k0 : Nat) (hc : c0 = nI k0) (hk0 : k0 ≤ n) (h0 : J k0 i1 i2 i4 i5) (hs : ∀ (k : Nat) (o1 : A1) (o2 : A2) (o4 : A4) (o5 : A5) (rec : A1 → A2 → Int32 → A4 → A5 → Prop), k ≤ n → J k o1 o2 o4 o5 → (∀ (p1 : A1) (p2 : A2) (p4 : A4) (p5 : A5), k < n → J (k + 1) p1 p2 p4 p5 → rec p1 p2 (nI (k + 1)) p4 p5) → bd rec o1 o2 (nI k) o4 o5) : zl5 bd i1 i2 c0 i4 i5 := by
  refine ⟨fun a1 a2 a3 a4 a5 => ∃ k : Nat, k ≤ n ∧ a3 = nI k ∧ J k a1 a2 a4 a5, fun a1 a2 a3 a4 a5 => n - a3.toNatClampNeg, ⟨k0, hk0, hc, h0⟩, ?_⟩
  rintro a1 a2 a3 a4 a5 ⟨k, hk, rfl, hJ⟩
  exact hs k a1 a2 a4 a5 _ hk hJ (fun p1 p2 p4 p5 hlt hJ2 => ⟨⟨k + 1, hlt, rfl, hJ2⟩, by show n - (nI (k + 1)).toNatClampNeg < n - (nI k).toNatClampNeg; rw [nI_clamp (by omega), nI_clamp (by omega)]; omega⟩)
theorem zd5_3 {A1 A2 A4 A5 : Type} {bd : (A1 → A2 → Int32 → A4 → A5 → Prop) → A1 → A2 → Int32 → A4 → A5 → Prop} {i1 : A1} {i2 : A2} {i4 : A4} {i5 : A5} {c0 : Int32} (n : Nat) (hn : n < 2 ^ 31) (J : Nat → A1 → A2 → A4 → A5 → Prop) (k0 : Nat) (hc : c0 = nI k0 + (-1)) (hk0 : k0 ≤ n) (h0 : J k0 i1 i2 i4 i5) (hz : ∀ (p1 : A1) (p2 : A2) (p4 : A4) (p5 : A5), ∀ rec : A1 → A2 → Int32 → A4 → A5 → Prop, J 0 p1 p2 p4 p5 → bd rec p1 p2 (-1) p4 p5) (hs : ∀ (k : Nat) (o1 : A1) (o2 : A2) (o4 : A4) (o5 : A5) (rec : A1 → A2 → Int32 → A4 → A5 → Prop), k < n → J (k + 1) o1 o2 o4 o5 → (∀ (p1 : A1) (p2 : A2) (p4 : A4) (p5 : A5), J k p1 p2 p4 p5 → rec p1 p2 (nI k + (-1)) p4 p5) → bd rec o1 o2 (nI k) o4 o5) : zl5 bd i1 i2 c0 i4 i5 := by
  refine ⟨fun a1 a2 a3 a4 a5 => ∃ k : Nat, k ≤ n ∧ a3 = nI k + (-1) ∧ J k a1 a2 a4 a5, fun a1 a2 a3 a4 a5 => (a3 + 1).toNatClampNeg, ⟨k0, hk0, hc, h0⟩, ?_⟩
  rintro a1 a2 a3 a4 a5 ⟨k, hk, rfl, hJ⟩
  cases k with
  | zero => exact hz a1 a2 a4 a5 _ hJ
  | succ k =>
    have e1 : nI (k + 1) + (-1) = nI k := pk_m1 k
    simp only [e1]
    exact hs k a1 a2 a4 a5 _ (by omega) hJ (fun p1 p2 p4 p5 hJ2 => ⟨⟨k, by omega, rfl, hJ2⟩, by show (nI k + (-1) + 1).toNatClampNeg < (nI k + 1).toNatClampNeg; rw [zm_m11, nI_1, nI_clamp (by omega), nI_clamp (by omega)]; omega⟩)
theorem zu5_4 {A1 A2 A3 A5 : Type} {bd : (A1 → A2 → A3 → Int32 → A5 → Prop) → A1 → A2 → A3 → Int32 → A5 → Prop} {i1 : A1} {i2 : A2} {i3 : A3} {i5 : A5} {c0 : Int32} (n : Nat) (hn : n < 2 ^ 31) (J : Nat → A1 → A2 → A3 → A5 → Prop) (k0 : Nat) (hc : c0 = nI k0) (hk0 : k0 ≤ n) (h0 : J k0 i1 i2 i3 i5) (hs : ∀ (k : Nat) (o1 : A1) (o2 : A2) (o3 : A3) (o5 : A5) (rec : A1 → A2 → A3 → Int32 → A5 → Prop), k ≤ n → J k o1 o2 o3 o5 → (∀ (p1 : A1) (p2 : A2) (p3 : A3) (p5 : A5), k < n → J (k + 1) p1 p2 p3 p5 → rec p1 p2 p3 (nI (k + 1)) p5) → bd rec o1 o2 o3 (nI k) o5) : zl5 bd i1 i2 i3 c0 i5 := by
  refine ⟨fun a1 a2 a3 a4 a5 => ∃ k : Nat, k ≤ n ∧ a4 = nI k ∧ J k a1 a2 a3 a5, fun a1 a2 a3 a4 a5 => n - a4.toNatClampNeg, ⟨k0, hk0, hc, h0⟩, ?_⟩
  rintro a1 a2 a3 a4 a5 ⟨k, hk, rfl, hJ⟩
  exact hs k a1 a2 a3 a5 _ hk hJ (fun p1 p2 p3 p5 hlt hJ2 => ⟨⟨k + 1, hlt, rfl, hJ2⟩, by show n - (nI (k + 1)).toNatClampNeg < n - (nI k).toNatClampNeg; rw [nI_clamp (by omega), nI_clamp (by omega)]; omega⟩)
theorem zd5_4 {A1 A2 A3 A5 : Type} {bd : (A1 → A2 → A3 → Int32 → A5 → Prop) → A1 → A2 → A3 → Int32 → A5 → Prop} {i1 : A1} {i2 : A2} {i3 : A3} {i5 : A5} {c0 : Int32} (n : Nat) (hn : n < 2 ^ 31) (J : Nat → A1 → A2 → A3 → A5 → Prop) (k0 : Nat) (hc : c0 = nI k0 + (-1)) (hk0 : k0 ≤ n) (h0 : J k0 i1 i2 i3 i5) (hz : ∀ (p1 : A1) (p2 : A2) (p3 : A3) (p5 : A5), ∀ rec : A1 → A2 → A3 → Int32 → A5 → Prop, J 0 p1 p2 p3 p5 → bd rec p1 p2 p3 (-1) p5) (hs : ∀ (k : Nat) (o1 : A1) (o2 : A2) (o3 : A3) (o5 : A5) (rec : A1 → A2 → A3 → Int32 → A5 → Prop), k < n → J (k + 1) o1 o2 o3 o5 → (∀ (p1 : A1) (p2 : A2) (p3 : A3) (p5 : A5), J k p1 p2 p3 p5 → rec p1 p2 p3 (nI k + (-1)) p5) → bd rec o1 o2 o3 (nI k) o5) : zl5 bd i1 i2 i3 c0 i5 := by
  refine ⟨fun a1 a2 a3 a4 a5 => ∃ k : Nat, k ≤ n ∧ a4 = nI k + (-1) ∧ J k a1 a2 a3 a5, fun a1 a2 a3 a4 a5 => (a4 + 1).toNatClampNeg, ⟨k0, hk0, hc, h0⟩, ?_⟩
  rintro a1 a2 a3 a4 a5 ⟨k, hk, rfl, hJ⟩
  cases k with
  | zero => exact hz a1 a2 a3 a5 _ hJ
  | succ k =>
    have e1 : nI (k + 1) + (-1) = nI k := pk_m1 k
    simp only [e1]
    exact hs k a1 a2 a3 a5 _ (by omega) hJ (fun p1 p2 p3 p5 hJ2 => ⟨⟨k, by omega, rfl, hJ2⟩, by show (nI k + (-1) + 1).toNatClampNeg < (nI k + 1).toNatClampNeg; rw [zm_m11, nI_1, nI_clamp (by omega), nI_clamp (by omega)]; omega⟩)
theorem zu5_5 {A1 A2 A3 A4 : Type} {bd : (A1 → A2 → A3 → A4 → Int32 → Prop) → A1 → A2 → A3 → A4 → Int32 → Prop} {i1 : A1} {i2 : A2} {i3 : A3} {i4 : A4} {c0 : Int32} (n : Nat) (hn : n < 2 ^ 31) (J : Nat → A1 → A2 → A3 → A4 → Prop) (k0 : Nat) (hc : c0 = nI k0) (hk0 : k0 ≤ n) (h0 : J k0 i1 i2 i3 i4) (hs : ∀ (k : Nat) (o1 : A1) (o2 : A2) (o3 : A3) (o4 : A4) (rec : A1 → A2 → A3 → A4 → Int32 → Prop), k ≤ n → J k o1 o2 o3 o4 → (∀ (p1 : A1) (p2 : A2) (p3 : A3) (p4 : A4), k < n → J (k + 1) p1 p2 p3 p4 → rec p1 p2 p3 p4 (nI (k + 1))) → bd rec o1 o2 o3 o4 (nI k)) : zl5 bd i1 i2 i3 i4 c0 := by
  refine ⟨fun a1 a2 a3 a4 a5 => ∃ k : Nat, k ≤ n ∧ a5 = nI k ∧ J k a1 a2 a3 a4, fun a1 a2 a3 a4 a5 => n - a5.toNatClampNeg, ⟨k0, hk0, hc, h0⟩, ?_⟩
  rintro a1 a2 a3 a4 a5 ⟨k, hk, rfl, hJ⟩
  exact hs k a1 a2 a3 a4 _ hk hJ (fun p1 p2 p3 p4 hlt hJ2 => ⟨⟨k + 1, hlt, rfl, hJ2⟩, by show n - (nI (k + 1)).toNatClampNeg < n - (nI k).toNatClampNeg; rw [nI_clamp (by omega), nI_clamp (by omega)]; omega⟩)
theorem zd5_5 {A1 A2 A3 A4 : Type} {bd : (A1 → A2 → A3 → A4 → Int32 → Prop) → A1 → A2 → A3 → A4 → Int32 → Prop} {i1 : A1} {i2 : A2} {i3 : A3} {i4 : A4} {c0 : Int32} (n : Nat) (hn : n < 2 ^ 31) (J : Nat → A1 → A2 → A3 → A4 → Prop) (k0 : Nat) (hc : c0 = nI k0 + (-1)) (hk0 : k0 ≤ n) (h0 : J k0 i1 i2 i3 i4) (hz : ∀ (p1 : A1) (p2 : A2) (p3 : A3) (p4 : A4), ∀ rec : A1 → A2 → A3 → A4 → Int32 → Prop, J 0 p1 p2 p3 p4 → bd rec p1 p2 p3 p4 (-1)) (hs : ∀ (k : Nat) (o1 : A1) (o2 : A2) (o3 : A3) (o4 : A4) (rec : A1 → A2 → A3 → A4 → Int32 → Prop), k < n → J (k + 1) o1 o2 o3 o4 → (∀ (p1 : A1) (p2 : A2) (p3 : A3) (p4 : A4), J k p1 p2 p3 p4 → rec p1 p2 p3 p4 (nI k + (-1))) → bd rec o1 o2 o3 o4 (nI k)) : zl5 bd i1 i2 i3 i4 c0 := by
  refine ⟨fun a1 a2 a3 a4 a5 => ∃ k : Nat, k ≤ n ∧ a5 = nI k + (-1) ∧ J k a1 a2 a3 a4, fun a1 a2 a3 a4 a5 => (a5 + 1).toNatClampNeg, ⟨k0, hk0, hc, h0⟩, ?_⟩
  rintro a1 a2 a3 a4 a5 ⟨k, hk, rfl, hJ⟩
  cases k with
  | zero => exact hz a1 a2 a3 a4 _ hJ
  | succ k =>
    have e1 : nI (k + 1) + (-1) = nI k := pk_m1 k
    simp only [e1]
    exact hs k a1 a2 a3 a4 _ (by omega) hJ (fun p1 p2 p3 p4 hJ2 => ⟨⟨k, by omega, rfl, hJ2⟩, by show (nI k + (-1) + 1).toNatClampNeg < (nI k + 1).toNatClampNeg; rw [zm_m11, nI_1, nI_clamp (by omega), nI_clamp (by omega)]; omega⟩)
theorem zu6_1 {A2 A3 A4 A5 A6 : Type} {bd : (Int32 → A2 → A3 → A4 → A5 → A6 → Prop) → Int32 → A2 → A3 → A4 → A5 → A6 → Prop} {i2 : A2} {i3 : A3} {i4 : A4} {i5 : A5} {i6 : A6} {c0 : Int32} (n : Nat) (hn : n < 2 ^ 31) (J : Nat → A2 → A3 → A4 → A5 → A6 → Prop) (k0 : Nat) (hc : c0 = nI k0) (hk0 : k0 ≤ n) (h0 : J k0 i2 i3 i4 i5 i6) (hs : ∀ (k : Nat) (o2 : A2) (o3 : A3) (o4 : A4) (o5 : A5) (o6 : A6) (rec : Int32 → A2 → A3 → A4 → A5 → A6 → Prop), k ≤ n → J k o2 o3 o4 o5 o6 → (∀ (p2 : A2) (p3 : A3) (p4 : A4) (p5 : A5) (p6 : A6), k < n → J (k + 1) p2 p3 p4 p5 p6 → rec (nI (k + 1)) p2 p3 p4 p5 p6) → bd rec (nI k) o2 o3 o4 o5 o6) : zl6 bd c0 i2 i3 i4 i5 i6 := by
  refine ⟨fun a1 a2 a3 a4 a5 a6 => ∃ k : Nat, k ≤ n ∧ a1 = nI k ∧ J k a2 a3 a4 a5 a6, fun a1 a2 a3 a4 a5 a6 => n - a1.toNatClampNeg, ⟨k0, hk0, hc, h0⟩, ?_⟩
  rintro a1 a2 a3 a4 a5 a6 ⟨k, hk, rfl, hJ⟩
  exact hs k a2 a3 a4 a5 a6 _ hk hJ (fun p2 p3 p4 p5 p6 hlt hJ2 => ⟨⟨k + 1, hlt, rfl, hJ2⟩, by show n - (nI (k + 1)).toNatClampNeg < n - (nI k).toNatClampNeg; rw [nI_clamp (by omega), nI_clamp (by omega)]; omega⟩)
theorem zd6_1 {A2 A3 A4 A5 A6 : Type} {bd : (Int32 → A2 → A3 → A4 → A5 → A6 → Prop) → Int32 → A2 → A3 → A4 → A5 → A6 → Prop} {i2 : A2} {i3 : A3} {i4 : A4} {i5 : A5} {i6 : A6} {c0 : Int32} (n : Nat) (hn : n < 2 ^ 31) (J : Nat → A2 → A3 → A4 → A5 → A6 → Prop) (k0 : Nat) (hc : c0 = nI k0 + (-1)) (hk0 : k0 ≤ n) (h0 : J k0 i2 i3 i4 i5 i6) (hz : ∀ (p2 : A2) (p3 : A3) (p4 : A4) (p5 : A5) (p6 : A6), ∀ rec : Int32 → A2 → A3 → A4 → A5 → A6 → Prop, J 0 p2 p3 p4 p5 p6 → bd rec (-1) p2 p3 p4 p5 p6) (hs : ∀ (k : Nat) (o2 : A2) (o3 : A3) (o4 : A4) (o5 : A5) (o6 : A6) (rec : Int32 → A2 → A3 → A4 → A5 → A6 → Prop), k < n → J (k + 1) o2 o3 o4 o5 o6 → (∀ (p2 : A2) (p3 : A3) (p4 : A4) (p5 : A5) (p6 : A6), J k p2 p3 p4 p5 p6 → rec (nI k + (-1)) p2 p3 p4 p5 p6) → bd rec (nI k) o2 o3 o4 o5 o6) : zl6 bd c0 i2 i3 i4 i5 i6 := by
  refine ⟨fun a1 a2 a3 a4 a5 a6 => ∃ k : Nat, k ≤ n ∧ a1 = nI k + (-1) ∧ J k a2 a3 a4 a5 a6, fun a1 a2 a3 a4 a5 a6 => (a1 + 1).toNatClampNeg, ⟨k0, hk0, hc, h0⟩, ?_⟩
  rintro a1 a2 a3 a4 a5 a6 ⟨k, hk, rfl, hJ⟩
  cases k with
  | zero => exact hz a2 a3 a4 a5 a6 _ hJ
  | succ k =>
    have e1 : nI (k + 1) + (-1) = nI k := pk_m1 k
    simp only [e1]
    exact hs k a2 a3 a4 a5 a6 _ (by omega) hJ (fun p2 p3 p4 p5 p6 hJ2 => ⟨⟨k, by omega, rfl, hJ2⟩, by show (nI k + (-1) + 1).toNatClampNeg < (nI k + 1).toNatClampNeg; rw [zm_m11, nI_1, nI_clamp (by omega), nI_clamp (by omega)]; omega⟩)
theorem zu6_2 {A1 A3 A4 A5 A6 : Type} {bd : (A1 → Int32 → A3 → A4 → A5 → A6 → Prop) → A1 → Int32 → A3 → A4 → A5 → A6 → Prop} {i1 : A1} {i3 : A3} {i4 : A4} {i5 : A5} {i6 : A6} {c0 : Int32} (n : Nat) (hn : n < 2 ^ 31) (J : Nat → A1 → A3 → A4 → A5 → A6 → Prop) (k0 : Nat) (hc : c0 = nI k0) (hk0 : k0 ≤ n) (h0 : J k0 i1 i3 i4 i5 i6) (hs : ∀ (k : Nat) (o1 : A1) (o3 : A3) (o4 : A4) (o5 : A5) (o6 : A6) (rec : A1 → Int32 → A3 → A4 → A5 → A6 → Prop), k ≤ n → J k o1 o3 o4 o5 o6 → (∀ (p1 : A1) (p3 : A3) (p4 : A4) (p5 : A5) (p6 : A6), k < n → J (k + 1) p1 p3 p4 p5 p6 → rec p1 (nI (k + 1)) p3 p4 p5 p6) → bd rec o1 (nI k) o3 o4 o5 o6) : zl6 bd i1 c0 i3 i4 i5 i6 := by
  refine ⟨fun a1 a2 a3 a4 a5 a6 => ∃ k : Nat, k ≤ n ∧ a2 = nI k ∧ J k a1 a3 a4 a5 a6, fun a1 a2 a3 a4 a5 a6 => n - a2.toNatClampNeg, ⟨k0, hk0, hc, h0⟩, ?_⟩
  rintro a1 a2 a3 a4 a5 a6 ⟨k, hk, rfl, hJ⟩
  exact hs k a1 a3 a4 a5 a6 _ hk hJ (fun p1 p3 p4 p5 p6 hlt hJ2 => ⟨⟨k + 1, hlt, rfl, hJ2⟩, by show n - (nI (k + 1)).toNatClampNeg < n - (nI k).toNatClampNeg; rw [nI_clamp (by omega), nI_clamp (by omega)]; omega⟩)
theorem zd6_2 {A1 A3 A4 A5 A6 : Type} {bd : (A1 → Int32 → A3 → A4 → A5 → A6 → Prop) → A1 → Int32 → A3 → A4 → A5 → A6 → Prop} {i1 : A1} {i3 : A3} {i4 : A4} {i5 : A5} {i6 : A6} {c0 : Int32} (n : Nat) (hn : n < 2 ^ 31) (J : Nat → A1 → A3 → A4 → A5 → A6 → Prop) (k0 : Nat) (hc : c0 = nI k0 + (-1)) (hk0 : k0 ≤ n) (h0 : J k0 i1 i3 i4 i5 i6) (hz : ∀ (p1 : A1) (p3 : A3) (p4 : A4) (p5 : A5) (p6 : A6), ∀ rec : A1 → Int32 → A3 → A4 → A5 → A6 → Prop, J 0 p1 p3 p4 p5 p6 → bd rec p1 (-1) p3 p4 p5 p6) (hs : ∀ (k : Nat) (o1 : A1) (o3 : A3) (o4 : A4) (o5 : A5) (o6 : A6) (rec : A1 → Int32 → A3 → A4 → A5 → A6 → Prop), k < n → J (k + 1) o1 o3 o4 o5 o6 → (∀ (p1 : A1) (p3 : A3) (p4 : A4) (p5 : A5) (p6 : A6), J k p1 p3 p4 p5 p6 → rec p1 (nI k + (-1)) p3 p4 p5 p6) → bd rec o1 (nI k) o3 o4 o5 o6) : zl6 bd i1 c0 i3 i4 i5 i6 := by
  refine ⟨fun a1 a2 a3 a4 a5 a6 => ∃ k : Nat, k ≤ n ∧ a2 = nI k + (-1) ∧ J k a1 a3 a4 a5 a6, fun a1 a2 a3 a4 a5 a6 => (a2 + 1).toNatClampNeg, ⟨k0, hk0, hc, h0⟩, ?_⟩
  rintro a1 a2 a3 a4 a5 a6 ⟨k, hk, rfl, hJ⟩
  cases k with
  | zero => exact hz a1 a3 a4 a5 a6 _ hJ
  | succ k =>
    have e1 : nI (k + 1) + (-1) = nI k := pk_m1 k
    simp only [e1]
    exact hs k a1 a3 a4 a5 a6 _ (by omega) hJ (fun p1 p3 p4 p5 p6 hJ2 => ⟨⟨k, by omega, rfl, hJ2⟩, by show (nI k + (-1) + 1).toNatClampNeg < (nI k + 1).toNatClampNeg; rw [zm_m11, nI_1, nI_clamp (by omega), nI_clamp (by omega)]; omega⟩)
theorem zu6_3 {A1 A2 A4 A5 A6 : Type} {bd : (A1 → A2 → Int32 → A4 → A5 → A6 → Prop) → A1 → A2 → Int32 → A4 → A5 → A6 → Prop} {i1 : A1} {i2 : A2} {i4 : A4} {i5 : A5} {i6 : A6} {c0 : Int32} (n : Nat) (hn : n < 2 ^ 31) (J : Nat → A1 → A2 → A4 → A5 → A6 → Prop) (k0 : Nat) (hc : c0 = nI k0) (hk0 : k0 ≤ n) (h0 : J k0 i1 i2 i4 i5 i6) (hs : ∀ (k : Nat) (o1 : A1) (o2 : A2) (o4 : A4) (o5 : A5) (o6 : A6) (rec : A1 → A2 → Int32 → A4 → A5 → A6 → Prop), k ≤ n → J k o1 o2 o4 o5 o6 → (∀ (p1 : A1) (p2 : A2) (p4 : A4) (p5 : A5) (p6 : A6), k < n → J (k + 1) p1 p2 p4 p5 p6 → rec p1 p2 (nI (k + 1)) p4 p5 p6) → bd rec o1 o2 (nI k) o4 o5 o6) : zl6 bd i1 i2 c0 i4 i5 i6 := by
  refine ⟨fun a1 a2 a3 a4 a5 a6 => ∃ k : Nat, k ≤ n ∧ a3 = nI k ∧ J k a1 a2 a4 a5 a6, fun a1 a2 a3 a4 a5 a6 => n - a3.toNatClampNeg, ⟨k0, hk0, hc, h0⟩, ?_⟩
  rintro a1 a2 a3 a4 a5 a6 ⟨k, hk, rfl, hJ⟩
  exact hs k a1 a2 a4 a5 a6 _ hk hJ (fun p1 p2 p4 p5 p6 hlt hJ2 => ⟨⟨k + 1, hlt, rfl, hJ2⟩, by show n - (nI (k + 1)).toNatClampNeg < n - (nI k).toNatClampNeg; rw [nI_clamp (by omega), nI_clamp (by omega)]; omega⟩)
theorem zd6_3 {A1 A2 A4 A5 A6 : Type} {bd : (A1 → A2 → Int32 → A4 → A5 → A6 → Prop) → A1 → A2 → Int32 → A4 → A5 → A6 → Prop} {i1 : A1} {i2 : A2} {i4 : A4} {i5 : A5} {i6 : A6} {c0 : Int32} (n : Nat) (hn : n < 2 ^ 31) (J : Nat → A1 → A2 → A4 → A5 → A6 → Prop) (k0 : Nat) (hc : c0 = nI k0 + (-1)) (hk0 : k0 ≤ n) (h0 : J k0 i1 i2 i4 i5 i6) (hz : ∀ (p1 : A1) (p2 : A2) (p4 : A4) (p5 : A5) (p6 : A6), ∀ rec : A1 → A2 → Int32 → A4 → A5 → A6 → Prop, J 0 p1 p2 p4 p5 p6 → bd rec p1 p2 (-1) p4 p5 p6) (hs : ∀ (k : Nat) (o1 : A1) (o2 : A2) (o4 : A4) (o5 : A5) (o6 : A6) (rec : A1 → A2 → Int32 → A4 → A5 → A6 → Prop), k < n → J (k + 1) o1 o2 o4 o5 o6 → (∀ (p1 : A1) (p2 : A2) (p4 : A4) (p5 : A5) (p6 : A6), J k p1 p2 p4 p5 p6 → rec p1 p2 (nI k + (-1)) p4 p5 p6) → bd rec o1 o2 (nI k) o4 o5 o6) : zl6 bd i1 i2 c0 i4 i5 i6 := by
  refine ⟨fun a1 a2 a3 a4 a5 a6 => ∃ k : Nat, k ≤ n ∧ a3 = nI k + (-1) ∧ J k a1 a2 a4 a5 a6, fun a1 a2 a3 a4 a5 a6 => (a3 + 1).toNatClampNeg, ⟨k0, hk0, hc, h0⟩, ?_⟩
  rintro a1 a2 a3 a4 a5 a6 ⟨k, hk, rfl, hJ⟩
  cases k with
  | zero => exact hz a1 a2 a4 a5 a6 _ hJ
  | succ k =>
    have e1 : nI (k + 1) + (-1) = nI k := pk_m1 k
    simp only [e1]
    exact hs k a1 a2 a4 a5 a6 _ (by omega) hJ (fun p1 p2 p4 p5 p6 hJ2 => ⟨⟨k, by omega, rfl, hJ2⟩, by show (nI k + (-1) + 1).toNatClampNeg < (nI k + 1).toNatClampNeg; rw [zm_m11, nI_1, nI_clamp (by omega), nI_clamp (by omega)]; omega⟩)
theorem zu6_4 {A1 A2 A3 A5 A6 : Type} {bd : (A1 → A2 → A3 → Int32 → A5 → A6 → Prop) → A1 → A2 → A3 → Int32 → A5 → A6 → Prop} {i1 : A1} {i2 : A2} {i3 : A3} {i5 : A5} {i6 : A6} {c0 : Int32} (n : Nat) (hn : n < 2 ^ 31) (J : Nat → A1 → A2 → A3 → A5 → A6 → Prop) (k0 : Nat) (hc : c0 = nI k0) (hk0 : k0 ≤ n) (h0 : J k0 i1 i2 i3 i5 i6) (hs : ∀ (k : Nat) (o1 : A1) (o2 : A2) (o3 : A3) (o5 : A5) (o6 : A6) (rec : A1 → A2 → A3 → Int32 → A5 → A6 → Prop), k ≤ n → J k o1 o2 o3 o5 o6 → (∀ (p1 : A1) (p2 : A2) (p3 : A3) (p5 : A5) (p6 : A6), k < n → J (k + 1) p1 p2 p3 p5 p6 → rec p1 p2 p3 (nI (k + 1)) p5 p6) → bd rec o1 o2 o3 (nI k) o5 o6) : zl6 bd i1 i2 i3 c0 i5 i6 := by
  refine ⟨fun a1 a2 a3 a4 a5 a6 => ∃ k : Nat, k ≤ n ∧ a4 = nI k ∧ J k a1 a2 a3 a5 a6, fun a1 a2 a3 a4 a5 a6 => n - a4.toNatClampNeg, ⟨k0, hk0, hc, h0⟩, ?_⟩
  rintro a1 a2 a3 a4 a5 a6 ⟨k, hk, rfl, hJ⟩
  exact hs k a1 a2 a3 a5 a6 _ hk hJ (fun p1 p2 p3 p5 p6 hlt hJ2 => ⟨⟨k + 1, hlt, rfl, hJ2⟩, by show n - (nI (k + 1)).toNatClampNeg < n - (nI k).toNatClampNeg; rw [nI_clamp (by omega), nI_clamp (by omega)]; omega⟩)
theorem zd6_4 {A1 A2 A3 A5 A6 : Type} {bd : (A1 → A2 → A3 → Int32 → A5 → A6 → Prop) → A1 → A2 → A3 → Int32 → A5 → A6 → Prop} {i1 : A1} {i2 : A2} {i3 : A3} {i5 : A5} {i6 : A6} {c0 : Int32} (n : Nat) (hn : n < 2 ^ 31) (J : Nat → A1 → A2 → A3 → A5 → A6 → Prop) (k0 : Nat) (hc : c0 = nI k0 + (-1)) (hk0 : k0 ≤ n) (h0 : J k0 i1 i2 i3 i5 i6) (hz : ∀ (p1 : A1) (p2 : A2) (p3 : A3) (p5 : A5) (p6 : A6), ∀ rec : A1 → A2 → A3 → Int32 → A5 → A6 → Prop, J 0 p1 p2 p3 p5 p6 → bd rec p1 p2 p3 (-1) p5 p6) (hs : ∀ (k : Nat) (o1 : A1) (o2 : A2) (o3 : A3) (o5 : A5) (o6 : A6) (rec : A1 → A2 → A3 → Int32 → A5 → A6 → Prop), k < n → J (k + 1) o1 o2 o3 o5 o6 → (∀ (p1 : A1) (p2 : A2) (p3 : A3) (p5 : A5) (p6 : A6), J k p1 p2 p3 p5 p6 → rec p1 p2 p3 (nI k + (-1)) p5 p6) → bd rec o1 o2 o3 (nI k) o5 o6) : zl6 bd i1 i2 i3 c0 i5 i6 := by
  refine ⟨fun a1 a2 a3 a4 a5 a6 => ∃ k : Nat, k ≤ n ∧ a4 = nI k + (-1) ∧ J k a1 a2 a3 a5 a6, fun a1 a2 a3 a4 a5 a6 => (a4 + 1).toNatClampNeg, ⟨k0, hk0, hc, h0⟩, ?_⟩
  rintro a1 a2 a3 a4 a5 a6 ⟨k, hk, rfl, hJ⟩
  cases k with
  | zero => exact hz a1 a2 a3 a5 a6 _ hJ
  | succ k =>
    have e1 : nI (k + 1) + (-1) = nI k := pk_m1 k
    simp only [e1]
    exact hs k a1 a2 a3 a5 a6 _ (by omega) hJ (fun p1 p2 p3 p5 p6 hJ2 => ⟨⟨k, by omega, rfl, hJ2⟩, by show (nI k + (-1) + 1).toNatClampNeg < (nI k + 1).toNatClampNeg; rw [zm_m11, nI_1, nI_clamp (by omega), nI_clamp (by omega)]; omega⟩)
theorem zu6_5 {A1 A2 A3 A4 A6 : Type} {bd : (A1 → A2 → A3 → A4 → Int32 → A6 → Prop) → A1 → A2 → A3 → A4 → Int32 → A6 → Prop} {i1 : A1} {i2 : A2} {i3 : A3} {i4 : A4} {i6 : A6} {c0 : Int32} (n : Nat) (hn : n < 2 ^ 31) (J : Nat → A1 → A2 → A3 → A4 → A6 → Prop) (k0 : Nat) (hc : c0 = nI k0) (hk0 : k0 ≤ n) (h0 : J k0 i1 i2 i3 i4 i6) (hs : ∀ (k : Nat) (o1 : A1) (o2 : A2) (o3 : A3) (o4 : A4) (o6 : A6) (rec : A1 → A2 → A3 → A4 → Int32 → A6 → Prop), k ≤ n → J k o1 o2 o3 o4 o6 → (∀ (p1 : A1) (p2 : A2) (p3 : A3) (p4 : A4) (p6 : A6), k < n → J (k + 1) p1 p2 p3 p4 p6 → rec p1 p2 p3 p4 (nI (k + 1)) p6) → bd rec o1 o2 o3 o4 (nI k) o6) : zl6 bd i1 i2 i3 i4 c0 i6 := by
  refine ⟨fun a1 a2 a3 a4 a5 a6 => ∃ k : Nat, k ≤ n ∧ a5 = nI k ∧ J k a1 a2 a3 a4 a6, fun a1 a2 a3 a4 a5 a6 => n - a5.toNatClampNeg, ⟨k0, hk0, hc, h0⟩, ?_⟩
  rintro a1 a2 a3 a4 a5 a6 ⟨k, hk, rfl, hJ⟩
  exact hs k a1 a2 a3 a4 a6 _ hk hJ (fun p1 p2 p3 p4 p6 hlt hJ2 => ⟨⟨k + 1, hlt, rfl, hJ2⟩, by show n - (nI (k + 1)).toNatClampNeg < n - (nI k).toNatClampNeg; rw [nI_clamp (by omega), nI_clamp (by omega)]; omega⟩)
theorem zd6_5 {A1 A2 A3 A4 A6 : Type} {bd : (A1 → A2 → A3 → A4 → Int32 → A6 → Prop) → A1 → A2 → A3 → A4 → Int32 → A6 → Prop} {i1 : A1} {i2 : A2} {i3 : A3} {i4 : A4} {i6 : A6} {c0 : Int32} (n : Nat) (hn : n < 2 ^ 31) (J : Nat → A1 → A2 → A3 → A4 → A6 → Prop) (k0 : Nat) (hc : c0 = nI k0 + (-1)) (hk0 : k0 ≤ n) (h0 : J k0 i1 i2 i3 i4 i6) (hz : ∀ (p1 : A1) (p2 : A2) (p3 : A3) (p4 : A4) (p6 : A6), ∀ rec : A1 → A2 → A3 → A4 → Int32 → A6 → Prop, J 0 p1 p2 p3 p4 p6 → bd rec p1 p2 p3 p4 (-1) p6) (hs : ∀ (k : Nat) (o1 : A1) (o2 : A2) (o3 : A3) (o4 : A4) (o6 : A6) (rec : A1 → A2 → A3 → A4 → Int32 → A6 → Prop), k < n → J (k + 1) o1 o2 o3 o4 o6 → (∀ (p1 : A1) (p2 : A2) (p3 : A3) (p4 : A4) (p6 : A6), J k p1 p2 p3 p4 p6 → rec p1 p2 p3 p4 (nI k + (-1)) p6) → bd rec o1 o2 o3 o4 (nI k) o6) : zl6 bd i1 i2 i3 i4 c0 i6 := by
  refine ⟨fun a1 a2 a3 a4 a5 a6 => ∃ k : Nat, k ≤ n ∧ a5 = nI k + (-1) ∧ J k a1 a2 a3 a4 a6, fun a1 a2 a3 a4 a5 a6 => (a5 + 1).toNatClampNeg, ⟨k0, hk0, hc, h0⟩, ?_⟩
  rintro a1 a2 a3 a4 a5 a6 ⟨k, hk, rfl, hJ⟩
  cases k with
  | zero => exact hz a1 a2 a3 a4 a6 _ hJ
  | succ k =>
    have e1 : nI (k + 1) + (-1) = nI k := pk_m1 k
    simp only [e1]
    exact hs k a1 a2 a3 a4 a6 _ (by omega) hJ (fun p1 p2 p3 p4 p6 hJ2 => ⟨⟨k, by omega, rfl, hJ2⟩, by show (nI k + (-1) + 1).toNatClampNeg < (nI k + 1).toNatClampNeg; rw [zm_m11, nI_1, nI_clamp (by omega), nI_clamp (by omega)]; omega⟩)
theorem zu6_6 {A1 A2 A3 A4 A5 : Type} {bd : (A1 → A2 → A3 → A4 → A5 → Int32 → Prop) → A1 → A2 → A3 → A4 → A5 → Int32 → Prop} {i1 : A1} {i2 : A2} {i3 : A3} {i4 : A4} {i5 : A5} {c0 : Int32} (n : Nat) (hn : n < 2 ^ 31) (J : Nat → A1 → A2 → A3 → A4 → A5 → Prop) (k0 : Nat) (hc : c0 = nI k0) (hk0 : k0 ≤ n) (h0 : J k0 i1 i2 i3 i4 i5) (hs : ∀ (k : Nat) (o1 : A1) (o2 : A2) (o3 : A3) (o4 : A4) (o5 : A5) (rec : A1 → A2 → A3 → A4 → A5 → Int32 → Prop), k ≤ n → J k o1 o2 o3 o4 o5 → (∀ (p1 : A1) (p2 : A2) (p3 : A3) (p4 : A4) (p5 : A5), k < n → J (k + 1) p1 p2 p3 p4 p5 → rec p1 p2 p3 p4 p5 (nI (k + 1))) → bd rec o1 o2 o3 o4 o5 (nI k)) : zl6 bd i1 i2 i3 i4 i5 c0 := by
  refine ⟨fun a1 a2 a3 a4 a5 a6 => ∃ k : Nat, k ≤ n ∧ a6 = nI k ∧ J k a1 a2 a3 a4 a5, fun a1 a2 a3 a4 a5 a6 => n - a6.toNatClampNeg, ⟨k0, hk0, hc, h0⟩, ?_⟩
  rintro a1 a2 a3 a4 a5 a6 ⟨k, hk, rfl, hJ⟩
  exact hs k a1 a2 a3 a4 a5 _ hk hJ (fun p1 p2 p3 p4 p5 hlt hJ2 => ⟨⟨k + 1, hlt, rfl, hJ2⟩, by show n - (nI (k + 1)).toNatClampNeg < n - (nI k).toNatClampNeg; rw [nI_clamp (by omega), nI_clamp (by omega)]; omega⟩)
theorem zd6_6 {A1 A2 A3 A4 A5 : Type} {bd : (A1 → A2 → A3 → A4 → A5 → Int32 → Prop) → A1 → A2 → A3 → A4 → A5 → Int32 → Prop} {i1 : A1} {i2 : A2} {i3 : A3} {i4 : A4} {i5 : A5} {c0 : Int32} (n : Nat) (hn : n < 2 ^ 31) (J : Nat → A1 → A2 → A3 → A4 → A5 → Prop) (k0 : Nat) (hc : c0 = nI k0 + (-1)) (hk0 : k0 ≤ n) (h0 : J k0 i1 i2 i3 i4 i5) (hz : ∀ (p1 : A1) (p2 : A2) (p3 : A3) (p4 : A4) (p5 : A5), ∀ rec : A1 → A2 → A3 → A4 → A5 → Int32 → Prop, J 0 p1 p2 p3 p4 p5 → bd rec p1 p2 p3 p4 p5 (-1)) (hs : ∀ (k : Nat) (o1 : A1) (o2 : A2) (o3 : A3) (o4 : A4) (o5 : A5) (rec : A1 → A2 → A3 → A4 → A5 → Int32 → Prop), k < n → J (k + 1) o1 o2 o3 o4 o5 → (∀ (p1 : A1) (p2 : A2) (p3 : A3) (p4 : A4) (p5 : A5), J k p1 p2 p3 p4 p5 → rec p1 p2 p3 p4 p5 (nI k + (-1))) → bd rec o1 o2 o3 o4 o5 (nI k)) : zl6 bd i1 i2 i3 i4 i5 c0 := by
  refine ⟨fun a1 a2 a3 a4 a5 a6 => ∃ k : Nat, k ≤ n ∧ a6 = nI k + (-1) ∧ J k a1 a2 a3 a4 a5, fun a1 a2 a3 a4 a5 a6 => (a6 + 1).toNatClampNeg, ⟨k0, hk0, hc, h0⟩, ?_⟩
  rintro a1 a2 a3 a4 a5 a6 ⟨k, hk, rfl, hJ⟩
  cases k with
  | zero => exact hz a1 a2 a3 a4 a5 _ hJ
  | succ k =>
    have e1 : nI (k + 1) + (-1) = nI k := pk_m1 k
    simp only [e1]
    exact hs k a1 a2 a3 a4 a5 _ (by omega) hJ (fun p1 p2 p3 p4 p5 hJ2 => ⟨⟨k, by omega, rfl, hJ2⟩, by show (nI k + (-1) + 1).toNatClampNeg < (nI k + 1).toNatClampNeg; rw [zm_m11, nI_1, nI_clamp (by omega), nI_clamp (by omega)]; omega⟩)
theorem zu7_1 {A2 A3 A4 A5 A6 A7 : Type} {bd : (Int32 → A2 → A3 → A4 → A5 → A6 → A7 → Prop) → Int32 → A2 → A3 → A4 → A5 → A6 → A7 → Prop} {i2 : A2} {i3 : A3} {i4 : A4} {i5 : A5} {i6 : A6} {i7 : A7} {c0 : Int32} (n : Nat) (hn : n < 2 ^ 31) (J : Nat → A2 → A3 → A4 → A5 → A6 → A7 → Prop) (k0 : Nat) (hc : c0 = nI k0) (hk0 : k0 ≤ n) (h0 : J k0 i2 i3 i4 i5 i6 i7) (hs : ∀ (k : Nat) (o2 : A2) (o3 : A3) (o4 : A4) (o5 : A5) (o6 : A6) (o7 : A7) (rec : Int32 → A2 → A3 → A4 → A5 → A6 → A7 → Prop), k ≤ n → J k o2 o3 o4 o5 o6 o7 → (∀ (p2 : A2) (p3 : A3) (p4 : A4) (p5 : A5) (p6 : A6) (p7 : A7), k < n → J (k + 1) p2 p3 p4 p5 p6 p7 → rec (nI (k + 1)) p2 p3 p4 p5 p6 p7) → bd rec (nI k) o2 o3 o4 o5 o6 o7) : zl7 bd c0 i2 i3 i4 i5 i6 i7 := by
  refine ⟨fun a1 a2 a3 a4 a5 a6 a7 => ∃ k : Nat, k ≤ n ∧ a1 = nI k ∧ J k a2 a3 a4 a5 a6 a7, fun a1 a2 a3 a4 a5 a6 a7 => n - a1.toNatClampNeg, ⟨k0, hk0, hc, h0⟩, ?_⟩
  rintro a1 a2 a3 a4 a5 a6 a7 ⟨k, hk, rfl, hJ⟩
  exact hs k a2 a3 a4 a5 a6 a7 _ hk hJ (fun p2 p3 p4 p5 p6 p7 hlt hJ2 => ⟨⟨k + 1, hlt, rfl, hJ2⟩, by show n - (nI (k + 1)).toNatClampNeg < n - (nI k).toNatClampNeg; rw [nI_clamp (by omega), nI_clamp (by omega)]; omega⟩)
theorem zd7_1 {A2 A3 A4 A5 A6 A7 : Type} {bd : (Int32 → A2 → A3 → A4 → A5 → A6 → A7 → Prop) → Int32 → A2 → A3 → A4 → A5 → A6 → A7 → Prop} {i2 : A2} {i3 : A3} {i4 : A4} {i5 : A5} {i6 : A6} {i7 : A7} {c0 : Int32} (n : Nat) (hn : n < 2 ^ 31) (J : Nat → A2 → A3 → A4 → A5 → A6 → A7 → Prop) (k0 : Nat) (hc : c0 = nI k0 + (-1)) (hk0 : k0 ≤ n) (h0 : J k0 i2 i3 i4 i5 i6 i7) (hz : ∀ (p2 : A2) (p3 : A3) (p4 : A4) (p5 : A5) (p6 : A6) (p7 : A7), ∀ rec : Int32 → A2 → A3 → A4 → A5 → A6 → A7 → Prop, J 0 p2 p3 p4 p5 p6 p7 → bd rec (-1) p2 p3 p4 p5 p6 p7) (hs : ∀ (k : Nat) (o2 : A2) (o3 : A3) (o4 : A4) (o5 : A5) (o6 : A6) (o7 : A7) (rec : Int32 → A2 → A3 → A4 → A5 → A6 → A7 → Prop), k < n → J (k + 1) o2 o3 o4 o5 o6 o7 → (∀ (p2 : A2) (p3 : A3) (p4 : A4) (p5 : A5) (p6 : A6) (p7 : A7), J k p2 p3 p4 p5 p6 p7 → rec (nI k + (-1)) p2 p3 p4 p5 p6 p7) → bd rec (nI k) o2 o3 o4 o5 o6 o7) : zl7 bd c0 i2 i3 i4 i5 i6 i7 := by
  refine ⟨fun a1 a2 a3 a4 a5 a6 a7 => ∃ k : Nat, k ≤ n ∧ a1 = nI k + (-1) ∧ J k a2 a3 a4 a5 a6 a7, fun a1 a2 a3 a4 a5 a6 a7 => (a1 + 1).toNatClampNeg, ⟨k0, hk0, hc, h0⟩, ?_⟩
  rintro a1 a2 a3 a4 a5 a6 a7 ⟨k, hk, rfl, hJ⟩
  cases k with
  | zero => exact hz a2 a3 a4 a5 a6 a7 _ hJ
  | succ k =>
    have e1 : nI (k + 1) + (-1) = nI k := pk_m1 k
    simp only [e1]
    exact hs k a2 a3 a4 a5 a6 a7 _ (by omega) hJ (fun p2 p3 p4 p5 p6 p7 hJ2 => ⟨⟨k, by omega, rfl, hJ2⟩, by show (nI k + (-1) + 1).toNatClampNeg < (nI k + 1).toNatClampNeg; rw [zm_m11, nI_1, nI_clamp (by omega), nI_clamp (by omega)]; omega⟩)
theorem zu7_2 {A1 A3 A4 A5 A6 A7 : Type} {bd : (A1 → Int32 → A3 → A4 → A5 → A6 → A7 → Prop) → A1 → Int32 → A3 → A4 → A5 → A6 → A7 → Prop} {i1 : A1} {i3 : A3} {i4 : A4} {i5 : A5} {i6 : A6} {i7 : A7} {c0 : Int32} (n : Nat) (hn : n < 2 ^ 31) (J : Nat → A1 → A3 → A4 → A5 → A6 → A7 → Prop) (k0 : Nat) (hc : c0 = nI k0) (hk0 : k0 ≤ n) (h0 : J k0 i1 i3 i4 i5 i6 i7) (hs : ∀ (k : Nat) (o1 : A1) (o3 : A3) (o4 : A4) (o5 : A5) (o6 : A6) (o7 : A7) (rec : A1 → Int32 → A3 → A4 → A5 → A6 → A7 → Prop), k ≤ n → J k o1 o3 o4 o5 o6 o7 → (∀ (p1 : A1) (p3 : A3) (p4 : A4) (p5 : A5) (p6 : A6) (p7 : A7), k < n → J (k + 1) p1 p3 p4 p5 p6 p7 → rec p1 (nI (k + 1)) p3 p4 p5 p6 p7) → bd rec o1 (nI k) o3 o4 o5 o6 o7) : zl7 bd i1 c0 i3 i4 i5 i6 i7 := by
  refine ⟨fun a1 a2 a3 a4 a5 a6 a7 => ∃ k : Nat, k ≤ n ∧ a2 = nI k ∧ J k a1 a3 a4 a5 a6 a7, fun a1 a2 a3 a4 a5 a6 a7 => n - a2.toNatClampNeg, ⟨k0, hk0, hc, h0⟩, ?_⟩
  rintro a1 a2 a3 a4 a5 a6 a7 ⟨k, hk, rfl, hJ⟩
  exact hs k a1 a3 a4 a5 a6 a7 _ hk hJ (fun p1 p3 p4 p5 p6 p7 hlt hJ2 => ⟨⟨k + 1, hlt, rfl, hJ2⟩, by show n - (nI (k + 1)).toNatClampNeg < n - (nI k).toNatClampNeg; rw [nI_clamp (by omega), nI_clamp (by omega)]; omega⟩)
theorem zd7_2 {A1 A3 A4 A5 A6 A7 : Type} {bd : (A1 → Int32 → A3 → A4 → A5 → A6 → A7 → Prop) → A1 → Int32 → A3 → A4 → A5 → A6 → A7 → Prop} {i1 : A1} {i3 : A3} {i4 : A4} {i5 : A5} {i6 : A6} {i7 : A7} {c0 : Int32} (n : Nat) (hn : n < 2 ^ 31) (J : Nat → A1 → A3 → A4 → A5 → A6 → A7 → Prop) (k0 : Nat) (hc : c0 = nI k0 + (-1)) (hk0 : k0 ≤ n) (h0 : J k0 i1 i3 i4 i5 i6 i7) (hz : ∀ (p1 : A1) (p3 : A3) (p4 : A4) (p5 : A5) (p6 : A6) (p7 : A7), ∀ rec : A1 → Int32 → A3 → A4 → A5 → A6 → A7 → Prop, J 0 p1 p3 p4 p5 p6 p7 → bd rec p1 (-1) p3 p4 p5 p6 p7) (hs : ∀ (k : Nat) (o1 : A1) (o3 : A3) (o4 : A4) (o5 : A5) (o6 : A6) (o7 : A7) (rec : A1 → Int32 → A3 → A4 → A5 → A6 → A7 → Prop), k < n → J (k + 1) o1 o3 o4 o5 o6 o7 → (∀ (p1 : A1) (p3 : A3) (p4 : A4) (p5 : A5) (p6 : A6) (p7 : A7), J k p1 p3 p4 p5 p6 p7 → rec p1 (nI k + (-1)) p3 p4 p5 p6 p7) → bd rec o1 (nI k) o3 o4 o5 o6 o7) : zl7 bd i1 c0 i3 i4 i5 i6 i7 := by
  refine ⟨fun a1 a2 a3 a4 a5 a6 a7 => ∃ k : Nat, k ≤ n ∧ a2 = nI k + (-1) ∧ J k a1 a3 a4 a5 a6 a7, fun a1 a2 a3 a4 a5 a6 a7 => (a2 + 1).toNatClampNeg, ⟨k0, hk0, hc, h0⟩, ?_⟩
  rintro a1 a2 a3 a4 a5 a6 a7 ⟨k, hk, rfl, hJ⟩
  cases k with
  | zero => exact hz a1 a3 a4 a5 a6 a7 _ hJ
  | succ k =>
    have e1 : nI (k + 1) + (-1) = nI k := pk_m1 k
    simp only [e1]
    exact hs k a1 a3 a4 a5 a6 a7 _ (by omega) hJ (fun p1 p3 p4 p5 p6 p7 hJ2 => ⟨⟨k, by omega, rfl, hJ2⟩, by show (nI k + (-1) + 1).toNatClampNeg < (nI k + 1).toNatClampNeg; rw [zm_m11, nI_1, nI_clamp (by omega), nI_clamp (by omega)]; omega⟩)
theorem zu7_3 {A1 A2 A4 A5 A6 A7 : Type} {bd : (A1 → A2 → Int32 → A4 → A5 → A6 → A7 → Prop) → A1 → A2 → Int32 → A4 → A5 → A6 → A7 → Prop} {i1 : A1} {i2 : A2} {i4 : A4} {i5 : A5} {i6 : A6} {i7 : A7} {c0 : Int32} (n : Nat) (hn : n < 2 ^ 31) (J : Nat → A1 → A2 → A4 → A5 → A6 → A7 → Prop) (k0 : Nat) (hc : c0 = nI k0) (hk0 : k0 ≤ n) (h0 : J k0 i1 i2 i4 i5 i6 i7) (hs : ∀ (k : Nat) (o1 : A1) (o2 : A2) (o4 : A4) (o5 : A5) (o6 : A6) (o7 : A7) (rec : A1 → A2 → Int32 → A4 → A5 → A6 → A7 → Prop), k ≤ n → J k o1 o2 o4 o5 o6 o7 → (∀ (p1 : A1) (p2 : A2) (p4 : A4) (p5 : A5) (p6 : A6) (p7 : A7), k < n → J (k + 1) p1 p2 p4 p5 p6 p7 → rec p1 p2 (nI (k + 1)) p4 p5 p6 p7) → bd rec o1 o2 (nI k) o4 o5 o6 o7) : zl7 bd i1 i2 c0 i4 i5 i6 i7 := by
  refine ⟨fun a1 a2 a3 a4 a5 a6 a7 => ∃ k : Nat, k ≤ n ∧ a3 = nI k ∧ J k a1 a2 a4 a5 a6 a7, fun a1 a2 a3 a4 a5 a6 a7 => n - a3.toNatClampNeg, ⟨k0, hk0, hc, h0⟩, ?_⟩
  rintro a1 a2 a3 a4 a5 a6 a7 ⟨k, hk, rfl, hJ⟩
  exact hs k a1 a2 a4 a5 a6 a7 _ hk hJ (fun p1 p2 p4 p5 p6 p7 hlt hJ2 => ⟨⟨k + 1, hlt, rfl, hJ2⟩, by show n - (nI (k + 1)).toNatClampNeg < n - (nI k).toNatClampNeg; rw [nI_clamp (by omega), nI_clamp (by omega)]; omega⟩)
theorem zd7_3 {A1 A2 A4 A5 A6 A7 : Type} {bd : (A1 → A2 → Int32 → A4 → A5 → A6 → A7 → Prop) → A1 → A2 → Int32 → A4 → A5 → A6 → A7 → Prop} {i1 : A1} {i2 : A2} {i4 : A4} {i5 : A5} {i6 : A6} {i7 : A7} {c0 : Int32} (n : Nat) (hn : n < 2 ^ 31) (J : Nat → A1 → A2 → A4 → A5 → A6 → A7 → Prop) (k0 : Nat) (hc : c0 = nI k0 + (-1)) (hk0 : k0 ≤ n) (h0 : J k0 i1 i2 i4 i5 i6 i7) (hz : ∀ (p1 : A1) (p2 : A2) (p4 : A4) (p5 : A5) (p6 : A6) (p7 : A7), ∀ rec : A1 → A2 → Int32 → A4 → A5 → A6 → A7 → Prop, J 0 p1 p2 p4 p5 p6 p7 → bd rec p1 p2 (-1) p4 p5 p6 p7) (hs : ∀ (k : Nat) (o1 : A1) (o2 : A2) (o4 : A4) (o5 : A5) (o6 : A6) (o7 : A7) (rec : A1 → A2 → Int32 → A4 → A5 → A6 → A7 → Prop), k < n → J (k + 1) o1 o2 o4 o5 o6 o7 → (∀ (p1 : A1) (p2 : A2) (p4 : A4) (p5 : A5) (p6 : A6) (p7 : A7), J k p1 p2 p4 p5 p6 p7 → rec p1 p2 (nI k + (-1)) p4 p5 p6 p7) → bd rec o1 o2 (nI k) o4 o5 o6 o7) : zl7 bd i1 i2 c0 i4 i5 i6 i7 := by
  refine ⟨fun a1 a2 a3 a4 a5 a6 a7 => ∃ k : Nat, k ≤ n ∧ a3 = nI k + (-1) ∧ J k a1 a2 a4 a5 a6 a7, fun a1 a2 a3 a4 a5 a6 a7 => (a3 + 1).toNatClampNeg, ⟨k0, hk0, hc, h0⟩, ?_⟩
  rintro a1 a2 a3 a4 a5 a6 a7 ⟨k, hk, rfl, hJ⟩
  cases k with
  | zero => exact hz a1 a2 a4 a5 a6 a7 _ hJ
  | succ k =>
    have e1 : nI (k + 1) + (-1) = nI k := pk_m1 k
    simp only [e1]
    exact hs k a1 a2 a4 a5 a6 a7 _ (by omega) hJ (fun p1 p2 p4 p5 p6 p7 hJ2 => ⟨⟨k, by omega, rfl, hJ2⟩, by show (nI k + (-1) + 1).toNatClampNeg < (nI k + 1).toNatClampNeg; rw [zm_m11, nI_1, nI_clamp (by omega), nI_clamp (by omega)]; omega⟩)
theorem zu7_4 {A1 A2 A3 A5 A6 A7 : Type} {bd : (A1 → A2 → A3 → Int32 → A5 → A6 → A7 → Prop) → A1 → A2 → A3 → Int32 → A5 → A6 → A7 → Prop} {i1 : A1} {i2 : A2} {i3 : A3} {i5 : A5} {i6 : A6} {i7 : A7} {c0 : Int32} (n : Nat) (hn : n < 2 ^ 31) (J : Nat → A1 → A2 → A3 → A5 → A6 → A7 → Prop) (k0 : Nat) (hc : c0 = nI k0) (hk0 : k0 ≤ n) (h0 : J k0 i1 i2 i3 i5 i6 i7) (hs : ∀ (k : Nat) (o1 : A1) (o2 : A2) (o3 : A3) (o5 : A5) (o6 : A6) (o7 : A7) (rec : A1 → A2 → A3 → Int32 → A5 → A6 → A7 → Prop), k ≤ n → J k o1 o2 o3 o5 o6 o7 → (∀ (p1 : A1) (p2 : A2) (p3 : A3) (p5 : A5) (p6 : A6) (p7 : A7), k < n → J (k + 1) p1 p2 p3 p5 p6 p7 → rec p1 p2 p3 (nI (k + 1)) p5 p6 p7) → bd rec o1 o2 o3 (nI k) o5 o6 o7) : zl7 bd i1 i2 i3 c0 i5 i6 i7 := by
  refine ⟨fun a1 a2 a3 a4 a5 a6 a7 => ∃ k : Nat, k ≤ n ∧ a4 = nI k ∧ J k a1 a2 a3 a5 a6 a7, fun a1 a2 a3 a4 a5 a6 a7 => n - a4.toNatClampNeg, ⟨k0, hk0, hc, h0⟩, ?_⟩
  rintro a1 a2 a3 a4 a5 a6 a7 ⟨k, hk, rfl, hJ⟩
  exact hs k a1 a2 a3 a5 a6 a7 _ hk hJ (fun p1 p2 p3 p5 p6 p7 hlt hJ2 => ⟨⟨k + 1, hlt, rfl, hJ2⟩, by show n - (nI (k + 1)).toNatClampNeg < n - (nI k).toNatClampNeg; rw [nI_clamp (by omega), nI_clamp (by omega)]; omega⟩)
theorem zd7_4 {A1 A2 A3 A5 A6 A7 : Type} {bd : (A1 → A2 → A3 → Int32 → A5 → A6 → A7 → Prop) → A1 → A2 → A3 → Int32 → A5 → A6 → A7 → Prop} {i1 : A1} {i2 : A2} {i3 : A3} {i5 : A5} {i6 : A6} {i7 : A7} {c0 : Int32} (n : Nat) (hn : n < 2 ^ 31) (J : Nat → A1 → A2 → A3 → A5 → A6 → A7 → Prop) (k0 : Nat) (hc : c0 = nI k0 + (-1)) (hk0 : k0 ≤ n) (h0 : J k0 i1 i2 i3 i5 i6 i7) (hz : ∀ (p1 : A1) (p2 : A2) (p3 : A3) (p5 : A5) (p6 : A6) (p7 : A7), ∀ rec : A1 → A2 → A3 → Int32 → A5 → A6 → A7 → Prop, J 0 p1 p2 p3 p5 p6 p7 → bd rec p1 p2 p3 (-1) p5 p6 p7) (hs : ∀ (k : Nat) (o1 : A1) (o2 : A2) (o3 : A3) (o5 : A5) (o6 : A6) (o7 : A7) (rec : A1 → A2 → A3 → Int32 → A5 → A6 → A7 → Prop), k < n → J (k + 1) o1 o2 o3 o5 o6 o7 → (∀ (p1 : A1) (p2 : A2) (p3 : A3) (p5 : A5) (p6 : A6) (p7 : A7), J k p1 p2 p3 p5 p6 p7 → rec p1 p2 p3 (nI k + (-1)) p5 p6 p7) → bd rec o1 o2 o3 (nI k) o5 o6 o7) : zl7 bd i1 i2 i3 c0 i5 i6 i7 := by
  refine ⟨fun a1 a2 a3 a4 a5 a6 a7 => ∃ k : Nat, k ≤ n ∧ a4 = nI k + (-1) ∧ J k a1 a2 a3 a5 a6 a7, fun a1 a2 a3 a4 a5 a6 a7 => (a4 + 1).toNatClampNeg, ⟨k0, hk0, hc, h0⟩, ?_⟩
  rintro a1 a2 a3 a4 a5 a6 a7 ⟨k, hk, rfl, hJ⟩
  cases k with
  | zero => exact hz a1 a2 a3 a5 a6 a7 _ hJ
  | succ k =>
    have e1 : nI (k + 1) + (-1) = nI k := pk_m1 k
    simp only [e1]
    exact hs k a1 a2 a3 a5 a6 a7 _ (by omega) hJ (fun p1 p2 p3 p5 p6 p7 hJ2 => ⟨⟨k, by omega, rfl, hJ2⟩, by show (nI k + (-1) + 1).toNatClampNeg < (nI k + 1).toNatClampNeg; rw [zm_m11, nI_1, nI_clamp (by omega), nI_clamp (by omega)]; omega⟩)
theorem zu7_5 {A1 A2 A3 A4 A6 A7 : Type} {bd : (A1 → A2 → A3 → A4 → Int32 → A6 → A7 → Prop) → A1 → A2 → A3 → A4 → Int32 → A6 → A7 → Prop} {i1 : A1} {i2 : A2} {i3 : A3} {i4 : A4} {i6 : A6} {i7 : A7} {c0 : Int32} (n : Nat) (hn : n < 2 ^ 31) (J : Nat → A1 → A2 → A3 → A4 → A6 → A7 → Prop) (k0 : Nat) (hc : c0 = nI k0) (hk0 : k0 ≤ n) (h0 : J k0 i1 i2 i3 i4 i6 i7) (hs : ∀ (k : Nat) (o1 : A1) (o2 : A2) (o3 : A3) (o4 : A4) (o6 : A6) (o7 : A7) (rec : A1 → A2 → A3 → A4 → Int32 → A6 → A7 → Prop), k ≤ n → J k o1 o2 o3 o4 o6 o7 → (∀ (p1 : A1) (p2 : A2) (p3 : A3) (p4 : A4) (p6 : A6) (p7 : A7), k < n → J (k + 1) p1 p2 p3 p4 p6 p7 → rec p1 p2 p3 p4 (nI (k + 1)) p6 p7) → bd rec o1 o2 o3 o4 (nI k) o6 o7) : zl7 bd i1 i2 i3 i4 c0 i6 i7 := by
  refine ⟨fun a1 a2 a3 a4 a5 a6 a7 => ∃ k : Nat, k ≤ n ∧ a5 = nI k ∧ J k a1 a2 a3 a4 a6 a7, fun a1 a2 a3 a4 a5 a6 a7 => n - a5.toNatClampNeg, ⟨k0, hk0, hc, h0⟩, ?_⟩
  rintro a1 a2 a3 a4 a5 a6 a7 ⟨k, hk, rfl, hJ⟩
  exact hs k a1 a2 a3 a4 a6 a7 _ hk hJ (fun p1 p2 p3 p4 p6 p7 hlt hJ2 => ⟨⟨k + 1, hlt, rfl, hJ2⟩, by show n - (nI (k + 1)).toNatClampNeg < n - (nI k).toNatClampNeg; rw [nI_clamp (by omega), nI_clamp (by omega)]; omega⟩)
theorem zd7_5 {A1 A2 A3 A4 A6 A7 : Type} {bd : (A1 → A2 → A3 → A4 → Int32 → A6 → A7 → Prop) → A1 → A2 → A3 → A4 → Int32 → A6 → A7 → Prop} {i1 : A1} {i2 : A2} {i3 : A3} {i4 : A4} {i6 : A6} {i7 : A7} {c0 : Int32} (n : Nat) (hn : n < 2 ^ 31) (J : Nat → A1 → A2 → A3 → A4 → A6 → A7 → Prop) (k0 : Nat) (hc : c0 = nI k0 + (-1)) (hk0 : k0 ≤ n) (h0 : J k0 i1 i2 i3 i4 i6 i7) (hz : ∀ (p1 : A1) (p2 : A2) (p3 : A3) (p4 : A4) (p6 : A6) (p7 : A7), ∀ rec : A1 → A2 → A3 → A4 → Int32 → A6 → A7 → Prop, J 0 p1 p2 p3 p4 p6 p7 → bd rec p1 p2 p3 p4 (-1) p6 p7) (hs : ∀ (k : Nat) (o1 : A1) (o2 : A2) (o3 : A3) (o4 : A4) (o6 : A6) (o7 : A7) (rec : A1 → A2 → A3 → A4 → Int32 → A6 → A7 → Prop), k < n → J (k + 1) o1 o2 o3 o4 o6 o7 → (∀ (p1 : A1) (p2 : A2) (p3 : A3) (p4 : A4) (p6 : A6) (p7 : A7), J k p1 p2 p3 p4 p6 p7 → rec p1 p2 p3 p4 (nI k + (-1)) p6 p7) → bd rec o1 o2 o3 o4 (nI k) o6 o7) : zl7 bd i1 i2 i3 i4 c0 i6 i7 := by
  refine ⟨fun a1 a2 a3 a4 a5 a6 a7 => ∃ k : Nat, k ≤ n ∧ a5 = nI k + (-1) ∧ J k a1 a2 a3 a4 a6 a7, fun a1 a2 a3 a4 a5 a6 a7 => (a5 + 1).toNatClampNeg, ⟨k0, hk0, hc, h0⟩, ?_⟩
  rintro a1 a2 a3 a4 a5 a6 a7 ⟨k, hk, rfl, hJ⟩
  cases k with
  | zero => exact hz a1 a2 a3 a4 a6 a7 _ hJ
  | succ k =>
    have e1 : nI (k + 1) + (-1) = nI k := pk_m1 k
    simp only [e1]
    exact hs k a1 a2 a3 a4 a6 a7 _ (by omega) hJ (fun p1 p2 p3 p4 p6 p7 hJ2 => ⟨⟨k, by omega, rfl, hJ2⟩, by show (nI k + (-1) + 1).toNatClampNeg < (nI k + 1).toNatClampNeg; rw [zm_m11, nI_1, nI_clamp (by omega), nI_clamp (by omega)]; omega⟩)
theorem zu7_6 {A1 A2 A3 A4 A5 A7 : Type} {bd : (A1 → A2 → A3 → A4 → A5 → Int32 → A7 → Prop) → A1 → A2 → A3 → A4 → A5 → Int32 → A7 → Prop} {i1 : A1} {i2 : A2} {i3 : A3} {i4 : A4} {i5 : A5} {i7 : A7} {c0 : Int32} (n : Nat) (hn : n < 2 ^ 31) (J : Nat → A1 → A2 → A3 → A4 → A5 → A7 → Prop) (k0 : Nat) (hc : c0 = nI k0) (hk0 : k0 ≤ n) (h0 : J k0 i1 i2 i3 i4 i5 i7) (hs : ∀ (k : Nat) (o1 : A1) (o2 : A2) (o3 : A3) (o4 : A4) (o5 : A5) (o7 : A7) (rec : A1 → A2 → A3 → A4 → A5 → Int32 → A7 → Prop), k ≤ n → J k o1 o2 o3 o4 o5 o7 → (∀ (p1 : A1) (p2 : A2) (p3 : A3) (p4 : A4) (p5 : A5) (p7 : A7), k < n → J (k + 1) p1 p2 p3 p4 p5 p7 → rec p1 p2 p3 p4 p5 (nI (k + 1)) p7) → bd rec o1 o2 o3 o4 o5 (nI k) o7) : zl7 bd i1 i2 i3 i4 i5 c0 i7 := by
  refine ⟨fun a1 a2 a3 a4 a5 a6 a7 => ∃ k : Nat, k ≤ n ∧ a6 = nI k ∧ J k a1 a2 a3 a4 a5 a7, fun a1 a2 a3 a4 a5 a6 a7 => n - a6.toNatClampNeg, ⟨k0, hk0, hc, h0⟩, ?_⟩
  rintro a1 a2 a3 a4 a5 a6 a7 ⟨k, hk, rfl, hJ⟩
  exact hs k a1 a2 a3 a4 a5 a7 _ hk hJ (fun p1 p2 p3 p4 p5 p7 hlt hJ2 => ⟨⟨k + 1, hlt, rfl, hJ2⟩, by show n - (nI (k + 1)).toNatClampNeg < n - (nI k).toNatClampNeg; rw [nI_clamp (by omega), nI_clamp (by omega)]; omega⟩)
theorem zd7_6 {A1 A2 A3 A4 A5 A7 : Type} {bd : (A1 → A2 → A3 → A4 → A5 → Int32 → A7 → Prop) → A1 → A2 → A3 → A4 → A5 → Int32 → A7 → Prop} {i1 : A1} {i2 : A2} {i3 : A3} {i4 : A4} {i5 : A5} {i7 : A7} {c0 : Int32} (n : Nat) (hn : n < 2 ^ 31) (J : Nat → A1 → A2 → A3 → A4 → A5 → A7 → Prop) (k0 : Nat) (hc : c0 = nI k0 + (-1)) (hk0 : k0 ≤ n) (h0 : J k0 i1 i2 i3 i4 i5 i7) (hz : ∀ (p1 : A1) (p2 : A2) (p3 : A3) (p4 : A4) (p5 : A5) (p7 : A7), ∀ rec : A1 → A2 → A3 → A4 → A5 → Int32 → A7 → Prop, J 0 p1 p2 p3 p4 p5 p7 → bd rec p1 p2 p3 p4 p5 (-1) p7) (hs : ∀ (k : Nat) (o1 : A1) (o2 : A2) (o3 : A3) (o4 : A4) (o5 : A5) (o7 : A7) (rec : A1 → A2 → A3 → A4 → A5 → Int32 → A7 → Prop), k < n → J (k + 1) o1 o2 o3 o4 o5 o7 → (∀ (p1 : A1) (p2 : A2) (p3 : A3) (p4 : A4) (p5 : A5) (p7 : A7), J k p1 p2 p3 p4 p5 p7 → rec p1 p2 p3 p4 p5 (nI k + (-1)) p7) → bd rec o1 o2 o3 o4 o5 (nI k) o7) : zl7 bd i1 i2 i3 i4 i5 c0 i7 := by
  refine ⟨fun a1 a2 a3 a4 a5 a6 a7 => ∃ k : Nat, k ≤ n ∧ a6 = nI k + (-1) ∧ J k a1 a2 a3 a4 a5 a7, fun a1 a2 a3 a4 a5 a6 a7 => (a6 + 1).toNatClampNeg, ⟨k0, hk0, hc, h0⟩, ?_⟩
  rintro a1 a2 a3 a4 a5 a6 a7 ⟨k, hk, rfl, hJ⟩
  cases k with
  | zero => exact hz a1 a2 a3 a4 a5 a7 _ hJ
  | succ k =>
    have e1 : nI (k + 1) + (-1) = nI k := pk_m1 k
    simp only [e1]
    exact hs k a1 a2 a3 a4 a5 a7 _ (by omega) hJ (fun p1 p2 p3 p4 p5 p7 hJ2 => ⟨⟨k, by omega, rfl, hJ2⟩, by show (nI k + (-1) + 1).toNatClampNeg < (nI k + 1).toNatClampNeg; rw [zm_m11, nI_1, nI_clamp (by omega), nI_clamp (by omega)]; omega⟩)
theorem zu7_7 {A1 A2 A3 A4 A5 A6 : Type} {bd : (A1 → A2 → A3 → A4 → A5 → A6 → Int32 → Prop) → A1 → A2 → A3 → A4 → A5 → A6 → Int32 → Prop} {i1 : A1} {i2 : A2} {i3 : A3} {i4 : A4} {i5 : A5} {i6 : A6} {c0 : Int32} (n : Nat) (hn : n < 2 ^ 31) (J : Nat → A1 → A2 → A3 → A4 → A5 → A6 → Prop) (k0 : Nat) (hc : c0 = nI k0) (hk0 : k0 ≤ n) (h0 : J k0 i1 i2 i3 i4 i5 i6) (hs : ∀ (k : Nat) (o1 : A1) (o2 : A2) (o3 : A3) (o4 : A4) (o5 : A5) (o6 : A6) (rec : A1 → A2 → A3 → A4 → A5 → A6 → Int32 → Prop), k ≤ n → J k o1 o2 o3 o4 o5 o6 → (∀ (p1 : A1) (p2 : A2) (p3 : A3) (p4 : A4) (p5 : A5) (p6 : A6), k < n → J (k + 1) p1 p2 p3 p4 p5 p6 → rec p1 p2 p3 p4 p5 p6 (nI (k + 1))) → bd rec o1 o2 o3 o4 o5 o6 (nI k)) : zl7 bd i1 i2 i3 i4 i5 i6 c0 := by
  refine ⟨fun a1 a2 a3 a4 a5 a6 a7 => ∃ k : Nat, k ≤ n ∧ a7 = nI k ∧ J k a1 a2 a3 a4 a5 a6, fun a1 a2 a3 a4 a5 a6 a7 => n - a7.toNatClampNeg, ⟨k0, hk0, hc, h0⟩, ?_⟩
  rintro a1 a2 a3 a4 a5 a6 a7 ⟨k, hk, rfl, hJ⟩
  exact hs k a1 a2 a3 a4 a5 a6 _ hk hJ (fun p1 p2 p3 p4 p5 p6 hlt hJ2 => ⟨⟨k + 1, hlt, rfl, hJ2⟩, by show n - (nI (k + 1)).toNatClampNeg < n - (nI k).toNatClampNeg; rw [nI_clamp (by omega), nI_clamp (by omega)]; omega⟩)
theorem zd7_7 {A1 A2 A3 A4 A5 A6 : Type} {bd : (A1 → A2 → A3 → A4 → A5 → A6 → Int32 → Prop) → A1 → A2 → A3 → A4 → A5 → A6 → Int32 → Prop} {i1 : A1} {i2 : A2} {i3 : A3} {i4 : A4} {i5 : A5} {i6 : A6} {c0 : Int32} (n : Nat) (hn : n < 2 ^ 31) (J : Nat → A1 → A2 → A3 → A4 → A5 → A6 → Prop) (k0 : Nat) (hc : c0 = nI k0 + (-1)) (hk0 : k0 ≤ n) (h0 : J k0 i1 i2 i3 i4 i5 i6) (hz : ∀ (p1 : A1) (p2 : A2) (p3 : A3) (p4 : A4) (p5 : A5) (p6 : A6), ∀ rec : A1 → A2 → A3 → A4 → A5 → A6 → Int32 → Prop, J 0 p1 p2 p3 p4 p5 p6 → bd rec p1 p2 p3 p4 p5 p6 (-1)) (hs : ∀ (k : Nat) (o1 : A1) (o2 : A2) (o3 : A3) (o4 : A4) (o5 : A5) (o6 : A6) (rec : A1 → A2 → A3 → A4 → A5 → A6 → Int32 → Prop), k < n → J (k + 1) o1 o2 o3 o4 o5 o6 → (∀ (p1 : A1) (p2 : A2) (p3 : A3) (p4 : A4) (p5 : A5) (p6 : A6), J k p1 p2 p3 p4 p5 p6 → rec p1 p2 p3 p4 p5 p6 (nI k + (-1))) → bd rec o1 o2 o3 o4 o5 o6 (nI k)) : zl7 bd i1 i2 i3 i4 i5 i6 c0 := by
  refine ⟨fun a1 a2 a3 a4 a5 a6 a7 => ∃ k : Nat, k ≤ n ∧ a7 = nI k + (-1) ∧ J k a1 a2 a3 a4 a5 a6, fun a1 a2 a3 a4 a5 a6 a7 => (a7 + 1).toNatClampNeg, ⟨k0, hk0, hc, h0⟩, ?_⟩
  rintro a1 a2 a3 a4 a5 a6 a7 ⟨k, hk, rfl, hJ⟩
  cases k with
  | zero => exact hz a1 a2 a3 a4 a5 a6 _ hJ
  | succ k =>
    have e1 : nI (k + 1) + (-1) = nI k := pk_m1 k
    simp only [e1]
    exact hs k a1 a2 a3 a4 a5 a6 _ (by omega) hJ (fun p1 p2 p3 p4 p5 p6 hJ2 => ⟨⟨k, by omega, rfl, hJ2⟩, by show (nI k + (-1) + 1).toNatClampNeg < (nI k + 1).toNatClampNeg; rw [zm_m11, nI_1, nI_clamp (by omega), nI_clamp (by omega)]; omega⟩)
theorem zu8_1 {A2 A3 A4 A5 A6 A7 A8 : Type} {bd : (Int32 → A2 → A3 → A4 → A5 → A6 → A7 → A8 → Prop) → Int32 → A2 → A3 → A4 → A5 → A6 → A7 → A8 → Prop} {i2 : A2} {i3 : A3} {i4 : A4} {i5 : A5} {i6 : A6} {i7 : A7} {i8 : A8} {c0 : Int32} (n : Nat) (hn : n < 2 ^ 31) (J : Nat → A2 → A3 → A4 → A5 → A6 → A7 → A8 → Prop) (k0 : Nat) (hc : c0 = nI k0) (hk0 : k0 ≤ n) (h0 : J k0 i2 i3 i4 i5 i6 i7 i8) (hs : ∀ (k : Nat) (o2 : A2) (o3 : A3) (o4 : A4) (o5 : A5) (o6 : A6) (o7 : A7) (o8 : A8) (rec : Int32 → A2 → A3 → A4 → A5 → A6 → A7 → A8 → Prop), k ≤ n → J k o2 o3 o4 o5 o6 o7 o8 → (∀ (p2 : A2) (p3 : A3) (p4 : A4) (p5 : A5) (p6 : A6) (p7 : A7) (p8 : A8), k < n → J (k + 1) p2 p3 p4 p5 p6 p7 p8 → rec (nI (k + 1)) p2 p3 p4 p5 p6 p7 p8) → bd rec (nI k) o2 o3 o4 o5 o6 o7 o8) : zl8 bd c0 i2 i3 i4 i5 i6 i7 i8 := by
  refine ⟨fun a1 a2 a3 a4 a5 a6 a7 a8 => ∃ k : Nat, k ≤ n ∧ a1 = nI k ∧ J k a2 a3 a4 a5 a6 a7 a8, fun a1 a2 a3 a4 a5 a6 a7 a8 => n - a1.toNatClampNeg, ⟨k0, hk0, hc, h0⟩, ?_⟩
  rintro a1 a2 a3 a4 a5 a6 a7 a8 ⟨k, hk, rfl, hJ⟩
  exact hs k a2 a3 a4 a5 a6 a7 a8 _ hk hJ (fun p2 p3 p4 p5 p6 p7 p8 hlt hJ2 => ⟨⟨k + 1, hlt, rfl, hJ2⟩, by show n - (nI (k + 1)).toNatClampNeg < n - (nI k).toNatClampNeg; rw [nI_clamp (by omega), nI_clamp (by omega)]; omega⟩)
theorem zd8_1 {A2 A3 A4 A5 A6 A7 A8 : Type} {bd : (Int32 → A2 → A3 → A4 → A5 → A6 → A7 → A8 → Prop) → Int32 → A2 → A3 → A4 → A5 → A6 → A7 → A8 → Prop} {i2 : A2} {i3 : A3} {i4 : A4} {i5 : A5} {i6 : A6} {i7 : A7} {i8 : A8} {c0 : Int32} (n : Nat) (hn : n < 2 ^ 31) (J : Nat → A2 → A3 → A4 → A5 → A6 → A7 → A8 → Prop) (k0 : Nat) (hc : c0 = nI k0 + (-1)) (hk0 : k0 ≤ n) (h0 : J k0 i2 i3 i4 i5 i6 i7 i8) (hz : ∀ (p2 : A2) (p3 : A3) (p4 : A4) (p5 : A5) (p6 : A6) (p7 : A7) (p8 : A8), ∀ rec : Int32 → A2 → A3 → A4 → A5 → A6 → A7 → A8 → Prop, J 0 p2 p3 p4 p5 p6 p7 p8 → bd rec (-1) p2 p3 p4 p5 p6 p7 p8) (hs : ∀ (k : Nat) (o2 : A2) (o3 : A3) (o4 : A4) (o5 : A5) (o6 : A6) (o7 : A7) (o8 : A8) (rec : Int32 → A2 → A3 → A4 → A5 → A6 → A7 → A8 → Prop), k < n → J (k + 1) o2 o3 o4 o5 o6 o7 o8 → (∀ (p2 : A2) (p3 : A3) (p4 : A4) (p5 : A5) (p6 : A6) (p7 : A7) (p8 : A8), J k p2 p3 p4 p5 p6 p7 p8 → rec (nI k + (-1)) p2 p3 p4 p5 p6 p7 p8) → bd rec (nI k) o2 o3 o4 o5 o6 o7 o8) : zl8 bd c0 i2 i3 i4 i5 i6 i7 i8 := by
  refine ⟨fun a1 a2 a3 a4 a5 a6 a7 a8 => ∃ k : Nat, k ≤ n ∧ a1 = nI k + (-1) ∧ J k a2 a3 a4 a5 a6 a7 a8, fun a1 a2 a3 a4 a5 a6 a7 a8 => (a1 + 1).toNatClampNeg, ⟨k0, hk0, hc, h0⟩, ?_⟩
  rintro a1 a2 a3 a4 a5 a6 a7 a8 ⟨k, hk, rfl, hJ⟩
  cases k with
  | zero => exact hz a2 a3 a4 a5 a6 a7 a8 _ hJ
  | succ k =>
    have e1 : nI (k + 1) + (-1) = nI k := pk_m1 k
    simp only [e1]
    exact hs k a2 a3 a4 a5 a6 a7 a8 _ (by omega) hJ (fun p2 p3 p4 p5 p6 p7 p8 hJ2 => ⟨⟨k, by omega, rfl, hJ2⟩, by show (nI k + (-1) + 1).toNatClampNeg < (nI k + 1).toNatClampNeg; rw [zm_m11, nI_1, nI_clamp (by omega), nI_clamp (by omega)]; omega⟩)
theorem zu8_2 {A1 A3 A4 A5 A6 A7 A8 : Type} {bd : (A1 → Int32 → A3 → A4 → A5 → A6 → A7 → A8 → Prop) → A1 → Int32 → A3 → A4 → A5 → A6 → A7 → A8 → Prop} {i1 : A1} {i3 : A3} {i4 : A4} {i5 : A5} {i6 : A6} {i7 : A7} {i8 : A8} {c0 : Int32} (n : Nat) (hn : n < 2 ^ 31) (J : Nat → A1 → A3 → A4 → A5 → A6 → A7 → A8 → Prop) (k0 : Nat) (hc : c0 = nI k0) (hk0 : k0 ≤ n) (h0 : J k0 i1 i3 i4 i5 i6 i7 i8) (hs : ∀ (k : Nat) (o1 : A1) (o3 : A3) (o4 : A4) (o5 : A5) (o6 : A6) (o7 : A7) (o8 : A8) (rec : A1 → Int32 → A3 → A4 → A5 → A6 → A7 → A8 → Prop), k ≤ n → J k o1 o3 o4 o5 o6 o7 o8 → (∀ (p1 : A1) (p3 : A3) (p4 : A4) (p5 : A5) (p6 : A6) (p7 : A7) (p8 : A8), k < n → J (k + 1) p1 p3 p4 p5 p6 p7 p8 → rec p1 (nI (k + 1)) p3 p4 p5 p6 p7 p8) → bd rec o1 (nI k) o3 o4 o5 o6 o7 o8) : zl8 bd i1 c0 i3 i4 i5 i6 i7 i8 := by
  refine ⟨fun a1 a2 a3 a4 a5 a6 a7 a8 => ∃ k : Nat, k ≤ n ∧ a2 = nI k ∧ J k a1 a3 a4 a5 a6 a7 a8, fun a1 a2 a3 a4 a5 a6 a7 a8 => n - a2.toNatClampNeg, ⟨k0, hk0, hc, h0⟩, ?_⟩
  rintro a1 a2 a3 a4 a5 a6 a7 a8 ⟨k, hk, rfl, hJ⟩
  exact hs k a1 a3 a4 a5 a6 a7 a8 _ hk hJ (fun p1 p3 p4 p5 p6 p7 p8 hlt hJ2 => ⟨⟨k + 1, hlt, rfl, hJ2⟩, by show n - (nI (k + 1)).toNatClampNeg < n - (nI k).toNatClampNeg; rw [nI_clamp (by omega), nI_clamp (by omega)]; omega⟩)
theorem zd8_2 {A1 A3 A4 A5 A6 A7 A8 : Type} {bd : (A1 → Int32 → A3 → A4 → A5 → A6 → A7 → A8 → Prop) → A1 → Int32 → A3 → A4 → A5 → A6 → A7 → A8 → Prop} {i1 : A1} {i3 : A3} {i4 : A4} {i5 : A5} {i6 : A6} {i7 : A7} {i8 : A8} {c0 : Int32} (n : Nat) (hn : n < 2 ^ 31) (J : Nat → A1 → A3 → A4 → A5 → A6 → A7 → A8 → Prop) (k0 : Nat) (hc : c0 = nI k0 + (-1)) (hk0 : k0 ≤ n) (h0 : J k0 i1 i3 i4 i5 i6 i7 i8) (hz : ∀ (p1 : A1) (p3 : A3) (p4 : A4) (p5 : A5) (p6 : A6) (p7 : A7) (p8 : A8), ∀ rec : A1 → Int32 → A3 → A4 → A5 → A6 → A7 → A8 → Prop, J 0 p1 p3 p4 p5 p6 p7 p8 → bd rec p1 (-1) p3 p4 p5 p6 p7 p8) (hs : ∀ (k : Nat) (o1 : A1) (o3 : A3) (o4 : A4) (o5 : A5) (o6 : A6) (o7 : A7) (o8 : A8) (rec : A1 → Int32 → A3 → A4 → A5 → A6 → A7 → A8 → Prop), k < n → J (k + 1) o1 o3 o4 o5 o6 o7 o8 → (∀ (p1 : A1) (p3 : A3) (p4 : A4) (p5 : A5) (p6 : A6) (p7 : A7) (p8 : A8), J k p1 p3 p4 p5 p6 p7 p8 → rec p1 (nI k + (-1)) p3 p4 p5 p6 p7 p8) → bd rec o1 (nI k) o3 o4 o5 o6 o7 o8) : zl8 bd i1 c0 i3 i4 i5 i6 i7 i8 := by
  refine ⟨fun a1 a2 a3 a4 a5 a6 a7 a8 => ∃ k : Nat, k ≤ n ∧ a2 = nI k + (-1) ∧ J k a1 a3 a4 a5 a6 a7 a8, fun a1 a2 a3 a4 a5 a6 a7 a8 => (a2 + 1).toNatClampNeg, ⟨k0, hk0, hc, h0⟩, ?_⟩
  rintro a1 a2 a3 a4 a5 a6 a7 a8 ⟨k, hk, rfl, hJ⟩
  cases k with
  | zero => exact hz a1 a3 a4 a5 a6 a7 a8 _ hJ
  | succ k =>
    have e1 : nI (k + 1) + (-1) = nI k := pk_m1 k
    simp only [e1]
    exact hs k a1 a3 a4 a5 a6 a7 a8 _ (by omega) hJ (fun p1 p3 p4 p5 p6 p7 p8 hJ2 => ⟨⟨k, by omega, rfl, hJ2⟩, by show (nI k + (-1) + 1).toNatClampNeg < (nI k + 1).toNatClampNeg; rw [zm_m11, nI_1, nI_clamp (by omega), nI_clamp (by omega)]; omega⟩)
theorem zu8_3 {A1 A2 A4 A5 A6 A7 A8 : Type} {bd : (A1 → A2 → Int32 → A4 → A5 → A6 → A7 → A8 → Prop) → A1 → A2 → Int32 → A4 → A5 → A6 → A7 → A8 → Prop} {i1 : A1} {i2 : A2} {i4 : A4} {i5 : A5} {i6 : A6} {i7 : A7} {i8 : A8} {c0 : Int32} (n : Nat) (hn : n < 2 ^ 31) (J : Nat → A1 → A2 → A4 → A5 → A6 → A7 → A8 → Prop) (k0 : Nat) (hc : c0 = nI k0) (hk0 : k0 ≤ n) (h0 : J k0 i1 i2 i4 i5 i6 i7 i8) (hs : ∀ (k : Nat) (o1 : A1) (o2 : A2) (o4 : A4) (o5 : A5) (o6 : A6) (o7 : A7) (o8 : A8) (rec : A1 → A2 → Int32 → A4 → A5 → A6 → A7 → A8 → Prop), k ≤ n → J k o1 o2 o4 o5 o6 o7 o8 → (∀ (p1 : A1) (p2 : A2) (p4 : A4) (p5 : A5) (p6 : A6) (p7 : A7) (p8 : A8), k < n → J (k + 1) p1 p2 p4 p5 p6 p7 p8 → rec p1 p2 (nI (k + 1)) p4 p5 p6 p7 p8) → bd rec o1 o2 (nI k) o4 o5 o6 o7 o8) : zl8 bd i1 i2 c0 i4 i5 i6 i7 i8 := by
  refine ⟨fun a1 a2 a3 a4 a5 a6 a7 a8 => ∃ k : Nat, k ≤ n ∧ a3 = nI k ∧ J k a1 a2 a4 a5 a6 a7 a8, fun a1 a2 a3 a4 a5 a6 a7 a8 => n - a3.toNatClampNeg, ⟨k0, hk0, hc, h0⟩, ?_⟩
  rintro a1 a2 a3 a4 a5 a6 a7 a8 ⟨k, hk, rfl, hJ⟩
  exact hs k a1 a2 a4 a5 a6 a7 a8 _ hk hJ (fun p1 p2 p4 p5 p6 p7 p8 hlt hJ2 => ⟨⟨k + 1, hlt, rfl, hJ2⟩, by show n - (nI (k + 1)).toNatClampNeg < n - (nI k).toNatClampNeg; rw [nI_clamp (by omega), nI_clamp (by omega)]; omega⟩)
theorem zd8_3 {A1 A2 A4 A5 A6 A7 A8 : Type} {bd : (A1 → A2 → Int32 → A4 → A5 → A6 → A7 → A8 → Prop) → A1 → A2 → Int32 → A4 → A5 → A6 → A7 → A8 → Prop} {i1 : A1} {i2 : A2} {i4 : A4} {i5 : A5} {i6 : A6} {i7 : A7} {i8 : A8} {c0 : Int32} (n : Nat) (hn : n < 2 ^ 31) (J : Nat → A1 → A2 → A4 → A5 → A6 → A7 → A8 → Prop) (k0 : Nat) (hc : c0 = nI k0 + (-1)) (hk0 : k0 ≤ n) (h0 : J k0 i1 i2 i4 i5 i6 i7 i8) (hz : ∀ (p1 : A1) (p2 : A2) (p4 : A4) (p5 : A5) (p6 : A6) (p7 : A7) (p8 : A8), ∀ rec : A1 → A2 → Int32 → A4 → A5 → A6 → A7 → A8 → Prop, J 0 p1 p2 p4 p5 p6 p7 p8 → bd rec p1 p2 (-1) p4 p5 p6 p7 p8) (hs : ∀ (k : Nat) (o1 : A1) (o2 : A2) (o4 : A4) (o5 : A5) (o6 : A6) (o7 : A7) (o8 : A8) (rec : A1 → A2 → Int32 → A4 → A5 → A6 → A7 → A8 → Prop), k < n → J (k + 1) o1 o2 o4 o5 o6 o7 o8 → (∀ (p1 : A1) (p2 : A2) (p4 : A4) (p5 : A5) (p6 : A6) (p7 : A7) (p8 : A8), J k p1 p2 p4 p5 p6 p7 p8 → rec p1 p2 (nI k + (-1)) p4 p5 p6 p7 p8) → bd rec o1 o2 (nI k) o4 o5 o6 o7 o8) : zl8 bd i1 i2 c0 i4 i5 i6 i7 i8 := by
  refine ⟨fun a1 a2 a3 a4 a5 a6 a7 a8 => ∃ k : Nat, k ≤ n ∧ a3 = nI k + (-1) ∧ J k a1 a2 a4 a5 a6 a7 a8, fun a1 a2 a3 a4 a5 a6 a7 a8 => (a3 + 1).toNatClampNeg, ⟨k0, hk0, hc, h0⟩, ?_⟩
  rintro a1 a2 a3 a4 a5 a6 a7 a8 ⟨k, hk, rfl, hJ⟩
  cases k with
  | zero => exact hz a1 a2 a4 a5 a6 a7 a8 _ hJ
  | succ k =>
    have e1 : nI (k + 1) + (-1) = nI k := pk_m1 k
    simp only [e1]
    exact hs k a1 a2 a4 a5 a6 a7 a8 _ (by omega) hJ (fun p1 p2 p4 p5 p6 p7 p8 hJ2 => ⟨⟨k, by omega, rfl, hJ2⟩, by show (nI k + (-1) + 1).toNatClampNeg < (nI k + 1).toNatClampNeg; rw [zm_m11, nI_1, nI_clamp (by omega), nI_clamp (by omega)]; omega⟩)
theorem zu8_4 {A1 A2 A3 A5 A6 A7 A8 : Type} {bd : (A1 → A2 → A3 → Int32 → A5 → A6 → A7 → A8 → Prop) → A1 → A2 → A3 → Int32 → A5 → A6 → A7 → A8 → Prop} {i1 : A1} {i2 : A2} {i3 : A3} {i5 : A5} {i6 : A6} {i7 : A7} {i8 : A8} {c0 : Int32} (n : Nat) (hn : n < 2 ^ 31) (J : Nat → A1 → A2 → A3 → A5 → A6 → A7 → A8 → Prop) (k0 : Nat) (hc : c0 = nI k0) (hk0 : k0 ≤ n) (h0 : J k0 i1 i2 i3 i5 i6 i7 i8) (hs : ∀ (k : Nat) (o1 : A1) (o2 : A2) (o3 : A3) (o5 : A5) (o6 : A6) (o7 : A7) (o8 : A8) (rec : A1 → A2 → A3 → Int32 → A5 → A6 → A7 → A8 → Prop), k ≤ n → J k o1 o2 o3 o5 o6 o7 o8 → (∀ (p1 : A1) (p2 : A2) (p3 : A3) (p5 : A5) (p6 : A6) (p7 : A7) (p8 : A8), k < n → J (k + 1) p1 p2 p3 p5 p6 p7 p8 → rec p1 p2 p3 (nI (k + 1)) p5 p6 p7 p8) → bd rec o1 o2 o3 (nI k) o5 o6 o7 o8) : zl8 bd i1 i2 i3 c0 i5 i6 i7 i8 := by
  refine ⟨fun a1 a2 a3 a4 a5 a6 a7 a8 => ∃ k : Nat, k ≤ n ∧ a4 = nI k ∧ J k a1 a2 a3 a5 a6 a7 a8, fun a1 a2 a3 a4 a5 a6 a7 a8 => n - a4.toNatClampNeg, ⟨k0, hk0, hc, h0⟩, ?_⟩
  rintro a1 a2 a3 a4 a5 a6 a7 a8 ⟨k, hk, rfl, hJ⟩
  exact hs k a1 a2 a3 a5 a6 a7 a8 _ hk hJ (fun p1 p2 p3 p5 p6 p7 p8 hlt hJ2 => ⟨⟨k + 1, hlt, rfl, hJ2⟩, by show n - (nI (k + 1)).toNatClampNeg < n - (nI k).toNatClampNeg; rw [nI_clamp (by omega), nI_clamp (by omega)]; omega⟩)
theorem zd8_4 {A1 A2 A3 A5 A6 A7 A8 : Type} {bd : (A1 → A2 → A3 → Int32 → A5 → A6 → A7 → A8 → Prop) → A1 → A2 → A3 → Int32 → A5 → A6 → A7 → A8 → Prop} {i1 : A1} {i2 : A2} {i3 : A3} {i5 : A5} {i6 : A6} {i7 : A7} {i8 : A8} {c0 : Int32} (n : Nat) (hn : n < 2 ^ 31) (J : Nat → A1 → A2 → A3 → A5 → A6 → A7 → A8 → Prop) (k0 : Nat) (hc : c0 = nI k0 + (-1)) (hk0 : k0 ≤ n) (h0 : J k0 i1 i2 i3 i5 i6 i7 i8) (hz : ∀ (p1 : A1) (p2 : A2) (p3 : A3) (p5 : A5) (p6 : A6) (p7 : A7) (p8 : A8), ∀ rec : A1 → A2 → A3 → Int32 → A5 → A6 → A7 → A8 → Prop, J 0 p1 p2 p3 p5 p6 p7 p8 → bd rec p1 p2 p3 (-1) p5 p6 p7 p8) (hs : ∀ (k : Nat) (o1 : A1) (o2 : A2) (o3 : A3) (o5 : A5) (o6 : A6) (o7 : A7) (o8 : A8) (rec : A1 → A2 → A3 → Int32 → A5 → A6 → A7 → A8 → Prop), k < n → J (k + 1) o1 o2 o3 o5 o6 o7 o8 → (∀ (p1 : A1) (p2 : A2) (p3 : A3) (p5 : A5) (p6 : A6) (p7 : A7) (p8 : A8), J k p1 p2 p3 p5 p6 p7 p8 → rec p1 p2 p3 (nI k + (-1)) p5 p6 p7 p8) → bd rec o1 o2 o3 (nI k) o5 o6 o7 o8) : zl8 bd i1 i2 i3 c0 i5 i6 i7 i8 := by
  refine ⟨fun a1 a2 a3 a4 a5 a6 a7 a8 => ∃ k : Nat, k ≤ n ∧ a4 = nI k + (-1) ∧ J k a1 a2 a3 a5 a6 a7 a8, fun a1 a2 a3 a4 a5 a6 a7 a8 => (a4 + 1).toNatClampNeg, ⟨k0, hk0, hc, h0⟩, ?_⟩
  rintro a1 a2 a3 a4 a5 a6 a7 a8 ⟨k, hk, rfl, hJ⟩
  cases k with
  | zero => exact hz a1 a2 a3 a5 a6 a7 a8 _ hJ
  | succ k =>
    have e1 : nI (k + 1) + (-1) = nI k := pk_m1 k
    simp only [e1]
    exact hs k a1 a2 a3 a5 a6 a7 a8 _ (by omega) hJ (fun p1 p2 p3 p5 p6 p7 p8 hJ2 => ⟨⟨k, by omega, rfl, hJ2⟩, by show (nI k + (-1) + 1).toNatClampNeg < (nI k + 1).toNatClampNeg; rw [zm_m11, nI_1, nI_clamp (by omega), nI_clamp (by omega)]; omega⟩)
theorem zu8_5 {A1 A2 A3 A4 A6 A7 A8 : Type} {bd : (A1 → A2 → A3 → A4 → Int32 → A6 → A7 → A8 → Prop) → A1 → A2 → A3 → A4 → Int32 → A6 → A7 → A8 → Prop} {i1 : A1} {i2 : A2} {i3 : A3} {i4 : A4} {i6 : A6} {i7 : A7} {i8 : A8} {c0 : Int32} (n : Nat) (hn : n < 2 ^ 31) (J : Nat → A1 → A2 → A3 → A4 → A6 → A7 → A8 → Prop) (k0 : Nat) (hc : c0 = nI k0) (hk0 : k0 ≤ n) (h0 : J k0 i1 i2 i3 i4 i6 i7 i8) (hs : ∀ (k : Nat) (o1 : A1) (o2 : A2) (o3 : A3) (o4 : A4) (o6 : A6) (o7 : A7) (o8 : A8) (rec : A1 → A2 → A3 → A4 → Int32 → A6 → A7 → A8 → Prop), k ≤ n → J k o1 o2 o3 o4 o6 o7 o8 → (∀ (p1 : A1) (p2 : A2) (p3 : A3) (p4 : A4) (p6 : A6) (p7 : A7) (p8 : A8), k < n → J (k + 1) p1 p2 p3 p4 p6 p7 p8 → rec p1 p2 p3 p4 (nI (k + 1)) p6 p7 p8) → bd rec o1 o2 o3 o4 (nI k) o6 o7 o8) : zl8 bd i1 i2 i3 i4 c0 i6 i7 i8 := by
  refine ⟨fun a1 a2 a3 a4 a5 a6 a7 a8 => ∃ k : Nat, k ≤ n ∧ a5 = nI k ∧ J k a1 a2 a3 a4 a6 a7 a8, fun a1 a2 a3 a4 a5 a6 a7 a8 => n - a5.toNatClampNeg, ⟨k0, hk0, hc, h0⟩, ?_⟩
  rintro a1 a2 a3 a4 a5 a6 a7 a8 ⟨k, hk, rfl, hJ⟩
  exact hs k a1 a2 a3 a4 a6 a7 a8 _ hk hJ (fun p1 p2 p3 p4 p6 p7 p8 hlt hJ2 => ⟨⟨k + 1, hlt, rfl, hJ2⟩, by show n - (nI (k + 1)).toNatClampNeg < n - (nI k).toNatClampNeg; rw [nI_clamp (by omega), nI_clamp (by omega)]; omega⟩)
theorem zd8_5 {A1 A2 A3 A4 A6 A7 A8 : Type} {bd : (A1 → A2 → A3 → A4 → Int32 → A6 → A7 → A8 → Prop) → A1 → A2 → A3 → A4 → Int32 → A6 → A7 → A8 → Prop} {i1 : A1} {i2 : A2} {i3 : A3} {i4 : A4} {i6 : A6} {i7 : A7} {i8 : A8} {c0 : Int32} (n : Nat) (hn : n < 2 ^ 31) (J : Nat → A1 → A2 → A3 → A4 → A6 → A7 → A8 → Prop) (k0 : Nat) (hc : c0 = nI k0 + (-1)) (hk0 : k0 ≤ n) (h0 : J k0 i1 i2 i3 i4 i6 i7 i8) (hz : ∀ (p1 : A1) (p2 : A2) (p3 : A3) (p4 : A4) (p6 : A6) (p7 : A7) (p8 : A8), ∀ rec : A1 → A2 → A3 → A4 → Int32 → A6 → A7 → A8 → Prop, J 0 p1 p2 p3 p4 p6 p7 p8 → bd rec p1 p2 p3 p4 (-1) p6 p7 p8) (hs : ∀ (k : Nat) (o1 : A1) (o2 : A2) (o3 : A3) (o4 : A4) (o6 : A6) (o7 : A7) (o8 : A8) (rec : A1 → A2 → A3 → A4 → Int32 → A6 → A7 → A8 → Prop), k < n → J (k + 1) o1 o2 o3 o4 o6 o7 o8 → (∀ (p1 : A1) (p2 : A2) (p3 : A3) (p4 : A4) (p6 : A6) (p7 : A7) (p8 : A8), J k p1 p2 p3 p4 p6 p7 p8 → rec p1 p2 p3 p4 (nI k + (-1)) p6 p7 p8) → bd rec o1 o2 o3 o4 (nI k) o6 o7 o8) : zl8 bd i1 i2 i3 i4 c0 i6 i7 i8 := by
  refine ⟨fun a1 a2 a3 a4 a5 a6 a7 a8 => ∃ k : Nat, k ≤ n ∧ a5 = nI k + (-1) ∧ J k a1 a2 a3 a4 a6 a7 a8, fun a1 a2 a3 a4 a5 a6 a7 a8 => (a5 + 1).toNatClampNeg, ⟨k0, hk0, hc, h0⟩, ?_⟩
  rintro a1 a2 a3 a4 a5 a6 a7 a8 ⟨k, hk, rfl, hJ⟩
  cases k with
  | zero => exact hz a1 a2 a3 a4 a6 a7 a8 _ hJ
  | succ k =>
    have e1 : nI (k + 1) + (-1) = nI k := pk_m1 k
    simp only [e1]
    exact hs k a1 a2 a3 a4 a6 a7 a8 _ (by omega) hJ (fun p1 p2 p3 p4 p6 p7 p8 hJ2 => ⟨⟨k, by omega, rfl, hJ2⟩, by show (nI k + (-1) + 1).toNatClampNeg < (nI k + 1).toNatClampNeg; rw [zm_m11, nI_1, nI_clamp (by omega), nI_clamp (by omega)]; omega⟩)
theorem zu8_6 {A1 A2 A3 A4 A5 A7 A8 : Type} {bd : (A1 → A2 → A3 → A4 → A5 → Int32 → A7 → A8 → Prop) → A1 → A2 → A3 → A4 → A5 → Int32 → A7 → A8 → Prop} {i1 : A1} {i2 : A2} {i3 : A3} {i4 : A4} {i5 : A5} {i7 : A7} {i8 : A8} {c0 : Int32} (n : Nat) (hn : n < 2 ^ 31) (J : Nat → A1 → A2 → A3 → A4 → A5 → A7 → A8 → Prop) (k0 : Nat) (hc : c0 = nI k0) (hk0 : k0 ≤ n) (h0 : J k0 i1 i2 i3 i4 i5 i7 i8) (hs : ∀ (k : Nat) (o1 : A1) (o2 : A2) (o3 : A3) (o4 : A4) (o5 : A5) (o7 : A7) (o8 : A8) (rec : A1 → A2 → A3 → A4 → A5 → Int32 → A7 → A8 → Prop), k ≤ n → J k o1 o2 o3 o4 o5 o7 o8 → (∀ (p1 : A1) (p2 : A2) (p3 : A3) (p4 : A4) (p5 : A5) (p7 : A7) (p8 : A8), k < n → J (k + 1) p1 p2 p3 p4 p5 p7 p8 → rec p1 p2 p3 p4 p5 (nI (k + 1)) p7 p8) → bd rec o1 o2 o3 o4 o5 (nI k) o7 o8) : zl8 bd i1 i2 i3 i4 i5 c0 i7 i8 := by
  refine ⟨fun a1 a2 a3 a4 a5 a6 a7 a8 => ∃ k : Nat, k ≤ n ∧ a6 = nI k ∧ J k a1 a2 a3 a4 a5 a7 a8, fun a1 a2 a3 a4 a5 a6 a7 a8 => n - a6.toNatClampNeg, ⟨k0, hk0, hc, h0⟩, ?_⟩
  rintro a1 a2 a3 a4 a5 a6 a7 a8 ⟨k, hk, rfl, hJ⟩
  exact hs k a1 a2 a3 a4 a5 a7 a8 _ hk hJ (fun p1 p2 p3 p4 p5 p7 p8 hlt hJ2 => ⟨⟨k + 1, hlt, rfl, hJ2⟩, by show n - (nI (k + 1)).toNatClampNeg < n - (nI k).toNatClampNeg; rw [nI_clamp (by omega), nI_clamp (by omega)]; omega⟩)
theorem zd8_6 {A1 A2 A3 A4 A5 A7 A8 : Type} {bd : (A1 → A2 → A3 → A4 → A5 → Int32 → A7 → A8 → Prop) → A1 → A2 → A3 → A4 → A5 → Int32 → A7 → A8 → Prop} {i1 : A1} {i2 : A2} {i3 : A3} {i4 : A4} {i5 : A5} {i7 : A7} {i8 : A8} {c0 : Int32} (n : Nat) (hn : n < 2 ^ 31) (J : Nat → A1 → A2 → A3 → A4 → A5 → A7 → A8 → Prop) (k0 : Nat) (hc : c0 = nI k0 + (-1)) (hk0 : k0 ≤ n) (h0 : J k0 i1 i2 i3 i4 i5 i7 i8) (hz : ∀ (p1 : A1) (p2 : A2) (p3 : A3) (p4 : A4) (p5 : A5) (p7 : A7) (p8 : A8), ∀ rec : A1 → A2 → A3 → A4 → A5 → Int32 → A7 → A8 → Prop, J 0 p1 p2 p3 p4 p5 p7 p8 → bd rec p1 p2 p3 p4 p5 (-1) p7 p8) (hs : ∀ (k : Nat) (o1 : A1) (o2 : A2) (o3 : A3) (o4 : A4) (o5 : A5) (o7 : A7) (o8 : A8) (rec : A1 → A2 → A3 → A4 → A5 → Int32 → A7 → A8 → Prop), k < n → J (k + 1) o1 o2 o3 o4 o5 o7 o8 → (∀ (p1 : A1) (p2 : A2) (p3 : A3) (p4 : A4) (p5 : A5) (p7 : A7) (p8 : A8), J k p1 p2 p3 p4 p5 p7 p8 → rec p1 p2 p3 p4 p5 (nI k + (-1)) p7 p8) → bd rec o1 o2 o3 o4 o5 (nI k) o7 o8) : zl8 bd i1 i2 i3 i4 i5 c0 i7 i8 := by
  refine ⟨fun a1 a2 a3 a4 a5 a6 a7 a8 => ∃ k : Nat, k ≤ n ∧ a6 = nI k + (-1) ∧ J k a1 a2 a3 a4 a5 a7 a8, fun a1 a2 a3 a4 a5 a6 a7 a8 => (a6 + 1).toNatClampNeg, ⟨k0, hk0, hc, h0⟩, ?_⟩
  rintro a1 a2 a3 a4 a5 a6 a7 a8 ⟨k, hk, rfl, hJ⟩
  cases k with
  | zero => exact hz a1 a2 a3 a4 a5 a7 a8 _ hJ
  | succ k =>
    have e1 : nI (k + 1) + (-1) = nI k := pk_m1 k
    simp only [e1]
    exact hs k a1 a2 a3 a4 a5 a7 a8 _ (by omega) hJ (fun p1 p2 p3 p4 p5 p7 p8 hJ2 => ⟨⟨k, by omega, rfl, hJ2⟩, by show (nI k + (-1) + 1).toNatClampNeg < (nI k + 1).toNatClampNeg; rw [zm_m11, nI_1, nI_clamp (by omega), nI_clamp (by omega)]; omega⟩)
theorem zu8_7 {A1 A2 A3 A4 A5 A6 A8 : Type} {bd : (A1 → A2 → A3 → A4 → A5 → A6 → Int32 → A8 → Prop) → A1 → A2 → A3 → A4 → A5 → A6 → Int32 → A8 → Prop} {i1 : A1} {i2 : A2} {i3 : A3} {i4 : A4} {i5 : A5} {i6 : A6} {i8 : A8} {c0 : Int32} (n : Nat) (hn : n < 2 ^ 31) (J : Nat → A1 → A2 → A3 → A4 → A5 → A6 → A8 → Prop) (k0 : Nat) (hc : c0 = nI k0) (hk0 : k0 ≤ n) (h0 : J k0 i1 i2 i3 i4 i5 i6 i8) (hs : ∀ (k : Nat) (o1 : A1) (o2 : A2) (o3 : A3) (o4 : A4) (o5 : A5) (o6 : A6) (o8 : A8) (rec : A1 → A2 → A3 → A4 → A5 → A6 → Int32 → A8 → Prop), k ≤ n → J k o1 o2 o3 o4 o5 o6 o8 → (∀ (p1 : A1) (p2 : A2) (p3 : A3) (p4 : A4) (p5 : A5) (p6 : A6) (p8 : A8), k < n → J (k + 1) p1 p2 p3 p4 p5 p6 p8 → rec p1 p2 p3 p4 p5 p6 (nI (k + 1)) p8) → bd rec o1 o2 o3 o4 o5 o6 (nI k) o8) : zl8 bd i1 i2 i3 i4 i5 i6 c0 i8 := by
  refine ⟨fun a1 a2 a3 a4 a5 a6 a7 a8 => ∃ k : Nat, k ≤ n ∧ a7 = nI k ∧ J k a1 a2 a3 a4 a5 a6 a8, fun a1 a2 a3 a4 a5 a6 a7 a8 => n - a7.toNatClampNeg, ⟨k0, hk0, hc, h0⟩, ?_⟩
  rintro a1 a2 a3 a4 a5 a6 a7 a8 ⟨k, hk, rfl, hJ⟩
  exact hs k a1 a2 a3 a4 a5 a6 a8 _ hk hJ (fun p1 p2 p3 p4 p5 p6 p8 hlt hJ2 => ⟨⟨k + 1, hlt, rfl, hJ2⟩, by show n - (nI (k + 1)).toNatClampNeg < n - (nI k).toNatClampNeg; rw [nI_clamp (by omega), nI_clamp (by omega)]; omega⟩)
theorem zd8_7 {A1 A2 A3 A4 A5 A6 A8 : Type} {bd : (A1 → A2 → A3 → A4 → A5 → A6 → Int32 → A8 → Prop) → A1 → A2 → A3 → A4 → A5 → A6 → Int32 → A8 → Prop} {i1 : A1} {i2 : A2} {i3 : A3} {i4 : A4} {i5 : A5} {i6 : A6} {i8 : A8} {c0 : Int32} (n : Nat) (hn : n < 2 ^ 31) (J : Nat → A1 → A2 → A3 → A4 → A5 → A6 → A8 → Prop) (k0 : Nat) (hc : c0 = nI k0 + (-1)) (hk0 : k0 ≤ n) (h0 : J k0 i1 i2 i3 i4 i5 i6 i8) (hz : ∀ (p1 : A1) (p2 : A2) (p3 : A3) (p4 : A4) (p5 : A5) (p6 : A6) (p8 : A8), ∀ rec : A1 → A2 → A3 → A4 → A5 → A6 → Int32 → A8 → Prop, J 0 p1 p2 p3 p4 p5 p6 p8 → bd rec p1 p2 p3 p4 p5 p6 (-1) p8) (hs : ∀ (k : Nat) (o1 : A1) (o2 : A2) (o3 : A3) (o4 : A4) (o5 : A5) (o6 : A6) (o8 : A8) (rec : A1 → A2 → A3 → A4 → A5 → A6 → Int32 → A8 → Prop), k < n → J (k + 1) o1 o2 o3 o4 o5 o6 o8 → (∀ (p1 : A1) (p2 : A2) (p3 : A3) (p4 : A4) (p5 : A5) (p6 : A6) (p8 : A8), J k p1 p2 p3 p4 p5 p6 p8 → rec p1 p2 p3 p4 p5 p6 (nI k + (-1)) p8) → bd rec o1 o2 o3 o4 o5 o6 (nI k) o8) : zl8 bd i1 i2 i3 i4 i5 i6 c0 i8 := by
  refine ⟨fun a1 a2 a3 a4 a5 a6 a7 a8 => ∃ k : Nat, k ≤ n ∧ a7 = nI k + (-1) ∧ J k a1 a2 a3 a4 a5 a6 a8, fun a1 a2 a3 a4 a5 a6 a7 a8 => (a7 + 1).toNatClampNeg, ⟨k0, hk0, hc, h0⟩, ?_⟩
  rintro a1 a2 a3 a4 a5 a6 a7 a8 ⟨k, hk, rfl, hJ⟩
  cases k with
  | zero => exact hz a1 a2 a3 a4 a5 a6 a8 _ hJ
  | succ k =>
    have e1 : nI (k + 1) + (-1) = nI k := pk_m1 k
    simp only [e1]
    exact hs k a1 a2 a3 a4 a5 a6 a8 _ (by omega) hJ (fun p1 p2 p3 p4 p5 p6 p8 hJ2 => ⟨⟨k, by omega, rfl, hJ2⟩, by show (nI k + (-1) + 1).toNatClampNeg < (nI k + 1).toNatClampNeg; rw [zm_m11, nI_1, nI_clamp (by omega), nI_clamp (by omega)]; omega⟩)
theorem zu8_8 {A1 A2 A3 A4 A5 A6 A7 : Type} {bd : (A1 → A2 → A3 → A4 → A5 → A6 → A7 → Int32 → Prop) → A1 → A2 → A3 → A4 → A5 → A6 → A7 → Int32 → Prop} {i1 : A1} {i2 : A2} {i3 : A3} {i4 : A4} {i5 : A5} {i6 : A6} {i7 : A7} {c0 : Int32} (n : Nat) (hn : n < 2 ^ 31) (J : Nat → A1 → A2 → A3 → A4 → A5 → A6 → A7 → Prop) (k0 : Nat) (hc : c0 = nI k0) (hk0 : k0 ≤ n) (h0 : J k0 i1 i2 i3 i4 i5 i6 i7) (hs : ∀ (k : Nat) (o1 : A1) (o2 : A2) (o3 : A3) (o4 : A4) (o5 : A5) (o6 : A6) (o7 : A7) (rec : A1 → A2 → A3 → A4 → A5 → A6 → A7 → Int32 → Prop), k ≤ n → J k o1 o2 o3 o4 o5 o6 o7 → (∀ (p1 : A1) (p2 : A2) (p3 : A3) (p4 : A4) (p5 : A5) (p6 : A6) (p7 : A7), k < n → J (k + 1) p1 p2 p3 p4 p5 p6 p7 → rec p1 p2 p3 p4 p5 p6 p7 (nI (k + 1))) → bd rec o1 o2 o3 o4 o5 o6 o7 (nI k)) : zl8 bd i1 i2 i3 i4 i5 i6 i7 c0 := by
  refine ⟨fun a1 a2 a3 a4 a5 a6 a7 a8 => ∃ k : Nat, k ≤ n ∧ a8 = nI k ∧ J k a1 a2 a3 a4 a5 a6 a7, fun a1 a2 a3 a4 a5 a6 a7 a8 => n - a8.toNatClampNeg, ⟨k0, hk0, hc, h0⟩, ?_⟩
  rintro a1 a2 a3 a4 a5 a6 a7 a8 ⟨k, hk, rfl, hJ⟩
  exact hs k a1 a2 a3 a4 a5 a6 a7 _ hk hJ (fun p1 p2 p3 p4 p5 p6 p7 hlt hJ2 => ⟨⟨k + 1, hlt, rfl, hJ2⟩, by show n - (nI (k + 1)).toNatClampNeg < n - (nI k).toNatClampNeg; rw [nI_clamp (by omega), nI_clamp (by omega)]; omega⟩)
theorem zd8_8 {A1 A2 A3 A4 A5 A6 A7 : Type} {bd : (A1 → A2 → A3 → A4 → A5 → A6 → A7 → Int32 → Prop) → A1 → A2 → A3 → A4 → A5 → A6 → A7 → Int32 → Prop} {i1 : A1} {i2 : A2} {i3 : A3} {i4 : A4} {i5 : A5} {i6 : A6} {i7 : A7} {c0 : Int32} (n : Nat) (hn : n < 2 ^ 31) (J : Nat → A1 → A2 → A3 → A4 → A5 → A6 → A7 → Prop) (k0 : Nat) (hc : c0 = nI k0 + (-1)) (hk0 : k0 ≤ n) (h0 : J k0 i1 i2 i3 i4 i5 i6 i7) (hz : ∀ (p1 : A1) (p2 : A2) (p3 : A3) (p4 : A4) (p5 : A5) (p6 : A6) (p7 : A7), ∀ rec : A1 → A2 → A3 → A4 → A5 → A6 → A7 → Int32 → Prop, J 0 p1 p2 p3 p4 p5 p6 p7 → bd rec p1 p2 p3 p4 p5 p6 p7 (-1)) (hs : ∀ (k : Nat) (o1 : A1) (o2 : A2) (o3 : A3) (o4 : A4) (o5 : A5) (o6 : A6) (o7 : A7) (rec : A1 → A2 → A3 → A4 → A5 → A6 → A7 → Int32 → Prop), k < n → J (k + 1) o1 o2 o3 o4 o5 o6 o7 → (∀ (p1 : A1) (p2 : A2) (p3 : A3) (p4 : A4) (p5 : A5) (p6 : A6) (p7 : A7), J k p1 p2 p3 p4 p5 p6 p7 → rec p1 p2 p3 p4 p5 p6 p7 (nI k + (-1))) → bd rec o1 o2 o3 o4 o5 o6 o7 (nI k)) : zl8 bd i1 i2 i3 i4 i5 i6 i7 c0 := by
  refine ⟨fun a1 a2 a3 a4 a5 a6 a7 a8 => ∃ k : Nat, k ≤ n ∧ a8 = nI k + (-1) ∧ J k a1 a2 a3 a4 a5 a6 a7, fun a1 a2 a3 a4 a5 a6 a7 a8 => (a8 + 1).toNatClampNeg, ⟨k0, hk0, hc, h0⟩, ?_⟩
  rintro a1 a2 a3 a4 a5 a6 a7 a8 ⟨k, hk, rfl, hJ⟩
  cases k with
  | zero => exact hz a1 a2 a3 a4 a5 a6 a7 _ hJ
  | succ k =>
    have e1 : nI (k + 1) + (-1) = nI k := pk_m1 k
    simp only [e1]
    exact hs k a1 a2 a3 a4 a5 a6 a7 _ (by omega) hJ (fun p1 p2 p3 p4 p5 p6 p7 hJ2 => ⟨⟨k, by omega, rfl, hJ2⟩, by show (nI k + (-1) + 1).toNatClampNeg < (nI k + 1).toNatClampNeg; rw [zm_m11, nI_1, nI_clamp (by omega), nI_clamp (by omega)]; omega⟩)
theorem zu9_1 {A2 A3 A4 A5 A6 A7 A8 A9 : Type} {bd : (Int32 → A2 → A3 → A4 → A5 → A6 → A7 → A8 → A9 → Prop) → Int32 → A2 → A3 → A4 → A5 → A6 → A7 → A8 → A9 → Prop} {i2 : A2} {i3 : A3} {i4 : A4} {i5 : A5} {i6 : A6} {i7 : A7} {i8 : A8} {i9 : A9} {c0 : Int32} (n : Nat) (hn : n < 2 ^ 31) (J : Nat → A2 → A3 → A4 → A5 → A6 → A7 → A8 → A9 → Prop) (k0 : Nat) (hc : c0 = nI k0) (hk0 : k0 ≤ n) (h0 : J k0 i2 i3 i4 i5 i6 i7 i8 i9) (hs : ∀ (k : Nat) (o2 : A2) (o3 : A3) (o4 : A4) (o5 : A5) (o6 : A6) (o7 : A7) (o8 : A8) (o9 : A9) (rec : Int32 → A2 → A3 → A4 → A5 → A6 → A7 → A8 → A9 → Prop), k ≤ n → J k o2 o3 o4 o5 o6 o7 o8 o9 → (∀ (p2 : A2) (p3 : A3) (p4 : A4) (p5 : A5) (p6 : A6) (p7 : A7) (p8 : A8) (p9 : A9), k < n → J (k + 1) p2 p3 p4 p5 p6 p7 p8 p9 → rec (nI (k + 1)) p2 p3 p4 p5 p6 p7 p8 p9) → bd rec (nI k) o2 o3 o4 o5 o6 o7 o8 o9) : zl9 bd c0 i2 i3 i4 i5 i6 i7 i8 i9 := by
  refine ⟨fun a1 a2 a3 a4 a5 a6 a7 a8 a9 => ∃ k : Nat, k ≤ n ∧ a1 = nI k ∧ J k a2 a3 a4 a5 a6 a7 a8 a9, fun a1 a2 a3 a4 a5 a6 a7 a8 a9 => n - a1.toNatClampNeg, ⟨k0, hk0, hc, h0⟩, ?_⟩
  rintro a1 a2 a3 a4 a5 a6 a7 a8 a9 ⟨k, hk, rfl, hJ⟩
  exact hs k a2 a3 a4 a5 a6 a7 a8 a9 _ hk hJ (fun p2 p3 p4 p5 p6 p7 p8 p9 hlt hJ2 => ⟨⟨k + 1, hlt, rfl, hJ2⟩, by show n - (nI (k + 1)).toNatClampNeg < n - (nI k).toNatClampNeg; rw [nI_clamp (by omega), nI_clamp (by omega)]; omega⟩)
theorem zd9_1 {A2 A3 A4 A5 A6 A7 A8 A9 : Type} {bd : (Int32 → A2 → A3 → A4 → A5 → A6 → A7 → A8 → A9 → Prop) → Int32 → A2 → A3 → A4 → A5 → A6 → A7 → A8 → A9 → Prop} {i2 : A2} {i3 : A3} {i4 : A4} {i5 : A5} {i6 : A6} {i7 : A7} {i8 : A8} {i9 : A9} {c0 : Int32} (n : Nat) (hn : n < 2 ^ 31) (J : Nat → A2 → A3 → A4 → A5 → A6 → A7 → A8 → A9 → Prop) (k0 : Nat) (hc : c0 = nI k0 + (-1)) (hk0 : k0 ≤ n) (h0 : J k0 i2 i3 i4 i5 i6 i7 i8 i9) (hz : ∀ (p2 : A2) (p3 : A3) (p4 : A4) (p5 : A5) (p6 : A6) (p7 : A7) (p8 : A8) (p9 : A9), ∀ rec : Int32 → A2 → A3 → A4 → A5 → A6 → A7 → A8 → A9 → Prop, J 0 p2 p3 p4 p5 p6 p7 p8 p9 → bd rec (-1) p2 p3 p4 p5 p6 p7 p8 p9) (hs : ∀ (k : Nat) (o2 : A2) (o3 : A3) (o4 : A4) (o5 : A5) (o6 : A6) (o7 : A7) (o8 : A8) (o9 : A9) (rec : Int32 → A2 → A3 → A4 → A5 → A6 → A7 → A8 → A9 → Prop), k < n → J (k + 1) o2 o3 o4 o5 o6 o7 o8 o9 → (∀ (p2 : A2) (p3 : A3) (p4 : A4) (p5 : A5) (p6 : A6) (p7 : A7) (p8 : A8) (p9 : A9), J k p2 p3 p4 p5 p6 p7 p8 p9 → rec (nI k + (-1)) p2 p3 p4 p5 p6 p7 p8 p9) → bd rec (nI k) o2 o3 o4 o5 o6 o7 o8 o9) : zl9 bd c0 i2 i3 i4 i5 i6 i7 i8 i9 := by
  refine ⟨fun a1 a2 a3 a4 a5 a6 a7 a8 a9 => ∃ k : Nat, k ≤ n ∧ a1 = nI k + (-1) ∧ J k a2 a3 a4 a5 a6 a7 a8 a9, fun a1 a2 a3 a4 a5 a6 a7 a8 a9 => (a1 + 1).toNatClampNeg, ⟨k0, hk0, hc, h0⟩, ?_⟩
  rintro a1 a2 a3 a4 a5 a6 a7 a8 a9 ⟨k, hk, rfl, hJ⟩
  cases k with
  | zero => exact hz a2 a3 a4 a5 a6 a7 a8 a9 _ hJ
  | succ k =>
    have e1 : nI (k + 1) + (-1) = nI k := pk_m1 k
    simp only [e1]
    exact hs k a2 a3 a4 a5 a6 a7 a8 a9 _ (by omega) hJ (fun p2 p3 p4 p5 p6 p7 p8 p9 hJ2 => ⟨⟨k, by omega, rfl, hJ2⟩, by show (nI k + (-1) + 1).toNatClampNeg < (nI k + 1).toNatClampNeg; rw [zm_m11, nI_1, nI_clamp (by omega), nI_clamp (by omega)]; omega⟩)
theorem zu9_2 {A1 A3 A4 A5 A6 A7 A8 A9 : Type} {bd : (A1 → Int32 → A3 → A4 → A5 → A6 → A7 → A8 → A9 → Prop) → A1 → Int32 → A3 → A4 → A5 → A6 → A7 → A8 → A9 → Prop} {i1 : A1} {i3 : A3} {i4 : A4} {i5 : A5} {i6 : A6} {i7 : A7} {i8 : A8} {i9 : A9} {c0 : Int32} (n : Nat) (hn : n < 2 ^ 31) (J : Nat → A1 → A3 → A4 → A5 → A6 → A7 → A8 → A9 → Prop) (k0 : Nat) (hc : c0 = nI k0) (hk0 : k0 ≤ n) (h0 : J k0 i1 i3 i4 i5 i6 i7 i8 i9) (hs : ∀ (k : Nat) (o1 : A1) (o3 : A3) (o4 : A4) (o5 : A5) (o6 : A6) (o7 : A7) (o8 : A8) (o9 : A9) (rec : A1 → Int32 → A3 → A4 → A5 → A6 → A7 → A8 → A9 → Prop), k ≤ n → J k o1 o3 o4 o5 o6 o7 o8 o9 → (∀ (p1 : A1) (p3 : A3) (p4 : A4) (p5 : A5) (p6 : A6) (p7 : A7) (p8 : A8) (p9 : A9), k < n → J (k + 1) p1 p3 p4 p5 p6 p7 p8 p9 → rec p1 (nI (k + 1)) p3 p4 p5 p6 p7 p8 p9) → bd rec o1 (nI k) o3 o4 o5 o6 o7 o8 o9) : zl9 bd i1 c0 i3 i4 i5 i6 i7 i8 i9 := by
  refine ⟨fun a1 a2 a3 a4 a5 a6 a7 a8 a9 => ∃ k : Nat, k ≤ n ∧ a2 = nI k ∧ J k a1 a3 a4 a5 a6 a7 a8 a9, fun a1 a2 a3 a4 a5 a6 a7 a8 a9 => n - a2.toNatClampNeg, ⟨k0, hk0, hc, h0⟩, ?_⟩
  rintro a1 a2 a3 a4 a5 a6 a7 a8 a9 ⟨k, hk, rfl, hJ⟩
  exact hs k a1 a3 a4 a5 a6 a7 a8 a9 _ hk hJ (fun p1 p3 p4 p5 p6 p7 p8 p9 hlt hJ2 => ⟨⟨k + 1, hlt, rfl, hJ2⟩, by show n - (nI (k + 1)).toNatClampNeg < n - (nI k).toNatClampNeg; rw [nI_clamp (by omega), nI_clamp (by omega)]; omega⟩)
theorem zd9_2 {A1 A3 A4 A5 A6 A7 A8 A9 : Type} {bd : (A1 → Int32 → A3 → A4 → A5 → A6 → A7 → A8 → A9 → Prop) → A1 → Int32 → A3 → A4 → A5 → A6 → A7 → A8 → A9 → Prop} {i1 : A1} {i3 : A3} {i4 : A4} {i5 : A5} {i6 : A6} {i7 : A7} {i8 : A8} {i9 : A9} {c0 : Int32} (n : Nat) (hn : n < 2 ^ 31) (J : Nat → A1 → A3 → A4 → A5 → A6 → A7 → A8 → A9 → Prop) (k0 : Nat) (hc : c0 = nI k0 + (-1)) (hk0 : k0 ≤ n) (h0 : J k0 i1 i3 i4 i5 i6 i7 i8 i9) (hz : ∀ (p1 : A1) (p3 : A3) (p4 : A4) (p5 : A5) (p6 : A6) (p7 : A7) (p8 : A8) (p9 : A9), ∀ rec : A1 → Int32 → A3 → A4 → A5 → A6 → A7 → A8 → A9 → Prop, J 0 p1 p3 p4 p5 p6 p7 p8 p9 → bd rec p1 (-1) p3 p4 p5 p6 p7 p8 p9) (hs : ∀ (k : Nat) (o1 : A1) (o3 : A3) (o4 : A4) (o5 : A5) (o6 : A6) (o7 : A7) (o8 : A8) (o9 : A9) (rec : A1 → Int32 → A3 → A4 → A5 → A6 → A7 → A8 → A9 → Prop), k < n → J (k + 1) o1 o3 o4 o5 o6 o7 o8 o9 → (∀ (p1 : A1) (p3 : A3) (p4 : A4) (p5 : A5) (p6 : A6) (p7 : A7) (p8 : A8) (p9 : A9), J k p1 p3 p4 p5 p6 p7 p8 p9 → rec p1 (nI k + (-1)) p3 p4 p5 p6 p7 p8 p9) → bd rec o1 (nI k) o3 o4 o5 o6 o7 o8 o9) : zl9 bd i1 c0 i3 i4 i5 i6 i7 i8 i9 := by
  refine ⟨fun a1 a2 a3 a4 a5 a6 a7 a8 a9 => ∃ k : Nat, k ≤ n ∧ a2 = nI k + (-1) ∧ J k a1 a3 a4 a5 a6 a7 a8 a9, fun a1 a2 a3 a4 a5 a6 a7 a8 a9 => (a2 + 1).toNatClampNeg, ⟨k0, hk0, hc, h0⟩, ?_⟩
  rintro a1 a2 a3 a4 a5 a6 a7 a8 a9 ⟨k, hk, rfl, hJ⟩
  cases k with
  | zero => exact hz a1 a3 a4 a5 a6 a7 a8 a9 _ hJ
  | succ k =>
    have e1 : nI (k + 1) + (-1) = nI k := pk_m1 k
    simp only [e1]
    exact hs k a1 a3 a4 a5 a6 a7 a8 a9 _ (by omega) hJ (fun p1 p3 p4 p5 p6 p7 p8 p9 hJ2 => ⟨⟨k, by omega, rfl, hJ2⟩, by show (nI k + (-1) + 1).toNatClampNeg < (nI k + 1).toNatClampNeg; rw [zm_m11, nI_1, nI_clamp (by omega), nI_clamp (by omega)]; omega⟩)
theorem zu9_3 {A1 A2 A4 A5 A6 A7 A8 A9 : Type} {bd : (A1 → A2 → Int32 → A4 → A5 → A6 → A7 → A8 → A9 → Prop) → A1 → A2 → Int32 → A4 → A5 → A6 → A7 → A8 → A9 → Prop} {i1 : A1} {i2 : A2} {i4 : A4} {i5 : A5} {i6 : A6} {i7 : A7} {i8 : A8} {i9 : A9} {c0 : Int32} (n : Nat) (hn : n < 2 ^ 31) (J : Nat → A1 → A2 → A4 → A5 → A6 → A7 → A8 → A9 → Prop) (k0 : Nat) (hc : c0 = nI k0) (hk0 : k0 ≤ n) (h0 : J k0 i1 i2 i4 i5 i6 i7 i8 i9) (hs : ∀ (k : Nat) (o1 : A1) (o2 : A2) (o4 : A4) (o5 : A5) (o6 : A6) (o7 : A7) (o8 : A8) (o9 : A9) (rec : A1 → A2 → Int32 → A4 → A5 → A6 → A7 → A8 → A9 → Prop), k ≤ n → J k o1 o2 o4 o5 o6 o7 o8 o9 → (∀ (p1 : A1) (p2 : A2) (p4 : A4) (p5 : A5) (p6 : A6) (p7 : A7) (p8 : A8) (p9 : A9), k < n → J (k + 1) p1 p2 p4 p5 p6 p7 p8 p9 → rec p1 p2 (nI (k + 1)) p4 p5 p6 p7 p8 p9) → bd rec o1 o2 (nI k) o4 o5 o6 o7 o8 o9) : zl9 bd i1 i2 c0 i4 i5 i6 i7 i8 i9 := by
  refine ⟨fun a1 a2 a3 a4 a5 a6 a7 a8 a9 => ∃ k : Nat, k ≤ n ∧ a3 = nI k ∧ J k a1 a2 a4 a5 a6 a7 a8 a9, fun a1 a2 a3 a4 a5 a6 a7 a8 a9 => n - a3.toNatClampNeg, ⟨k0, hk0, hc, h0⟩, ?_⟩
  rintro a1 a2 a3 a4 a5 a6 a7 a8 a9 ⟨k, hk, rfl, hJ⟩
  exact hs k a1 a2 a4 a5 a6 a7 a8 a9 _ hk hJ (fun p1 p2 p4 p5 p6 p7 p8 p9 hlt hJ2 => ⟨⟨k + 1, hlt, rfl, hJ2⟩, by show n - (nI (k + 1)).toNatClampNeg < n - (nI k).toNatClampNeg; rw [nI_clamp (by omega), nI_clamp (by omega)]; omega⟩)
theorem zd9_3 {A1 A2 A4 A5 A6 A7 A8 A9 : Type} {bd : (A1 → A2 → Int32 → A4 → A5 → A6 → A7 → A8 → A9 → Prop) → A1 → A2 → Int32 → A4 → A5 → A6 → A7 → A8 → A9 → Prop} {i1 : A1} {i2 : A2} {i4 : A4} {i5 : A5} {i6 : A6} {i7 : A7} {i8 : A8} {i9 : A9} {c0 : Int32} (n : Nat) (hn : n < 2 ^ 31) (J : Nat → A1 → A2 → A4 → A5 → A6 → A7 → A8 → A9 → Prop) (k0 : Nat) (hc : c0 = nI k0 + (-1)) (hk0 : k0 ≤ n) (h0 : J k0 i1 i2 i4 i5 i6 i7 i8 i9) (hz : ∀ (p1 : A1) (p2 : A2) (p4 : A4) (p5 : A5) (p6 : A6) (p7 : A7) (p8 : A8) (p9 : A9), ∀ rec : A1 → A2 → Int32 → A4 → A5 → A6 → A7 → A8 → A9 → Prop, J 0 p1 p2 p4 p5 p6 p7 p8 p9 → bd rec p1 p2 (-1) p4 p5 p6 p7 p8 p9) (hs : ∀ (k : Nat) (o1 : A1) (o2 : A2) (o4 : A4) (o5 : A5) (o6 : A6) (o7 : A7) (o8 : A8) (o9 : A9) (rec : A1 → A2 → Int32 → A4 → A5 → A6 → A7 → A8 → A9 → Prop), k < n → J (k + 1) o1 o2 o4 o5 o6 o7 o8 o9 → (∀ (p1 : A1) (p2 : A2) (p4 : A4) (p5 : A5) (p6 : A6) (p7 : A7) (p8 : A8) (p9 : A9), J k p1 p2 p4 p5 p6 p7 p8 p9 → rec p1 p2 (nI k + (-1)) p4 p5 p6 p7 p8 p9) → bd rec o1 o2 (nI k) o4 o5 o6 o7 o8 o9) : zl9 bd i1 i2 c0 i4 i5 i6 i7 i8 i9 := by
  refine ⟨fun a1 a2 a3 a4 a5 a6 a7 a8 a9 => ∃ k : Nat, k ≤ n ∧ a3 = nI k + (-1) ∧ J k a1 a2 a4 a5 a6 a7 a8 a9, fun a1 a2 a3 a4 a5 a6 a7 a8 a9 => (a3 + 1).toNatClampNeg, ⟨k0, hk0, hc, h0⟩, ?_⟩
  rintro a1 a2 a3 a4 a5 a6 a7 a8 a9 ⟨k, hk, rfl, hJ⟩
  cases k with
  | zero => exact hz a1 a2 a4 a5 a6 a7 a8 a9 _ hJ
  | succ k =>
    have e1 : nI (k + 1) + (-1) = nI k := pk_m1 k
    simp only [e1]
    exact hs k a1 a2 a4 a5 a6 a7 a8 a9 _ (by omega) hJ (fun p1 p2 p4 p5 p6 p7 p8 p9 hJ2 => ⟨⟨k, by omega, rfl, hJ2⟩, by show (nI k + (-1) + 1).toNatClampNeg < (nI k + 1).toNatClampNeg; rw [zm_m11, nI_1, nI_clamp (by omega), nI_clamp (by omega)]; omega⟩)
theorem zu9_4 {A1 A2 A3 A5 A6 A7 A8 A9 : Type} {bd : (A1 → A2 → A3 → Int32 → A5 → A6 → A7 → A8 → A9 → Prop) → A1 → A2 → A3 → Int32 → A5 → A6 → A7 → A8 → A9 → Prop} {i1 : A1} {i2 : A2} {i3 : A3} {i5 : A5} {i6 : A6} {i7 : A7} {i8 : A8} {i9 : A9} {c0 : Int32} (n : Nat) (hn : n < 2 ^ 31) (J : Nat → A1 → A2 → A3 → A5 → A6 → A7 → A8 → A9 → Prop) (k0 : Nat) (hc : c0 = nI k0) (hk0 : k0 ≤ n) (h0 : J k0 i1 i2 i3 i5 i6 i7 i8 i9) (hs : ∀ (k : Nat) (o1 : A1) (o2 : A2) (o3 : A3) (o5 : A5) (o6 : A6) (o7 : A7) (o8 : A8) (o9 : A9) (rec : A1 → A2 → A3 → Int32 → A5 → A6 → A7 → A8 → A9 → Prop), k ≤ n → J k o1 o2 o3 o5 o6 o7 o8 o9 → (∀ (p1 : A1) (p2 : A2) (p3 : A3) (p5 : A5) (p6 : A6) (p7 : A7) (p8 : A8) (p9 : A9), k < n → J (k + 1) p1 p2 p3 p5 p6 p7 p8 p9 → rec p1 p2 p3 (nI (k + 1)) p5 p6 p7 p8 p9) → bd rec o1 o2 o3 (nI k) o5 o6 o7 o8 o9) : zl9 bd i1 i2 i3 c0 i5 i6 i7 i8 i9 := by
  refine ⟨fun a1 a2 a3 a4 a5 a6 a7 a8 a9 => ∃ k : Nat, k ≤ n ∧ a4 = nI k ∧ J k a1 a2 a3 a5 a6 a7 a8 a9, fun a1 a2 a3 a4 a5 a6 a7 a8 a9 => n - a4.toNatClampNeg, ⟨k0, hk0, hc, h0⟩, ?_⟩
  rintro a1 a2 a3 a4 a5 a6 a7 a8 a9 ⟨k, hk, rfl, hJ⟩
  exact hs k a1 a2 a3 a5 a6 a7 a8 a9 _ hk hJ (fun p1 p2 p3 p5 p6 p7 p8 p9 hlt hJ2 => ⟨⟨k + 1, hlt, rfl, hJ2⟩, by show n - (nI (k + 1)).toNatClampNeg < n - (nI k).toNatClampNeg; rw [nI_clamp (by omega), nI_clamp (by omega)]; omega⟩)
theorem zd9_4 {A1 A2 A3 A5 A6 A7 A8 A9 : Type} {bd : (A1 → A2 → A3 → Int32 → A5 → A6 → A7 → A8 → A9 → Prop) → A1 → A2 → A3 → Int32 → A5 → A6 → A7 → A8 → A9 → Prop} {i1 : A1} {i2 : A2} {i3 : A3} {i5 : A5} {i6 : A6} {i7 : A7} {i8 : A8} {i9 : A9} {c0 : Int32} (n : Nat) (hn : n < 2 ^ 31) (J : Nat → A1 → A2 → A3 → A5 → A6 → A7 → A8 → A9 → Prop) (k0 : Nat) (hc : c0 = nI k0 + (-1)) (hk0 : k0 ≤ n) (h0 : J k0 i1 i2 i3 i5 i6 i7 i8 i9) (hz : ∀ (p1 : A1) (p2 : A2) (p3 : A3) (p5 : A5) (p6 : A6) (p7 : A7) (p8 : A8) (p9 : A9), ∀ rec : A1 → A2 → A3 → Int32 → A5 → A6 → A7 → A8 → A9 → Prop, J 0 p1 p2 p3 p5 p6 p7 p8 p9 → bd rec p1 p2 p3 (-1) p5 p6 p7 p8 p9) (hs : ∀ (k : Nat) (o1 : A1) (o2 : A2) (o3 : A3) (o5 : A5) (o6 : A6) (o7 : A7) (o8 : A8) (o9 : A9) (rec : A1 → A2 → A3 → Int32 → A5 → A6 → A7 → A8 → A9 → Prop), k < n → J (k + 1) o1 o2 o3 o5 o6 o7 o8 o9 → (∀ (p1 : A1) (p2 : A2) (p3 : A3) (p5 : A5) (p6 : A6) (p7 : A7) (p8 : A8) (p9 : A9), J k p1 p2 p3 p5 p6 p7 p8 p9 → rec p1 p2 p3 (nI k + (-1)) p5 p6 p7 p8 p9) → bd rec o1 o2 o3 (nI k) o5 o6 o7 o8 o9) : zl9 bd i1 i2 i3 c0 i5 i6 i7 i8 i9 := by
  refine ⟨fun a1 a2 a3 a4 a5 a6 a7 a8 a9 => ∃ k : Nat, k ≤ n ∧ a4 = nI k + (-1) ∧ J k a1 a2 a3 a5 a6 a7 a8 a9, fun a1 a2 a3 a4 a5 a6 a7 a8 a9 => (a4 + 1).toNatClampNeg, ⟨k0, hk0, hc, h0⟩, ?_⟩
  rintro a1 a2 a3 a4 a5 a6 a7 a8 a9 ⟨k, hk, rfl, hJ⟩
  cases k with
  | zero => exact hz a1 a2 a3 a5 a6 a7 a8 a9 _ hJ
  | succ k =>
    have e1 : nI (k + 1) + (-1) = nI k := pk_m1 k
    simp only [e1]
    exact hs k a1 a2 a3 a5 a6 a7 a8 a9 _ (by omega) hJ (fun p1 p2 p3 p5 p6 p7 p8 p9 hJ2 => ⟨⟨k, by omega, rfl, hJ2⟩, by show (nI k + (-1) + 1).toNatClampNeg < (nI k + 1).toNatClampNeg; rw [zm_m11, nI_1, nI_clamp (by omega), nI_clamp (by omega)]; omega⟩)
theorem zu9_5 {A1 A2 A3 A4 A6 A7 A8 A9 : Type} {bd : (A1 → A2 → A3 → A4 → Int32 → A6 → A7 → A8 → A9 → Prop) → A1 → A2 → A3 → A4 → Int32 → A6 → A7 → A8 → A9 → Prop} {i1 : A1} {i2 : A2} {i3 : A3} {i4 : A4} {i6 : A6} {i7 : A7} {i8 : A8} {i9 : A9} {c0 : Int32} (n : Nat) (hn : n < 2 ^ 31) (J : Nat → A1 → A2 → A3 → A4 → A6 → A7 → A8 → A9 → Prop) (k0 : Nat) (hc : c0 = nI k0) (hk0 : k0 ≤ n) (h0 : J k0 i1 i2 i3 i4 i6 i7 i8 i9) (hs : ∀ (k : Nat) (o1 : A1) (o2 : A2) (o3 : A3) (o4 : A4) (o6 : A6) (o7 : A7) (o8 : A8) (o9 : A9) (rec : A1 → A2 → A3 → A4 → Int32 → A6 → A7 → A8 → A9 → Prop), k ≤ n → J k o1 o2 o3 o4 o6 o7 o8 o9 → (∀ (p1 : A1) (p2 : A2) (p3 : A3) (p4 : A4) (p6 : A6) (p7 : A7) (p8 : A8) (p9 : A9), k < n → J (k + 1) p1 p2 p3 p4 p6 p7 p8 p9 → rec p1 p2 p3 p4 (nI (k + 1)) p6 p7 p8 p9) → bd rec o1 o2 o3 o4 (nI k) o6 o7 o8 o9) : zl9 bd i1 i2 i3 i4 c0 i6 i7 i8 i9 := by
  refine ⟨fun a1 a2 a3 a4 a5 a6 a7 a8 a9 => ∃ k : Nat, k ≤ n ∧ a5 = nI k ∧ J k a1 a2 a3 a4 a6 a7 a8 a9, fun a1 a2 a3 a4 a5 a6 a7 a8 a9 => n - a5.toNatClampNeg, ⟨k0, hk0, hc, h0⟩, ?_⟩
  rintro a1 a2 a3 a4 a5 a6 a7 a8 a9 ⟨k, hk, rfl, hJ⟩
  exact hs k a1 a2 a3 a4 a6 a7 a8 a9 _ hk hJ (fun p1 p2 p3 p4 p6 p7 p8 p9 hlt hJ2 => ⟨⟨k + 1, hlt, rfl, hJ2⟩, by show n - (nI (k + 1)).toNatClampNeg < n - (nI k).toNatClampNeg; rw [nI_clamp (by omega), nI_clamp (by omega)]; omega⟩)
theorem zd9_5 {A1 A2 A3 A4 A6 A7 A8 A9 : Type} {bd : (A1 → A2 → A3 → A4 → Int32 → A6 → A7 → A8 → A9 → Prop) → A1 → A2 → A3 → A4 → Int32 → A6 → A7 → A8 → A9 → Prop} {i1 : A1} {i2 : A2} {i3 : A3} {i4 : A4} {i6 : A6} {i7 : A7} {i8 : A8} {i9 : A9} {c0 : Int32} (n : Nat) (hn : n < 2 ^ 31) (J : Nat → A1 → A2 → A3 → A4 → A6 → A7 → A8 → A9 → Prop) (k0 : Nat) (hc : c0 = nI k0 + (-1)) (hk0 : k0 ≤ n) (h0 : J k0 i1 i2 i3 i4 i6 i7 i8 i9) (hz : ∀ (p1 : A1) (p2 : A2) (p3 : A3) (p4 : A4) (p6 : A6) (p7 : A7) (p8 : A8) (p9 : A9), ∀ rec : A1 → A2 → A3 → A4 → Int32 → A6 → A7 → A8 → A9 → Prop, J 0 p1 p2 p3 p4 p6 p7 p8 p9 → bd rec p1 p2 p3 p4 (-1) p6 p7 p8 p9) (hs : ∀ (k : Nat) (o1 : A1) (o2 : A2) (o3 : A3) (o4 : A4) (o6 : A6) (o7 : A7) (o8 : A8) (o9 : A9) (rec : A1 → A2 → A3 → A4 → Int32 → A6 → A7 → A8 → A9 → Prop), k < n → J (k + 1) o1 o2 o3 o4 o6 o7 o8 o9 → (∀ (p1 : A1) (p2 : A2) (p3 : A3) (p4 : A4) (p6 : A6) (p7 : A7) (p8 : A8) (p9 : A9), J k p1 p2 p3 p4 p6 p7 p8 p9 → rec p1 p2 p3 p4 (nI k + (-1)) p6 p7 p8 p9) → bd rec o1 o2 o3 o4 (nI k) o6 o7 o8 o9) : zl9 bd i1 i2 i3 i4 c0 i6 i7 i8 i9 := by
  refine ⟨fun a1 a2 a3 a4 a5 a6 a7 a8 a9 => ∃ k : Nat, k ≤ n ∧ a5 = nI k + (-1) ∧ J k a1 a2 a3 a4 a6 a7 a8 a9, fun a1 a2 a3 a4 a5 a6 a7 a8 a9 => (a5 + 1).toNatClampNeg, ⟨k0, hk0, hc, h0⟩, ?_⟩
  rintro a1 a2 a3 a4 a5 a6 a7 a8 a9 ⟨k, hk, rfl, hJ⟩
  cases k with
  | zero => exact hz a1 a2 a3 a4 a6 a7 a8 a9 _ hJ
  | succ k =>
    have e1 : nI (k + 1) + (-1) = nI k := pk_m1 k
    simp only [e1]
    exact hs k a1 a2 a3 a4 a6 a7 a8 a9 _ (by omega) hJ (fun p1 p2 p3 p4 p6 p7 p8 p9 hJ2 => ⟨⟨k, by omega, rfl, hJ2⟩, by show (nI k + (-1) + 1).toNatClampNeg < (nI k + 1).toNatClampNeg; rw [zm_m11, nI_1, nI_clamp (by omega), nI_clamp (by omega)]; omega⟩)
theorem zu9_6 {A1 A2 A3 A4 A5 A7 A8 A9 : Type} {bd : (A1 → A2 → A3 → A4 → A5 → Int32 → A7 → A8 → A9 → Prop) → A1 → A2 → A3 → A4 → A5 → Int32 → A7 → A8 → A9 → Prop} {i1 : A1} {i2 : A2} {i3 : A3} {i4 : A4} {i5 : A5} {i7 : A7} {i8 : A8} {i9 : A9} {c0 : Int32} (n : Nat) (hn : n < 2 ^ 31) (J : Nat → A1 → A2 → A3 → A4 → A5 → A7 → A8 → A9 → Prop) (k0 : Nat) (hc : c0 = nI k0) (hk0 : k0 ≤ n) (h0 : J k0 i1 i2 i3 i4 i5 i7 i8 i9) (hs : ∀ (k : Nat) (o1 : A1) (o2 : A2) (o3 : A3) (o4 : A4) (o5 : A5) (o7 : A7) (o8 : A8) (o9 : A9) (rec : A1 → A2 → A3 → A4 → A5 → Int32 → A7 → A8 → A9 → Prop), k ≤ n → J k o1 o2 o3 o4 o5 o7 o8 o9 → (∀ (p1 : A1) (p2 : A2) (p3 : A3) (p4 : A4) (p5 : A5) (p7 : A7) (p8 : A8) (p9 : A9), k < n → J (k + 1) p1 p2 p3 p4 p5 p7 p8 p9 → rec p1 p2 p3 p4 p5 (nI (k + 1)) p7 p8 p9) → bd rec o1 o2 o3 o4 o5 (nI k) o7 o8 o9) : zl9 bd i1 i2 i3 i4 i5 c0 i7 i8 i9 := by
  refine ⟨fun a1 a2 a3 a4 a5 a6 a7 a8 a9 => ∃ k : Nat, k ≤ n ∧ a6 = nI k ∧ J k a1 a2 a3 a4 a5 a7 a8 a9, fun a1 a2 a3 a4 a5 a6 a7 a8 a9 => n - a6.toNatClampNeg, ⟨k0, hk0, hc, h0⟩, ?_⟩
  rintro a1 a2 a3 a4 a5 a6 a7 a8 a9 ⟨k, hk, rfl, hJ⟩
  exact hs k a1 a2 a3 a4 a5 a7 a8 a9 _ hk hJ (fun p1 p2 p3 p4 p5 p7 p8 p9 hlt hJ2 => ⟨⟨k + 1, hlt, rfl, hJ2⟩, by show n - (nI (k + 1)).toNatClampNeg < n - (nI k).toNatClampNeg; rw [nI_clamp (by omega), nI_clamp (by omega)]; omega⟩)
theorem zd9_6 {A1 A2 A3 A4 A5 A7 A8 A9 : Type} {bd : (A1 → A2 → A3 → A4 → A5 → Int32 → A7 → A8 → A9 → Prop) → A1 → A2 → A3 → A4 → A5 → Int32 → A7 → A8 → A9 → Prop} {i1 : A1} {i2 : A2} {i3 : A3} {i4 : A4} {i5 : A5} {i7 : A7} {i8 : A8} {i9 : A9} {c0 : Int32} (n : Nat) (hn : n < 2 ^ 31) (J : Nat → A1 → A2 → A3 → A4 → A5 → A7 → A8 → A9 → Prop) (k0 : Nat) (hc : c0 = nI k0 + (-1)) (hk0 : k0 ≤ n) (h0 : J k0 i1 i2 i3 i4 i5 i7 i8 i9) (hz : ∀ (p1 : A1) (p2 : A2) (p3 : A3) (p4 : A4) (p5 : A5) (p7 : A7) (p8 : A8) (p9 : A9), ∀ rec : A1 → A2 → A3 → A4 → A5 → Int32 → A7 → A8 → A9 → Prop, J 0 p1 p2 p3 p4 p5 p7 p8 p9 → bd rec p1 p2 p3 p4 p5 (-1) p7 p8 p9) (hs : ∀ (k : Nat) (o1 : A1) (o2 : A2) (o3 : A3) (o4 : A4) (o5 : A5) (o7 : A7) (o8 : A8) (o9 : A9) (rec : A1 → A2 → A3 → A4 → A5 → Int32 → A7 → A8 → A9 → Prop), k < n → J (k + 1) o1 o2 o3 o4 o5 o7 o8 o9 → (∀ (p1 : A1) (p2 : A2) (p3 : A3) (p4 : A4) (p5 : A5) (p7 : A7) (p8 : A8) (p9 : A9), J k p1 p2 p3 p4 p5 p7 p8 p9 → rec p1 p2 p3 p4 p5 (nI k + (-1)) p7 p8 p9) → bd rec o1 o2 o3 o4 o5 (nI k) o7 o8 o9) : zl9 bd i1 i2 i3 i4 i5 c0 i7 i8 i9 := by
  refine ⟨fun a1 a2 a3 a4 a5 a6 a7 a8 a9 => ∃ k : Nat, k ≤ n ∧ a6 = nI k + (-1) ∧ J k a1 a2 a3 a4 a5 a7 a8 a9, fun a1 a2 a3 a4 a5 a6 a7 a8 a9 => (a6 + 1).toNatClampNeg, ⟨k0, hk0, hc, h0⟩, ?_⟩
  rintro a1 a2 a3 a4 a5 a6 a7 a8 a9 ⟨k, hk, rfl, hJ⟩
  cases k with
  | zero => exact hz a1 a2 a3 a4 a5 a7 a8 a9 _ hJ
  | succ k =>
    have e1 : nI (k + 1) + (-1) = nI k := pk_m1 k
    simp only [e1]
    exact hs k a1 a2 a3 a4 a5 a7 a8 a9 _ (by omega) hJ (fun p1 p2 p3 p4 p5 p7 p8 p9 hJ2 => ⟨⟨k, by omega, rfl, hJ2⟩, by show (nI k + (-1) + 1).toNatClampNeg < (nI k + 1).toNatClampNeg; rw [zm_m11, nI_1, nI_clamp (by omega), nI_clamp (by omega)]; omega⟩)
theorem zu9_7 {A1 A2 A3 A4 A5 A6 A8 A9 : Type} {bd : (A1 → A2 → A3 → A4 → A5 → A6 → Int32 → A8 → A9 → Prop) → A1 → A2 → A3 → A4 → A5 → A6 → Int32 → A8 → A9 → Prop} {i1 : A1} {i2 : A2} {i3 : A3} {i4 : A4} {i5 : A5} {i6 : A6} {i8 : A8} {i9 : A9} {c0 : Int32} (n : Nat) (hn : n < 2 ^ 31) (J : Nat → A1 → A2 → A3 → A4 → A5 → A6 → A8 → A9 → Prop) (k0 : Nat) (hc : c0 = nI k0) (hk0 : k0 ≤ n) (h0 : J k0 i1 i2 i3 i4 i5 i6 i8 i9) (hs : ∀ (k : Nat) (o1 : A1) (o2 : A2) (o3 : A3) (o4 : A4) (o5 : A5) (o6 : A6) (o8 : A8) (o9 : A9) (rec : A1 → A2 → A3 → A4 → A5 → A6 → Int32 → A8 → A9 → Prop), k ≤ n → J k o1 o2 o3 o4 o5 o6 o8 o9 → (∀ (p1 : A1) (p2 : A2) (p3 : A3) (p4 : A4) (p5 : A5) (p6 : A6) (p8 : A8) (p9 : A9), k < n → J (k + 1) p1 p2 p3 p4 p5 p6 p8 p9 → rec p1 p2 p3 p4 p5 p6 (nI (k + 1)) p8 p9) → bd rec o1 o2 o3 o4 o5 o6 (nI k) o8 o9) : zl9 bd i1 i2 i3 i4 i5 i6 c0 i8 i9 := by
  refine ⟨fun a1 a2 a3 a4 a5 a6 a7 a8 a9 => ∃ k : Nat, k ≤ n ∧ a7 = nI k ∧ J k a1 a2 a3 a4 a5 a6 a8 a9, fun a1 a2 a3 a4 a5 a6 a7 a8 a9 => n - a7.toNatClampNeg, ⟨k0, hk0, hc, h0⟩, ?_⟩
  rintro a1 a2 a3 a4 a5 a6 a7 a8 a9 ⟨k, hk, rfl, hJ⟩
  exact hs k a1 a2 a3 a4 a5 a6 a8 a9 _ hk hJ (fun p1 p2 p3 p4 p5 p6 p8 p9 hlt hJ2 => ⟨⟨k + 1, hlt, rfl, hJ2⟩, by show n - (nI (k + 1)).toNatClampNeg < n - (nI k).toNatClampNeg; rw [nI_clamp (by omega), nI_clamp (by omega)]; omega⟩)
theorem zd9_7 {A1 A2 A3 A4 A5 A6 A8 A9 : Type} {bd : (A1 → A2 → A3 → A4 → A5 → A6 → Int32 → A8 → A9 → Prop) → A1 → A2 → A3 → A4 → A5 → A6 → Int32 → A8 → A9 → Prop} {i1 : A1} {i2 : A2} {i3 : A3} {i4 : A4} {i5 : A5} {i6 : A6} {i8 : A8} {i9 : A9} {c0 : Int32} (n : Nat) (hn : n < 2 ^ 31) (J : Nat → A1 → A2 → A3 → A4 → A5 → A6 → A8 → A9 → Prop) (k0 : Nat) (hc : c0 = nI k0 + (-1)) (hk0 : k0 ≤ n) (h0 : J k0 i1 i2 i3 i4 i5 i6 i8 i9) (hz : ∀ (p1 : A1) (p2 : A2) (p3 : A3) (p4 : A4) (p5 : A5) (p6 : A6) (p8 : A8) (p9 : A9), ∀ rec : A1 → A2 → A3 → A4 → A5 → A6 → Int32 → A8 → A9 → Prop, J 0 p1 p2 p3 p4 p5 p6 p8 p9 → bd rec p1 p2 p3 p4 p5 p6 (-1) p8 p9) (hs : ∀ (k : Nat) (o1 : A1) (o2 : A2) (o3 : A3) (o4 : A4) (o5 : A5) (o6 : A6) (o8 : A8) (o9 : A9) (rec : A1 → A2 → A3 → A4 → A5 → A6 → Int32 → A8 → A9 → Prop), k < n → J (k + 1) o1 o2 o3 o4 o5 o6 o8 o9 → (∀ (p1 : A1) (p2 : A2) (p3 : A3) (p4 : A4) (p5 : A5) (p6 : A6) (p8 : A8) (p9 : A9), J k p1 p2 p3 p4 p5 p6 p8 p9 → rec p1 p2 p3 p4 p5 p6 (nI k + (-1)) p8 p9) → bd rec o1 o2 o3 o4 o5 o6 (nI k) o8 o9) : zl9 bd i1 i2 i3 i4 i5 i6 c0 i8 i9 := by
  refine ⟨fun a1 a2 a3 a4 a5 a6 a7 a8 a9 => ∃ k : Nat, k ≤ n ∧ a7 = nI k + (-1) ∧ J k a1 a2 a3 a4 a5 a6 a8 a9, fun a1 a2 a3 a4 a5 a6 a7 a8 a9 => (a7 + 1).toNatClampNeg, ⟨k0, hk0, hc, h0⟩, ?_⟩
  rintro a1 a2 a3 a4 a5 a6 a7 a8 a9 ⟨k, hk, rfl, hJ⟩
  cases k with
  | zero => exact hz a1 a2 a3 a4 a5 a6 a8 a9 _ hJ
  | succ k =>
    have e1 : nI (k + 1) + (-1) = nI k := pk_m1 k
    simp only [e1]
    exact hs k a1 a2 a3 a4 a5 a6 a8 a9 _ (by omega) hJ (fun p1 p2 p3 p4 p5 p6 p8 p9 hJ2 => ⟨⟨k, by omega, rfl, hJ2⟩, by show (nI k + (-1) + 1).toNatClampNeg < (nI k + 1).toNatClampNeg; rw [zm_m11, nI_1, nI_clamp (by omega), nI_clamp (by omega)]; omega⟩)
theorem zu9_8 {A1 A2 A3 A4 A5 A6 A7 A9 : Type} {bd : (A1 → A2 → A3 → A4 → A5 → A6 → A7 → Int32 → A9 → Prop) → A1 → A2 → A3 → A4 → A5 → A6 → A7 → Int32 → A9 → Prop} {i1 : A1} {i2 : A2} {i3 : A3} {i4 : A4} {i5 : A5} {i6 : A6} {i7 : A7} {i9 : A9} {c0 : Int32} (n : Nat) (hn : n < 2 ^ 31) (J : Nat → A1 → A2 → A3 → A4 → A5 → A6 → A7 → A9 → Prop) (k0 : Nat) (hc : c0 = nI k0) (hk0 : k0 ≤ n) (h0 : J k0 i1 i2 i3 i4 i5 i6 i7 i9) (hs : ∀ (k : Nat) (o1 : A1) (o2 : A2) (o3 : A3) (o4 : A4) (o5 : A5) (o6 : A6) (o7 : A7) (o9 : A9) (rec : A1 → A2 → A3 → A4 → A5 → A6 → A7 → Int32 → A9 → Prop), k ≤ n → J k o1 o2 o3 o4 o5 o6 o7 o9 → (∀ (p1 : A1) (p2 : A2) (p3 : A3) (p4 : A4) (p5 : A5) (p6 : A6) (p7 : A7) (p9 : A9), k < n → J (k + 1) p1 p2 p3 p4 p5 p6 p7 p9 → rec p1 p2 p3 p4 p5 p6 p7 (nI (k + 1)) p9) → bd rec o1 o2 o3 o4 o5 o6 o7 (nI k) o9) : zl9 bd i1 i2 i3 i4 i5 i6 i7 c0 i9 := by
  refine ⟨fun a1 a2 a3 a4 a5 a6 a7 a8 a9 => ∃ k : Nat, k ≤ n ∧ a8 = nI k ∧ J k a1 a2 a3 a4 a5 a6 a7 a9, fun a1 a2 a3 a4 a5 a6 a7 a8 a9 => n - a8.toNatClampNeg, ⟨k0, hk0, hc, h0⟩, ?_⟩
  rintro a1 a2 a3 a4 a5 a6 a7 a8 a9 ⟨k, hk, rfl, hJ⟩
  exact hs k a1 a2 a3 a4 a5 a6 a7 a9 _ hk hJ (fun p1 p2 p3 p4 p5 p6 p7 p9 hlt hJ2 => ⟨⟨k + 1, hlt, rfl, hJ2⟩, by show n - (nI (k + 1)).toNatClampNeg < n - (nI k).toNatClampNeg; rw [nI_clamp (by omega), nI_clamp (by omega)]; omega⟩)
theorem zd9_8 {A1 A2 A3 A4 A5 A6 A7 A9 : Type} {bd : (A1 → A2 → A3 → A4 → A5 → A6 → A7 → Int32 → A9 → Prop) → A1 → A2 → A3 → A4 → A5 → A6 → A7 → Int32 → A9 → Prop} {i1 : A1} {i2 : A2} {i3 : A3} {i4 : A4} {i5 : A5} {i6 : A6} {i7 : A7} {i9 : A9} {c0 : Int32} (n : Nat) (hn : n < 2 ^ 31) (J : Nat → A1 → A2 → A3 → A4 → A5 → A6 → A7 → A9 → Prop) (k0 : Nat) (hc : c0 = nI k0 + (-1)) (hk0 : k0 ≤ n) (h0 : J k0 i1 i2 i3 i4 i5 i6 i7 i9) (hz : ∀ (p1 : A1) (p2 : A2) (p3 : A3) (p4 : A4) (p5 : A5) (p6 : A6) (p7 : A7) (p9 : A9), ∀ rec : A1 → A2 → A3 → A4 → A5 → A6 → A7 → Int32 → A9 → Prop, J 0 p1 p2 p3 p4 p5 p6 p7 p9 → bd rec p1 p2 p3 p4 p5 p6 p7 (-1) p9) (hs : ∀ (k : Nat) (o1 : A1) (o2 : A2) (o3 : A3) (o4 : A4) (o5 : A5) (o6 : A6) (o7 : A7) (o9 : A9) (rec : A1 → A2 → A3 → A4 → A5 → A6 → A7 → Int32 → A9 → Prop), k < n → J (k + 1) o1 o2 o3 o4 o5 o6 o7 o9 → (∀ (p1 : A1) (p2 : A2) (p3 : A3) (p4 : A4) (p5 : A5) (p6 : A6) (p7 : A7) (p9 : A9), J k p1 p2 p3 p4 p5 p6 p7 p9 → rec p1 p2 p3 p4 p5 p6 p7 (nI k + (-1)) p9) → bd rec o1 o2 o3 o4 o5 o6 o7 (nI k) o9) : zl9 bd i1 i2 i3 i4 i5 i6 i7 c0 i9 := by
  refine ⟨fun a1 a2 a3 a4 a5 a6 a7 a8 a9 => ∃ k : Nat, k ≤ n ∧ a8 = nI k + (-1) ∧ J k a1 a2 a3 a4 a5 a6 a7 a9, fun a1 a2 a3 a4 a5 a6 a7 a8 a9 => (a8 + 1).toNatClampNeg, ⟨k0, hk0, hc, h0⟩, ?_⟩
  rintro a1 a2 a3 a4 a5 a6 a7 a8 a9 ⟨k, hk, rfl, hJ⟩
  cases k with
  | zero => exact hz a1 a2 a3 a4 a5 a6 a7 a9 _ hJ
  | succ k =>
    have e1 : nI (k + 1) + (-1) = nI k := pk_m1 k
    simp only [e1]
    exact hs k a1 a2 a3 a4 a5 a6 a7 a9 _ (by omega) hJ (fun p1 p2 p3 p4 p5 p6 p7 p9 hJ2 => ⟨⟨k, by omega, rfl, hJ2⟩, by show (nI k + (-1) + 1).toNatClampNeg < (nI k + 1).toNatClampNeg; rw [zm_m11, nI_1, nI_clamp (by omega), nI_clamp (by omega)]; omega⟩)
theorem zu9_9 {A1 A2 A3 A4 A5 A6 A7 A8 : Type} {bd : (A1 → A2 → A3 → A4 → A5 → A6 → A7 → A8 → Int32 → Prop) → A1 → A2 → A3 → A4 → A5 → A6 → A7 → A8 → Int32 → Prop} {i1 : A1} {i2 : A2} {i3 : A3} {i4 : A4} {i5 : A5} {i6 : A6} {i7 : A7} {i8 : A8} {c0 : Int32} (n : Nat) (hn : n < 2 ^ 31) (J : Nat → A1 → A2 → A3 → A4 → A5 → A6 → A7 → A8 → Prop) (k0 : Nat) (hc : c0 = nI k0) (hk0 : k0 ≤ n) (h0 : J k0 i1 i2 i3 i4 i5 i6 i7 i8) (hs : ∀ (k : Nat) (o1 : A1) (o2 : A2) (o3 : A3) (o4 : A4) (o5 : A5) (o6 : A6) (o7 : A7) (o8 : A8) (rec : A1 → A2 → A3 → A4 → A5 → A6 → A7 → A8 → Int32 → Prop), k ≤ n → J k o1 o2 o3 o4 o5 o6 o7 o8 → (∀ (p1 : A1) (p2 : A2) (p3 : A3) (p4 : A4) (p5 : A5) (p6 : A6) (p7 : A7) (p8 : A8), k < n → J (k + 1) p1 p2 p3 p4 p5 p6 p7 p8 → rec p1 p2 p3 p4 p5 p6 p7 p8 (nI (k + 1))) → bd rec o1 o2 o3 o4 o5 o6 o7 o8 (nI k)) : zl9 bd i1 i2 i3 i4 i5 i6 i7 i8 c0 := by
  refine ⟨fun a1 a2 a3 a4 a5 a6 a7 a8 a9 => ∃ k : Nat, k ≤ n ∧ a9 = nI k ∧ J k a1 a2 a3 a4 a5 a6 a7 a8, fun a1 a2 a3 a4 a5 a6 a7 a8 a9 => n - a9.toNatClampNeg, ⟨k0, hk0, hc, h0⟩, ?_⟩
  rintro a1 a2 a3 a4 a5 a6 a7 a8 a9 ⟨k, hk, rfl, hJ⟩
  exact hs k a1 a2 a3 a4 a5 a6 a7 a8 _ hk hJ (fun p1 p2 p3 p4 p5 p6 p7 p8 hlt hJ2 => ⟨⟨k + 1, hlt, rfl, hJ2⟩, by show n - (nI (k + 1)).toNatClampNeg < n - (nI k).toNatClampNeg; rw [nI_clamp (by omega), nI_clamp (by omega)]; omega⟩)
theorem zd9_9 {A1 A2 A3 A4 A5 A6 A7 A8 : Type} {bd : (A1 → A2 → A3 → A4 → A5 → A6 → A7 → A8 → Int32 → Prop) → A1 → A2 → A3 → A4 → A5 → A6 → A7 → A8 → Int32 → Prop} {i1 : A1} {i2 : A2} {i3 : A3} {i4 : A4} {i5 : A5} {i6 : A6} {i7 : A7} {i8 : A8} {c0 : Int32} (n : Nat) (hn : n < 2 ^ 31) (J : Nat → A1 → A2 → A3 → A4 → A5 → A6 → A7 → A8 → Prop) (k0 : Nat) (hc : c0 = nI k0 + (-1)) (hk0 : k0 ≤ n) (h0 : J k0 i1 i2 i3 i4 i5 i6 i7 i8) (hz : ∀ (p1 : A1) (p2 : A2) (p3 : A3) (p4 : A4) (p5 : A5) (p6 : A6) (p7 : A7) (p8 : A8), ∀ rec : A1 → A2 → A3 → A4 → A5 → A6 → A7 → A8 → Int32 → Prop, J 0 p1 p2 p3 p4 p5 p6 p7 p8 → bd rec p1 p2 p3 p4 p5 p6 p7 p8 (-1)) (hs : ∀ (k : Nat) (o1 : A1) (o2 : A2) (o3 : A3) (o4 : A4) (o5 : A5) (o6 : A6) (o7 : A7) (o8 : A8) (rec : A1 → A2 → A3 → A4 → A5 → A6 → A7 → A8 → Int32 → Prop), k < n → J (k + 1) o1 o2 o3 o4 o5 o6 o7 o8 → (∀ (p1 : A1) (p2 : A2) (p3 : A3) (p4 : A4) (p5 : A5) (p6 : A6) (p7 : A7) (p8 : A8), J k p1 p2 p3 p4 p5 p6 p7 p8 → rec p1 p2 p3 p4 p5 p6 p7 p8 (nI k + (-1))) → bd rec o1 o2 o3 o4 o5 o6 o7 o8 (nI k)) : zl9 bd i1 i2 i3 i4 i5 i6 i7 i8 c0 := by
  refine ⟨fun a1 a2 a3 a4 a5 a6 a7 a8 a9 => ∃ k : Nat, k ≤ n ∧ a9 = nI k + (-1) ∧ J k a1 a2 a3 a4 a5 a6 a7 a8, fun a1 a2 a3 a4 a5 a6 a7 a8 a9 => (a9 + 1).toNatClampNeg, ⟨k0, hk0, hc, h0⟩, ?_⟩
  rintro a1 a2 a3 a4 a5 a6 a7 a8 a9 ⟨k, hk, rfl, hJ⟩
  cases k with
  | zero => exact hz a1 a2 a3 a4 a5 a6 a7 a8 _ hJ
  | succ k =>
    have e1 : nI (k + 1) + (-1) = nI k := pk_m1 k
    simp only [e1]
    exact hs k a1 a2 a3 a4 a5 a6 a7 a8 _ (by omega) hJ (fun p1 p2 p3 p4 p5 p6 p7 p8 hJ2 => ⟨⟨k, by omega, rfl, hJ2⟩, by show (nI k + (-1) + 1).toNatClampNeg < (nI k + 1).toNatClampNeg; rw [zm_m11, nI_1, nI_clamp (by omega), nI_clamp (by omega)]; omega⟩)
