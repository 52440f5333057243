/-! PURE POP: the count of bits by adding fields -/
def pM1 : Nat → Nat
  | 0 => 0
  | k + 1 => 4 * pM1 k + 1
def pM2 : Nat → Nat
  | 0 => 0
  | k + 1 => 16 * pM2 k + 3
def pM3 : Nat → Nat
  | 0 => 0
  | k + 1 => 256 * pM3 k + 15
theorem and_field {w a b x y : Nat} (hx : x < 2 ^ w) (hy : y < 2 ^ w) : (2 ^ w * a + x) &&& (2 ^ w * b + y) = 2 ^ w * (a &&& b) + (x &&& y) := by
  apply Nat.eq_of_testBit_eq
  intro i
  have hz : x &&& y < 2 ^ w := Nat.lt_of_le_of_lt Nat.and_le_left hx
  rw [Nat.testBit_and, Nat.testBit_two_pow_mul_add _ hx, Nat.testBit_two_pow_mul_add _ hy, Nat.testBit_two_pow_mul_add _ hz]
  split
  · rw [Nat.testBit_and]
  · rw [Nat.testBit_and]
theorem and4 {a b x y : Nat} (hx : x < 4) (hy : y < 4) : (4 * a + x) &&& (4 * b + y) = 4 * (a &&& b) + (x &&& y) := and_field (w := 2) hx hy
theorem and16 {a b x y : Nat} (hx : x < 16) (hy : y < 16) : (16 * a + x) &&& (16 * b + y) = 16 * (a &&& b) + (x &&& y) := and_field (w := 4) hx hy
theorem and256 {a b x y : Nat} (hx : x < 256) (hy : y < 256) : (256 * a + x) &&& (256 * b + y) = 256 * (a &&& b) + (x &&& y) := and_field (w := 8) hx hy
/-- the sums by fields of two, of four, of eight -/
def pS1 : Nat → Nat → Nat
  | 0, _ => 0
  | k + 1, n => 4 * pS1 k (n / 4) + (n % 4 - n % 4 / 2)
def pS2 : Nat → Nat → Nat
  | 0, _ => 0
  | k + 1, m => 16 * pS2 k (m / 16) + (m % 4 + m / 4 % 4)
def pS3 : Nat → Nat → Nat
  | 0, _ => 0
  | k + 1, q => 256 * pS3 k (q / 256) + (q % 16 + q / 16 % 16)
def pOK (b c : Nat) : Nat → Nat → Prop
  | 0, n => n = 0
  | k + 1, n => n % b ≤ c ∧ pOK b c k (n / b)
theorem and1d : ∀ x, x < 4 → x &&& 1 = x % 2 := by decide
theorem and3d : ∀ x, x < 16 → x &&& 3 = x % 4 := by decide
theorem and15d : ∀ x, x < 256 → x &&& 15 = x % 16 := by decide +kernel
theorem p1_and : ∀ (k n : Nat), n < 4 ^ k → n - ((n / 2) &&& pM1 k) = pS1 k n ∧ ((n / 2) &&& pM1 k) ≤ n
  | 0, n, h => by have : n = 0 := by omega
                  subst this; exact ⟨rfl, Nat.le_refl 0⟩
  | k + 1, n, h => by
    have h4 : n / 4 < 4 ^ k := by rw [Nat.pow_succ] at h; omega
    obtain ⟨e, hl⟩ := p1_and k (n / 4) h4
    have e1 : n / 2 = 4 * (n / 4 / 2) + (n / 2 % 4) := by omega
    have e2 : (n / 2) &&& pM1 (k + 1) = 4 * ((n / 4 / 2) &&& pM1 k) + (n / 2 % 4) % 2 := by
      rw [pM1]
      conv => lhs; rw [e1]
      rw [and4 (by omega) (by omega), and1d _ (by omega)]
    rw [e2, pS1, ← e]
    omega
theorem pS1_ok : ∀ (k n : Nat), pOK 4 2 k (pS1 k n)
  | 0, n => rfl
  | k + 1, n => by
    rw [pS1, pOK]
    refine ⟨by omega, ?_⟩
    rw [show (4 * pS1 k (n / 4) + (n % 4 - n % 4 / 2)) / 4 = pS1 k (n / 4) by omega]
    exact pS1_ok k (n / 4)
theorem p2_and : ∀ (k m : Nat), pOK 4 2 (2 * k) m → (m &&& pM2 k) + ((m / 4) &&& pM2 k) = pS2 k m
  | 0, m, h => by have : m = 0 := h
                  subst this; rfl
  | k + 1, m, h => by
    have h' : pOK 4 2 (2 * k + 1 + 1) m := h
    rw [pOK, pOK] at h'
    obtain ⟨h1, h2, h3⟩ := h'
    have e16 : m / 4 / 4 = m / 16 := by omega
    rw [e16] at h3
    have ih := p2_and k (m / 16) h3
    have a1 : m = 16 * (m / 16) + m % 16 := by omega
    have a2 : m / 4 = 16 * (m / 16 / 4) + m / 4 % 16 := by omega
    rw [pM2, pS2, ← ih]
    have b1 : m &&& (16 * pM2 k + 3) = 16 * ((m / 16) &&& pM2 k) + m % 16 % 4 := by
      conv => lhs; rw [a1]
      rw [and16 (by omega) (by omega), and3d _ (by omega)]
    have b2 : (m / 4) &&& (16 * pM2 k + 3) = 16 * ((m / 16 / 4) &&& pM2 k) + m / 4 % 16 % 4 := by
      conv => lhs; rw [a2]
      rw [and16 (by omega) (by omega), and3d _ (by omega)]
    rw [b1, b2]
    omega
theorem pS2_ok : ∀ (k m : Nat), pOK 4 2 (2 * k) m → pOK 16 4 k (pS2 k m)
  | 0, m, h => rfl
  | k + 1, m, h => by
    have h' : pOK 4 2 (2 * k + 1 + 1) m := h
    rw [pOK, pOK] at h'
    obtain ⟨h1, h2, h3⟩ := h'
    have e16 : m / 4 / 4 = m / 16 := by omega
    rw [e16] at h3
    rw [pS2, pOK]
    refine ⟨by rw [Nat.mul_add_mod, Nat.mod_eq_of_lt (by omega)]; omega, ?_⟩
    rw [show (16 * pS2 k (m / 16) + (m % 4 + m / 4 % 4)) / 16 = pS2 k (m / 16) by omega]
    exact pS2_ok k (m / 16) h3
theorem p3_and : ∀ (k q : Nat), pOK 16 4 (2 * k) q → (q + q / 16) &&& pM3 k = pS3 k q
  | 0, q, h => by have : q = 0 := h
                  subst this; rfl
  | k + 1, q, h => by
    have h' : pOK 16 4 (2 * k + 1 + 1) q := h
    rw [pOK, pOK] at h'
    obtain ⟨h1, h2, h3⟩ := h'
    have e256 : q / 16 / 16 = q / 256 := by omega
    rw [e256] at h3
    have ih := p3_and k (q / 256) h3
    have h3b : q / 256 % 16 ≤ 4 := by
      cases k with
      | zero => have : q / 256 = 0 := h3
                rw [this]; omega
      | succ k => have h3' : pOK 16 4 (2 * k + 1 + 1) (q / 256) := h3
                  rw [pOK] at h3'; exact h3'.1
    have a1 : q + q / 16 = 256 * (q / 256 + q / 256 / 16) + (q % 256 + q / 16 % 256) := by omega
    have a2 : q % 256 + q / 16 % 256 < 256 := by omega
    rw [pM3, pS3, ← ih]
    conv => lhs; rw [a1]
    rw [and256 a2 (by omega), and15d _ a2]
    omega
theorem pS3_ok : ∀ (k m : Nat), pOK 16 4 (2 * k) m → pOK 256 8 k (pS3 k m)
  | 0, m, h => rfl
  | k + 1, m, h => by
    have h' : pOK 16 4 (2 * k + 1 + 1) m := h
    rw [pOK, pOK] at h'
    obtain ⟨h1, h2, h3⟩ := h'
    have e16 : m / 16 / 16 = m / 256 := by omega
    rw [e16] at h3
    rw [pS3, pOK]
    refine ⟨by rw [Nat.mul_add_mod, Nat.mod_eq_of_lt (by omega)]; omega, ?_⟩
    rw [show (256 * pS3 k (m / 256) + (m % 16 + m / 16 % 16)) / 256 = pS3 k (m / 256) by omega]
    exact pS3_ok k (m / 256) h3
/-- the sum of the digits -/
def dsum (b : Nat) : Nat → Nat → Nat
  | 0, _ => 0
  | k + 1, n => n % b + dsum b k (n / b)
theorem dsum1 : ∀ (k n : Nat), dsum 4 k (pS1 k n) = cnt (fun i => n.testBit i) (2 * k)
  | 0, n => rfl
  | k + 1, n => by
    have e : cnt (fun i => n.testBit i) (2 * (k + 1)) = cnt (fun i => n.testBit i) 2 + cnt (fun i => n.testBit (2 + i)) (2 * k) := by
      rw [show 2 * (k + 1) = 2 + 2 * k by omega, cnt_split]
    have e2 : cnt (fun i => n.testBit (2 + i)) (2 * k) = cnt (fun i => (n / 4).testBit i) (2 * k) := by
      apply cnt_congr
      intro i _
      rw [show n / 4 = n / 2 ^ 2 from rfl, Nat.testBit_div_two_pow, Nat.add_comm]
    rw [dsum, pS1, e, e2, ← dsum1 k (n / 4)]
    rw [show (4 * pS1 k (n / 4) + (n % 4 - n % 4 / 2)) / 4 = pS1 k (n / 4) by omega, show (4 * pS1 k (n / 4) + (n % 4 - n % 4 / 2)) % 4 = n % 4 - n % 4 / 2 by omega]
    congr 1
    show n % 4 - n % 4 / 2 = 0 + (if n.testBit 0 then 1 else 0) + (if n.testBit 1 then 1 else 0)
    rw [Nat.testBit_zero, show n.testBit 1 = decide (n / 2 % 2 = 1) from by rw [show (1 : Nat) = 0 + 1 from rfl, Nat.testBit_succ, Nat.testBit_zero]]
    simp only [decide_eq_true_eq]
    split <;> split <;> omega
theorem dsum2 : ∀ (k m : Nat), pOK 4 2 (2 * k) m → dsum 16 k (pS2 k m) = dsum 4 (2 * k) m
  | 0, m, h => rfl
  | k + 1, m, h => by
    have h' : pOK 4 2 (2 * k + 1 + 1) m := h
    rw [pOK, pOK] at h'
    obtain ⟨h1, h2, h3⟩ := h'
    have e16 : m / 4 / 4 = m / 16 := by omega
    rw [e16] at h3
    show _ = dsum 4 (2 * k + 1 + 1) m
    rw [dsum, dsum, dsum, e16, ← dsum2 k (m / 16) h3, pS2]
    rw [show (16 * pS2 k (m / 16) + (m % 4 + m / 4 % 4)) / 16 = pS2 k (m / 16) by omega]
    omega
theorem dsum3 : ∀ (k m : Nat), pOK 16 4 (2 * k) m → dsum 256 k (pS3 k m) = dsum 16 (2 * k) m
  | 0, m, h => rfl
  | k + 1, m, h => by
    have h' : pOK 16 4 (2 * k + 1 + 1) m := h
    rw [pOK, pOK] at h'
    obtain ⟨h1, h2, h3⟩ := h'
    have e16 : m / 16 / 16 = m / 256 := by omega
    rw [e16] at h3
    show _ = dsum 16 (2 * k + 1 + 1) m
    rw [dsum, dsum, dsum, e16, ← dsum3 k (m / 256) h3, pS3]
    rw [show (256 * pS3 k (m / 256) + (m % 16 + m / 16 % 16)) / 256 = pS3 k (m / 256) by omega]
    omega
theorem pdig {k n : Nat} (h : pOK 256 8 (k + 1) n) : ∃ d m, d ≤ 8 ∧ n = d + 256 * m ∧ pOK 256 8 k m ∧ dsum 256 (k + 1) n = d + dsum 256 k m := by
  rw [pOK] at h
  exact ⟨n % 256, n / 256, h.1, by omega, h.2, rfl⟩
theorem pdiv {x y z q : Nat} (hy : 0 < y) (h : q = x + y * z) (hx : x < y) : q / y = z := by
  rw [h, Nat.add_mul_div_left _ _ hy, Nat.div_eq_of_lt hx, Nat.zero_add]
theorem pmod {x y z q : Nat} (h : q = x + y * z) (hx : x < y) : q % y = x := by
  rw [h, Nat.add_mul_mod_self_left, Nat.mod_eq_of_lt hx]
theorem pl1 {y d0 d1 d2 m0 m1 m2 : Nat} (h0 : y = d0 + 256 * m0) (h1 : m0 = d1 + 256 * m1) (h2 : m1 = d2 + 256 * m2) : y + m0 = ((d0 + d1) + 256 * (d1 + d2)) + 65536 * (m1 + m2) := by omega
theorem pl2 {d2 d3 d4 m1 m2 m3 m4 : Nat} (h2 : m1 = d2 + 256 * m2) (h3 : m2 = d3 + 256 * m3) (h4 : m3 = d4 + 256 * m4) : m1 + m2 = (d2 + d3) + 256 * (d3 + d4) + 65536 * (m3 + m4) := by omega
theorem pl3 {a0 a1 a2 a3 a4 a5 a6 P Q Z : Nat} (hP : P = (a2 + a3) + 256 * (a3 + a4) + 65536 * Q) (hQ : Q = (a4 + a5) + 256 * (a5 + a6) + 65536 * Z) : (((a0 + a1) + 256 * (a1 + a2)) + 65536 * P) + P = ((a0 + a1 + a2 + a3) + 256 * (a1 + a2 + a3 + a4) + 65536 * (a2 + a3 + a4 + a5) + 16777216 * (a3 + a4 + a5 + a6)) + 4294967296 * (Q + Z) := by omega
theorem pl4 {d4 d5 d6 d7 m3 m4 m5 m6 m7 : Nat} (h4 : m3 = d4 + 256 * m4) (h5 : m4 = d5 + 256 * m5) (h6 : m5 = d6 + 256 * m6) (h7 : m6 = d7 + 256 * m7) : m3 + m4 + (m5 + m6) = (d4 + d5 + d6 + d7) + 256 * (m4 + m5 + m6 + m7) := by omega
theorem pl5 {S0 S1 S2 S3 G G0 G1 : Nat} (hG : G = G0 + 256 * G1) : ((S0 + 256 * S1 + 65536 * S2 + 16777216 * S3) + 4294967296 * G) + G = (S0 + G0) + 128 * (2 * S1 + 512 * S2 + 131072 * S3 + 33554432 * G + 2 * G1) := by omega
theorem pb1 {a b c : Nat} (ha : a ≤ 8) (hb : b ≤ 8) (hc : c ≤ 8) : (a + b) + 256 * (b + c) < 65536 := by omega
theorem pb2 {a b c d : Nat} (ha : a ≤ 32) (hb : b ≤ 32) (hc : c ≤ 32) (hd : d ≤ 32) : a + 256 * b + 65536 * c + 16777216 * d < 4294967296 := by omega
theorem pb3 {a b c d : Nat} (ha : a ≤ 8) (hb : b ≤ 8) (hc : c ≤ 8) (hd : d ≤ 8) : a + b + c + d ≤ 32 := by omega
theorem pb4 {a b : Nat} (ha : a ≤ 32) (hb : b ≤ 32) : a + b < 128 := by omega
theorem pb5 {a b c d e f g h : Nat} : (a + b + c + d) + (e + f + g + h) = a + (b + (c + (d + (e + (f + (g + (h + 0))))))) := by omega
theorem pfin {y y1 y2 y3 : Nat} (h : pOK 256 8 8 y) (e1 : y1 = y + y / 256) (e2 : y2 = y1 + y1 / 65536) (e3 : y3 = y2 + y2 / 4294967296) : y3 % 128 = dsum 256 8 y := by
  obtain ⟨d0, m0, b0, h0, h, s0⟩ := pdig (k := 7) h
  obtain ⟨d1, m1, b1, h1, h, s1⟩ := pdig (k := 6) h
  obtain ⟨d2, m2, b2, h2, h, s2⟩ := pdig (k := 5) h
  obtain ⟨d3, m3, b3, h3, h, s3⟩ := pdig (k := 4) h
  obtain ⟨d4, m4, b4, h4, h, s4⟩ := pdig (k := 3) h
  obtain ⟨d5, m5, b5, h5, h, s5⟩ := pdig (k := 2) h
  obtain ⟨d6, m6, b6, h6, h, s6⟩ := pdig (k := 1) h
  obtain ⟨d7, m7, b7, h7, h, s7⟩ := pdig (k := 0) h
  have q1 : y / 256 = m0 := pdiv (by decide) h0 (Nat.lt_of_le_of_lt b0 (by decide))
  have f1 : y1 = ((d0 + d1) + 256 * (d1 + d2)) + 65536 * (m1 + m2) := by rw [e1, q1]; exact pl1 h0 h1 h2
  have g1 : y1 / 65536 = m1 + m2 := pdiv (by decide) f1 (pb1 b0 b1 b2)
  have f2 : y2 = ((d0 + d1 + d2 + d3) + 256 * (d1 + d2 + d3 + d4) + 65536 * (d2 + d3 + d4 + d5) + 16777216 * (d3 + d4 + d5 + d6)) + 4294967296 * ((m3 + m4) + (m5 + m6)) := by
    rw [e2, g1, f1]; exact pl3 (pl2 h2 h3 h4) (pl2 h4 h5 h6)
  have g2 : y2 / 4294967296 = (m3 + m4) + (m5 + m6) := pdiv (by decide) f2 (pb2 (pb3 b0 b1 b2 b3) (pb3 b1 b2 b3 b4) (pb3 b2 b3 b4 b5) (pb3 b3 b4 b5 b6))
  have f3 := pl5 (S0 := d0 + d1 + d2 + d3) (S1 := d1 + d2 + d3 + d4) (S2 := d2 + d3 + d4 + d5) (S3 := d3 + d4 + d5 + d6) (pl4 h4 h5 h6 h7)
  rw [← f2] at f3
  have f4 : y3 = _ := (by rw [e3, g2] : y3 = y2 + ((m3 + m4) + (m5 + m6))).trans f3
  rw [pmod f4 (pb4 (pb3 b0 b1 b2 b3) (pb3 b4 b5 b6 b7))]
  have e8 : dsum 256 8 y = d0 + (d1 + (d2 + (d3 + (d4 + (d5 + (d6 + (d7 + 0))))))) := by
    have s7' : dsum 256 1 m6 = d7 + 0 := s7
    rw [show dsum 256 8 y = _ from s0, s1, s2, s3, s4, s5, s6, s7']
  rw [e8]
  exact pb5
