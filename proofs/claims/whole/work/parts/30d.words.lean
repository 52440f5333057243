/-! PURE WORDS: what the small methods answer -/
theorem pOK4 : ∀ (k n : Nat), pOK 4 2 k n → n * 3 + 2 ≤ 2 * 4 ^ k
  | 0, n, h => by have : n = 0 := h
                  subst this; decide
  | k + 1, n, h => by
    rw [pOK] at h
    have ih := pOK4 k (n / 4) h.2
    have h1 := h.1
    rw [Nat.pow_succ]
    omega
theorem pOK16 : ∀ (k n : Nat), pOK 16 4 k n → n * 15 + 4 ≤ 4 * 16 ^ k
  | 0, n, h => by have : n = 0 := h
                  subst this; decide
  | k + 1, n, h => by
    rw [pOK] at h
    have ih := pOK16 k (n / 16) h.2
    have h1 := h.1
    rw [Nat.pow_succ]
    omega
set_option maxRecDepth 20000 in
theorem pOK256 : ∀ (k n : Nat), pOK 256 8 k n → n * 255 + 8 ≤ 8 * 256 ^ k
  | 0, n, h => by have : n = 0 := h
                  subst this; decide
  | k + 1, n, h => by
    rw [pOK] at h
    have ih := pOK256 k (n / 256) h.2
    have h1 := h.1
    rw [Nat.pow_succ]
    omega
def vN (x : Int64) : Nat := x.toBitVec.toNat
theorem vN_lt (x : Int64) : vN x < 18446744073709551616 := x.toBitVec.isLt
theorem vN_and (x y : Int64) : vN (x &&& y) = vN x &&& vN y := by
  unfold vN; rw [Int64.toBitVec_and, BitVec.toNat_and]
theorem vN_sub {x y : Int64} (h : vN y ≤ vN x) : vN (x - y) = vN x - vN y := by
  have h1 := vN_lt x
  have h2 := vN_lt y
  unfold vN at *
  rw [Int64.toBitVec_sub, BitVec.toNat_sub]
  omega
theorem vN_add {x y : Int64} (h : vN x + vN y < 18446744073709551616) : vN (x + y) = vN x + vN y := by
  unfold vN at *
  rw [Int64.toBitVec_add, BitVec.toNat_add]
  omega
theorem vN_shr (x : Int64) {s : Nat} (hs : s < 64) : vN (jlushr x (nI s)) = vN x / 2 ^ s := by
  apply Nat.eq_of_testBit_eq
  intro i
  have h := lb_ushr x hs i
  unfold lb at h
  rw [BitVec.getLsbD, BitVec.getLsbD] at h
  rw [Nat.testBit_div_two_pow, Nat.add_comm]
  exact h
theorem vN_bit (x : Int64) (k : Nat) : (vN x).testBit k = lb x k := rfl
theorem sp_bitCount {x : Int64} {post : Int32 → Prop} (h : post (nI (cnt (lb x) 64))) : wp_J13_bitCount_95d88 x post := by
  unfold wp_J13_bitCount_95d88
  intro l1 e1 l2 e2 l3 e3 l4 e4
  have c1 : vN (6148914691236517205 : Int64) = pM1 32 := by decide +kernel
  have c2 : vN (3689348814741910323 : Int64) = pM2 16 := by decide +kernel
  have c3 : vN (1085102592571150095 : Int64) = pM3 8 := by decide +kernel
  have hx : vN x < 4 ^ 32 := vN_lt x
  obtain ⟨p1, p1l⟩ := p1_and 32 (vN x) hx
  have f1 : vN l1 = pS1 32 (vN x) := by
    rw [e1, ← p1]
    have e0 : vN ((jlushr x (1 : Int32)) &&& (6148914691236517205 : Int64)) = (vN x / 2) &&& pM1 32 := by
      rw [vN_and, c1, show (1 : Int32) = nI 1 from rfl, vN_shr x (by omega)]
    rw [vN_sub (by rw [e0]; exact p1l), e0]
  have k1 := pS1_ok 32 (vN x)
  rw [← f1] at k1
  have b1 := pOK4 32 _ k1
  have p2 := p2_and 16 (vN l1) k1
  have k2 := pS2_ok 16 (vN l1) k1
  have b2 := pOK16 16 _ k2
  have f2 : vN l2 = pS2 16 (vN l1) := by
    rw [e2, ← p2]
    have e0 : vN (l1 &&& (3689348814741910323 : Int64)) = vN l1 &&& pM2 16 := by rw [vN_and, c2]
    have e5 : vN ((jlushr l1 (2 : Int32)) &&& (3689348814741910323 : Int64)) = (vN l1 / 4) &&& pM2 16 := by
      rw [vN_and, c2, show (2 : Int32) = nI 2 from rfl, vN_shr l1 (by omega)]
    rw [vN_add (by rw [e0, e5, p2]; omega), e0, e5]
  rw [← f2] at k2 b2
  have p3 := p3_and 8 (vN l2) k2
  have k3 := pS3_ok 8 (vN l2) k2
  have b3 := pOK256 8 _ k3
  have f3 : vN l3 = pS3 8 (vN l2) := by
    rw [e3, ← p3, vN_and, c3]
    have e5 : vN (jlushr l2 (4 : Int32)) = vN l2 / 16 := by rw [show (4 : Int32) = nI 4 from rfl, vN_shr l2 (by omega)]
    rw [vN_add (by rw [e5]; omega), e5]
  rw [← f3] at k3 b3
  have g1 : vN (jlushr l3 (8 : Int32)) = vN l3 / 256 := by rw [show (8 : Int32) = nI 8 from rfl, vN_shr l3 (by omega)]
  have g2 : vN (l3 + jlushr l3 (8 : Int32)) = vN l3 + vN l3 / 256 := by rw [vN_add (by rw [g1]; omega), g1]
  have g3 : vN (jlushr (l3 + jlushr l3 (8 : Int32)) (16 : Int32)) = (vN l3 + vN l3 / 256) / 65536 := by rw [show (16 : Int32) = nI 16 from rfl, vN_shr _ (by omega), g2]
  have f4 : vN l4 = (vN l3 + vN l3 / 256) + (vN l3 + vN l3 / 256) / 65536 := by
    rw [e4, vN_add (by rw [g2, g3]; omega), g2, g3]
  have g5 : vN (jlushr l4 (32 : Int32)) = vN l4 / 4294967296 := by rw [show (32 : Int32) = nI 32 from rfl, vN_shr _ (by omega)]
  have g6 : vN (l4 + jlushr l4 (32 : Int32)) = vN l4 + vN l4 / 4294967296 := by rw [vN_add (by rw [g5]; omega), g5]
  have fin := pfin k3 (y1 := vN l3 + vN l3 / 256) rfl (y2 := vN l4) f4 (y3 := vN l4 + vN l4 / 4294967296) rfl
  have hcnt : dsum 256 8 (vN l3) = cnt (lb x) 64 := by
    rw [f3, dsum3 8 (vN l2) k2, f2, dsum2 16 (vN l1) k1, f1, dsum1 32 (vN x)]
    rfl
  have ez : ((l4 + jlushr l4 (32 : Int32)).toInt32) &&& (127 : Int32) = nI (cnt (lb x) 64) := by
    rw [pk_and _ 7 (by decide), ← hcnt, ← fin, ← g6]
    congr 1
    rw [Int64.toBitVec_toInt32, BitVec.signExtend_eq_setWidth_of_le _ (by decide), BitVec.toNat_setWidth]
    unfold vN
    omega
  rw [ez]
  exact h
theorem sp_isIn {x : Int64} {k : Nat} (hk : k < 64) {post : Int32 → Prop} (h : post (if lb x k then 1 else 0)) : wp_X7_isIn x (nI k) post := by
  unfold wp_X7_isIn
  refine ⟨fun e => ?_, fun e => ?_⟩
  · rw [(lb_bitAnd1 x hk).mp e] at h; exact h
  · have : lb x k = true := by
      cases hq : lb x k
      · exact absurd ((lb_bitAnd1 x hk).mpr hq) e
      · rfl
    rw [this] at h; exact h
theorem sp_cellOf {c r : Nat} {post : Int32 → Prop} (h : post (nI (10 * c + r))) : wp_X7_cellOf (nI c) (nI r) post := by
  unfold wp_X7_cellOf
  rw [show (10 : Int32) = nI 10 from rfl, pk_mul, nI_add]; exact h
theorem sp_rowOf {n : Nat} (hn : n < 2 ^ 31) {post : Int32 → Prop} (h : post (nI (n % 10))) : wp_X7_rowOf (nI n) post := by
  unfold wp_X7_rowOf
  rw [show (10 : Int32) = nI 10 from rfl, nI_irem hn (by omega) (by omega)]; exact h
theorem sp_columnOf {n : Nat} (hn : n < 2 ^ 31) {post : Int32 → Prop} (h : post (nI (n / 10))) : wp_X7_columnOf (nI n) post := by
  unfold wp_X7_columnOf
  rw [show (10 : Int32) = nI 10 from rfl, pk_div hn (by omega) (by omega)]; exact h
theorem sp_isWithin {v lo hi : Int32} {post : Int32 → Prop} (h1 : lo ≤ v → v ≤ hi → post 1) (h0 : ¬ (lo ≤ v ∧ v ≤ hi) → post 0) : wp_X7_isWithin v lo hi post := by
  unfold wp_X7_isWithin
  refine ⟨fun e => h0 (fun q => ?_), fun e => ⟨fun e2 => h0 (fun q => ?_), fun e2 => h1 ?_ ?_⟩⟩
  · exact absurd e (Int32.not_lt.mpr q.1)
  · exact absurd e2 (Int32.not_lt.mpr q.2)
  · exact Int32.not_lt.mp e
  · exact Int32.not_lt.mp e2
/-- lo .. hi told as numbers -/
theorem sp_withinN {v : Int32} {lo hi : Int32} {post : Int32 → Prop} {a b : Int} (ha : lo.toInt = a) (hb : hi.toInt = b) (h1 : a ≤ v.toInt → v.toInt ≤ b → post 1) (h0 : ¬ (a ≤ v.toInt ∧ v.toInt ≤ b) → post 0) : wp_X7_isWithin v lo hi post :=
  sp_isWithin (fun q1 q2 => h1 (by rw [← ha]; exact Int32.le_iff_toInt_le.mp q1) (by rw [← hb]; exact Int32.le_iff_toInt_le.mp q2)) (fun q => h0 (fun z => q ⟨Int32.le_iff_toInt_le.mpr (by rw [ha]; exact z.1), Int32.le_iff_toInt_le.mpr (by rw [hb]; exact z.2)⟩))
theorem nI_pred_toInt {C : Nat} (h : C < 2 ^ 31) : (nI C - 1).toInt = (C : Int) - 1 := by
  cases C with
  | zero => decide
  | succ C =>
    rw [nI_pred, nI_toInt (by omega)]
    omega
theorem sp_in0 {v : Int32} {C : Nat} (hC : C < 2 ^ 31) {post : Int32 → Prop} (h1 : (∃ k, k < C ∧ v = nI k) → post 1) (h0 : ¬ (∃ k, k < C ∧ v = nI k) → post 0) : wp_X7_isWithin v 0 (nI C - 1) post := by
  refine sp_withinN (a := 0) (b := (C : Int) - 1) (by decide) (nI_pred_toInt hC) (fun q1 q2 => h1 ((in_iff hC).mpr ⟨q1, by omega⟩)) (fun q => h0 (fun z => q ?_))
  have := (in_iff hC).mp z
  omega
theorem sp_in01 {v : Int32} {C : Nat} (hC : C < 2 ^ 31) {post : Int32 → Prop} (h1 : (∃ k, k < C ∧ v = nI k) → post 1) (h0 : ¬ (∃ k, k < C ∧ v = nI k) → post 0) : wp_X7_isWithin v 0 (nI C - 1) (fun r => (r = 0 ∨ r = 1) ∧ post r) :=
  sp_in0 hC (fun q => ⟨Or.inr rfl, h1 q⟩) (fun q => ⟨Or.inl rfl, h0 q⟩)
theorem sp_hasColumn {v : Int32} {C : Nat} (hC : C < 2 ^ 31) {post : Int32 → Prop} (h1 : (∃ k, k < C ∧ v = nI k) → post 1) (h0 : ¬ (∃ k, k < C ∧ v = nI k) → post 0) : wp_X3_hasColumn (nI C) v post := sp_in01 hC h1 h0
theorem sp_hasRow {v : Int32} {C : Nat} (hC : C < 2 ^ 31) {post : Int32 → Prop} (h1 : (∃ k, k < C ∧ v = nI k) → post 1) (h0 : ¬ (∃ k, k < C ∧ v = nI k) → post 0) : wp_X3_hasRow (nI C) v post := sp_in01 hC h1 h0
theorem sp_wasLaid {v : Int32} {C : Nat} (hC : C < 2 ^ 31) {post : Int32 → Prop} (h1 : (∃ k, k < C ∧ v = nI k) → post 1) (h0 : ¬ (∃ k, k < C ∧ v = nI k) → post 0) : wp_X1_wasLaid (nI C) v post := sp_in01 hC h1 h0
theorem sp_hasCell {u v : Int32} {C R : Nat} (hC : C < 2 ^ 31) (hR : R < 2 ^ 31) {post : Int32 → Prop} (h1 : (∃ k, k < C ∧ u = nI k) → (∃ k, k < R ∧ v = nI k) → post 1) (h0 : ¬ ((∃ k, k < C ∧ u = nI k) ∧ ∃ k, k < R ∧ v = nI k) → post 0) : wp_X3_hasCell (nI C) (nI R) u v post := by
  unfold wp_X3_hasCell
  refine sp_hasColumn hC (fun q => ⟨fun e => absurd e (by decide), fun _ => ?_⟩) (fun q => ⟨fun _ => h0 (fun z => q z.1), fun e => absurd rfl e⟩)
  exact sp_hasRow hR (fun q2 => ⟨fun e => absurd e (by decide), fun _ => h1 q q2⟩) (fun q2 => ⟨fun _ => h0 (fun z => q2 z.2), fun e => absurd rfl e⟩)
/-- the model's bounds -/
theorem sp_min {v lo hi : Int64} {post : Int32 → Prop} (h1 : lo ≤ v → v ≤ hi → post 1) (h0 : ¬ (lo ≤ v ∧ v ≤ hi) → post 0) : wp_X8_in v lo hi post := by
  unfold wp_X8_in
  refine ⟨fun e => h0 (fun q => ?_), fun e => ⟨fun e2 => h0 (fun q => ?_), fun e2 => h1 ?_ ?_⟩⟩
  · exact absurd e (Int64.not_lt.mpr q.1)
  · exact absurd e2 (Int64.not_lt.mpr q.2)
  · exact Int64.not_lt.mp e
  · exact Int64.not_lt.mp e2
theorem sp_minN {v : Int32} {lo hi : Int64} {post : Int32 → Prop} {a b : Int} (ha : lo.toInt = a) (hb : hi.toInt = b) (h1 : a ≤ v.toInt → v.toInt ≤ b → post 1) (h0 : ¬ (a ≤ v.toInt ∧ v.toInt ≤ b) → post 0) : wp_X8_in v.toInt64 lo hi post := by
  have e : v.toInt64.toInt = v.toInt := Int32.toInt_toInt64 v
  exact sp_min (fun q1 q2 => h1 (by rw [← ha, ← e]; exact Int64.le_iff_toInt_le.mp q1) (by rw [← hb, ← e]; exact Int64.le_iff_toInt_le.mp q2)) (fun q => h0 (fun z => q ⟨Int64.le_iff_toInt_le.mpr (by rw [ha, e]; exact z.1), Int64.le_iff_toInt_le.mpr (by rw [hb, e]; exact z.2)⟩))
theorem sp_min0 {v : Int32} {C : Nat} (hC : C < 2 ^ 31) {post : Int32 → Prop} (h1 : (∃ k, k < C ∧ v = nI k) → post 1) (h0 : ¬ (∃ k, k < C ∧ v = nI k) → post 0) : wp_X8_in v.toInt64 0 (nI C - 1).toInt64 post := by
  refine sp_minN (a := 0) (b := (C : Int) - 1) (by decide) (by rw [Int32.toInt_toInt64]; exact nI_pred_toInt hC) (fun q1 q2 => h1 ((in_iff hC).mpr ⟨q1, by omega⟩)) (fun q => h0 (fun z => q ?_))
  have := (in_iff hC).mp z
  omega
theorem sp_noColumn {v : Int32} {C : Nat} (hC : C < 2 ^ 31) {post : Int32 → Prop} (h1 : (∃ k, k < C ∧ v = nI k) → post 0) (h0 : ¬ (∃ k, k < C ∧ v = nI k) → post 1) : wp_X8_noColumn (nI C) v post := by
  unfold wp_X8_noColumn
  exact sp_min0 hC (fun q => ⟨fun _ => h1 q, fun e => absurd e (by decide)⟩) (fun q => ⟨fun e => absurd rfl e, fun _ => h0 q⟩)
theorem sp_noBundle {v : Int32} {C : Nat} (hC : C < 2 ^ 31) {post : Int32 → Prop} (h1 : (∃ k, k < C ∧ v = nI k) → post 0) (h0 : ¬ (∃ k, k < C ∧ v = nI k) → post 1) : wp_X8_noBundle (nI C) v post := by
  unfold wp_X8_noBundle
  exact sp_min0 hC (fun q => ⟨fun _ => h1 q, fun e => absurd e (by decide)⟩) (fun q => ⟨fun e => absurd rfl e, fun _ => h0 q⟩)
theorem sp_noCell {u v : Int32} {C R : Nat} (hC : C < 2 ^ 31) (hR : R < 2 ^ 31) {post : Int32 → Prop} (h1 : (∃ k, k < C ∧ u = nI k) → (∃ k, k < R ∧ v = nI k) → post 0) (h0 : ¬ ((∃ k, k < C ∧ u = nI k) ∧ ∃ k, k < R ∧ v = nI k) → post 1) : wp_X8_noCell (nI C) (nI R) u v post := by
  unfold wp_X8_noCell
  refine sp_noColumn hC (fun q => ⟨fun e => absurd rfl e, fun _ => ?_⟩) (fun q => ⟨fun _ => h0 (fun z => q z.1), fun e => absurd e (by decide)⟩)
  exact sp_min0 hR (fun q2 => ⟨fun _ => h1 q q2, fun e => absurd e (by decide)⟩) (fun q2 => ⟨fun e => absurd rfl e, fun _ => h0 (fun z => q2 z.2)⟩)
theorem cnt_thr {p : Nat → Bool} {t : Nat} : ∀ {n : Nat}, t ≤ n → (∀ k, k < n → p k = decide (k < t)) → cnt p n = t
  | 0, h, _ => by have : t = 0 := by omega
                  rw [this]; rfl
  | n + 1, h, hp => by
    rw [cnt, hp n (by omega)]
    by_cases ht : t ≤ n
    · rw [cnt_thr ht (fun k hk => hp k (by omega)), decide_eq_false (by omega)]; rfl
    · have e : t = n + 1 := by omega
      have : cnt p n = n := cnt_thr (Nat.le_refl n) (fun k hk => by rw [hp k (by omega)]; exact (decide_eq_decide.mpr (by omega)))
      rw [this, decide_eq_true (by omega), if_pos rfl, e]
theorem pow2_le6 : ∀ m, m ≤ 6 → 2 ^ m ≤ 64 := fun m hm => Nat.pow_le_pow_right (by omega) hm
theorem sp_greatest {x : Int64} {post : Int32 → Prop} (h : post (gtop (lb x) 64)) : wp_X7_greatest x post := by
  unfold wp_X7_greatest
  refine ⟨fun l2 l4 => ∃ m, m ≤ 6 ∧ l4 = nI (2 ^ m) ∧ ∀ k, k < 64 → (lb l2 k = true ↔ ∃ j, j < 2 ^ m ∧ lb x (k + j) = true), fun l2 l4 => 64 - l4.toNatClampNeg, ⟨0, by omega, rfl, ?_⟩, ?_⟩
  · intro k _
    constructor
    · intro h1; exact ⟨0, by decide, h1⟩
    · rintro ⟨j, hj, h1⟩
      have hj0 : j = 0 := by rw [Nat.pow_zero] at hj; omega
      rw [hj0] at h1; exact h1
  · rintro l2 l4 ⟨m, hm, rfl, hJ⟩
    have hp := pow2_le6 m hm
    unfold bd_X7_greatest_5
    rw [show (64 : Int32) = nI 64 from rfl]
    refine br_le (by omega) (by omega) (fun hge => ?_) (fun hlt => ?_)
    · have hz : ∀ k, k < 64 → (lb l2 k = true ↔ ∃ j, k ≤ j ∧ j < 64 ∧ lb x j = true) := by
        intro k hk
        rw [hJ k hk]
        constructor
        · rintro ⟨j, hj, h1⟩
          refine ⟨k + j, by omega, ?_, h1⟩
          rcases Nat.lt_or_ge (k + j) 64 with q | q
          · exact q
          · rw [lb_big q] at h1; cases h1
        · rintro ⟨j, h1, h2, h3⟩
          exact ⟨j - k, by omega, by rw [show k + (j - k) = j by omega]; exact h3⟩
      rcases gtop_some (p := lb x) (n := 64) with ⟨b, hb, h1, h2, h3⟩ | ⟨h1, h3⟩
      · have hcnt : cnt (lb l2) 64 = b + 1 := by
          refine cnt_thr (by omega) (fun k hk => ?_)
          by_cases hkb : k < b + 1
          · rw [decide_eq_true hkb]; exact (hz k hk).mpr ⟨b, by omega, hb, h1⟩
          · rw [decide_eq_false hkb]
            cases hq : lb l2 k with
            | false => rfl
            | true =>
              obtain ⟨j, q1, q2, q3⟩ := (hz k hk).mp hq
              rw [h2 j (by omega) q2] at q3; cases q3
        refine ⟨fun _ => sp_bitCount ?_, fun e => ?_⟩
        · rw [hcnt, nI_pred, ← h3]; exact h
        · have := (hz b hb).mpr ⟨b, Nat.le_refl b, hb, h1⟩
          rw [e, lb_zero] at this; cases this
      · refine ⟨fun e => absurd (lb_zero_iff.mpr (fun k hk => ?_)) e, fun _ => by rw [← h3]; exact h⟩
        cases hq : lb l2 k with
        | false => rfl
        | true =>
          obtain ⟨j, q1, q2, q3⟩ := (hz k hk).mp hq
          rw [h1 j q2] at q3; cases q3
    · have e2 : 2 ^ (m + 1) = 2 ^ m + 2 ^ m := by rw [Nat.pow_succ]; omega
      have hm6 : m + 1 ≤ 6 := by
        rcases Nat.lt_or_ge m 6 with q | q
        · omega
        · have : m = 6 := by omega
          rw [this] at hlt; exact absurd hlt (by decide)
      refine ⟨⟨m + 1, hm6, by rw [nI_add, e2], fun k hk => ?_⟩, ?_⟩
      · rw [lb_or, lb_ushr l2 hlt, Bool.or_eq_true, hJ k hk]
        constructor
        · rintro (⟨j, hj, h1⟩ | h1)
          · exact ⟨j, by omega, h1⟩
          · rcases Nat.lt_or_ge (2 ^ m + k) 64 with q | q
            · obtain ⟨j, hj, h2⟩ := (hJ _ q).mp h1
              exact ⟨2 ^ m + j, by omega, by rw [show k + (2 ^ m + j) = 2 ^ m + k + j by omega]; exact h2⟩
            · rw [lb_big q] at h1; cases h1
        · rintro ⟨j, hj, h1⟩
          rcases Nat.lt_or_ge j (2 ^ m) with q | q
          · exact Or.inl ⟨j, q, h1⟩
          · right
            have h64 : k + j < 64 := by
              rcases Nat.lt_or_ge (k + j) 64 with q2 | q2
              · exact q2
              · rw [lb_big q2] at h1; cases h1
            exact (hJ _ (by omega)).mpr ⟨j - 2 ^ m, by omega, by rw [show 2 ^ m + k + (j - 2 ^ m) = k + j by omega]; exact h1⟩
      · show 64 - (nI (2 ^ m) + nI (2 ^ m)).toNatClampNeg < 64 - (nI (2 ^ m)).toNatClampNeg
        have hpos : 0 < 2 ^ m := Nat.pos_of_ne_zero (by intro q; have := Nat.two_pow_pos m; omega)
        rw [nI_add, nI_clamp (by omega), nI_clamp (by omega)]
        omega
