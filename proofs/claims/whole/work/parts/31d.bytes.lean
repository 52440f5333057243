/-! PURE BYTES AND GRIDS -/
theorem lb_shr (x : Int64) {s : Nat} {k : Nat} (hs : s + k < 64) : lb (jlshr x (nI s)) k = lb x (s + k) := by
  unfold jlshr lb
  rw [Int64.toBitVec_shiftRight, lb_cs s (by omega), BitVec.sshiftRight_eq', BitVec.toNat_ofNat, Nat.mod_eq_of_lt (by omega), BitVec.getLsbD_sshiftRight]
  simp [show k < 64 by omega, hs, Nat.not_le.mpr (show k < 64 by omega)]
theorem lb_lo (x : Int64) {i : Nat} (hi : i < 32) : x.toInt32.toBitVec.getLsbD i = lb x i := by
  rw [Int64.toBitVec_toInt32, BitVec.getLsbD_signExtend]
  simp [hi, lb, show i < 64 by omega]
theorem lb_255 : ∀ i, i < 64 → lb 255 i = decide (i < 8) := by decide +kernel
theorem ib_255 : ∀ i, i < 32 → (255 : Int32).toBitVec.getLsbD i = decide (i < 8) := by decide +kernel
theorem nI_8 (k : Nat) : (8 : Int32) * nI k = nI (8 * k) := by
  rw [show (8 : Int32) = nI 8 from rfl, pk_mul]
theorem byte_eq (v : Int64) {k : Nat} (hk : k < 8) : ((jlshr v ((8 : Int32) * nI k)).toInt32 &&& 255) = ((jlushr v ((8 : Int32) * nI k)) &&& (255 : Int64)).toInt32 := by
  rw [nI_8]
  apply Int32.toBitVec_inj.mp
  refine BitVec.eq_of_getLsbD_eq (fun i hi => ?_)
  rw [Int32.toBitVec_and, BitVec.getLsbD_and, lb_lo _ hi, lb_lo _ hi, lb_and, lb_255 i (by omega), ib_255 i hi, lb_ushr v (by omega)]
  by_cases h8 : i < 8
  · rw [lb_shr v (by omega)]
  · rw [decide_eq_false h8, Bool.and_false, Bool.and_false]
theorem toI32_nI (x : Int64) : x.toInt32 = nI (vN x) := by
  apply Int32.toBitVec_inj.mp
  apply BitVec.eq_of_toNat_eq
  rw [Int64.toBitVec_toInt32, BitVec.signExtend_eq_setWidth_of_le _ (by omega), BitVec.toNat_setWidth]
  show vN x % 2 ^ 32 = (BitVec.ofNat 32 (vN x)).toNat
  rw [BitVec.toNat_ofNat]
theorem byte_val (v : Int64) : ∃ m, m < 256 ∧ (v &&& (255 : Int64)).toInt32 = nI m := by
  refine ⟨vN v &&& 255, ?_, ?_⟩
  · have : vN v &&& 255 ≤ 255 := Nat.and_le_right
    omega
  · rw [toI32_nI, vN_and]; rfl
theorem neg_no {A B : Prop} {k : Nat} (hk : k < 2 ^ 31) (b : B) : (nI k < 0 → A) ∧ (¬ nI k < 0 → B) :=
  br_lt (b := 0) hk (by omega) (fun q => absurd q (Nat.not_lt_zero k)) (fun _ => b)
theorem neg_yes {A B : Prop} (a : A) : ((-1 : Int32) < 0 → A) ∧ (¬ (-1 : Int32) < 0 → B) := ⟨fun _ => a, fun z => absurd (by decide) z⟩
theorem nI_m1 (k : Nat) : nI k - 1 = nI k + (-1) := Int32.sub_eq_add_neg ..
theorem cnt_grid (p : Nat → Nat → Bool) {R : Nat} : ∀ k, cnt (fun i => p (i / R) (i % R)) (R * k) = sm (fun c => cnt (p c) R) k
  | 0 => rfl
  | k + 1 => by
    rw [Nat.mul_succ, cnt_split, cnt_grid p k, sm]
    congr 1
    refine cnt_congr (fun j hj => ?_)
    rw [(ix1 hj).1, (ix1 hj).2]
theorem cnt_66 {p : Nat → Nat → Bool} {C R : Nat} (hC : C ≤ 6) (hR : R ≤ 6) (hp : ∀ c r, ¬ (c < C ∧ r < R) → p c r = false) : cnt (fun i => p (i / 6) (i % 6)) 36 = cnt (fun i => p (i / R) (i % R)) (C * R) := by
  rw [Nat.mul_comm C R, cnt_grid p C, show (36 : Nat) = 6 * 6 from rfl, cnt_grid p 6]
  rw [sm_cut hC (fun c hc _ => cnt_cut (m := 0) (by omega) (fun k _ => hp c k (by omega)))]
  exact sm_congr (fun c hc => cnt_cut hR (fun k hk => hp c k (by omega)))
theorem nI_lN {i : Nat} (h : i < 2 ^ 31) : (nI i).toInt64 = lN i := by
  apply Int64.toInt_inj.mp
  rw [Int32.toInt_toInt64, nI_toInt h, lN_toInt h]
