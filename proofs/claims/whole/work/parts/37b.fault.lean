/-! PURE FAULT 2: both find the same place -/
theorem sp_figure {m : Nat} {T : Nat → Int32} {B : Nat → Nat} (hm : m ≤ 60) (hT : ∀ j, j < m → T j = nI (B j) ∧ B j < 256) {q : Nat} (hq : q < m) {post : Int32 → Prop} (h : post (nI (B q) - 48)) : wp_X5_figure (nI m) T (nI q) post := by
  unfold wp_X5_figure
  refine sp_in0 (by omega) (fun _ => t01 ⟨vp_in_nI (by omega) (by omega), ?_⟩) (fun z => absurd ⟨q, hq, rfl⟩ z)
  rw [nI_clamp (by omega), (hT q hq).1]
  exact h
theorem sp_firstFault {C R m : Nat} {T : Nat → Int32} {B : Nat → Nat} (hC1 : 1 ≤ C) (hC : C ≤ 6) (hR1 : 1 ≤ R) (hR : R ≤ 6) (hm : m ≤ 60) (hT : ∀ j, j < m → T j = nI (B j) ∧ B j < 256) {post : Int32 → Prop} (h : post (flt C R m B m 0)) : wp_X5_firstFault (nI C) (nI R) (nI m) T post := by
  unfold wp_X5_firstFault
  refine ⟨fun x => ∃ p f, x = nI p ∧ p ≤ 66 ∧ m ≤ p + f ∧ flt C R m B m 0 = flt C R m B f p, fun x => 100 - x.toNatClampNeg, ⟨0, m, rfl, by omega, by omega, rfl⟩, ?_⟩
  rintro x ⟨p, f, rfl, hp66, hpf, hV⟩
  unfold bd_X5_firstFault_2
  refine br_le (by omega) (by omega) (fun q => ?_) (fun q => ?_)
  · have e : flt C R m B f p = -9 := by
      cases f with
      | zero => rfl
      | succ f => rw [flt, if_pos q]
    rw [hV, e] at h; exact h
  · cases f with
    | zero => omega
    | succ f =>
      rw [flt, if_neg (by omega)] at hV
      have hF5 := figN_le (B p)
      obtain ⟨t1, t2⟩ := hT p q
      unfold wp_X5_faultOfPart
      rw [nI_clamp (by omega), t1]
      refine ⟨vp_in_nI (by omega) (by omega), sp_figuresOf t2 ?_⟩
      by_cases hF : figN (B p) = 0
      · rw [if_pos hF] at hV
        rw [hF]
        refine yx rfl (nn (nI_ne9 (by omega)) ?_)
        rw [hV] at h; exact h
      · rw [if_neg hF] at hV
        refine nx (fun z => hF (nI_inj (b := 0) (by omega) (by omega) z)) ?_
        refine zu1_1 (figN (B p) + 1) (by omega) (fun k => 1 ≤ k ∧ prtO C R m B p (figN (B p)) 0 = prtO C R m B p (figN (B p) + 1 - k) (k - 1)) 1 rfl (by omega) ⟨Nat.le_refl 1, rfl⟩ (fun k rec hk hJ hrec => ?_)
        obtain ⟨hk1, hJ⟩ := hJ
        unfold bd_X5_faultOfPart_19
        refine br_lt (by omega) (by omega) (fun q2 => ?_) (fun q2 => ?_)
        · rw [show figN (B p) + 1 - k = 0 by omega, prtO] at hJ
          rw [hJ] at hV
          refine yy rfl ⟨vp_in_nI (by omega) (by omega), sp_figuresOf t2 ?_⟩
          rw [show (1 : Int32) = nI 1 from rfl, nI_add, nI_add]
          refine ⟨⟨p + (1 + figN (B p)), f, rfl, by omega, by omega, ?_⟩, ?_⟩
          · rw [hV, ← Nat.add_assoc]
          · show 100 - (nI (p + (1 + figN (B p)))).toNatClampNeg < 100 - (nI p).toNatClampNeg
            rw [nI_clamp (by omega), nI_clamp (by omega)]
            omega
        · obtain ⟨j, rfl⟩ : ∃ j, k = j + 1 := ⟨k - 1, by omega⟩
          rw [show figN (B p) + 1 - (j + 1) = (figN (B p) - j - 1) + 1 by omega, show j + 1 - 1 = j by omega, prtO] at hJ
          rw [nI_add, show p + (j + 1) = p + 1 + j by omega]
          refine br_lt (by omega) (by omega) (fun q3 => ⟨vp_in_nI (by omega) (by omega), ?_⟩) (fun q3 => ?_)
          · rw [if_neg (by omega)] at hJ
            refine sp_figure hm hT q3 ?_
            rw [nI_clamp (show p < 2 ^ 31 by omega), t1]
            refine sp_fits hC1 hC hR1 hR (show j < figN (B p) by omega) ?_
            cases hok : okF C R (B p) j (nI (B (p + 1 + j)) - 48) with
            | true =>
              rw [hok, if_pos rfl] at hJ
              refine t10 ?_
              rw [nI_1]
              exact hrec (by omega) ⟨by omega, by rw [hJ, show figN (B p) + 1 - (j + 1 + 1) = figN (B p) - j - 1 by omega, show j + 1 + 1 - 1 = j + 1 by omega]⟩
            | false =>
              rw [hok, if_neg (by decide)] at hJ
              rw [hJ] at hV
              refine f10 (nn (nI_ne9 (by omega)) ?_)
              rw [hV] at h; exact h
          · rw [if_pos q3] at hJ
            rw [hJ] at hV
            refine nn (nI_ne9 (by omega)) ?_
            rw [hV] at h; exact h
theorem sp_faultOf {C R m : Nat} {T : Nat → Int32} {B : Nat → Nat} (hC1 : 1 ≤ C) (hC : C ≤ 6) (hR1 : 1 ≤ R) (hR : R ≤ 6) (hm : m ≤ 60) (hT : ∀ j, j < m → T j = nI (B j) ∧ B j < 256) {post : Int32 → Prop} (h : post (flt C R m B m 0)) : wp_X8_faultOf (nI C) (nI R) (nI m) T post := by
  unfold wp_X8_faultOf
  refine ⟨fun x => ∃ p f, x = nI p ∧ p ≤ 66 ∧ m ≤ p + f ∧ flt C R m B m 0 = flt C R m B f p, fun x => 100 - x.toNatClampNeg, ⟨0, m, rfl, by omega, by omega, rfl⟩, ?_⟩
  rintro x ⟨p, f, rfl, hp66, hpf, hV⟩
  unfold bd_X8_faultOf_2
  refine br_le (by omega) (by omega) (fun q => ?_) (fun q => ?_)
  · have e : flt C R m B f p = -9 := by
      cases f with
      | zero => rfl
      | succ f => rw [flt, if_pos q]
    rw [hV, e] at h; exact h
  · cases f with
    | zero => omega
    | succ f =>
      rw [flt, if_neg (by omega)] at hV
      have hF5 := figN_le (B p)
      obtain ⟨t1, t2⟩ := hT p q
      rw [nI_clamp (by omega), t1]
      refine ⟨vp_in_nI (by omega) (by omega), sp_figures t2 ?_⟩
      by_cases hF : figN (B p) = 0
      · rw [if_pos hF] at hV
        rw [if_pos hF]
        refine yx rfl ?_
        rw [hV] at h; exact h
      · rw [if_neg hF] at hV
        rw [if_neg hF]
        refine nx (nI_ne9 (by omega)) ?_
        rw [nI_1]
        refine zu2_2 (figN (B p)) (by omega) (fun k x => x = nI (p + 1 + k) ∧ p + 1 + k ≤ m ∧ prtO C R m B p (figN (B p)) 0 = prtO C R m B p (figN (B p) - k) k) 0 rfl (by omega) ⟨rfl, by omega, rfl⟩ (fun j x rec hk hJ hrec => ?_)
        obtain ⟨rfl, hj1, hJ⟩ := hJ
        unfold bd_X8_faultOf_36
        refine br_le (by omega) (by omega) (fun q2 => ?_) (fun q2 => ?_)
        · have hj : j = figN (B p) := by omega
          subst hj
          rw [Nat.sub_self, prtO] at hJ
          rw [hJ] at hV
          refine ⟨⟨p + 1 + figN (B p), f, rfl, by omega, by omega, hV⟩, ?_⟩
          show 100 - (nI (p + 1 + figN (B p))).toNatClampNeg < 100 - (nI p).toNatClampNeg
          rw [nI_clamp (by omega), nI_clamp (by omega)]
          omega
        · rw [show figN (B p) - j = (figN (B p) - j - 1) + 1 by omega, prtO] at hJ
          refine br_eq (by omega) (by omega) (fun q3 => ?_) (fun q3 => ⟨vp_in_nI (by omega) (by omega), ?_⟩)
          · rw [if_pos (by omega)] at hJ
            rw [hJ] at hV
            rw [hV, ← q3] at h; exact h
          · rw [if_neg (by omega)] at hJ
            rw [nI_clamp (show p < 2 ^ 31 by omega), t1, nI_clamp (show p + 1 + j < 2 ^ 31 by omega), (hT (p + 1 + j) (by omega)).1, nI_1, nI_1]
            refine sp_leastOf q2 ?_
            refine sp_mostOf hC1 hR1 q2 ?_
            have hlo : loF (B p) j < 2 ^ 31 := by
              unfold loF
              by_cases e1 : B p = 89
              · rw [if_pos e1]; omega
              · rw [if_neg e1]
                by_cases e2 : B p = 83 ∧ j = 1
                · rw [if_pos e2]; omega
                · rw [if_neg e2]
                  by_cases e3 : B p = 66 ∧ (j = 2 ∨ j = 4)
                  · rw [if_pos e3]; omega
                  · rw [if_neg e3]; omega
            have hhi : hiF C R (B p) j < 2 ^ 31 := by
              unfold hiF
              by_cases e1 : B p = 89
              · rw [if_pos e1]; omega
              · rw [if_neg e1]
                by_cases e2 : B p = 83 ∧ j = 1
                · rw [if_pos e2]; omega
                · rw [if_neg e2]
                  by_cases e3 : j = 0
                  · rw [if_pos e3]; omega
                  · rw [if_neg e3]
                    by_cases e4 : j = 1
                    · rw [if_pos e4]; omega
                    · rw [if_neg e4]
                      by_cases e5 : j = 2
                      · rw [if_pos e5]; omega
                      · rw [if_neg e5]
                        by_cases e6 : j = 3
                        · rw [if_pos e6]; omega
                        · rw [if_neg e6]; omega
            refine sp_minN (a := (loF (B p) j : Int)) (b := (hiF C R (B p) j : Int)) (by rw [Int32.toInt_toInt64, nI_toInt hlo]) (by rw [Int32.toInt_toInt64, nI_toInt hhi]) (fun z1 z2 => ?_) (fun z => ?_)
            · have hok : okF C R (B p) j (nI (B (p + 1 + j)) - 48) = true := decide_eq_true ⟨z1, z2⟩
              rw [hok, if_pos rfl] at hJ
              refine t10 (hrec _ q2 ⟨rfl, by omega, ?_⟩)
              rw [hJ, show figN (B p) - (j + 1) = figN (B p) - j - 1 by omega]
            · have hok : okF C R (B p) j (nI (B (p + 1 + j)) - 48) = false := decide_eq_false z
              rw [hok, if_neg (by decide)] at hJ
              rw [hJ] at hV
              refine f10 ?_
              rw [hV] at h; exact h
