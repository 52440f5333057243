/-! PURE FAULT: where a text goes wrong -/
def figN (k : Nat) : Nat := if k = 66 then 5 else if k = 83 then 2 else if k = 89 then 1 else 0
def loF (k f : Nat) : Nat := if k = 89 then 1 else if k = 83 ∧ f = 1 then 1 else if k = 66 ∧ (f = 2 ∨ f = 4) then 1 else 0
def hiF (C R k f : Nat) : Nat := if k = 89 then 9 else if k = 83 ∧ f = 1 then 9 else if f = 0 then C - 1 else if f = 1 then R - 1 else if f = 2 then 3 else if f = 3 then 5 else 9
def okF (C R k f : Nat) (v : Int32) : Bool := decide (((loF k f : Nat) : Int) ≤ v.toInt ∧ v.toInt ≤ ((hiF C R k f : Nat) : Int))
theorem fig_cases {k f : Nat} (h : f < figN k) : (k = 89 ∧ f = 0) ∨ (k = 83 ∧ f = 0) ∨ (k = 83 ∧ f = 1) ∨ (k = 66 ∧ f = 0) ∨ (k = 66 ∧ f = 1) ∨ (k = 66 ∧ f = 2) ∨ (k = 66 ∧ f = 3) ∨ (k = 66 ∧ f = 4) := by
  unfold figN at h
  by_cases e1 : k = 66
  · rw [if_pos e1] at h; omega
  · rw [if_neg e1] at h
    by_cases e2 : k = 83
    · rw [if_pos e2] at h; omega
    · rw [if_neg e2] at h
      by_cases e3 : k = 89
      · rw [if_pos e3] at h; omega
      · rw [if_neg e3] at h; omega
theorem fi_col {C : Nat} (h1C : 1 ≤ C) (hC : C < 2 ^ 31) {v : Int32} {post : Int32 → Prop} (h : post (if decide (((0 : Nat) : Int) ≤ v.toInt ∧ v.toInt ≤ ((C - 1 : Nat) : Int)) then 1 else 0)) : wp_X3_hasColumn (nI C) v (fun r => (r = 0 ∨ r = 1) ∧ post r) := by
  refine sp_hasColumn hC (fun z => ⟨Or.inr rfl, ?_⟩) (fun z => ⟨Or.inl rfl, ?_⟩)
  · have q := (in_iff hC).mp z
    rw [decide_eq_true (by omega)] at h; exact h
  · rw [decide_eq_false (fun q => z ((in_iff hC).mpr ⟨by omega, by omega⟩))] at h; exact h
theorem fi_w {lo hi : Nat} (hl : lo < 2 ^ 31) (hh : hi < 2 ^ 31) {v : Int32} {post : Int32 → Prop} (h : post (if decide (((lo : Nat) : Int) ≤ v.toInt ∧ v.toInt ≤ ((hi : Nat) : Int)) then 1 else 0)) : wp_X7_isWithin v (nI lo) (nI hi) (fun r => (r = 0 ∨ r = 1) ∧ post r) := by
  refine sp_withinN (a := lo) (b := hi) (nI_toInt hl) (nI_toInt hh) (fun z1 z2 => ⟨Or.inr rfl, ?_⟩) (fun z => ⟨Or.inl rfl, ?_⟩)
  · rw [decide_eq_true ⟨z1, z2⟩] at h; exact h
  · rw [decide_eq_false z] at h; exact h
theorem ite01 (b : Bool) : ((if b then (1 : Int32) else 0) = 0 ∨ (if b then (1 : Int32) else 0) = 1) := by
  cases b
  · exact Or.inl rfl
  · exact Or.inr rfl
theorem sp_fits {C R k f : Nat} (hC1 : 1 ≤ C) (hC : C ≤ 6) (hR1 : 1 ≤ R) (hR : R ≤ 6) (hf : f < figN k) {v : Int32} {post : Int32 → Prop} (h : post (if okF C R k f v then 1 else 0)) : wp_X5_fits (nI C) (nI R) (nI k) (nI (f + 1)) v post := by
  unfold okF at h
  unfold wp_X5_fits
  rcases fig_cases hf with ⟨rfl, rfl⟩ | ⟨rfl, rfl⟩ | ⟨rfl, rfl⟩ | ⟨rfl, rfl⟩ | ⟨rfl, rfl⟩ | ⟨rfl, rfl⟩ | ⟨rfl, rfl⟩ | ⟨rfl, rfl⟩
  · exact yy rfl (fi_w (lo := 1) (hi := 9) (by omega) (by omega) h)
  · refine nn (by decide) (yx rfl (nx (by decide) ?_))
    unfold jn_X5_fits_25
    exact yy rfl (fi_col hC1 (by omega) h)
  · exact nn (by decide) (yx rfl (yx rfl (fi_w (lo := 1) (hi := 9) (by omega) (by omega) h)))
  · refine nn (by decide) (nx (by decide) ?_)
    unfold jn_X5_fits_25
    exact yy rfl (fi_col hC1 (by omega) h)
  · refine nn (by decide) (nx (by decide) ?_)
    unfold jn_X5_fits_25
    exact nn (by decide) (yy rfl (fi_col hR1 (by omega) h))
  · refine nn (by decide) (nx (by decide) ?_)
    unfold jn_X5_fits_25
    exact nn (by decide) (nn (by decide) (yy rfl (fi_w (lo := 1) (hi := 3) (by omega) (by omega) ⟨ite01 _, h⟩)))
  · refine nn (by decide) (nx (by decide) ?_)
    unfold jn_X5_fits_25
    exact nn (by decide) (nn (by decide) (nn (by decide) (yy rfl (fi_w (lo := 0) (hi := 5) (by omega) (by omega) ⟨ite01 _, h⟩))))
  · refine nn (by decide) (nx (by decide) ?_)
    unfold jn_X5_fits_25
    exact nn (by decide) (nn (by decide) (nn (by decide) (nn (by decide) (fi_w (lo := 1) (hi := 9) (by omega) (by omega) ⟨ite01 _, h⟩))))
theorem sp_leastOf {k f : Nat} (hf : f < figN k) {post : Int32 → Prop} (h : post (nI (loF k f))) : wp_X8_leastOf (nI k) (nI f) post := by
  unfold wp_X8_leastOf jn_X8_leastOf_17 jn_X8_leastOf_33 jn_X8_leastOf_37
  rcases fig_cases hf with ⟨rfl, rfl⟩ | ⟨rfl, rfl⟩ | ⟨rfl, rfl⟩ | ⟨rfl, rfl⟩ | ⟨rfl, rfl⟩ | ⟨rfl, rfl⟩ | ⟨rfl, rfl⟩ | ⟨rfl, rfl⟩
  · exact yy rfl h
  · exact nn (by decide) (yx rfl (nn (by decide) (nx (by decide) h)))
  · exact nn (by decide) (yx rfl (yy rfl h))
  · exact nn (by decide) (nx (by decide) (yx rfl (nn (by decide) (nx (by decide) h))))
  · exact nn (by decide) (nx (by decide) (yx rfl (nn (by decide) (nx (by decide) h))))
  · exact nn (by decide) (nx (by decide) (yx rfl (yy rfl h)))
  · exact nn (by decide) (nx (by decide) (yx rfl (nn (by decide) (nx (by decide) h))))
  · exact nn (by decide) (nx (by decide) (yx rfl (nn (by decide) (yx rfl h))))
theorem sp_mostOf {C R k f : Nat} (hC1 : 1 ≤ C) (hR1 : 1 ≤ R) (hf : f < figN k) {post : Int32 → Prop} (h : post (nI (hiF C R k f))) : wp_X8_mostOf (nI C) (nI R) (nI k) (nI f) post := by
  have eC : nI C - 1 = nI (C - 1) := nI_subN (b := 1) hC1
  have eR : nI R - 1 = nI (R - 1) := nI_subN (b := 1) hR1
  unfold wp_X8_mostOf jn_X8_mostOf_20
  rw [eC, eR]
  rcases fig_cases hf with ⟨rfl, rfl⟩ | ⟨rfl, rfl⟩ | ⟨rfl, rfl⟩ | ⟨rfl, rfl⟩ | ⟨rfl, rfl⟩ | ⟨rfl, rfl⟩ | ⟨rfl, rfl⟩ | ⟨rfl, rfl⟩
  · exact yy rfl h
  · exact nn (by decide) (yx rfl (nx (by decide) (yx rfl h)))
  · exact nn (by decide) (yx rfl (yx rfl h))
  · exact nn (by decide) (nx (by decide) (yx rfl h))
  · exact nn (by decide) (nx (by decide) (nx (by decide) (yx rfl h)))
  · exact nn (by decide) (nx (by decide) (nx (by decide) (nx (by decide) (yx rfl h))))
  · exact nn (by decide) (nx (by decide) (nx (by decide) (nx (by decide) (nx (by decide) (yx rfl h)))))
  · exact nn (by decide) (nx (by decide) (nx (by decide) (nx (by decide) (nx (by decide) (nx (by decide) h)))))
/-- the figures of the part at p, from the jth on: where they go wrong -/
def prtO (C R m : Nat) (B : Nat → Nat) (p : Nat) : Nat → Nat → Option Int32
  | 0, _ => none
  | l + 1, j => if m ≤ p + 1 + j then some (nI m) else if okF C R (B p) j (nI (B (p + 1 + j)) - 48) then prtO C R m B p l (j + 1) else some (nI (p + 1 + j))
def flt (C R m : Nat) (B : Nat → Nat) : Nat → Nat → Int32
  | 0, _ => -9
  | f + 1, p => if m ≤ p then -9 else if figN (B p) = 0 then nI p else match prtO C R m B p (figN (B p)) 0 with
    | some v => v
    | none => flt C R m B f (p + 1 + figN (B p))
theorem sp_figuresOf {k : Nat} (hk : k < 256) {post : Int32 → Prop} (h : post (nI (figN k))) : wp_X5_figuresOf (nI k) post := by
  unfold wp_X5_figuresOf
  unfold figN at h
  refine br_eq (b := 66) (by omega) (by omega) (fun e => by rw [if_pos e] at h; exact h) (fun e => ?_)
  rw [if_neg e] at h
  refine br_eq (b := 83) (by omega) (by omega) (fun e => by rw [if_pos e] at h; exact h) (fun e => ?_)
  rw [if_neg e] at h
  refine br_eq (b := 89) (by omega) (by omega) (fun e => by rw [if_pos e] at h; exact h) (fun e => ?_)
  rw [if_neg e] at h
  exact h
theorem sp_figures {k : Nat} (hk : k < 256) {post : Int32 → Prop} (h : post (if figN k = 0 then -9 else nI (figN k))) : wp_X8_figures (nI k) post := by
  unfold wp_X8_figures
  unfold figN at h
  refine br_neq (b := 66) (by omega) (by omega) (fun e => ?_) (fun e => by rw [if_pos e] at h; exact h)
  rw [if_neg e] at h
  refine br_neq (b := 89) (by omega) (by omega) (fun e3 => ?_) (fun e3 => ?_)
  · refine br_neq (b := 83) (by omega) (by omega) (fun e2 => ?_) (fun e2 => by rw [if_pos e2] at h; exact h)
    rw [if_neg e2, if_neg e3] at h; exact h
  · rw [if_neg (show ¬ k = 83 by omega), if_pos e3] at h; exact h
theorem figN_le (k : Nat) : figN k ≤ 5 := by
  unfold figN
  by_cases e1 : k = 66
  · rw [if_pos e1]; omega
  · rw [if_neg e1]
    by_cases e2 : k = 83
    · rw [if_pos e2]; omega
    · rw [if_neg e2]
      by_cases e3 : k = 89
      · rw [if_pos e3]; omega
      · rw [if_neg e3]; omega
