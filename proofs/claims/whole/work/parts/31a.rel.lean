/-! PURE REL: how a state of the class and a state of the reference belong together -/
def RoofR (C R : Nat) (tt wr : Nat → Nat → Nat) (Fc Fr Fs Fz : Int32) (Fcells Fwear Fturn : Nat → Int32) (Mc Mr Mp : Int32) (Mturn Mwear : Nat → Int32) : Prop :=
  1 ≤ C ∧ C ≤ 6 ∧ 1 ≤ R ∧ R ≤ 6 ∧ Fc = nI C ∧ Fr = nI R ∧ Mc = nI C ∧ Mr = nI R ∧ Mp = Fs ∧ (Fs = 1 ∨ Fs = 2 ∨ Fs = 3) ∧ Fz = nI (C * R) ∧ (∀ i, i < C * R → Fcells i = nI (10 * (i / R) + i % R)) ∧ (∀ c r, c < C → r < R → Fwear (10 * c + r) = nI (wr c r)) ∧ (∀ c r, c < C → r < R → Fturn (10 * c + r) = nI (tt c r)) ∧ (∀ c r, c < 6 → r < 6 → Mwear (6 * c + r) = nI (wr c r)) ∧ (∀ c r, c < 6 → r < 6 → Mturn (6 * c + r) = nI (tt c r)) ∧ (∀ c r, tt c r ≤ 2) ∧ (∀ c r, 1 ≤ wr c r ∧ wr c r ≤ 3) ∧ (∀ c r, ¬ (c < C ∧ r < R) → tt c r = 0)
/-- bundles told in one side's rows of numbers -/
def BunA (n : Nat) (col row len srt thk : Nat → Nat) (L : Nat → Nat → Nat) (aL : Int32) (aCol aRow aLen aSrt aThk aLeft : Nat → Int32) : Prop :=
  aL = nI n ∧ (∀ b, b < n → aCol b = nI (col b) ∧ aRow b = nI (row b) ∧ aLen b = nI (len b) ∧ aSrt b = nI (srt b) ∧ aThk b = nI (thk b)) ∧ (∀ b r, b < n → r < 6 → aLeft (6 * b + r) = nI (L b r))
def BunOK (C R n : Nat) (col row len srt thk : Nat → Nat) (L : Nat → Nat → Nat) : Prop :=
  n ≤ 40 ∧ ∀ b, b < n → col b < C ∧ row b < R ∧ (1 ≤ len b ∧ len b ≤ 3) ∧ srt b < 6 ∧ (1 ≤ thk b ∧ thk b ≤ 9) ∧ ∀ r, L b r ≤ 9 ∧ (R ≤ r → L b r = 0)
def ZeroFrom (n : Nat) (aLeft : Nat → Int32) : Prop := ∀ b r, n ≤ b → b < 40 → r < 6 → aLeft (6 * b + r) = 0
def NoOp (tt : Nat → Nat → Nat) (n : Nat) (col : Nat → Nat) (L : Nat → Nat → Nat) : Prop := ∀ b r, b < n → 0 < L b r → tt (col b) r = 0
/-- the class's bundles: numbers, and the sets of those that lie on each cell -/
def CoatA (C R n : Nat) (col row len srt thk : Nat → Nat) (L : Nat → Nat → Nat) (aL : Int32) (aCol aRow aLen aSrt aThk aLeft : Nat → Int32) (ly : Nat → Int64) : Prop :=
  BunA n col row len srt thk L aL aCol aRow aLen aSrt aThk aLeft ∧ ZeroFrom n aLeft ∧ LyC C R (lyB n col L) ly
def CurR (C R : Nat) (tt : Nat → Nat → Nat) (n : Nat) (col row len srt thk : Nat → Nat) (L : Nat → Nat → Nat) (aL : Int32) (aCol aRow aLen aSrt aThk aLeft : Nat → Int32) (ly : Nat → Int64) (mL : Int32) (mCol mRow mLen mSrt mThk mLeft : Nat → Int32) : Prop :=
  CoatA C R n col row len srt thk L aL aCol aRow aLen aSrt aThk aLeft ly ∧ BunA n col row len srt thk L mL mCol mRow mLen mSrt mThk mLeft ∧ BunOK C R n col row len srt thk L ∧ NoOp tt n col L
def SlotR (C R s : Nat) (isK : Nat → Int32) (aL : Int32) (aCol aRow aLen aSrt aThk aLeft : Nat → Int32) (ly : Nat → Int64) (mK mL mCol mRow mLen mSrt mThk mLeft : Nat → Int32) : Prop :=
  (isK s = 0 ∧ mK s = 0) ∨ (isK s = 1 ∧ mK s = 1 ∧ ∃ (n : Nat) (col row len srt thk : Nat → Nat) (L : Nat → Nat → Nat), CoatA C R n col row len srt thk L aL aCol aRow aLen aSrt aThk aLeft ly ∧ BunA n col row len srt thk L (mL s) (fun b => mCol (40 * s + b)) (fun b => mRow (40 * s + b)) (fun b => mLen (40 * s + b)) (fun b => mSrt (40 * s + b)) (fun b => mThk (40 * s + b)) (fun k => mLeft (240 * s + k)) ∧ BunOK C R n col row len srt thk L)
def AgesR (aF aT mF mT : Nat → Int32) : Prop := ∀ s, s < 6 → ∃ f t : Nat, aF s = nI f ∧ aT s = nI t ∧ mF s = nI f ∧ mT s = nI t ∧ f ≤ t ∧ t ≤ 99
def TextR (aN : Int32) (aB : Nat → Int32) (mB : Nat → Int32) (mN : Int32) : Prop := ∃ m : Nat, aN = nI m ∧ mN = nI m ∧ m ≤ 60 ∧ ∀ j, j < m → ∃ v : Nat, v < 256 ∧ aB j = nI v ∧ mB j = nI v
def Rel (F_columns : Int32) (F_rows : Int32) (F_steepness : Int32) (F_size : Int32) (F_cells : Nat → Int32) (F_wearing : Nat → Int32) (F_turning : Nat → Int32) (c_laid : Int32) (c_columns : Nat → Int32) (c_rows : Nat → Int32) (c_lengths : Nat → Int32) (c_sorts : Nat → Int32) (c_thicknesses : Nat → Int32) (c_remains : Nat → Int32) (c_lying : Nat → Int64) (k0_laid : Int32) (k0_columns : Nat → Int32) (k0_rows : Nat → Int32) (k0_lengths : Nat → Int32) (k0_sorts : Nat → Int32) (k0_thicknesses : Nat → Int32) (k0_remains : Nat → Int32) (k0_lying : Nat → Int64) (k1_laid : Int32) (k1_columns : Nat → Int32) (k1_rows : Nat → Int32) (k1_lengths : Nat → Int32) (k1_sorts : Nat → Int32) (k1_thicknesses : Nat → Int32) (k1_remains : Nat → Int32) (k1_lying : Nat → Int64) (S_isKept : Nat → Int32) (Ag_from : Nat → Int32) (Ag_to : Nat → Int32) (T_length : Int32) (T_bytes : Nat → Int32) (M_columns : Int32) (M_rows : Int32) (M_pitch : Int32) (M_turns : Nat → Int32) (M_wears : Nat → Int32) (M_laid : Int32) (M_bCol : Nat → Int32) (M_bRow : Nat → Int32) (M_bLong : Nat → Int32) (M_bSort : Nat → Int32) (M_bThick : Nat → Int32) (M_left : Nat → Int32) (M_keptLaid : Nat → Int32) (M_isKept : Nat → Int32) (M_keptCol : Nat → Int32) (M_keptRow : Nat → Int32) (M_keptLong : Nat → Int32) (M_keptSort : Nat → Int32) (M_keptThick : Nat → Int32) (M_keptLeft : Nat → Int32) (M_froms : Nat → Int32) (M_tos : Nat → Int32) (M_text : Nat → Int32) (M_textSize : Int32) : Prop :=
  ∃ (C R : Nat) (tt wr : Nat → Nat → Nat) (n : Nat) (col row len srt thk : Nat → Nat) (L : Nat → Nat → Nat),
    RoofR C R tt wr F_columns F_rows F_steepness F_size F_cells F_wearing F_turning M_columns M_rows M_pitch M_turns M_wears ∧
    CurR C R tt n col row len srt thk L c_laid c_columns c_rows c_lengths c_sorts c_thicknesses c_remains c_lying M_laid M_bCol M_bRow M_bLong M_bSort M_bThick M_left ∧
    SlotR C R 0 S_isKept k0_laid k0_columns k0_rows k0_lengths k0_sorts k0_thicknesses k0_remains k0_lying M_isKept M_keptLaid M_keptCol M_keptRow M_keptLong M_keptSort M_keptThick M_keptLeft ∧
    SlotR C R 1 S_isKept k1_laid k1_columns k1_rows k1_lengths k1_sorts k1_thicknesses k1_remains k1_lying M_isKept M_keptLaid M_keptCol M_keptRow M_keptLong M_keptSort M_keptThick M_keptLeft ∧
    AgesR Ag_from Ag_to M_froms M_tos ∧ TextR T_length T_bytes M_text M_textSize
theorem RoofR.C {C R : Nat} {tt wr : Nat → Nat → Nat} {Fc Fr Fs Fz : Int32} {Fcells Fwear Fturn : Nat → Int32} {Mc Mr Mp : Int32} {Mturn Mwear : Nat → Int32} (h : RoofR C R tt wr Fc Fr Fs Fz Fcells Fwear Fturn Mc Mr Mp Mturn Mwear) : RoofC C R (if Fs = 1 then 2 else 1) tt Fc Fr Fs Fturn := by
  obtain ⟨h1, h2, h3, h4, h5, h6, -, -, -, -, -, -, -, h14, -, -, h17, -, -⟩ := h
  exact ⟨h1, h2, h3, h4, h5, h6, rfl, h14, h17⟩
theorem RoofR.M {C R : Nat} {tt wr : Nat → Nat → Nat} {Fc Fr Fs Fz : Int32} {Fcells Fwear Fturn : Nat → Int32} {Mc Mr Mp : Int32} {Mturn Mwear : Nat → Int32} (h : RoofR C R tt wr Fc Fr Fs Fz Fcells Fwear Fturn Mc Mr Mp Mturn Mwear) : RoofM C R (if Fs = 1 then 2 else 1) tt Mc Mr Mp Mturn := by
  obtain ⟨h1, h2, h3, h4, -, -, h7, h8, h9, -, -, -, -, -, -, h16, h17, -, -⟩ := h
  exact ⟨h1, h2, h3, h4, h7, h8, by rw [h9], h16, h17⟩
theorem CurR.B {C R : Nat} {tt : Nat → Nat → Nat} {n : Nat} {col row len srt thk : Nat → Nat} {L : Nat → Nat → Nat} {aL : Int32} {aCol aRow aLen aSrt aThk aLeft : Nat → Int32} {ly : Nat → Int64} {mL : Int32} {mCol mRow mLen mSrt mThk mLeft : Nat → Int32} (hC : C ≤ 6) (h : CurR C R tt n col row len srt thk L aL aCol aRow aLen aSrt aThk aLeft ly mL mCol mRow mLen mSrt mThk mLeft) : BunM n col L mCol mLeft := by
  obtain ⟨-, ⟨-, h1, h2⟩, ⟨h3, h4⟩, -⟩ := h
  exact ⟨by omega, fun b hb => ⟨(h1 b hb).1, by have := (h4 b hb).1; omega⟩, fun b r hb hr => ⟨h2 b r hb hr, ((h4 b hb).2.2.2.2.2 r).1⟩⟩
/-- a cell that a caller tells -/
theorem cell_cases (a b : Int32) (C R : Nat) : (∃ c r, c < C ∧ r < R ∧ a = nI c ∧ b = nI r) ∨ ¬ ((∃ k, k < C ∧ a = nI k) ∧ ∃ k, k < R ∧ b = nI k) := by
  by_cases h : (∃ k, k < C ∧ a = nI k) ∧ ∃ k, k < R ∧ b = nI k
  · obtain ⟨⟨c, h1, h2⟩, r, h3, h4⟩ := h
    exact Or.inl ⟨c, r, h1, h3, h2, h4⟩
  · exact Or.inr h
theorem sp_hasCellY {C R c r : Nat} (hC : C < 2 ^ 31) (hR : R < 2 ^ 31) (hc : c < C) (hr : r < R) {post : Int32 → Prop} (h : post 1) : wp_X3_hasCell (nI C) (nI R) (nI c) (nI r) post := sp_hasCell hC hR (fun _ _ => h) (fun z => absurd ⟨⟨c, hc, rfl⟩, r, hr, rfl⟩ z)
theorem sp_hasCellN {C R : Nat} {a b : Int32} (hC : C < 2 ^ 31) (hR : R < 2 ^ 31) (hn : ¬ ((∃ k, k < C ∧ a = nI k) ∧ ∃ k, k < R ∧ b = nI k)) {post : Int32 → Prop} (h : post 0) : wp_X3_hasCell (nI C) (nI R) a b post := sp_hasCell hC hR (fun z1 z2 => absurd ⟨z1, z2⟩ hn) (fun _ => h)
theorem sp_noCellY {C R c r : Nat} (hC : C < 2 ^ 31) (hR : R < 2 ^ 31) (hc : c < C) (hr : r < R) {post : Int32 → Prop} (h : post 0) : wp_X8_noCell (nI C) (nI R) (nI c) (nI r) post := sp_noCell hC hR (fun _ _ => h) (fun z => absurd ⟨⟨c, hc, rfl⟩, r, hr, rfl⟩ z)
theorem sp_noCellN {C R : Nat} {a b : Int32} (hC : C < 2 ^ 31) (hR : R < 2 ^ 31) (hn : ¬ ((∃ k, k < C ∧ a = nI k) ∧ ∃ k, k < R ∧ b = nI k)) {post : Int32 → Prop} (h : post 1) : wp_X8_noCell (nI C) (nI R) a b post := sp_noCell hC hR (fun z1 z2 => absurd ⟨z1, z2⟩ hn) (fun _ => h)
theorem t10 {A B : Prop} (h : A) : (¬ (1 : Int32) = 0 → A) ∧ ((1 : Int32) = 0 → B) := ⟨fun _ => h, fun e => absurd e (by decide)⟩
theorem t01 {A B : Prop} (h : A) : ((1 : Int32) = 0 → B) ∧ (¬ (1 : Int32) = 0 → A) := ⟨fun e => absurd e (by decide), fun _ => h⟩
theorem f10 {A B : Prop} (h : B) : (¬ (0 : Int32) = 0 → A) ∧ ((0 : Int32) = 0 → B) := ⟨fun e => absurd rfl e, fun _ => h⟩
theorem f01 {A B : Prop} (h : B) : ((0 : Int32) = 0 → B) ∧ (¬ (0 : Int32) = 0 → A) := ⟨fun _ => h, fun e => absurd rfl e⟩
theorem RoofR.Ce {C R : Nat} {tt wr : Nat → Nat → Nat} {Fc Fr Fs Fz : Int32} {Fcells Fwear Fturn : Nat → Int32} {Mc Mr Mp : Int32} {Mturn Mwear : Nat → Int32} (h : RoofR C R tt wr Fc Fr Fs Fz Fcells Fwear Fturn Mc Mr Mp Mturn Mwear) : Fz = nI (C * R) ∧ ∀ i, i < C * R → Fcells i = nI (10 * (i / R) + i % R) := by
  obtain ⟨-, -, -, -, -, -, -, -, -, -, h11, h12, -⟩ := h
  exact ⟨h11, h12⟩
/-- a number that a caller tells, of lo .. hi -/
theorem num_cases (a : Int32) (lo hi : Nat) (hh : hi < 2 ^ 31) : (∃ k, lo ≤ k ∧ k ≤ hi ∧ a = nI k) ∨ ¬ ((lo : Int) ≤ a.toInt ∧ a.toInt ≤ (hi : Int)) := by
  by_cases h : (lo : Int) ≤ a.toInt ∧ a.toInt ≤ (hi : Int)
  · refine Or.inl ⟨a.toInt.toNat, by omega, by omega, ?_⟩
    apply Int32.toInt_inj.mp
    rw [nI_toInt (by omega)]
    omega
  · exact Or.inr h
theorem sp_withY {v lo hi : Int32} {a b k : Nat} (hv : v = nI k) (ha : lo = nI a) (hb : hi = nI b) (hb31 : b < 2 ^ 31) (h1 : a ≤ k) (h2 : k ≤ b) {post : Int32 → Prop} (h : post 1) : wp_X7_isWithin v lo hi post := by
  subst hv ha hb
  exact sp_isWithin (fun _ _ => h) (fun z => absurd ⟨nI_le h1 (by omega), nI_le h2 hb31⟩ z)
theorem sp_withN {v lo hi : Int32} {a b : Nat} (ha : lo = nI a) (hb : hi = nI b) (hb31 : b < 2 ^ 31) (ha31 : a < 2 ^ 31) (hn : ¬ ((a : Int) ≤ v.toInt ∧ v.toInt ≤ (b : Int))) {post : Int32 → Prop} (h : post 0) : wp_X7_isWithin v lo hi post := by
  subst ha hb
  exact sp_withinN (a := a) (b := b) (nI_toInt ha31) (nI_toInt hb31) (fun q1 q2 => absurd ⟨q1, q2⟩ hn) (fun _ => h)
theorem i64lit {n : Nat} (h : n < 2 ^ 31) : (lN n).toInt = (n : Int) := lN_toInt h
theorem sp_minY {v : Int32} {lo hi : Int64} {a b k : Nat} (hv : v = nI k) (ha : lo = lN a) (hb : hi = lN b) (hb31 : b < 2 ^ 31) (h1 : a ≤ k) (h2 : k ≤ b) {post : Int32 → Prop} (h : post 1) : wp_X8_in v.toInt64 lo hi post := by
  subst hv ha hb
  refine sp_minN (a := a) (b := b) (lN_toInt (by omega)) (lN_toInt hb31) (fun _ _ => h) (fun z => absurd ?_ z)
  rw [nI_toInt (by omega)]; omega
theorem sp_minX {v : Int32} {lo hi : Int64} {a b : Nat} (ha : lo = lN a) (hb : hi = lN b) (hb31 : b < 2 ^ 31) (ha31 : a < 2 ^ 31) (hn : ¬ ((a : Int) ≤ v.toInt ∧ v.toInt ≤ (b : Int))) {post : Int32 → Prop} (h : post 0) : wp_X8_in v.toInt64 lo hi post := by
  subst ha hb
  exact sp_minN (a := a) (b := b) (lN_toInt ha31) (lN_toInt hb31) (fun q1 q2 => absurd ⟨q1, q2⟩ hn) (fun _ => h)
theorem sp_hasColumnY {C c : Nat} (hC : C < 2 ^ 31) (hc : c < C) {post : Int32 → Prop} (h : post 1) : wp_X3_hasColumn (nI C) (nI c) post := sp_hasColumn hC (fun _ => h) (fun z => absurd ⟨c, hc, rfl⟩ z)
theorem sp_hasColumnN {C : Nat} {a : Int32} (hC : C < 2 ^ 31) (hn : ¬ ∃ k, k < C ∧ a = nI k) {post : Int32 → Prop} (h : post 0) : wp_X3_hasColumn (nI C) a post := sp_hasColumn hC (fun z => absurd z hn) (fun _ => h)
theorem sp_noColumnY {C c : Nat} (hC : C < 2 ^ 31) (hc : c < C) {post : Int32 → Prop} (h : post 0) : wp_X8_noColumn (nI C) (nI c) post := sp_noColumn hC (fun _ => h) (fun z => absurd ⟨c, hc, rfl⟩ z)
theorem sp_noColumnN {C : Nat} {a : Int32} (hC : C < 2 ^ 31) (hn : ¬ ∃ k, k < C ∧ a = nI k) {post : Int32 → Prop} (h : post 1) : wp_X8_noColumn (nI C) a post := sp_noColumn hC (fun z => absurd z hn) (fun _ => h)
