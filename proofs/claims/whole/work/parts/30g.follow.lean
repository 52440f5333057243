/-! PURE FOLLOW: the class's drop goes that way -/
/-- what the class's drop needs of the roof and of the row of sets that it is given -/
def RoofC (C R lap : Nat) (tt : Nat → Nat → Nat) (Fc Fr Fs : Int32) (Ft : Nat → Int32) : Prop :=
  1 ≤ C ∧ C ≤ 6 ∧ 1 ≤ R ∧ R ≤ 6 ∧ Fc = nI C ∧ Fr = nI R ∧ (lap = if Fs = 1 then 2 else 1) ∧ (∀ c r, c < C → r < R → Ft (10 * c + r) = nI (tt c r)) ∧ (∀ c r, tt c r ≤ 2)
def LyC (C R : Nat) (ly : Nat → Nat → Nat → Bool) (a : Nat → Int64) : Prop := ∀ c r, c < C → r < R → ∀ b, lb (a (10 * c + r)) b = ly c r b
def TnC (tn : Nat → Nat → Bool) (t : Int64) : Prop := ∀ c r, c < 6 → r < 6 → lb t (10 * c + r) = tn c r
theorem sp_isOpening {C R lap : Nat} {tt : Nat → Nat → Nat} {Fc Fr Fs : Int32} {Ft : Nat → Int32} (hR : RoofC C R lap tt Fc Fr Fs Ft) {c r : Nat} (hc : c < C) (hr : r < R) {post : Int32 → Prop} (h0 : tt c r = 0 → post 0) (h1 : tt c r ≠ 0 → post 1) : wp_X3_isOpening Ft (nI (10 * c + r)) post := by
  obtain ⟨-, hC6, -, hR6, -, -, -, ht, ht2⟩ := hR
  have h2 := ht2 c r
  unfold wp_X3_isOpening
  refine ⟨vp_in_nI (by omega) (by omega), ?_⟩
  rw [nI_clamp (by omega), ht c r hc hr, show (0 : Int32) = nI 0 from rfl]
  exact br_eq (by omega) (by omega) h0 h1
theorem sp_pass {pl : List Int32} {places : Nat → Int32} {passed : Int32} (hp : PlR pl places passed) (hn : pl.length < 64) {at_ on : Nat} {post : (Nat → Int32) → Int32 → Int32 → Int32 → Prop} (h : ∀ places' passed', PlR (pl ++ [nI (100 * on + at_)]) places' passed' → post places' passed' (nI at_) (nI on)) : wp_X4_pass passed places (nI at_) (nI on) post := by
  unfold wp_X4_pass
  obtain ⟨h1, h2⟩ := id hp
  rw [h1, show (64 : Int32) = nI 64 from rfl]
  refine br_le (by omega) (by omega) (fun q => by omega) (fun q => ⟨vp_in_nI hn (by omega), ?_⟩)
  have e : (100 : Int32) * nI on + nI at_ = nI (100 * on + at_) := by rw [show (100 : Int32) = nI 100 from rfl, pk_mul, nI_add]
  rw [e]
  have h3 := hp.push (v := nI (100 * on + at_)) (by omega)
  rw [h1] at h3
  exact h _ _ h3
theorem TnC.set {tn : Nat → Nat → Bool} {t : Int64} (h : TnC tn t) {c r : Nat} (hc : c < 6) (hr : r < 6) : TnC (setT tn c r) (t ||| jlshl 1 (nI (10 * c + r))) := by
  intro c' r' hc' hr'
  rw [lb_or, lb_bit (by omega), h c' r' hc' hr']
  unfold setT
  by_cases e : c' = c ∧ r' = r
  · obtain ⟨rfl, rfl⟩ := e; simp
  · rw [if_neg e, decide_eq_false (fun q => e ⟨by omega, by omega⟩), Bool.or_false]
/-- the class's drop, somewhere -/
def FolAt (C R lap : Nat) (tt : Nat → Nat → Nat) (ly : Nat → Nat → Nat → Bool) (n : Nat) (res : wRes) (f : Nat) (places : Nat → Int32) (passed runs end_ eaves cell bundle : Int32) (t : Int64) : Prop :=
  (runs = 0 ∧ end_ = nI res.1 ∧ eaves = res.2.1 ∧ PlR res.2.2 places passed) ∨
  (runs = 1 ∧ eaves = -9 ∧ ∃ (o : Bool) (c r b : Nat) (tn : Nat → Nat → Bool) (pl : List Int32), c < C ∧ r < R ∧ cell = nI (10 * c + r) ∧ (o = true → bundle = 99 ∧ tt c r ≠ 0) ∧ (o = false → bundle = nI b ∧ b < 64) ∧ TnC tn t ∧ PlR pl places passed ∧ goW C R lap tt ly n f o c r b tn pl = res ∧ 7 * r + unT tn r + (if o then 1 else 0) < f ∧ pl.length + (7 * r + unT tn r + (if o then 1 else 0)) ≤ 42)
theorem bool_cases {r : Int32} {A B : Prop} {v : Bool} (hr : r = if v then 1 else 0) (h0 : v = false → A) (h1 : v = true → B) : (r = 0 → A) ∧ (¬ r = 0 → B) := by
  cases v
  · exact ⟨fun _ => h0 rfl, fun e => absurd hr e⟩
  · exact ⟨fun e => absurd (hr.symm.trans e) (by decide), fun _ => h1 rfl⟩
theorem bool_cases' {r : Int32} {A B : Prop} {v : Bool} (hr : r = if v then 1 else 0) (h1 : v = true → B) (h0 : v = false → A) : (¬ r = 0 → B) ∧ (r = 0 → A) :=
  ⟨(bool_cases hr h0 h1).2, (bool_cases hr h0 h1).1⟩
theorem sp_meet {C R lap : Nat} {tt : Nat → Nat → Nat} {ly : Nat → Nat → Nat → Bool} {n : Nat} {res : wRes} {f : Nat} {places : Nat → Int32} {passed end_ cell bundle : Int32} {t : Int64} {c r : Nat} {tn : Nat → Nat → Bool} {pl : List Int32} (hC6 : C ≤ 6) (hR6 : R ≤ 6) (hc : c < C) (hr : r < R) (htt : tt c r ≠ 0) (hT : TnC tn t) (hp : PlR pl places passed)
    {on : Option Nat} (hres : entW tt ly n (fun o c r b tn pl => goW C R lap tt ly n f o c r b tn pl) c r on tn pl = res) (hf : 7 * r + unT tn r < f) (hl : pl.length + (7 * r + unT tn r) ≤ 41)
    {post : (Nat → Int32) → Int32 → Int32 → Int32 → Int32 → Int32 → Int64 → Prop} (h : ∀ places passed runs end_ cell bundle t, FolAt C R lap tt ly n res f places passed runs end_ (-9) cell bundle t → post places passed runs end_ cell bundle t) : wp_X4_meetOpening passed 1 end_ cell bundle t places (nI (10 * c + r)) post := by
  unfold wp_X4_meetOpening
  unfold entW at hres
  rw [if_pos htt] at hres
  refine sp_isIn (by omega) ?_
  refine bool_cases rfl (fun q => ?_) (fun q => ?_)
  · rw [hT c r (by omega) (by omega)] at q
    rw [q, if_neg (by decide)] at hres
    have h6 := unT_set (c := c) (r := r) (by omega) q
    rw [show (99 : Int32) = nI 99 from rfl]
    refine sp_pass hp (by omega) (fun places' passed' hp' => h _ _ _ _ _ _ _ (Or.inr ⟨rfl, rfl, true, c, r, 0, setT tn c r, _, hc, hr, rfl, fun _ => ⟨rfl, htt⟩, (fun e => by cases e), hT.set (by omega) (by omega), hp', ?_, ?_, ?_⟩))
    · rw [← hres, show 100 * 99 + (10 * c + r) = 9900 + (10 * c + r) by omega]
    · rw [if_pos rfl]; omega
    · rw [if_pos rfl, List.length_append, List.length_singleton]; omega
  · rw [hT c r (by omega) (by omega)] at q
    rw [q, if_pos rfl] at hres
    unfold wp_X4_finish
    refine h _ _ _ _ _ _ _ (Or.inl ⟨rfl, by rw [← hres], by rw [← hres], by rw [← hres]; exact hp⟩)
/-- a drop comes onto a bundle there -/
theorem sp_onto {C R lap : Nat} {tt : Nat → Nat → Nat} {ly : Nat → Nat → Nat → Bool} {n : Nat} {res : wRes} {f : Nat} {places : Nat → Int32} {passed end_ : Int32} {t : Int64} {c r b : Nat} {tn : Nat → Nat → Bool} {pl : List Int32} (hC6 : C ≤ 6) (hR6 : R ≤ 6) (hc : c < C) (hr : r < R) (hb : b < 64) (hT : TnC tn t) (hp : PlR pl places passed)
    (hres : goW C R lap tt ly n f false c r b tn (pl ++ [nI (100 * b + (10 * c + r))]) = res) (hf : 7 * r + unT tn r < f) (hl : pl.length + (7 * r + unT tn r) ≤ 41)
    {post : (Nat → Int32) → Int32 → Int32 → Int32 → Prop} (h : ∀ places passed cell bundle, FolAt C R lap tt ly n res f places passed 1 end_ (-9) cell bundle t → post places passed cell bundle) : wp_X4_pass passed places (nI (10 * c + r)) (nI b) post := by
  refine sp_pass hp (by omega) (fun places' passed' hp' => h _ _ _ _ (Or.inr ⟨rfl, rfl, false, c, r, b, tn, _, hc, hr, rfl, (fun e => by cases e), fun _ => ⟨rfl, hb⟩, hT, hp', hres, ?_, ?_⟩))
  · simp only [Bool.false_eq_true, if_false]; omega
  · simp only [Bool.false_eq_true, if_false]; rw [List.length_append, List.length_singleton]; omega
theorem sp_fall {C R lap : Nat} {tt : Nat → Nat → Nat} {ly : Nat → Nat → Nat → Bool} {n : Nat} {Fc Fr Fs : Int32} {Ft : Nat → Int32} (hRo : RoofC C R lap tt Fc Fr Fs Ft) {a : Nat → Int64} (hLy : LyC C R ly a) (hn : n ≤ 64) (hlyn : ∀ c r b, n ≤ b → ly c r b = false) {res : wRes} {f : Nat} {places : Nat → Int32} {passed end_ cell bundle : Int32} {t : Int64} {c r : Nat} {tn : Nat → Nat → Bool} {pl : List Int32} (hc : c < C) (hr : r < R) (hT : TnC tn t) (hp : PlR pl places passed)
    (hres : entW tt ly n (fun o c r b tn pl => goW C R lap tt ly n f o c r b tn pl) c r none tn pl = res) (hf : 7 * r + unT tn r < f) (hl : pl.length + (7 * r + unT tn r) ≤ 41)
    {post : (Nat → Int32) → Int32 → Int32 → Int32 → Int32 → Int32 → Int64 → Prop} (h : ∀ places passed runs end_ cell bundle t, FolAt C R lap tt ly n res f places passed runs end_ (-9) cell bundle t → post places passed runs end_ cell bundle t) : wp_X4_fall Ft passed 1 end_ cell bundle t places a (nI (10 * c + r)) post := by
  have hC6 : C ≤ 6 := hRo.2.1
  have hR6 : R ≤ 6 := hRo.2.2.2.1
  unfold wp_X4_fall
  refine ⟨vp_in_nI (by omega) (by omega), ?_⟩
  rw [nI_clamp (by omega)]
  refine sp_greatest ?_
  refine sp_isOpening hRo hc hr (fun h0 => ⟨fun _ => ?_, fun e => absurd rfl e⟩) (fun h1 => ⟨fun e => absurd e (by decide), fun _ => sp_meet hC6 hR6 hc hr h1 hT hp hres hf hl h⟩)
  have e1 : gtop (lb (a (10 * c + r))) 64 = oI (topO (ly c r) n) := by
    rw [gtop_oI, topO_congr (q := ly c r) (fun k _ => hLy c r hc hr k), topO_cut hn (fun k h1 _ => hlyn c r k h1)]
  rw [e1]
  unfold entW at hres
  rw [if_neg (by simpa using h0)] at hres
  cases htop : topO (ly c r) n with
  | none =>
    rw [htop] at hres
    refine ⟨fun e => absurd rfl e, fun _ => ?_⟩
    unfold wp_X4_finish
    exact h _ _ _ _ _ _ _ (Or.inl ⟨rfl, by rw [← hres], by rw [← hres], by rw [← hres]; exact hp⟩)
  | some b =>
    rw [htop] at hres
    have hb := (topO_some htop).1
    refine ⟨fun _ => ?_, fun e => absurd e (nI_ne9 (by omega))⟩
    exact sp_onto hC6 hR6 hc hr (by omega) hT hp hres hf hl (fun places passed cell bundle q => h _ _ _ _ _ _ _ q)
theorem sp_lap {lap : Nat} {Fs : Int32} (hl : lap = if Fs = 1 then 2 else 1) {post : Int32 → Prop} (h : post (nI lap)) : wp_X3_lap Fs post := by
  unfold wp_X3_lap
  refine ⟨fun e => ?_, fun e => ?_⟩
  · rw [if_neg e] at hl; rw [hl] at h; exact h
  · rw [if_pos e] at hl; rw [hl] at h; exact h
theorem lap12 {lap : Nat} {Fs : Int32} (hl : lap = if Fs = 1 then 2 else 1) : lap = 1 ∨ lap = 2 := by
  by_cases e : Fs = 1
  · rw [if_pos e] at hl; exact Or.inr hl
  · rw [if_neg e] at hl; exact Or.inl hl
theorem sp_isLapped {C R lap : Nat} {tt : Nat → Nat → Nat} {ly : Nat → Nat → Nat → Bool} {Fc Fr Fs : Int32} {Ft : Nat → Int32} (hRo : RoofC C R lap tt Fc Fr Fs Ft) {a : Nat → Int64} (hLy : LyC C R ly a) {c r b : Nat} (hc : c < C) (hr : r < R) (hb : b < 64) {post : Int32 → Prop} (h : post (if lapsB R lap tt ly b c r then 1 else 0)) : wp_X4_isLapped Fr Fs Ft a (nI (10 * c + r)) (nI b) post := by
  obtain ⟨-, hC6, -, hR6, -, hFr, hlap, -, -⟩ := id hRo
  have h12 := lap12 hlap
  unfold wp_X4_isLapped
  refine zu1_1 3 (by omega) (fun k => 1 ≤ k ∧ ∀ u, 1 ≤ u → u < k → chk R tt ly c (r + u) b = true) 1 rfl (by omega) ⟨by omega, fun u q1 q2 => by omega⟩ (fun k rec hk hJ hrec => ?_)
  obtain ⟨hk1, hJ⟩ := hJ
  unfold bd_X4_isLapped_3
  refine sp_lap hlap ?_
  refine br_lt (by omega) (by omega) (fun q => ?_) (fun q => ?_)
  · have e : lapsB R lap tt ly b c r = true := by
      unfold lapsB
      rw [hJ 1 (by omega) (by omega)]
      rcases h12 with rfl | rfl
      · rfl
      · rw [hJ 2 (by omega) (by omega)]; rfl
    rw [e] at h; exact h
  · have e : nI (10 * c + r) + nI k = nI (10 * c + (r + k)) := by rw [nI_add, Nat.add_assoc]
    rw [e]
    have step : chk R tt ly c (r + k) b = true → rec (nI k + 1) := fun hch => by
      rw [nI_1]
      refine hrec (by omega) ⟨by omega, fun u q1 q2 => ?_⟩
      by_cases hu : u = k
      · rw [hu]; exact hch
      · exact hJ u q1 (by omega)
    refine sp_rowOf (by omega) ?_
    rw [show (10 * c + (r + k)) % 10 = r + k by omega, hFr]
    refine br_le (by omega) (by omega) (fun q2 => step (by unfold chk; rw [decide_eq_true q2]; rfl)) (fun q2 => ?_)
    refine sp_isOpening hRo hc q2 (fun h0 => ⟨fun e => absurd rfl e, fun _ => ⟨vp_in_nI (by omega) (by omega), ?_⟩⟩) (fun h1 => ⟨fun _ => step (by unfold chk; rw [decide_eq_true h1]; simp), fun e => absurd e (by decide)⟩)
    rw [nI_clamp (by omega)]
    refine sp_isIn hb (bool_cases' rfl (fun hq => step ?_) (fun hq => ?_))
    · rw [hLy c _ hc q2] at hq
      unfold chk; rw [hq]; simp
    · rw [hLy c _ hc q2] at hq
      have ech : chk R tt ly c (r + k) b = false := by
        unfold chk; rw [hq, decide_eq_false (by omega), decide_eq_false (by simpa using h0)]; rfl
      have e : lapsB R lap tt ly b c r = false := by
        unfold lapsB
        have hkk : k = 1 ∨ k = 2 := by omega
        rcases hkk with rfl | rfl
        · rw [ech]; rfl
        · rw [ech]
          have : lap = 2 := by omega
          rw [this]; simp
      rw [e] at h; exact h
theorem sp_runC {C R lap : Nat} {tt : Nat → Nat → Nat} {ly : Nat → Nat → Nat → Bool} {n : Nat} {Fc Fr Fs : Int32} {Ft : Nat → Int32} (hRo : RoofC C R lap tt Fc Fr Fs Ft) {a : Nat → Int64} (hLy : LyC C R ly a) {res : wRes} {f : Nat} {places : Nat → Int32} {passed end_ : Int32} {t : Int64} {c r b : Nat} {tn : Nat → Nat → Bool} {pl : List Int32} (hc : c < C) (hr : r < R) (hb : b < 64) (hT : TnC tn t) (hp : PlR pl places passed)
    (hres : goW C R lap tt ly n (f + 1) false c r b tn pl = res) (hf : 7 * r + unT tn r < f + 1) (hl : pl.length + (7 * r + unT tn r) ≤ 42)
    {post : (Nat → Int32) → Int32 → Int32 → Int32 → Int32 → Int32 → Int32 → Int64 → Prop} (h : ∀ places passed runs end_ eaves cell bundle t, FolAt C R lap tt ly n res f places passed runs end_ eaves cell bundle t → post places passed runs end_ eaves cell bundle t) : wp_X4_run Fr Fs Ft passed 1 end_ (-9) (nI (10 * c + r)) (nI b) t places a post := by
  have hC6 : C ≤ 6 := hRo.2.1
  have hR6 : R ≤ 6 := hRo.2.2.2.1
  unfold wp_X4_run
  refine sp_rowOf (by omega) ?_
  rw [show (10 * c + r) % 10 = r by omega, show (0 : Int32) = nI 0 from rfl]
  rw [goW] at hres
  rw [if_neg (by decide)] at hres
  refine br_neq (by omega) (by omega) (fun hr0 => ?_) (fun hr0 => ?_)
  · rw [if_neg hr0] at hres
    have e1 : nI (10 * c + r) - 1 = nI (10 * c + (r - 1)) := by
      rw [show (1 : Int32) = nI 1 from rfl, nI_subN (by omega), show 10 * c + r - 1 = 10 * c + (r - 1) by omega]
    rw [e1]
    have hr1 : r - 1 < R := by omega
    have hu := unT_le tn (r - 1)
    refine sp_isOpening hRo hc hr1 (fun h0 => ⟨fun _ => ⟨vp_in_nI (by omega) (by omega), ?_⟩, fun e => absurd rfl e⟩) (fun h1 => ⟨fun e => absurd e (by decide), fun _ => ?_⟩)
    · rw [nI_clamp (by omega)]
      refine sp_isIn hb (bool_cases rfl (fun hq => ⟨vp_in_nI (by omega) (by omega), ?_⟩) (fun hq => ?_))
      · rw [hLy c _ hc hr1] at hq
        rw [if_pos ⟨hq, h0⟩] at hres
        refine sp_greatest ?_
        have e2 : gtop (lb (a (10 * c + (r - 1)) &&& (jlshl (1 : Int64) (nI b) - (1 : Int64)))) 64 = oI (topO (ly c (r - 1)) b) := by
          rw [gtop_oI, topO_cut (m := b) (by omega) (fun k h1 _ => by rw [lb_and, lb_mask hb, decide_eq_false (by omega), Bool.and_false])]
          rw [topO_congr (q := ly c (r - 1)) (fun k hk => by rw [lb_and, lb_mask hb, decide_eq_true hk, Bool.and_true, hLy c _ hc hr1])]
        rw [e2]
        cases htop : topO (ly c (r - 1)) b with
        | none =>
          rw [htop] at hres
          refine ⟨fun _ => ?_, fun e => absurd rfl e⟩
          unfold wp_X4_finish
          exact h _ _ _ _ _ _ _ _ (Or.inl ⟨rfl, by rw [← hres], by rw [← hres], by rw [← hres]; exact hp⟩)
        | some b' =>
          rw [htop] at hres
          have hb' := (topO_some htop).1
          refine ⟨fun e => absurd e (nI_ne9 (by omega)), fun _ => ?_⟩
          refine sp_isLapped hRo hLy hc hr1 (by omega) (bool_cases' rfl (fun hq2 => ?_) (fun hq2 => ?_))
          · simp only [hq2, if_true] at hres
            unfold entW at hres
            rw [if_neg (by simpa using h0)] at hres
            exact sp_onto hC6 hR6 hc hr1 (by omega) hT hp hres (by omega) (by omega) (fun places passed cell bundle q => h _ _ _ _ _ _ _ _ q)
          · simp only [hq2, Bool.false_eq_true, if_false] at hres
            unfold wp_X4_finish
            exact h _ _ _ _ _ _ _ _ (Or.inl ⟨rfl, by rw [← hres], by rw [← hres], by rw [← hres]; exact hp⟩)
      · rw [hLy c _ hc hr1] at hq
        rw [if_neg (by rw [hq]; simp)] at hres
        unfold entW at hres
        rw [if_neg (by simpa using h0)] at hres
        exact sp_onto hC6 hR6 hc hr1 hb hT hp hres (by omega) (by omega) (fun places passed cell bundle q => h _ _ _ _ _ _ _ _ q)
    · rw [if_neg (fun z => h1 z.2)] at hres
      exact sp_meet hC6 hR6 hc hr1 h1 hT hp hres (by omega) (by omega) (fun places passed runs end_ cell bundle t q => h _ _ _ _ _ _ _ _ q)
  · rw [if_pos hr0] at hres
    refine sp_columnOf (by omega) ?_
    unfold wp_X4_finish
    rw [show (10 * c + r) / 10 = c by omega]
    exact h _ _ _ _ _ _ _ _ (Or.inl ⟨rfl, by rw [← hres]; rfl, by rw [← hres], by rw [← hres]; exact hp⟩)
theorem sp_beside {C R lap : Nat} {tt : Nat → Nat → Nat} {Fc Fr Fs : Int32} {Ft : Nat → Int32} (hRo : RoofC C R lap tt Fc Fr Fs Ft) {c r : Nat} (hc : c < C) (hr : r < R) {post : Int32 → Prop} (h1 : tt c r = 1 → post (nI c - 1)) (h2 : tt c r ≠ 1 → post (nI c + 1)) : wp_X4_columnBeside Ft (nI (10 * c + r)) post := by
  obtain ⟨-, hC6, -, hR6, -, -, -, ht, ht2⟩ := hRo
  have h3 := ht2 c r
  unfold wp_X4_columnBeside
  refine ⟨vp_in_nI (by omega) (by omega), ?_⟩
  rw [nI_clamp (by omega), ht c r hc hr, show (1 : Int32) = nI 1 from rfl]
  refine br_neq (by omega) (by omega) (fun q => sp_columnOf (by omega) ?_) (fun q => sp_columnOf (by omega) ?_)
  · rw [show (10 * c + r) / 10 = c by omega]; exact h2 q
  · rw [show (10 * c + r) / 10 = c by omega]; exact h1 q
def asV (tt : Nat → Nat → Nat) (c r : Nat) : Int32 := if tt c r = 1 then nI c - 1 else nI c + 1
theorem sp_besideE {C R lap : Nat} {tt : Nat → Nat → Nat} {Fc Fr Fs : Int32} {Ft : Nat → Int32} (hRo : RoofC C R lap tt Fc Fr Fs Ft) {c r : Nat} (hc : c < C) (hr : r < R) {post : Int32 → Prop} (h : post (asV tt c r)) : wp_X4_columnBeside Ft (nI (10 * c + r)) post := by
  unfold asV at h
  exact sp_beside hRo hc hr (fun q => by rw [if_pos q] at h; exact h) (fun q => by rw [if_neg q] at h; exact h)
theorem as_cases {C R lap : Nat} {tt : Nat → Nat → Nat} {ly : Nat → Nat → Nat → Bool} {n c r b f : Nat} {tn : Nat → Nat → Bool} {pl : List Int32} {res : wRes} (hC6 : C ≤ 6) (hc : c < C) (hres : goW C R lap tt ly n (f + 1) true c r b tn pl = res) :
    (∃ c', c' < C ∧ asV tt c r = nI c' ∧ entW tt ly n (fun o c r b tn pl => goW C R lap tt ly n f o c r b tn pl) c' r none tn pl = res) ∨ ((¬ ∃ k, k < C ∧ asV tt c r = nI k) ∧ res = (100, -9, pl)) := by
  rw [goW, if_pos rfl] at hres
  unfold asV
  by_cases h1 : tt c r = 1
  · rw [if_pos h1] at hres ⊢
    by_cases h0 : c = 0
    · rw [if_pos h0] at hres
      refine Or.inr ⟨fun z => ?_, hres.symm⟩
      obtain ⟨k, hk, e⟩ := z
      subst h0
      have := congrArg Int32.toInt e
      rw [nI_toInt (by omega)] at this
      have h5 : (nI 0 - 1).toInt = -1 := by decide
      omega
    · rw [if_neg h0] at hres
      exact Or.inl ⟨c - 1, by omega, by rw [show (1 : Int32) = nI 1 from rfl, nI_subN (by omega)], hres⟩
  · rw [if_neg h1] at hres ⊢
    by_cases h0 : c + 1 = C
    · rw [if_pos h0] at hres
      refine Or.inr ⟨fun z => ?_, hres.symm⟩
      obtain ⟨k, hk, e⟩ := z
      rw [nI_1] at e
      have := (nI_eq (by omega) (by omega)).mp e
      omega
    · rw [if_neg h0] at hres
      exact Or.inl ⟨c + 1, by omega, nI_1 c, hres⟩
theorem sp_follow {C R lap : Nat} {tt : Nat → Nat → Nat} {ly : Nat → Nat → Nat → Bool} {n : Nat} {Fc Fr Fs : Int32} {Ft : Nat → Int32} (hRo : RoofC C R lap tt Fc Fr Fs Ft) {a : Nat → Int64} (hLy : LyC C R ly a) (hn : n ≤ 64) (hlyn : ∀ c r b, n ≤ b → ly c r b = false) {e0 cell0 bundle0 : Int32} {places0 : Nat → Int32} {c r : Nat} (hc : c < C) (hr : r < R)
    {post : Int32 → (Nat → Int32) → Int32 → Int32 → Int32 → Int32 → Int32 → Int32 → Int64 → Prop} (h : ∀ places passed cell bundle t, PlR (runW C R lap tt ly n c r).2.2 places passed → post (nI (runW C R lap tt ly n c r).1) places passed 0 (nI (runW C R lap tt ly n c r).1) (runW C R lap tt ly n c r).2.1 cell bundle t) : wp_X4_follow Fc Fr Fs Ft e0 cell0 bundle0 places0 a (nI (10 * c + r)) post := by
  have hC6 : C ≤ 6 := hRo.2.1
  have hR6 : R ≤ 6 := hRo.2.2.2.1
  unfold wp_X4_follow
  have hT0 : TnC (fun _ _ => false) 0 := fun c r _ _ => lb_zero _
  refine sp_fall (f := 64) (res := runW C R lap tt ly n c r) hRo hLy hn hlyn hc hr hT0 PlR.nil rfl ?_ ?_ (fun places passed runs end_ cell bundle t hA => ?_)
  · have := unT_le (fun _ _ => false) r; omega
  · have := unT_le (fun _ _ => false) r; rw [List.length_nil]; omega
  refine zu9_1 64 (by omega) (fun s places passed runs end_ eaves cell bundle t => FolAt C R lap tt ly n (runW C R lap tt ly n c r) (64 - s) places passed runs end_ eaves cell bundle t) 0 rfl (by omega) hA ?_
  intro k places passed runs end_ eaves cell bundle t rec hk hJ hrec
  unfold bd_X4_follow_29
  rcases hJ with ⟨rfl, rfl, rfl, hp⟩ | ⟨rfl, rfl, o, c1, r1, b, tn, pl, hc1, hr1, rfl, ho1, ho0, hT, hp, hres, hf, hl⟩
  · exact ⟨fun _ => h _ _ _ _ _ hp, fun e => absurd rfl e⟩
  · refine ⟨fun e => absurd e (by decide), fun _ => ?_⟩
    rw [show (64 : Int32) = nI 64 from rfl]
    refine br_le (by omega) (by omega) (fun q => by omega) (fun q => ?_)
    have ef : 64 - k = (64 - (k + 1)) + 1 := by omega
    rw [ef] at hres hf
    cases o with
    | true =>
      obtain ⟨rfl, htt⟩ := ho1 rfl
      rw [if_pos rfl] at hf hl
      refine ⟨fun _ => ?_, fun e => absurd rfl e⟩
      refine sp_besideE hRo hc1 hr1 ?_
      rw [hRo.2.2.2.2.1]
      rcases as_cases hC6 hc1 hres with ⟨c', hc', ev, hres'⟩ | ⟨hno, hv⟩
      · refine sp_hasColumn (by omega) (fun _ => ⟨fun e => absurd e (by decide), fun _ => ?_⟩) (fun z => absurd ⟨c', hc', ev⟩ z)
        refine sp_besideE hRo hc1 hr1 ?_
        refine sp_rowOf (by omega) ?_
        rw [show (10 * c1 + r1) % 10 = r1 by omega, ev]
        refine sp_cellOf ?_
        rw [nI_1]
        refine sp_fall hRo hLy hn hlyn hc' hr1 hT hp hres' (by omega) (by omega) (fun places passed runs end_ cell bundle t hA => ?_)
        exact hrec _ _ _ _ _ _ _ _ (by omega) hA
      · refine sp_hasColumn (by omega) (fun z => absurd z hno) (fun _ => ⟨fun _ => ?_, fun e => absurd rfl e⟩)
        unfold wp_X4_finish
        rw [nI_1]
        exact hrec _ _ _ _ _ _ _ _ (by omega) (Or.inl ⟨rfl, by rw [hv]; rfl, by rw [hv], by rw [hv]; exact hp⟩)
    | false =>
      obtain ⟨rfl, hb⟩ := ho0 rfl
      simp only [Bool.false_eq_true, if_false, Nat.add_zero] at hf hl
      refine ⟨fun e => ?_, fun _ => ?_⟩
      · have := (nI_eq (by omega) (by omega)).mp (e.trans (show (99 : Int32) = nI 99 from rfl))
        omega
      · rw [nI_1]
        exact sp_runC hRo hLy hc1 hr1 hb hT hp hres hf hl (fun places passed runs end_ eaves cell bundle t hA => hrec _ _ _ _ _ _ _ _ (by omega) hA)
