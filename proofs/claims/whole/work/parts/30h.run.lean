/-! PURE RUN: the reference's drop goes that way -/
def RoofM (C R lap : Nat) (tt : Nat → Nat → Nat) (Mc Mr Mp : Int32) (Mt : Nat → Int32) : Prop :=
  1 ≤ C ∧ C ≤ 6 ∧ 1 ≤ R ∧ R ≤ 6 ∧ Mc = nI C ∧ Mr = nI R ∧ (lap = if Mp = 1 then 2 else 1) ∧ (∀ c r, c < 6 → r < 6 → Mt (6 * c + r) = nI (tt c r)) ∧ (∀ c r, tt c r ≤ 2)
/-- nb bundles: their columns, what is left of each by rows -/
def BunM (nb : Nat) (col : Nat → Nat) (L : Nat → Nat → Nat) (bCol left : Nat → Int32) : Prop :=
  nb ≤ 80 ∧ (∀ b, b < nb → bCol b = nI (col b) ∧ col b < 6) ∧ (∀ b r, b < nb → r < 6 → left (6 * b + r) = nI (L b r) ∧ L b r ≤ 9)
def lyB (nb : Nat) (col : Nat → Nat) (L : Nat → Nat → Nat) (c r b : Nat) : Bool := decide (b < nb) && (decide (col b = c) && decide (0 < L b r))
theorem lyB_big {nb : Nat} {col : Nat → Nat} {L : Nat → Nat → Nat} {c r b : Nat} (h : nb ≤ b) : lyB nb col L c r b = false := by
  unfold lyB; rw [decide_eq_false (by omega)]; rfl
theorem lyB_in {nb : Nat} {col : Nat → Nat} {L : Nat → Nat → Nat} {c r b : Nat} (h : b < nb) (hc : col b = c) : lyB nb col L c r b = decide (0 < L b r) := by
  unfold lyB; rw [decide_eq_true h, decide_eq_true hc]; rfl
theorem lyB_true {nb : Nat} {col : Nat → Nat} {L : Nat → Nat → Nat} {c r b : Nat} (h : lyB nb col L c r b = true) : b < nb ∧ col b = c ∧ 0 < L b r := by
  unfold lyB at h
  simpa [Bool.and_eq_true, decide_eq_true_eq] using h
theorem nI_6 (b r : Nat) : (6 : Int32) * nI b + nI r = nI (6 * b + r) := by
  rw [show (6 : Int32) = nI 6 from rfl, pk_mul, nI_add]
theorem nI_10 (b r : Nat) : (10 : Int32) * nI b + nI r = nI (10 * b + r) := by
  rw [show (10 : Int32) = nI 10 from rfl, pk_mul, nI_add]
theorem sp_topOf {nb : Nat} {col : Nat → Nat} {L : Nat → Nat → Nat} {bCol left : Nat → Int32} (hB : BunM nb col L bCol left) {c r m : Nat} (hc : c < 6) (hr : r < 6) (hm : m ≤ nb) {post : Int32 → Prop} (h : post (oI (topO (lyB nb col L c r) m))) : wp_X8_topOf bCol left (nI c) (nI r) (nI m) post := by
  obtain ⟨h80, hcol, hL⟩ := hB
  unfold wp_X8_topOf
  refine zd1_1 m (by omega) (fun k => topO (lyB nb col L c r) m = topO (lyB nb col L c r) k) m ?_ (Nat.le_refl m) rfl (fun rec hJ => ?_) (fun k rec hk hJ hrec => ?_)
  · show nI m - 1 = nI m + (-1)
    rw [Int32.sub_eq_add_neg]
  · unfold bd_X8_topOf_5
    refine ⟨fun _ => ?_, fun e => absurd (by decide) e⟩
    rw [hJ] at h; exact h
  · have hkb : k < nb := by omega
    obtain ⟨h1, h2⟩ := hcol k hkb
    obtain ⟨h3, h4⟩ := hL k r hkb hr
    unfold bd_X8_topOf_5
    refine ⟨fun e => absurd e (nI_pos (by omega)), fun _ => ⟨vp_in_nI (by omega) (by omega), ?_⟩⟩
    rw [nI_clamp (by omega), h1]
    have nxt : lyB nb col L c r k = false → rec (nI k + (-1)) := fun q => hrec (by rw [hJ, topO, q]; rfl)
    refine br_neq (by omega) (by omega) (fun q => nxt ?_) (fun q => ⟨?_, ?_⟩)
    · unfold lyB; rw [decide_eq_false q]; simp
    · rw [nI_6]; exact vp_in_nI (by omega) (by omega)
    · rw [nI_6, nI_clamp (by omega), h3, show (0 : Int32) = nI 0 from rfl]
      refine br_le (by omega) (by omega) (fun q2 => nxt ?_) (fun q2 => ?_)
      · rw [lyB_in hkb q, decide_eq_false (by omega)]
      · rw [hJ, topO, lyB_in hkb q, decide_eq_true q2, if_pos rfl] at h; exact h
def allB (p : Nat → Bool) (s : Nat) : Nat → Bool
  | 0 => true
  | m + 1 => allB p s m && p (s + m)
theorem allB_rest {p : Nat → Bool} {s j : Nat} : ∀ {m : Nat}, j ≤ m → (∀ u, s + j ≤ u → p u = true) → allB p s m = allB p s j
  | 0, h, _ => by have : j = 0 := by omega
                  rw [this]
  | m + 1, h, hp => by
    by_cases e : j = m + 1
    · rw [e]
    · rw [allB, hp (s + m) (by omega), Bool.and_true]
      exact allB_rest (by omega) hp
theorem lapsB_all {R lap : Nat} {tt : Nat → Nat → Nat} {ly : Nat → Nat → Nat → Bool} {b c r : Nat} (h : lap = 1 ∨ lap = 2) : lapsB R lap tt ly b c r = allB (fun k => chk R tt ly c k b) (r + 1) lap := by
  rcases h with rfl | rfl
  · simp [lapsB, allB]
  · simp [lapsB, allB]
theorem sp_laps {C R lap : Nat} {tt : Nat → Nat → Nat} {Mc Mr Mp : Int32} {Mt : Nat → Int32} (hRo : RoofM C R lap tt Mc Mr Mp Mt) {nb : Nat} {col : Nat → Nat} {L : Nat → Nat → Nat} {bCol left : Nat → Int32} (hB : BunM nb col L bCol left) {c r b : Nat} (hc : c < C) (hr : r < R) (hb : b < nb) (hcb : col b = c) {post : Int32 → Prop} (h : post (if lapsB R lap tt (lyB nb col L) b c r then 1 else 0)) : wp_X8_laps Mr Mp Mt left (nI b) (nI c) (nI r) post := by
  obtain ⟨-, hC6, -, hR6, -, hMr, hlap, ht, ht2⟩ := hRo
  obtain ⟨h80, hcol, hL⟩ := hB
  have h12 := lap12 hlap
  rw [lapsB_all h12] at h
  have key : jn_X8_laps_13 Mr Mt left (nI b) (nI c) (nI r) post (nI lap) := by
    unfold jn_X8_laps_13
    refine zu2_2 10 (by omega) (fun k is => ∃ j, k = r + 1 + j ∧ j ≤ lap ∧ is = if allB (fun k => chk R tt (lyB nb col L) c k b) (r + 1) j then 1 else 0) (r + 1) (nI_1 r) (by omega) ⟨0, rfl, by omega, rfl⟩ (fun k is rec hk hJ hrec => ?_)
    obtain ⟨j, rfl, hj, his⟩ := hJ
    unfold bd_X8_laps_23
    have fin : allB (fun k => chk R tt (lyB nb col L) c k b) (r + 1) lap = allB (fun k => chk R tt (lyB nb col L) c k b) (r + 1) j → ((is = 0 ∨ is = 1) ∧ post is) := fun e => by
      rw [e, ← his] at h
      refine ⟨?_, h⟩
      rw [his]; split
      · exact Or.inr rfl
      · exact Or.inl rfl
    rw [nI_add, hMr]
    refine br_lt (by omega) (by omega) (fun q => fin (by rw [show lap = j by omega])) (fun q => ?_)
    refine br_le (by omega) (by omega) (fun q2 => fin ?_) (fun q2 => ?_)
    · refine allB_rest (by omega) (fun u hu => ?_)
      unfold chk; rw [decide_eq_true (by omega)]; rfl
    · have step : ∀ v : Int32, v = (if allB (fun k => chk R tt (lyB nb col L) c k b) (r + 1) (j + 1) then 1 else 0) → rec v (nI (r + 1 + j) + 1) := fun v hv => by
        rw [nI_1]; exact hrec _ (by omega) ⟨j + 1, by omega, by omega, hv⟩
      refine bool_cases his (fun e => step 0 ?_) (fun e => ⟨?_, ?_⟩)
      · rw [allB, e]; rfl
      · rw [nI_6]; exact vp_in_nI (by omega) (by omega)
      · rw [nI_6, nI_clamp (by omega), ht c _ (by omega) (by omega), show (0 : Int32) = nI 0 from rfl]
        have h3 := ht2 c (r + 1 + j)
        obtain ⟨h5, h6⟩ := hL b (r + 1 + j) hb (by omega)
        refine br_neq (by omega) (by omega) (fun q3 => step 1 ?_) (fun q3 => ⟨?_, ?_⟩)
        · rw [allB, e]; unfold chk; rw [decide_eq_true q3]; simp
        · rw [nI_6]; exact vp_in_nI (by omega) (by omega)
        · rw [nI_6, nI_clamp (by omega), h5]
          have ech : chk R tt (lyB nb col L) c (r + 1 + j) b = decide (0 < L b (r + 1 + j)) := by
            unfold chk; rw [decide_eq_false (by omega), decide_eq_false (by omega), lyB_in hb hcb]; rfl
          refine br_le (by omega) (by omega) (fun q4 => step 0 ?_) (fun q4 => step 1 ?_)
          · rw [allB, e, ech, decide_eq_false (by omega)]; rfl
          · rw [allB, e, ech, decide_eq_true q4]; rfl
  unfold wp_X8_laps
  refine ⟨fun e => ?_, fun e => ?_⟩
  · rw [if_neg e] at hlap; rw [hlap] at key; exact key
  · rw [if_pos e] at hlap; rw [hlap] at key; exact key
def TnM (tn : Nat → Nat → Bool) (isT : Nat → Int32) : Prop := ∀ c r, c < 6 → r < 6 → isT (6 * c + r) = if tn c r then 1 else 0
theorem TnM.set {tn : Nat → Nat → Bool} {isT : Nat → Int32} (h : TnM tn isT) {c r : Nat} (hc : c < 6) (hr : r < 6) : TnM (setT tn c r) (upd isT (6 * c + r) 1) := by
  intro c' r' hc' hr'
  unfold setT
  by_cases e : c' = c ∧ r' = r
  · obtain ⟨rfl, rfl⟩ := e; simp [pk_us]
  · rw [if_neg e, pk_un (fun q => e ⟨by omega, by omega⟩)]; exact h c' r' hc' hr'
theorem TnM.un {tn : Nat → Nat → Bool} {isT : Nat → Int32} (h : TnM tn isT) {r : Nat} (hr : r < 6) : cnt (fun c => decide (isT (6 * c + r) = 0)) 6 = unT tn r := by
  unfold unT
  refine cnt_congr (fun c hc => ?_)
  rw [h c r hc hr]
  cases tn c r <;> rfl
def RunAt (C R lap : Nat) (tt : Nat → Nat → Nat) (ly : Nat → Nat → Nat → Bool) (nb : Nat) (col : Nat → Nat) (res : wRes) (l3 l4 l5 : Int32) (places : Nat → Int32) (pm : Int32) (isT : Nat → Int32) : Prop :=
  ∃ (c r : Nat) (on : Option Nat) (tn : Nat → Nat → Bool) (pl : List Int32) (f : Nat), c < C ∧ r < R ∧ l3 = nI c ∧ l4 = nI r ∧ l5 = oI on ∧ (∀ b, on = some b → b < nb ∧ col b = c) ∧ TnM tn isT ∧ PlR pl places pm ∧ entW tt ly nb (fun o c r b tn pl => goW C R lap tt ly nb f o c r b tn pl) c r on tn pl = res ∧ 7 * r + unT tn r < f ∧ pl.length + (7 * r + unT tn r) ≤ 41
theorem sp_place {pl : List Int32} {places : Nat → Int32} {pm v : Int32} (hp : PlR pl places pm) (hn : pl.length < 200) {post : (Nat → Int32) → Int32 → Prop} (h : ∀ places' pm', PlR (pl ++ [v]) places' pm' → post places' pm') : wp_X8_place pm places v post := by
  unfold wp_X8_place
  obtain ⟨h1, -⟩ := id hp
  have h3 := hp.push (v := v) (by omega)
  refine ⟨by rw [h1]; exact vp_in_nI hn (by omega), h _ _ h3⟩
theorem oI_none_iff {on : Option Nat} (h : ∀ b, on = some b → b < 2 ^ 31) : oI on = -9 ↔ on = none := by
  cases on with
  | none => exact ⟨fun _ => rfl, fun _ => rfl⟩
  | some b => exact ⟨fun e => absurd e (nI_ne9 (h b rfl)), fun e => by cases e⟩
theorem sp_run {C R lap : Nat} {tt : Nat → Nat → Nat} {Mc Mr Mp : Int32} {Mt : Nat → Int32} (hRo : RoofM C R lap tt Mc Mr Mp Mt) {nb : Nat} {col : Nat → Nat} {L : Nat → Nat → Nat} {bCol left : Nat → Int32} (hB : BunM nb col L bCol left) {places0 isT0 : Nat → Int32} {c0 r0 : Nat} (hc0 : c0 < C) (hr0 : r0 < R)
    {post : Int32 → (Nat → Int32) → Int32 → Int32 → (Nat → Int32) → Prop} (h : ∀ places pm isT, PlR (runW C R lap tt (lyB nb col L) nb c0 r0).2.2 places pm → post (nI (runW C R lap tt (lyB nb col L) nb c0 r0).1) places pm (runW C R lap tt (lyB nb col L) nb c0 r0).2.1 isT) : wp_X8_run Mc Mr Mp (nI nb) Mt bCol left places0 isT0 (nI c0) (nI r0) post := by
  obtain ⟨-, hC6, -, hR6, hMc, hMr, hlap, ht, ht2⟩ := id hRo
  obtain ⟨h80, hcol, hL⟩ := id hB
  unfold wp_X8_run
  refine zu2_1 36 (by omega) (fun k f => ∀ i, i < k → f i = 0) 0 rfl (by omega) (fun i hi => by omega) (fun k f rec hk hJ hrec => ?_)
  unfold bd_X8_run_23
  rw [show (36 : Int32) = nI 36 from rfl]
  refine br_le (by omega) (by omega) (fun q => ?_) (fun q => ⟨vp_in_nI (by omega) (by omega), by
    rw [nI_1, nI_clamp (by omega)]
    refine hrec _ (by omega) (fun i hi => ?_)
    by_cases e : i = k
    · subst e; exact pk_us
    · rw [pk_un e]; exact hJ i (by omega)⟩)
  have hTm : TnM (fun _ _ => false) f := fun c r hc hr => hJ _ (by omega)
  refine ⟨RunAt C R lap tt (lyB nb col L) nb col (runW C R lap tt (lyB nb col L) nb c0 r0), fun l3 l4 l5 places pm isT => 7 * l4.toNatClampNeg + cnt (fun c => decide (isT (6 * c + l4.toNatClampNeg) = 0)) 6, ⟨c0, r0, none, fun _ _ => false, [], 64, hc0, hr0, rfl, rfl, rfl, (fun b e => by cases e), hTm, PlR.nil, rfl, ?_, ?_⟩, ?_⟩
  · have := unT_le (fun _ _ => false) r0; omega
  · have := unT_le (fun _ _ => false) r0; rw [List.length_nil]; omega
  rintro l3 l4 l5 places pm isT ⟨c, r, on, tn, pl, fu, hc, hr, rfl, rfl, rfl, hon, hT, hp, hres, hf, hl⟩
  have ht0 := ht c r (by omega) (by omega)
  have h22 := ht2 c r
  have hmu : 7 * (nI r).toNatClampNeg + cnt (fun c => decide (isT (6 * c + (nI r).toNatClampNeg) = 0)) 6 = 7 * r + unT tn r := by
    rw [nI_clamp (by omega), hT.un (by omega)]
  unfold bd_X8_run_44
  simp only [nI_6, nI_10, nI_clamp (show 6 * c + r < 2 ^ 31 by omega), ht0]
  refine ⟨vp_in_nI (by omega) (by omega), ?_⟩
  rw [show (0 : Int32) = nI 0 from rfl]
  unfold entW at hres
  refine br_eq (by omega) (by omega) (fun h0 => ?_) (fun h0 => ⟨vp_in_nI (by omega) (by omega), ?_⟩)
  · -- straw, or nothing
    rw [if_neg (by simpa using h0)] at hres
    have onb : ∀ b, b < nb → col b = c → goW C R lap tt (lyB nb col L) nb fu false c r b tn (pl ++ [nI (100 * b + (10 * c + r))]) = runW C R lap tt (lyB nb col L) nb c0 r0 → jn_X8_run_181 Mr Mp Mt bCol left post (nI c) (nI r) places pm isT (fun b1 b2 b3 b4 b5 b6 => RunAt C R lap tt (lyB nb col L) nb col (runW C R lap tt (lyB nb col L) nb c0 r0) b1 b2 b3 b4 b5 b6 ∧ 7 * b2.toNatClampNeg + cnt (fun c => decide (b6 (6 * c + b2.toNatClampNeg) = 0)) 6 < 7 * (nI r).toNatClampNeg + cnt (fun c => decide (isT (6 * c + (nI r).toNatClampNeg) = 0)) 6) (nI b) (nI (10 * c + r)) := by
      intro b hb hcb hg
      unfold jn_X8_run_181
      rw [show (100 : Int32) * nI b + nI (10 * c + r) = nI (100 * b + (10 * c + r)) by rw [show (100 : Int32) = nI 100 from rfl, pk_mul, nI_add]]
      refine sp_place hp (by omega) (fun places' pm' hp' => ?_)
      rw [show (0 : Int32) = nI 0 from rfl]
      have efu : fu = (fu - 1) + 1 := by omega
      rw [efu, goW, if_neg (by decide)] at hg
      refine br_neq (by omega) (by omega) (fun hr0' => ?_) (fun hr0' => ?_)
      · rw [if_neg hr0'] at hg
        have e1 : nI (6 * b + r) - 1 = nI (6 * b + (r - 1)) := by
          rw [show (1 : Int32) = nI 1 from rfl, nI_subN (by omega), show 6 * b + r - 1 = 6 * b + (r - 1) by omega]
        have e2 : nI (6 * c + r) - 1 = nI (6 * c + (r - 1)) := by
          rw [show (1 : Int32) = nI 1 from rfl, nI_subN (by omega), show 6 * c + r - 1 = 6 * c + (r - 1) by omega]
        have e3 : nI r + (-1) = nI (r - 1) := by
          conv => lhs; rw [show r = (r - 1) + 1 by omega]
          exact pk_m1 _
        have e4 : nI r - 1 = nI (r - 1) := by rw [show (1 : Int32) = nI 1 from rfl, nI_subN (by omega)]
        have e5 : nI (10 * c + r) - 1 = nI (10 * c + (r - 1)) := by
          rw [show (1 : Int32) = nI 1 from rfl, nI_subN (by omega), show 10 * c + r - 1 = 10 * c + (r - 1) by omega]
        obtain ⟨h5, h6⟩ := hL b (r - 1) hb (by omega)
        have ht1 := ht c (r - 1) (by omega) (by omega)
        have h23 := ht2 c (r - 1)
        have hu := unT_le tn (r - 1)
        simp only [nI_6, e1, e2, e3, e4, e5, nI_clamp (show 6 * b + (r - 1) < 2 ^ 31 by omega), nI_clamp (show 6 * c + (r - 1) < 2 ^ 31 by omega), h5, ht1]
        have go1 : ∀ b', b' < nb → col b' = c → entW tt (lyB nb col L) nb (fun o c r b tn pl => goW C R lap tt (lyB nb col L) nb (fu - 1) o c r b tn pl) c (r - 1) (some b') tn (pl ++ [nI (100 * b + (10 * c + r))]) = runW C R lap tt (lyB nb col L) nb c0 r0 → RunAt C R lap tt (lyB nb col L) nb col (runW C R lap tt (lyB nb col L) nb c0 r0) (nI c) (nI (r - 1)) (nI b') places' pm' isT ∧ 7 * (nI (r - 1)).toNatClampNeg + cnt (fun c => decide (isT (6 * c + (nI (r - 1)).toNatClampNeg) = 0)) 6 < 7 * (nI r).toNatClampNeg + cnt (fun c => decide (isT (6 * c + (nI r).toNatClampNeg) = 0)) 6 := by
          intro b' hb' hcb' he
          refine ⟨⟨c, r - 1, some b', tn, _, fu - 1, hc, by omega, rfl, rfl, rfl, (fun b2 e => by cases e; exact ⟨hb', hcb'⟩), hT, hp', he, by omega, by rw [List.length_append, List.length_singleton]; omega⟩, ?_⟩
          rw [hmu, nI_clamp (by omega), hT.un (by omega)]
          omega
        refine ⟨vp_in_nI (by omega) (by omega), ?_⟩
        refine br_neq (by omega) (by omega) (fun q1 => ?_) (fun q1 => ⟨vp_in_nI (by omega) (by omega), ?_⟩)
        · rw [if_neg (by rw [lyB_in hb hcb, decide_eq_true (by omega)]; simp)] at hg
          exact go1 b hb hcb hg
        · have hly : lyB nb col L c (r - 1) b = false := by rw [lyB_in hb hcb, decide_eq_false (by omega)]
          refine br_neq (by omega) (by omega) (fun q2 => ?_) (fun q2 => ?_)
          · rw [if_neg (fun z => q2 z.2)] at hg
            exact go1 b hb hcb hg
          · rw [if_pos ⟨hly, q2⟩] at hg
            refine sp_topOf hB (by omega) (by omega) (by omega) ?_
            cases htop : topO (lyB nb col L c (r - 1)) b with
            | none =>
              rw [htop] at hg
              refine ⟨fun _ => ?_, fun e => absurd rfl e⟩
              have := h places' pm' isT (by rw [← hg]; exact hp')
              rw [← hg] at this; exact this
            | some b' =>
              rw [htop] at hg
              obtain ⟨hb1, hb2⟩ := topO_some htop
              obtain ⟨hb3, hb4, -⟩ := lyB_true hb2
              refine ⟨fun e => absurd e (nI_ne9 (by omega)), fun _ => ?_⟩
              refine sp_laps hRo hB hc (by omega) hb3 hb4 (bool_cases' rfl (fun hq2 => ?_) (fun hq2 => ?_))
              · simp only [hq2, if_true] at hg
                exact go1 b' hb3 hb4 hg
              · simp only [hq2, Bool.false_eq_true, if_false] at hg
                have := h places' pm' isT (by rw [← hg]; exact hp')
                rw [← hg] at this; exact this
      · rw [if_pos hr0'] at hg
        have := h places' pm' isT (by rw [← hg]; exact hp')
        rw [← hg] at this; exact this
    cases on with
    | some b =>
      obtain ⟨hb, hcb⟩ := hon b rfl
      refine ⟨fun _ => onb b hb hcb hres, fun e => absurd e (nI_ne9 (by omega))⟩
    | none =>
      refine ⟨fun e => absurd rfl e, fun _ => ?_⟩
      refine sp_topOf hB (by omega) (by omega) (Nat.le_refl nb) ?_
      cases htop : topO (lyB nb col L c r) nb with
      | none =>
        simp only [htop] at hres
        refine ⟨fun e => absurd rfl e, fun _ => ?_⟩
        have := h places pm isT (by rw [← hres]; exact hp)
        rw [← hres] at this; exact this
      | some b =>
        simp only [htop] at hres
        obtain ⟨hb1, hb2⟩ := topO_some htop
        obtain ⟨hb3, hb4, -⟩ := lyB_true hb2
        refine ⟨fun _ => onb b hb3 hb4 hres, fun e => absurd e (nI_ne9 (by omega))⟩
  · -- an opening
    rw [if_pos h0] at hres
    rw [hT c r (by omega) (by omega)]
    refine bool_cases rfl (fun hq => ⟨vp_in_nI (by omega) (by omega), ?_⟩) (fun hq => ?_)
    · rw [hq, if_neg (by decide)] at hres
      have h6 := unT_set (c := c) (r := r) (by omega) hq
      rw [show (9900 : Int32) + nI (10 * c + r) = nI (9900 + (10 * c + r)) by rw [show (9900 : Int32) = nI 9900 from rfl, nI_add]]
      refine sp_place hp (by omega) (fun places' pm' hp' => ⟨vp_in_nI (by omega) (by omega), ?_⟩)
      have efu : fu = (fu - 1) + 1 := by omega
      rw [efu] at hres
      have hT' := hT.set (c := c) (r := r) (by omega) (by omega)
      have fin : jn_X8_run_131 Mc post (nI r) (fun b1 b2 b3 b4 b5 b6 => RunAt C R lap tt (lyB nb col L) nb col (runW C R lap tt (lyB nb col L) nb c0 r0) b1 b2 b3 b4 b5 b6 ∧ 7 * b2.toNatClampNeg + cnt (fun c => decide (b6 (6 * c + b2.toNatClampNeg) = 0)) 6 < 7 * (nI r).toNatClampNeg + cnt (fun c => decide (isT (6 * c + (nI r).toNatClampNeg) = 0)) 6) (nI c) (if tt c r = 1 then -1 else 1) places' pm' (upd isT (6 * c + r) 1) := by
        unfold jn_X8_run_131
        have ev : nI c + (if tt c r = 1 then -1 else 1) = asV tt c r := by
          unfold asV; split
          · rw [Int32.sub_eq_add_neg]
          · rfl
        rw [ev, hMc]
        rcases as_cases hC6 hc hres with ⟨c', hc', ev2, hres'⟩ | ⟨hno, hv⟩
        · refine sp_noColumn (by omega) (fun _ => ⟨fun _ => ?_, fun e => absurd rfl e⟩) (fun z => absurd ⟨c', hc', ev2⟩ z)
          rw [ev2]
          refine ⟨⟨c', r, none, setT tn c r, _, fu - 1, hc', hr, rfl, rfl, rfl, (fun b e => by cases e), hT', hp', hres', by omega, by rw [List.length_append, List.length_singleton]; omega⟩, ?_⟩
          rw [hmu, nI_clamp (by omega), hT'.un (by omega)]
          omega
        · refine sp_noColumn (by omega) (fun z => absurd z hno) (fun _ => ⟨fun e => absurd e (by decide), fun _ => ?_⟩)
          have := h places' pm' (upd isT (6 * c + r) 1) (by rw [hv]; exact hp')
          rw [hv] at this; exact this
      rw [show (1 : Int32) = nI 1 from rfl]
      refine br_neq (by omega) (by omega) (fun q => ?_) (fun q => ?_)
      · rw [if_neg q] at fin; exact fin
      · rw [if_pos q] at fin; exact fin
    · rw [hq, if_pos rfl] at hres
      have := h places pm isT (by rw [← hres]; exact hp)
      rw [← hres] at this; exact this
