/-! PURE DONE 1: laying by told figures -/
theorem LowP.uniq {tt : Nat → Nat → Nat} {c r ln a b : Nat} (h : LowP tt c r ln a) (h' : LowP tt c r ln b) : a = b := by
  obtain ⟨h1, h2, h3, h4⟩ := h
  obtain ⟨g1, g2, g3, g4⟩ := h'
  by_cases e1 : a < b
  · rcases g4 with z | z | z
    · omega
    · omega
    · exact absurd (h3 (b - 1) (by omega) (by omega)) z
  · by_cases e2 : b < a
    · rcases h4 with z | z | z
      · omega
      · omega
      · exact absurd (g3 (a - 1) (by omega) (by omega)) z
    · omega
theorem sp_layV {C R lap n : Nat} {tt : Nat → Nat → Nat} {Fs : Int32} {Ft : Nat → Int32} (hRo : RoofC C R lap tt (nI C) (nI R) Fs Ft) {col row len srt thk : Nat → Nat} {L : Nat → Nat → Nat} {aCol aRow aLen aSrt aThk aLeft : Nat → Int32} {a : Nat → Int64} (hA : CoatA C R n col row len srt thk L (nI n) aCol aRow aLen aSrt aThk aLeft a) (hn : n ≤ 40) {c r ln st tk : Nat} (hc : c < C) (hr : r < R) (hl : 1 ≤ ln ∧ ln ≤ 3) (hs : st ≤ 5) (htk : 1 ≤ tk ∧ tk ≤ 9) {post : Int32 → Int32 → (Nat → Int32) → (Nat → Int32) → (Nat → Int32) → (Nat → Int32) → (Nat → Int32) → (Nat → Int32) → (Nat → Int64) → Prop}
    (h3 : tt c r ≠ 0 → post (-3) (nI n) aCol aRow aLen aSrt aThk aLeft a) (h4 : tt c r = 0 → n = 40 → post (-4) (nI n) aCol aRow aLen aSrt aThk aLeft a)
    (h : tt c r = 0 → n < 40 → ∀ low aLeft' a', LowP tt c r ln low → CoatA C R (n + 1) (set1 col n c) (set1 row n r) (set1 len n ln) (set1 srt n st) (set1 thk n tk) (layL L n low r tk) (nI (n + 1)) (upd aCol n (nI c)) (upd aRow n (nI r)) (upd aLen n (nI ln)) (upd aSrt n (nI st)) (upd aThk n (nI tk)) aLeft' a' → post (nI n) (nI (n + 1)) (upd aCol n (nI c)) (upd aRow n (nI r)) (upd aLen n (nI ln)) (upd aSrt n (nI st)) (upd aThk n (nI tk)) aLeft' a') : wp_X7_lay (nI C) (nI R) Ft (nI n) aCol aRow aLen aSrt aThk aLeft a (nI c) (nI r) (nI ln) (nI st) (nI tk) post := by
  have hC6 : C ≤ 6 := hRo.2.1
  have hR6 : R ≤ 6 := hRo.2.2.2.1
  unfold wp_X7_lay wp_X7_isSort wp_X7_isLength wp_X7_isThickness
  refine sp_hasCellY (by omega) (by omega) hc hr (t01 ?_)
  refine sp_withY rfl (a := 0) (b := 5) rfl rfl (by omega) (by omega) hs ⟨Or.inr rfl, t10 ?_⟩
  refine sp_withY rfl (a := 1) (b := 3) rfl rfl (by omega) hl.1 hl.2 ⟨Or.inr rfl, t01 ?_⟩
  refine sp_withY rfl (a := 1) (b := 9) rfl rfl (by omega) htk.1 htk.2 ⟨Or.inr rfl, t10 (sp_cellOf ?_)⟩
  refine sp_isOpening hRo hc hr (fun z => f01 ?_) (fun z => t01 (h3 z))
  by_cases hn40 : n < 40
  · exact sp_add hRo hA hn40 hc hr z hl htk (fun low aLeft' a' hlow hA' => h z hn40 low aLeft' a' hlow hA')
  · unfold wp_X1_add
    exact br_lt (b := 40) (by omega) (by omega) (fun q => absurd q (by omega)) (fun _ => h4 z (by omega))
