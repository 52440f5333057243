/-! LAW: what the tables and the given words say at the entry -/
theorem law_zN {s : State} {b : Nat} (hts : ∀ w ∈ lw_tbl, w.before #[Value.ref b] s = true) : zN s := by
  have N : ∀ w : Cond, w.onTables = true → w ∈ lw_tbl → va_Nw w s := fun w h1 h2 => va_Nw.of h1 (hts w h2)
  unfold zN
  exact ⟨N (.methodLinkNest RX0 82 yX7_isIn RX7) rfl (by decide +kernel), N (.methodLinkNest RX0 97 yX7_isWithin RX7) rfl (by decide +kernel), N (.methodLinkNest RX1 63 yX7_cellOf RX7) rfl (by decide +kernel), N (.methodLinkNest RX1 69 yX7_isIn RX7) rfl (by decide +kernel), N (.methodLinkNest RX1 77 yX7_isWithin RX7) rfl (by decide +kernel), N (.methodLinkNest RX1 85 yX7_rowOf RX7) rfl (by decide +kernel), N (.methodLinkNest RX1 105 yX7_greatest RX7) rfl (by decide +kernel), N (.methodLinkNest RX2 17 yX7_isIn RX7) rfl (by decide +kernel), N (.methodLinkNest RX3 38 yX7_cellOf RX7) rfl (by decide +kernel), N (.methodLinkNest RX3 48 yX7_isWithin RX7) rfl (by decide +kernel), N (.methodLinkNest RX4 58 yX7_rowOf RX7) rfl (by decide +kernel), N (.methodLinkNest RX4 62 yX7_cellOf RX7) rfl (by decide +kernel), N (.methodLinkNest RX4 73 yX7_greatest RX7) rfl (by decide +kernel), N (.methodLinkNest RX4 90 yX7_columnOf RX7) rfl (by decide +kernel), N (.methodLinkNest RX4 93 yX7_isIn RX7) rfl (by decide +kernel), N (.methodLinkNest RX5 21 yX7_isWithin RX7) rfl (by decide +kernel), N (.methodLinkNest RX5 49 yX7_isLength RX7) rfl (by decide +kernel), N (.methodLinkNest RX5 52 yX7_isSort RX7) rfl (by decide +kernel), N (.methodLinkNest RX5 55 yX7_isThickness RX7) rfl (by decide +kernel), N (.methodLinkNest RX6 65 yX7_cellOf RX7) rfl (by decide +kernel), N (.methodLinkNest RX6 69 yX7_isIn RX7) rfl (by decide +kernel), N (.methodLinkNest RX6 85 yX7_columnOf RX7) rfl (by decide +kernel), N (.methodLinkNest RX7 65 yX5_init RX7) rfl (by decide +kernel)⟩
theorem law_zE {s : State} {b : Nat} (hts : ∀ w ∈ lw_tbl, w.before #[Value.ref b] s = true) : ∃ (D : va_G) (cI cJ cZ : ClassId), zE D cI cJ cZ s := by
  obtain ⟨c0, iS0, hKn0⟩ := u_known (C := RX0) (T := TX0) (N := 7) (n := 7) hts inX0 (hts (.instantiable RX0 7) (by decide +kernel))
  obtain ⟨c1, iS1, hKn1⟩ := u_known (C := RX1) (T := TX1) (N := 10) (n := 10) hts inX1 (hts (.instantiable RX1 10) (by decide +kernel))
  obtain ⟨c2, iS2, hKn2⟩ := u_known (C := RX3) (T := TX3) (N := 7) (n := 7) hts inX3 (hts (.instantiable RX3 7) (by decide +kernel))
  obtain ⟨c3, iS3, hKn3⟩ := u_known (C := RX4) (T := TX4) (N := 9) (n := 9) hts inX4 (hts (.instantiable RX4 9) (by decide +kernel))
  obtain ⟨c4, iS4, hKn4⟩ := u_known (C := RX5) (T := TX5) (N := 2) (n := 2) hts inX5 (hts (.instantiable RX5 2) (by decide +kernel))
  obtain ⟨c5, iS5, hKn5⟩ := u_known (C := RX6) (T := TX6) (N := 5) (n := 5) hts inX6 (hts (.instantiable RX6 5) (by decide +kernel))
  obtain ⟨c6, iS6, hKn6⟩ := u_known (C := RX7) (T := TX7) (N := 10) (n := 10) hts inX7 (hts (.instantiable RX7 10) (by decide +kernel))
  obtain ⟨c7, iS7, hKn7⟩ := u_known (C := RX8) (T := TX8) (N := 42) (n := 42) hts inX8 (hts (.instantiable RX8 42) (by decide +kernel))
  obtain ⟨cI, hI1, hI2⟩ := z_arr (ty := .int) (fun C h => by cases h) (hts (.arrayClass .int) (by decide +kernel))
  obtain ⟨cJ, hJ1, hJ2⟩ := z_arr (ty := .long) (fun C h => by cases h) (hts (.arrayClass .long) (by decide +kernel))
  obtain ⟨cZ, hZ1, hZ2⟩ := z_arr (ty := .boolean) (fun C h => by cases h) (hts (.arrayClass .boolean) (by decide +kernel))
  refine ⟨((fun k => if k = 0 then c0 else if k = 1 then c1 else if k = 2 then c2 else if k = 3 then c3 else if k = 4 then c4 else if k = 5 then c5 else if k = 6 then c6 else c7), (fun k => if k = 0 then iS0 else if k = 1 then iS1 else if k = 2 then iS2 else if k = 3 then iS3 else if k = 4 then iS4 else if k = 5 then iS5 else if k = 6 then iS6 else iS7)), cI, cJ, cZ, ⟨fun k q hq => ?_, fun k q hq => ?_⟩, law_zN hts⟩
  · match k, hq with
    | 0, hq => cases hq; exact hKn0
    | 1, hq => cases hq; exact hKn1
    | 2, hq => cases hq; exact hKn2
    | 3, hq => cases hq; exact hKn3
    | 4, hq => cases hq; exact hKn4
    | 5, hq => cases hq; exact hKn5
    | 6, hq => cases hq; exact hKn6
    | 7, hq => cases hq; exact hKn7
    | k + 8, hq => simp [vwCl] at hq
  · match k, hq with
    | 0, hq => cases hq; exact ⟨hI1, hI2⟩
    | 1, hq => cases hq; exact ⟨hJ1, hJ2⟩
    | 2, hq => cases hq; exact ⟨hZ1, hZ2⟩
    | k + 3, hq => simp at hq
theorem law_car {s : State} {b : Nat} (hts : ∀ w ∈ lw_tbl, w.before #[Value.ref b] s = true) (hgv : (Jvm.Cond.and given_1 narrow_1).before #[Value.ref b] s = true) : zCar (fun q : Nat => s.heap.size ≤ q) s := by
  have hs := flat_of_before _ hgv
  have hA : ∀ a : Nat, a < s.heap.size → ¬ (fun q : Nat => s.heap.size ≤ q) a := fun a h => Nat.not_le.mpr h
  have harr : (Cond.arrayOf (.static "StrawCoats$Fire" "CARRIES" "[I") .int).before #[Value.ref b] s = true := hs _ (by decide +kernel)
  have hlen : (Cond.eq (.length (.static "StrawCoats$Fire" "CARRIES" "[I")) (.int 5)).before #[Value.ref b] s = true := hs _ (by decide +kernel)
  have e0 : (Cond.eq (.elem (.static "StrawCoats$Fire" "CARRIES" "[I") (.int 0)) (.int 0)).before #[Value.ref b] s = true := hs _ (by decide +kernel)
  have e1 : (Cond.eq (.elem (.static "StrawCoats$Fire" "CARRIES" "[I") (.int 1)) (.int 20)).before #[Value.ref b] s = true := hs _ (by decide +kernel)
  have e2 : (Cond.eq (.elem (.static "StrawCoats$Fire" "CARRIES" "[I") (.int 2)) (.int 2)).before #[Value.ref b] s = true := hs _ (by decide +kernel)
  have e3 : (Cond.eq (.elem (.static "StrawCoats$Fire" "CARRIES" "[I") (.int 3)) (.int (-20))).before #[Value.ref b] s = true := hs _ (by decide +kernel)
  have e4 : (Cond.eq (.elem (.static "StrawCoats$Fire" "CARRIES" "[I") (.int 4)) (.int (-2))).before #[Value.ref b] s = true := hs _ (by decide +kernel)
  obtain ⟨t, ht, hT⟩ := va_Tof (N := 5) (f := fun j => .int (zCARf j)) (by omega) harr (va_eqt hlen) (fun j hj => by
    rcases (show j = 0 ∨ j = 1 ∨ j = 2 ∨ j = 3 ∨ j = 4 by omega) with rfl | rfl | rfl | rfl | rfl
    · exact va_eqt e0
    · exact va_eqt e1
    · exact va_eqt e2
    · exact va_eqt e3
    · exact va_eqt e4) hA
  exact ⟨t, va_Zref (hts (.laysStatic "StrawCoats$Fire" "CARRIES" "[I") (by decide +kernel)) (hts (.initialized "StrawCoats$Fire") (by decide +kernel)) ht hA, hT⟩
