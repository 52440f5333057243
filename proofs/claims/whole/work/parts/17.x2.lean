set_option maxHeartbeats 8000000 in
set_option maxRecDepth 100000 in
theorem c_X2_spread (l : Launch) (D : va_G) (cI cJ cZ : ClassId)  (l0 : Int64) (l2 : Int32) (l3 : Int32) (sz : Nat) {post : Int64 → Prop} (h : wp_X2_spread  l0 l2 l3 post) : Met l yX2_spread wsX2_spread ({ frames := 0, cells := 0, slots := 0, locals := 0 }) (zPcC D cI cJ cZ [.long l0, .int l2, .int l3] sz []) (va_Ql (fun (r : Int64) (u : Unit) => post r ) (fun (u : Unit) t => va_P D vwCl [] t.heap ∧ va_D (va_A [] sz) []) (va_A [] sz)) 0 0 (va_A [] sz) := by
  refine Met.ofW (cc := cX2_spread) (maxL := 12) (ret := (some .long)) (by decide) rfl ?_
  intro p e s m args below meth c s₁ B hml hv
  obtain ⟨rfl, hsz, hP, hE, hD0, hC⟩ := hv
  have hx := B.exec
  have hb := B.bytes
  have hr := B.returns
  have hts := atoms_spec (ws := wsX2_spread) B.pre
  have hown : s.vm.findClass RX2 = some m.cls := findClass_of_methodNamed B.named
  have hlocks := B.notSynchronized
  have hK := hE.1
  subst hsz
  have hD := hD0.self (sz := s.heap.size)
  generalize hAe : va_A [] s.heap.size = A at hD hC ⊢
  have hA : ∀ q : Nat, s.heap.size ≤ q → A q := fun q h => by rw [← hAe]; exact Or.inr h
  have hS : va_S A s.heap s.heap [] := va_S.rf
  have hP : va_P D vwCl [] s.heap := hP
  have hl := lv_entry ([.long l0, .int l2, .int l3]) (n := 12) (Nat.le_of_ble_eq_true rfl)
  rw [lg_entry_eq]
  generalize (lg_sl ([.long l0, .int l2, .int l3]) ++ List.replicate (12 - (lg_sl ([.long l0, .int l2, .int l3])).length) Slot.unset).toArray = ls at hl ⊢
  have hl : lv_has ls 12 [(0, .long l0), (2, .int l2), (3, .int l3)] := hl
  generalize hQ9 : MQ below (va_Ql (fun (r : Int64) (u : Unit) => post r ) (fun (u : Unit) t => va_P D vwCl [] t.heap ∧ va_D A []) A) ([.long l0, .int l2, .int l3] : List Value).toArray s 0 0 A = Q9
  have hF := h
  unfold wp_X2_spread at hF
  obtain ⟨p_CAR, hZ9, hT9⟩ := hC
  refine va_gets hx hb hZ9 hS hown (hts (.fieldLink RX2 9 "StrawCoats$Fire" "CARRIES" "[I") (by decide +kernel)) (fun _ h9 => h9) dX2_spread_0 ?_
  refine lv_iload_n hx hb dX2_spread_3 rfl (lv_at hl 2 rfl) ?_
  have hb_1 := hF.1
  have hF := hF.2
  refine va_ti (v := .int (zCARf l3.toNatClampNeg)) hx hb hT9 hS hb_1 rfl dX2_spread_4 ?_
  refine lv_istore (lv' := [(4, .int (zCARf l3.toNatClampNeg)), (0, .long l0), (2, .int l2), (3, .int l3)]) hx hb dX2_spread_5 hl (by decide) rfl (fun ls hl => ?_)
  refine lv_lload_n hx hb dX2_spread_7 rfl (lv_at hl 1 rfl) ?_
  refine lv_lconst (v := (1 : Int64)) hx hb dX2_spread_8 (by decide) ?_
  refine lv_iload_n hx hb dX2_spread_9 rfl (lv_at hl 2 rfl) ?_
  refine lv_lshl (v := (jlshl (1 : Int64) l2)) hx hb dX2_spread_10 rfl ?_
  refine lv_land hx hb dX2_spread_11 ?_
  refine lv_lstore (lv' := [(5, .long (l0 &&& (jlshl (1 : Int64) l2))), (4, .int (zCARf l3.toNatClampNeg)), (0, .long l0), (2, .int l2), (3, .int l3)]) hx hb dX2_spread_12 hl (by decide) rfl (fun ls hl => ?_)
  refine lv_iconst (v := (0 : Int32)) hx hb dX2_spread_14 (by decide) ?_
  refine lv_istore (lv' := [(7, .int (0 : Int32)), (5, .long (l0 &&& (jlshl (1 : Int64) l2))), (4, .int (zCARf l3.toNatClampNeg)), (0, .long l0), (2, .int l2), (3, .int l3)]) hx hb dX2_spread_15 hl (by decide) rfl (fun ls hl => ?_)
  obtain ⟨I_17, μ_17, hI_17, hs_17⟩ := hF
  have hlp_17 : ∀ (n : Nat) (l5_2 : Int64) (l7_3 : Int32), I_17 l5_2 l7_3 → μ_17 l5_2 l7_3 < n → ∀ (H : Heap) (locs : List Loc), va_P D vwCl [] H → va_D A [] → va_S A s.heap H locs → ∀ ls : Array Slot, lv_has ls 12 [(0, .long l0), (4, .int (zCARf l3.toNatClampNeg)), (5, .long l5_2), (7, .int l7_3)] → W p l e ({ frames := 0, cells := 0, slots := 0, locals := 0 } : Room) s m ([.long l0, .int l2, .int l3] : List Value).toArray below meth c H locs 0 0 Q9 (F0 m 17 ls []) := by
    intro n
    induction n with
    | zero => intro l5_2 l7_3 _ hn; exact absurd hn (Nat.not_lt_zero _)
    | succ n ih_17 =>
      intro l5_2 l7_3 hI9 hn_17 H locs hP hD hS ls hl
      have hF := hs_17 l5_2 l7_3 hI9
      unfold bd_X2_spread_17 at hF
      have hj_64 : ∀ (v_4 : Int64) (v_5 : Int64), jn_X2_spread_64 l0 post l5_2 l7_3 (fun b0 b1 => I_17 b0 b1 ∧ μ_17 b0 b1 < μ_17 l5_2 l7_3) v_4 v_5 → ∀ (H : Heap) (locs : List Loc), va_P D vwCl [] H → va_D A [] → va_S A s.heap H locs → ∀ ls : Array Slot, lv_has ls 12 [(0, .long l0), (4, .int (zCARf l3.toNatClampNeg)), (5, .long l5_2), (7, .int l7_3)] → W p l e ({ frames := 0, cells := 0, slots := 0, locals := 0 } : Room) s m ([.long l0, .int l2, .int l3] : List Value).toArray below meth c H locs 0 0 Q9 (F0 m 64 ls [.long v_5, .long v_4]) := by
        intro v_4 v_5 hF H locs hP hD hS ls hl
        unfold jn_X2_spread_64 at hF
        refine lv_lor hx hb dX2_spread_64 ?_
        refine lv_lstore (lv' := [(8, .long (v_4 ||| v_5)), (0, .long l0), (4, .int (zCARf l3.toNatClampNeg)), (5, .long l5_2), (7, .int l7_3)]) hx hb dX2_spread_65 hl (by decide) rfl (fun ls hl => ?_)
        refine lv_lload hx hb dX2_spread_67 (lv_at hl 3 rfl) ?_
        refine lv_lload hx hb dX2_spread_69 (lv_at hl 0 rfl) ?_
        refine lv_lload_n hx hb dX2_spread_71 rfl (lv_at hl 1 rfl) ?_
        refine lv_land hx hb dX2_spread_72 ?_
        refine lv_lor hx hb dX2_spread_73 ?_
        refine lv_lstore (lv' := [(10, .long (l5_2 ||| ((v_4 ||| v_5) &&& l0))), (8, .long (v_4 ||| v_5)), (0, .long l0), (4, .int (zCARf l3.toNatClampNeg)), (5, .long l5_2), (7, .int l7_3)]) hx hb dX2_spread_74 hl (by decide) rfl (fun ls hl => ?_)
        refine lv_lload hx hb dX2_spread_76 (lv_at hl 0 rfl) ?_
        refine lv_lload hx hb dX2_spread_78 (lv_at hl 4 rfl) ?_
        refine W.lcmp hx hb dX2_spread_80 ?_
        refine lv_if_ne (tgt := 87) hx hb dX2_spread_81 (by decide) (fun cc_6 => ?_) (fun cc_6 => ?_)
        · have hF := hF.1 (fun h9 => cc_6 (z_cmp_eq.mpr h9))
          refine lv_lload hx hb dX2_spread_87 (lv_at hl 0 rfl) ?_
          refine lv_lstore (lv' := [(5, .long (l5_2 ||| ((v_4 ||| v_5) &&& l0))), (10, .long (l5_2 ||| ((v_4 ||| v_5) &&& l0))), (8, .long (v_4 ||| v_5)), (0, .long l0), (4, .int (zCARf l3.toNatClampNeg)), (7, .int l7_3)]) hx hb dX2_spread_89 hl (by decide) rfl (fun ls hl => ?_)
          refine lv_iinc (v := (l7_3 + (1 : Int32))) (lv' := [(7, .int (l7_3 + (1 : Int32))), (5, .long (l5_2 ||| ((v_4 ||| v_5) &&& l0))), (10, .long (l5_2 ||| ((v_4 ||| v_5) &&& l0))), (8, .long (v_4 ||| v_5)), (0, .long l0), (4, .int (zCARf l3.toNatClampNeg))]) hx hb dX2_spread_91 hl (k := 5) rfl rfl (by decide) rfl (fun ls hl => ?_)
          refine lv_goto (tgt := 17) hx hb dX2_spread_94 (by decide) ?_
          exact ih_17 (l5_2 ||| ((v_4 ||| v_5) &&& l0)) (l7_3 + (1 : Int32)) hF.1 (Nat.lt_of_lt_of_le hF.2 (Nat.le_of_lt_succ hn_17)) _ _ hP hD hS ls (lv_sub hl [4, 5, 1, 0] rfl)
        · have hF := hF.2 (z_cmp_eq.mp cc_6)
          refine lv_lload hx hb dX2_spread_84 (lv_at hl 4 rfl) ?_
          exact z_lret () hx hb hr hlocks hQ9 hF hP hD hS dX2_spread_86
      refine lv_iload hx hb dX2_spread_17 (lv_at hl 3 rfl) ?_
      refine lv_bipush (v := (36 : Int32)) hx hb dX2_spread_19 (by decide) ?_
      refine lv_icmp_ge (tgt := 97) hx hb dX2_spread_21 (by decide) (fun cc_7 => ?_) (fun cc_7 => ?_)
      · have hF := hF.1 cc_7
        refine lv_lload hx hb dX2_spread_97 (lv_at hl 2 rfl) ?_
        exact z_lret () hx hb hr hlocks hQ9 hF hP hD hS dX2_spread_99
      · have hF := hF.2 cc_7
        refine lv_lload hx hb dX2_spread_24 (lv_at hl 2 rfl) ?_
        refine lv_iconst (v := (1 : Int32)) hx hb dX2_spread_26 (by decide) ?_
        refine lv_lshl (v := (jlshl l5_2 (1 : Int32))) hx hb dX2_spread_27 rfl ?_
        refine lv_lload hx hb dX2_spread_28 (lv_at hl 2 rfl) ?_
        refine lv_iconst (v := (1 : Int32)) hx hb dX2_spread_30 (by decide) ?_
        refine lv_lushr (v := (jlushr l5_2 (1 : Int32))) hx hb dX2_spread_31 rfl ?_
        refine lv_lor hx hb dX2_spread_32 ?_
        refine lv_lload hx hb dX2_spread_33 (lv_at hl 2 rfl) ?_
        refine lv_bipush (v := (10 : Int32)) hx hb dX2_spread_35 (by decide) ?_
        refine lv_lshl (v := (jlshl l5_2 (10 : Int32))) hx hb dX2_spread_37 rfl ?_
        refine lv_lor hx hb dX2_spread_38 ?_
        refine lv_lload hx hb dX2_spread_39 (lv_at hl 2 rfl) ?_
        refine lv_bipush (v := (10 : Int32)) hx hb dX2_spread_41 (by decide) ?_
        refine lv_lushr (v := (jlushr l5_2 (10 : Int32))) hx hb dX2_spread_43 rfl ?_
        refine lv_lor hx hb dX2_spread_44 ?_
        refine lv_iload hx hb dX2_spread_45 (lv_at hl 1 rfl) ?_
        refine lv_if_ge (tgt := 59) hx hb dX2_spread_47 (by decide) (fun cc_8 => ?_) (fun cc_8 => ?_)
        · have hF := hF.1 cc_8
          refine lv_lload hx hb dX2_spread_59 (lv_at hl 2 rfl) ?_
          refine lv_iload hx hb dX2_spread_61 (lv_at hl 1 rfl) ?_
          refine lv_lshl (v := (jlshl l5_2 (zCARf l3.toNatClampNeg))) hx hb dX2_spread_63 rfl ?_
          exact hj_64 ((((jlshl l5_2 (1 : Int32)) ||| (jlushr l5_2 (1 : Int32))) ||| (jlshl l5_2 (10 : Int32))) ||| (jlushr l5_2 (10 : Int32))) (jlshl l5_2 (zCARf l3.toNatClampNeg)) hF _ _ hP hD hS ls (lv_sub hl [0, 1, 2, 3] rfl)
        · have hF := hF.2 cc_8
          refine lv_lload hx hb dX2_spread_50 (lv_at hl 2 rfl) ?_
          refine lv_iload hx hb dX2_spread_52 (lv_at hl 1 rfl) ?_
          refine lv_ineg hx hb dX2_spread_54 ?_
          refine lv_lushr (v := (jlushr l5_2 (-(zCARf l3.toNatClampNeg)))) hx hb dX2_spread_55 rfl ?_
          refine lv_goto (tgt := 64) hx hb dX2_spread_56 (by decide) ?_
          exact hj_64 ((((jlshl l5_2 (1 : Int32)) ||| (jlushr l5_2 (1 : Int32))) ||| (jlshl l5_2 (10 : Int32))) ||| (jlushr l5_2 (10 : Int32))) (jlushr l5_2 (-(zCARf l3.toNatClampNeg))) hF _ _ hP hD hS ls (lv_sub hl [0, 1, 2, 3] rfl)
  exact hlp_17 _ (l0 &&& (jlshl (1 : Int64) l2)) (0 : Int32) hI_17 (Nat.lt_succ_self _) _ _ hP hD hS ls (lv_sub hl [3, 2, 1, 0] rfl)
set_option maxHeartbeats 8000000 in
set_option maxRecDepth 100000 in
theorem c_X2_worstSpark (l : Launch) (D : va_G) (cI cJ cZ : ClassId)  (l0 : Int64) (l2 : Int32) (sz : Nat) {post : Int32 → Prop} (h : wp_X2_worstSpark  l0 l2 post) : Met l yX2_worstSpark wsX2_worstSpark ({ frames := 1, cells := 0, slots := 0, locals := 31 }) (zPcC D cI cJ cZ [.long l0, .int l2] sz []) (va_Qi (fun (r : Int32) (u : Unit) => post r ) (fun (u : Unit) t => va_P D vwCl [] t.heap ∧ va_D (va_A [] sz) []) (va_A [] sz)) 0 0 (va_A [] sz) := by
  refine Met.ofW (cc := cX2_worstSpark) (maxL := 10) (ret := (some .int)) (by decide) rfl ?_
  intro p e s m args below meth c s₁ B hml hv
  obtain ⟨rfl, hsz, hP, hE, hD0, hC⟩ := hv
  have hx := B.exec
  have hb := B.bytes
  have hr := B.returns
  have hts := atoms_spec (ws := wsX2_worstSpark) B.pre
  have hown : s.vm.findClass RX2 = some m.cls := findClass_of_methodNamed B.named
  have hlocks := B.notSynchronized
  have hK := hE.1
  subst hsz
  have hD := hD0.self (sz := s.heap.size)
  generalize hAe : va_A [] s.heap.size = A at hD hC ⊢
  have hA : ∀ q : Nat, s.heap.size ≤ q → A q := fun q h => by rw [← hAe]; exact Or.inr h
  have hS : va_S A s.heap s.heap [] := va_S.rf
  have hP : va_P D vwCl [] s.heap := hP
  have hl := lv_entry ([.long l0, .int l2]) (n := 10) (Nat.le_of_ble_eq_true rfl)
  rw [lg_entry_eq]
  generalize (lg_sl ([.long l0, .int l2]) ++ List.replicate (10 - (lg_sl ([.long l0, .int l2])).length) Slot.unset).toArray = ls at hl ⊢
  have hl : lv_has ls 10 [(0, .long l0), (2, .int l2)] := hl
  generalize hQ9 : MQ below (va_Qi (fun (r : Int32) (u : Unit) => post r ) (fun (u : Unit) t => va_P D vwCl [] t.heap ∧ va_D A []) A) ([.long l0, .int l2] : List Value).toArray s 0 0 A = Q9
  have hf_15 := hts (.constantLong RX2 15 (-1)) (by decide +kernel)
  have hF := h
  unfold wp_X2_worstSpark at hF
  refine lv_bipush (v := (-9 : Int32)) hx hb dX2_worstSpark_0 (by decide) ?_
  refine lv_istore_n (lv' := [(3, .int (-9 : Int32)), (0, .long l0), (2, .int l2)]) hx hb dX2_worstSpark_2 rfl hl (by decide) rfl (fun ls hl => ?_)
  refine lv_iconst (v := (0 : Int32)) hx hb dX2_worstSpark_3 (by decide) ?_
  refine lv_istore (lv' := [(4, .int (0 : Int32)), (3, .int (-9 : Int32)), (0, .long l0), (2, .int l2)]) hx hb dX2_worstSpark_4 hl (by decide) rfl (fun ls hl => ?_)
  refine lv_lconst (v := (0 : Int64)) hx hb dX2_worstSpark_6 (by decide) ?_
  refine lv_lstore (lv' := [(5, .long (0 : Int64)), (4, .int (0 : Int32)), (3, .int (-9 : Int32)), (0, .long l0), (2, .int l2)]) hx hb dX2_worstSpark_7 hl (by decide) rfl (fun ls hl => ?_)
  refine lv_iconst (v := (0 : Int32)) hx hb dX2_worstSpark_9 (by decide) ?_
  refine lv_istore (lv' := [(7, .int (0 : Int32)), (5, .long (0 : Int64)), (4, .int (0 : Int32)), (3, .int (-9 : Int32)), (0, .long l0), (2, .int l2)]) hx hb dX2_worstSpark_10 hl (by decide) rfl (fun ls hl => ?_)
  obtain ⟨I_12, μ_12, hI_12, hs_12⟩ := hF
  have hlp_12 : ∀ (n : Nat) (l3_1 : Int32) (l4_2 : Int32) (l5_3 : Int64) (l7_4 : Int32), I_12 l3_1 l4_2 l5_3 l7_4 → μ_12 l3_1 l4_2 l5_3 l7_4 < n → ∀ (H : Heap) (locs : List Loc), va_P D vwCl [] H → va_D A [] → va_S A s.heap H locs → ∀ ls : Array Slot, lv_has ls 10 [(0, .long l0), (2, .int l2), (3, .int l3_1), (4, .int l4_2), (5, .long l5_3), (7, .int l7_4)] → W p l e ({ frames := 1, cells := 0, slots := 0, locals := 31 } : Room) s m ([.long l0, .int l2] : List Value).toArray below meth c H locs 0 0 Q9 (F0 m 12 ls []) := by
    intro n
    induction n with
    | zero => intro l3_1 l4_2 l5_3 l7_4 _ hn; exact absurd hn (Nat.not_lt_zero _)
    | succ n ih_12 =>
      intro l3_1 l4_2 l5_3 l7_4 hI9 hn_12 H locs hP hD hS ls hl
      have hF := hs_12 l3_1 l4_2 l5_3 l7_4 hI9
      unfold bd_X2_worstSpark_12 at hF
      refine lv_iload hx hb dX2_worstSpark_12 (lv_at hl 5 rfl) ?_
      refine lv_bipush (v := (60 : Int32)) hx hb dX2_worstSpark_14 (by decide) ?_
      refine lv_icmp_ge (tgt := 77) hx hb dX2_worstSpark_16 (by decide) (fun cc_5 => ?_) (fun cc_5 => ?_)
      · have hF := hF.1 cc_5
        refine lv_iload_n hx hb dX2_worstSpark_77 rfl (lv_at hl 2 rfl) ?_
        exact z_iret () hx hb hr hlocks hQ9 hF hP hD hS dX2_worstSpark_78
      · have hF := hF.2 cc_5
        refine lv_lload_n hx hb dX2_worstSpark_19 rfl (lv_at hl 0 rfl) ?_
        refine lv_lload hx hb dX2_worstSpark_20 (lv_at hl 4 rfl) ?_
        refine lv_ldc2 (v := (-1 : Int64)) hx hb hown hf_15 dX2_worstSpark_22 ?_
        refine lv_lxor hx hb dX2_worstSpark_25 ?_
        refine lv_land hx hb dX2_worstSpark_26 ?_
        refine lv_iload hx hb dX2_worstSpark_27 (lv_at hl 5 rfl) ?_
        refine z_calli (wr := []) (va_runSN (As := [.long (l0 &&& (l5_3 ^^^ (-1 : Int64))), .int l7_4]) (rest := []) ⟨hx, hb, hml, hown, hts⟩ (c_X7_isIn l D cI cJ cZ   (l0 &&& (l5_3 ^^^ (-1 : Int64))) l7_4 H.size hF) ⟨va_cnB 2 hts gX2_worstSpark_X7_isIn_n17 rfl rfl rfl (zN.n7 hE.2) (hts (.initialized RX7) (by decide +kernel)) (by decide +kernel) ⟨Nat.le_of_ble_eq_true rfl, Nat.le_of_ble_eq_true rfl⟩, hts (.static yX7_isIn) (by decide +kernel), trivial⟩ (z_preS (wc := []) hP hE hD [] (by decide) rfl) rfl rfl hl.1 rfl (lv_room (Nat.le_of_ble_eq_true rfl)) dX2_worstSpark_29 ⟨Nat.le_of_ble_eq_true rfl, Nat.le_of_ble_eq_true rfl⟩) hP hD hS hA [] [] rfl rfl (by decide) (by decide) (fun r_6 u9 H locs hF hP hD hS => ?_)
        refine lv_if_eq (tgt := 71) hx hb dX2_worstSpark_32 (by decide) (fun cc_7 => ?_) (fun cc_7 => ?_)
        · have hF := hF.1 cc_7
          refine lv_iinc (v := (l7_4 + (1 : Int32))) (lv' := [(7, .int (l7_4 + (1 : Int32))), (0, .long l0), (2, .int l2), (3, .int l3_1), (4, .int l4_2), (5, .long l5_3)]) hx hb dX2_worstSpark_71 hl (k := 5) rfl rfl (by decide) rfl (fun ls hl => ?_)
          refine lv_goto (tgt := 12) hx hb dX2_worstSpark_74 (by decide) ?_
          exact ih_12 l3_1 l4_2 l5_3 (l7_4 + (1 : Int32)) hF.1 (Nat.lt_of_lt_of_le hF.2 (Nat.le_of_lt_succ hn_12)) _ _ hP hD hS ls (lv_sub hl [1, 2, 3, 4, 5, 0] rfl)
        · have hF := hF.2 cc_7
          refine lv_lload_n hx hb dX2_worstSpark_35 rfl (lv_at hl 0 rfl) ?_
          refine lv_iload hx hb dX2_worstSpark_36 (lv_at hl 5 rfl) ?_
          refine lv_iload_n hx hb dX2_worstSpark_38 rfl (lv_at hl 1 rfl) ?_
          refine z_calll (wr := []) (va_runS (As := [.long l0, .int l7_4, .int l2]) (rest := []) ⟨hx, hb, hml, hown, hts⟩ (c_X2_spread l D cI cJ cZ   l0 l7_4 l2 H.size hF) (va_cwS 3 hts gX2_worstSpark_X2_spread rfl rfl rfl (by decide +kernel) ⟨Nat.le_of_ble_eq_true rfl, Nat.le_of_ble_eq_true rfl⟩) (z_preSC hC hS hA (wc := []) hP hE hD [] (by decide) rfl) rfl rfl hl.1 rfl (lv_room (Nat.le_of_ble_eq_true rfl)) dX2_worstSpark_39 ⟨Nat.le_of_ble_eq_true rfl, Nat.le_of_ble_eq_true rfl⟩) hP hD hS hA [] [] rfl rfl (by decide) (by decide) (fun r_8 u9 H locs hF hP hD hS => ?_)
          refine lv_lstore (lv' := [(8, .long r_8), (0, .long l0), (2, .int l2), (3, .int l3_1), (4, .int l4_2), (5, .long l5_3), (7, .int l7_4)]) hx hb dX2_worstSpark_42 hl (by decide) rfl (fun ls hl => ?_)
          refine lv_lload hx hb dX2_worstSpark_44 (lv_at hl 5 rfl) ?_
          refine lv_lload hx hb dX2_worstSpark_46 (lv_at hl 0 rfl) ?_
          refine lv_lor hx hb dX2_worstSpark_48 ?_
          refine lv_lstore (lv' := [(5, .long (l5_3 ||| r_8)), (8, .long r_8), (0, .long l0), (2, .int l2), (3, .int l3_1), (4, .int l4_2), (7, .int l7_4)]) hx hb dX2_worstSpark_49 hl (by decide) rfl (fun ls hl => ?_)
          refine lv_lload hx hb dX2_worstSpark_51 (lv_at hl 1 rfl) ?_
          refine z_calli (wr := []) (va_runS (As := [.long r_8]) (rest := []) ⟨hx, hb, hml, hown, hts⟩ (c_J13_bitCount_95d88 l D cI cJ cZ   r_8 H.size hF) (va_cwS 1 hts gX2_worstSpark_J13_bitCount_95d88 rfl rfl rfl (by decide +kernel) ⟨Nat.le_of_ble_eq_true rfl, Nat.le_of_ble_eq_true rfl⟩) (z_preS (wc := []) hP hE hD [] (by decide) rfl) rfl rfl hl.1 rfl (lv_room (Nat.le_of_ble_eq_true rfl)) dX2_worstSpark_53 ⟨Nat.le_of_ble_eq_true rfl, Nat.le_of_ble_eq_true rfl⟩) hP hD hS hA [] [] rfl rfl (by decide) (by decide) (fun r_9 u9 H locs hF hP hD hS => ?_)
          refine lv_iload hx hb dX2_worstSpark_56 (lv_at hl 5 rfl) ?_
          refine lv_icmp_le (tgt := 71) hx hb dX2_worstSpark_58 (by decide) (fun cc_10 => ?_) (fun cc_10 => ?_)
          · have hF := hF.1 cc_10
            refine lv_iinc (v := (l7_4 + (1 : Int32))) (lv' := [(7, .int (l7_4 + (1 : Int32))), (5, .long (l5_3 ||| r_8)), (8, .long r_8), (0, .long l0), (2, .int l2), (3, .int l3_1), (4, .int l4_2)]) hx hb dX2_worstSpark_71 hl (k := 6) rfl rfl (by decide) rfl (fun ls hl => ?_)
            refine lv_goto (tgt := 12) hx hb dX2_worstSpark_74 (by decide) ?_
            exact ih_12 l3_1 l4_2 (l5_3 ||| r_8) (l7_4 + (1 : Int32)) hF.1 (Nat.lt_of_lt_of_le hF.2 (Nat.le_of_lt_succ hn_12)) _ _ hP hD hS ls (lv_sub hl [3, 4, 5, 6, 1, 0] rfl)
          · have hF := hF.2 cc_10
            refine lv_lload hx hb dX2_worstSpark_61 (lv_at hl 1 rfl) ?_
            refine z_calli (wr := []) (va_runS (As := [.long r_8]) (rest := []) ⟨hx, hb, hml, hown, hts⟩ (c_J13_bitCount_95d88 l D cI cJ cZ   r_8 H.size hF) (va_cwS 1 hts gX2_worstSpark_J13_bitCount_95d88 rfl rfl rfl (by decide +kernel) ⟨Nat.le_of_ble_eq_true rfl, Nat.le_of_ble_eq_true rfl⟩) (z_preS (wc := []) hP hE hD [] (by decide) rfl) rfl rfl hl.1 rfl (lv_room (Nat.le_of_ble_eq_true rfl)) dX2_worstSpark_63 ⟨Nat.le_of_ble_eq_true rfl, Nat.le_of_ble_eq_true rfl⟩) hP hD hS hA [] [] rfl rfl (by decide) (by decide) (fun r_11 u9 H locs hF hP hD hS => ?_)
            refine lv_istore (lv' := [(4, .int r_11), (5, .long (l5_3 ||| r_8)), (8, .long r_8), (0, .long l0), (2, .int l2), (3, .int l3_1), (7, .int l7_4)]) hx hb dX2_worstSpark_66 hl (by decide) rfl (fun ls hl => ?_)
            refine lv_iload hx hb dX2_worstSpark_68 (lv_at hl 6 rfl) ?_
            refine lv_istore_n (lv' := [(3, .int l7_4), (4, .int r_11), (5, .long (l5_3 ||| r_8)), (8, .long r_8), (0, .long l0), (2, .int l2), (7, .int l7_4)]) hx hb dX2_worstSpark_70 rfl hl (by decide) rfl (fun ls hl => ?_)
            refine lv_iinc (v := (l7_4 + (1 : Int32))) (lv' := [(7, .int (l7_4 + (1 : Int32))), (3, .int l7_4), (4, .int r_11), (5, .long (l5_3 ||| r_8)), (8, .long r_8), (0, .long l0), (2, .int l2)]) hx hb dX2_worstSpark_71 hl (k := 6) rfl rfl (by decide) rfl (fun ls hl => ?_)
            refine lv_goto (tgt := 12) hx hb dX2_worstSpark_74 (by decide) ?_
            exact ih_12 l7_4 r_11 (l5_3 ||| r_8) (l7_4 + (1 : Int32)) hF.1 (Nat.lt_of_lt_of_le hF.2 (Nat.le_of_lt_succ hn_12)) _ _ hP hD hS ls (lv_sub hl [5, 6, 1, 2, 3, 0] rfl)
  exact hlp_12 _ (-9 : Int32) (0 : Int32) (0 : Int64) (0 : Int32) hI_12 (Nat.lt_succ_self _) _ _ hP hD hS ls (lv_sub hl [4, 5, 3, 2, 1, 0] rfl)
set_option maxHeartbeats 8000000 in
set_option maxRecDepth 100000 in
theorem c_X2_bestCleared (l : Launch) (D : va_G) (cI cJ cZ : ClassId)  (l0 : Int64) (l2 : Int32) (sz : Nat) {post : Int32 → Prop} (h : wp_X2_bestCleared  l0 l2 post) : Met l yX2_bestCleared wsX2_bestCleared ({ frames := 2, cells := 0, slots := 0, locals := 60 }) (zPcC D cI cJ cZ [.long l0, .int l2] sz []) (va_Qi (fun (r : Int32) (u : Unit) => post r ) (fun (u : Unit) t => va_P D vwCl [] t.heap ∧ va_D (va_A [] sz) []) (va_A [] sz)) 0 0 (va_A [] sz) := by
  refine Met.ofW (cc := cX2_bestCleared) (maxL := 10) (ret := (some .int)) (by decide) rfl ?_
  intro p e s m args below meth c s₁ B hml hv
  obtain ⟨rfl, hsz, hP, hE, hD0, hC⟩ := hv
  have hx := B.exec
  have hb := B.bytes
  have hr := B.returns
  have hts := atoms_spec (ws := wsX2_bestCleared) B.pre
  have hown : s.vm.findClass RX2 = some m.cls := findClass_of_methodNamed B.named
  have hlocks := B.notSynchronized
  have hK := hE.1
  subst hsz
  have hD := hD0.self (sz := s.heap.size)
  generalize hAe : va_A [] s.heap.size = A at hD hC ⊢
  have hA : ∀ q : Nat, s.heap.size ≤ q → A q := fun q h => by rw [← hAe]; exact Or.inr h
  have hS : va_S A s.heap s.heap [] := va_S.rf
  have hP : va_P D vwCl [] s.heap := hP
  have hl := lv_entry ([.long l0, .int l2]) (n := 10) (Nat.le_of_ble_eq_true rfl)
  rw [lg_entry_eq]
  generalize (lg_sl ([.long l0, .int l2]) ++ List.replicate (10 - (lg_sl ([.long l0, .int l2])).length) Slot.unset).toArray = ls at hl ⊢
  have hl : lv_has ls 10 [(0, .long l0), (2, .int l2)] := hl
  generalize hQ9 : MQ below (va_Qi (fun (r : Int32) (u : Unit) => post r ) (fun (u : Unit) t => va_P D vwCl [] t.heap ∧ va_D A []) A) ([.long l0, .int l2] : List Value).toArray s 0 0 A = Q9
  have hf_15 := hts (.constantLong RX2 15 (-1)) (by decide +kernel)
  have hF := h
  unfold wp_X2_bestCleared at hF
  refine lv_bipush (v := (-9 : Int32)) hx hb dX2_bestCleared_0 (by decide) ?_
  refine lv_istore_n (lv' := [(3, .int (-9 : Int32)), (0, .long l0), (2, .int l2)]) hx hb dX2_bestCleared_2 rfl hl (by decide) rfl (fun ls hl => ?_)
  refine lv_bipush (v := (60 : Int32)) hx hb dX2_bestCleared_3 (by decide) ?_
  refine lv_istore (lv' := [(4, .int (60 : Int32)), (3, .int (-9 : Int32)), (0, .long l0), (2, .int l2)]) hx hb dX2_bestCleared_5 hl (by decide) rfl (fun ls hl => ?_)
  refine lv_iconst (v := (0 : Int32)) hx hb dX2_bestCleared_7 (by decide) ?_
  refine lv_istore (lv' := [(5, .int (0 : Int32)), (4, .int (60 : Int32)), (3, .int (-9 : Int32)), (0, .long l0), (2, .int l2)]) hx hb dX2_bestCleared_8 hl (by decide) rfl (fun ls hl => ?_)
  obtain ⟨I_10, μ_10, hI_10, hs_10⟩ := hF
  have hlp_10 : ∀ (n : Nat) (l3_1 : Int32) (l4_2 : Int32) (l5_3 : Int32), I_10 l3_1 l4_2 l5_3 → μ_10 l3_1 l4_2 l5_3 < n → ∀ (H : Heap) (locs : List Loc), va_P D vwCl [] H → va_D A [] → va_S A s.heap H locs → ∀ ls : Array Slot, lv_has ls 10 [(0, .long l0), (2, .int l2), (3, .int l3_1), (4, .int l4_2), (5, .int l5_3)] → W p l e ({ frames := 2, cells := 0, slots := 0, locals := 60 } : Room) s m ([.long l0, .int l2] : List Value).toArray below meth c H locs 0 0 Q9 (F0 m 10 ls []) := by
    intro n
    induction n with
    | zero => intro l3_1 l4_2 l5_3 _ hn; exact absurd hn (Nat.not_lt_zero _)
    | succ n ih_10 =>
      intro l3_1 l4_2 l5_3 hI9 hn_10 H locs hP hD hS ls hl
      have hF := hs_10 l3_1 l4_2 l5_3 hI9
      unfold bd_X2_bestCleared_10 at hF
      have hj_68 : ∀ (v_4 : Int32), jn_X2_bestCleared_68 l3_1 l4_2 l5_3 (fun b0 b1 b2 => I_10 b0 b1 b2 ∧ μ_10 b0 b1 b2 < μ_10 l3_1 l4_2 l5_3) v_4 → ∀ (H : Heap) (locs : List Loc), va_P D vwCl [] H → va_D A [] → va_S A s.heap H locs → ∀ ls : Array Slot, lv_has ls 10 [(0, .long l0), (2, .int l2), (3, .int l3_1), (4, .int l4_2), (5, .int l5_3)] → W p l e ({ frames := 2, cells := 0, slots := 0, locals := 60 } : Room) s m ([.long l0, .int l2] : List Value).toArray below meth c H locs 0 0 Q9 (F0 m 68 ls [.int v_4]) := by
        intro v_4 hF H locs hP hD hS ls hl
        unfold jn_X2_bestCleared_68 at hF
        refine lv_istore (lv' := [(9, .int v_4), (0, .long l0), (2, .int l2), (3, .int l3_1), (4, .int l4_2), (5, .int l5_3)]) hx hb dX2_bestCleared_68 hl (by decide) rfl (fun ls hl => ?_)
        refine lv_iload hx hb dX2_bestCleared_70 (lv_at hl 0 rfl) ?_
        refine lv_iload hx hb dX2_bestCleared_72 (lv_at hl 4 rfl) ?_
        refine lv_icmp_ge (tgt := 84) hx hb dX2_bestCleared_74 (by decide) (fun cc_5 => ?_) (fun cc_5 => ?_)
        · have hF := hF.1 cc_5
          refine lv_iinc (v := (l5_3 + (1 : Int32))) (lv' := [(5, .int (l5_3 + (1 : Int32))), (9, .int v_4), (0, .long l0), (2, .int l2), (3, .int l3_1), (4, .int l4_2)]) hx hb dX2_bestCleared_84 hl (k := 5) rfl rfl (by decide) rfl (fun ls hl => ?_)
          refine lv_goto (tgt := 10) hx hb dX2_bestCleared_87 (by decide) ?_
          exact ih_10 l3_1 l4_2 (l5_3 + (1 : Int32)) hF.1 (Nat.lt_of_lt_of_le hF.2 (Nat.le_of_lt_succ hn_10)) _ _ hP hD hS ls (lv_sub hl [2, 3, 4, 5, 0] rfl)
        · have hF := hF.2 cc_5
          refine lv_iload hx hb dX2_bestCleared_77 (lv_at hl 0 rfl) ?_
          refine lv_istore (lv' := [(4, .int v_4), (9, .int v_4), (0, .long l0), (2, .int l2), (3, .int l3_1), (5, .int l5_3)]) hx hb dX2_bestCleared_79 hl (by decide) rfl (fun ls hl => ?_)
          refine lv_iload hx hb dX2_bestCleared_81 (lv_at hl 5 rfl) ?_
          refine lv_istore_n (lv' := [(3, .int l5_3), (4, .int v_4), (9, .int v_4), (0, .long l0), (2, .int l2), (5, .int l5_3)]) hx hb dX2_bestCleared_83 rfl hl (by decide) rfl (fun ls hl => ?_)
          refine lv_iinc (v := (l5_3 + (1 : Int32))) (lv' := [(5, .int (l5_3 + (1 : Int32))), (3, .int l5_3), (4, .int v_4), (9, .int v_4), (0, .long l0), (2, .int l2)]) hx hb dX2_bestCleared_84 hl (k := 5) rfl rfl (by decide) rfl (fun ls hl => ?_)
          refine lv_goto (tgt := 10) hx hb dX2_bestCleared_87 (by decide) ?_
          exact ih_10 l5_3 v_4 (l5_3 + (1 : Int32)) hF.1 (Nat.lt_of_lt_of_le hF.2 (Nat.le_of_lt_succ hn_10)) _ _ hP hD hS ls (lv_sub hl [4, 5, 1, 2, 0] rfl)
      refine lv_iload hx hb dX2_bestCleared_10 (lv_at hl 4 rfl) ?_
      refine lv_bipush (v := (60 : Int32)) hx hb dX2_bestCleared_12 (by decide) ?_
      refine lv_icmp_ge (tgt := 90) hx hb dX2_bestCleared_14 (by decide) (fun cc_6 => ?_) (fun cc_6 => ?_)
      · have hF := hF.1 cc_6
        refine lv_iload_n hx hb dX2_bestCleared_90 rfl (lv_at hl 2 rfl) ?_
        exact z_iret () hx hb hr hlocks hQ9 hF hP hD hS dX2_bestCleared_91
      · have hF := hF.2 cc_6
        refine lv_lload_n hx hb dX2_bestCleared_17 rfl (lv_at hl 0 rfl) ?_
        refine lv_iload hx hb dX2_bestCleared_18 (lv_at hl 4 rfl) ?_
        refine z_calli (wr := []) (va_runSN (As := [.long l0, .int l5_3]) (rest := []) ⟨hx, hb, hml, hown, hts⟩ (c_X7_isIn l D cI cJ cZ   l0 l5_3 H.size hF) ⟨va_cnB 2 hts gX2_bestCleared_X7_isIn_n17 rfl rfl rfl (zN.n7 hE.2) (hts (.initialized RX7) (by decide +kernel)) (by decide +kernel) ⟨Nat.le_of_ble_eq_true rfl, Nat.le_of_ble_eq_true rfl⟩, hts (.static yX7_isIn) (by decide +kernel), trivial⟩ (z_preS (wc := []) hP hE hD [] (by decide) rfl) rfl rfl hl.1 rfl (lv_room (Nat.le_of_ble_eq_true rfl)) dX2_bestCleared_20 ⟨Nat.le_of_ble_eq_true rfl, Nat.le_of_ble_eq_true rfl⟩) hP hD hS hA [] [] rfl rfl (by decide) (by decide) (fun r_7 u9 H locs hF hP hD hS => ?_)
        refine lv_if_eq (tgt := 84) hx hb dX2_bestCleared_23 (by decide) (fun cc_8 => ?_) (fun cc_8 => ?_)
        · have hF := hF.1 cc_8
          refine lv_iinc (v := (l5_3 + (1 : Int32))) (lv' := [(5, .int (l5_3 + (1 : Int32))), (0, .long l0), (2, .int l2), (3, .int l3_1), (4, .int l4_2)]) hx hb dX2_bestCleared_84 hl (k := 4) rfl rfl (by decide) rfl (fun ls hl => ?_)
          refine lv_goto (tgt := 10) hx hb dX2_bestCleared_87 (by decide) ?_
          exact ih_10 l3_1 l4_2 (l5_3 + (1 : Int32)) hF.1 (Nat.lt_of_lt_of_le hF.2 (Nat.le_of_lt_succ hn_10)) _ _ hP hD hS ls (lv_sub hl [1, 2, 3, 4, 0] rfl)
        · have hF := hF.2 cc_8
          refine lv_lload_n hx hb dX2_bestCleared_26 rfl (lv_at hl 0 rfl) ?_
          refine lv_lconst (v := (1 : Int64)) hx hb dX2_bestCleared_27 (by decide) ?_
          refine lv_iload hx hb dX2_bestCleared_28 (lv_at hl 4 rfl) ?_
          refine lv_lshl (v := (jlshl (1 : Int64) l5_3)) hx hb dX2_bestCleared_30 rfl ?_
          refine lv_ldc2 (v := (-1 : Int64)) hx hb hown hf_15 dX2_bestCleared_31 ?_
          refine lv_lxor hx hb dX2_bestCleared_34 ?_
          refine lv_land hx hb dX2_bestCleared_35 ?_
          refine lv_lstore (lv' := [(6, .long (l0 &&& ((jlshl (1 : Int64) l5_3) ^^^ (-1 : Int64)))), (0, .long l0), (2, .int l2), (3, .int l3_1), (4, .int l4_2), (5, .int l5_3)]) hx hb dX2_bestCleared_36 hl (by decide) rfl (fun ls hl => ?_)
          refine lv_lload hx hb dX2_bestCleared_38 (lv_at hl 0 rfl) ?_
          refine lv_iload_n hx hb dX2_bestCleared_40 rfl (lv_at hl 2 rfl) ?_
          refine z_calli (wr := []) (va_runS (As := [.long (l0 &&& ((jlshl (1 : Int64) l5_3) ^^^ (-1 : Int64))), .int l2]) (rest := []) ⟨hx, hb, hml, hown, hts⟩ (c_X2_worstSpark l D cI cJ cZ   (l0 &&& ((jlshl (1 : Int64) l5_3) ^^^ (-1 : Int64))) l2 H.size hF) (va_cwS 2 hts gX2_bestCleared_X2_worstSpark rfl rfl rfl (by decide +kernel) ⟨Nat.le_of_ble_eq_true rfl, Nat.le_of_ble_eq_true rfl⟩) (z_preSC hC hS hA (wc := []) hP hE hD [] (by decide) rfl) rfl rfl hl.1 rfl (lv_room (Nat.le_of_ble_eq_true rfl)) dX2_bestCleared_41 ⟨Nat.le_of_ble_eq_true rfl, Nat.le_of_ble_eq_true rfl⟩) hP hD hS hA [] [] rfl rfl (by decide) (by decide) (fun r_9 u9 H locs hF hP hD hS => ?_)
          refine lv_istore (lv' := [(8, .int r_9), (6, .long (l0 &&& ((jlshl (1 : Int64) l5_3) ^^^ (-1 : Int64)))), (0, .long l0), (2, .int l2), (3, .int l3_1), (4, .int l4_2), (5, .int l5_3)]) hx hb dX2_bestCleared_44 hl (by decide) rfl (fun ls hl => ?_)
          refine lv_iload hx hb dX2_bestCleared_46 (lv_at hl 0 rfl) ?_
          refine lv_bipush (v := (-9 : Int32)) hx hb dX2_bestCleared_48 (by decide) ?_
          refine lv_icmp_ne (tgt := 57) hx hb dX2_bestCleared_50 (by decide) (fun cc_10 => ?_) (fun cc_10 => ?_)
          · have hF := hF.1 cc_10
            refine lv_lload hx hb dX2_bestCleared_57 (lv_at hl 1 rfl) ?_
            refine lv_iload hx hb dX2_bestCleared_59 (lv_at hl 0 rfl) ?_
            refine lv_iload_n hx hb dX2_bestCleared_61 rfl (lv_at hl 3 rfl) ?_
            refine z_calll (wr := []) (va_runS (As := [.long (l0 &&& ((jlshl (1 : Int64) l5_3) ^^^ (-1 : Int64))), .int r_9, .int l2]) (rest := []) ⟨hx, hb, hml, hown, hts⟩ (c_X2_spread l D cI cJ cZ   (l0 &&& ((jlshl (1 : Int64) l5_3) ^^^ (-1 : Int64))) r_9 l2 H.size hF) (va_cwS 3 hts gX2_bestCleared_X2_spread rfl rfl rfl (by decide +kernel) ⟨Nat.le_of_ble_eq_true rfl, Nat.le_of_ble_eq_true rfl⟩) (z_preSC hC hS hA (wc := []) hP hE hD [] (by decide) rfl) rfl rfl hl.1 rfl (lv_room (Nat.le_of_ble_eq_true rfl)) dX2_bestCleared_62 ⟨Nat.le_of_ble_eq_true rfl, Nat.le_of_ble_eq_true rfl⟩) hP hD hS hA [] [] rfl rfl (by decide) (by decide) (fun r_11 u9 H locs hF hP hD hS => ?_)
            refine z_calli (wr := []) (va_runS (As := [.long r_11]) (rest := []) ⟨hx, hb, hml, hown, hts⟩ (c_J13_bitCount_95d88 l D cI cJ cZ   r_11 H.size hF) (va_cwS 1 hts gX2_bestCleared_J13_bitCount_95d88 rfl rfl rfl (by decide +kernel) ⟨Nat.le_of_ble_eq_true rfl, Nat.le_of_ble_eq_true rfl⟩) (z_preS (wc := []) hP hE hD [] (by decide) rfl) rfl rfl hl.1 rfl (lv_room (Nat.le_of_ble_eq_true rfl)) dX2_bestCleared_65 ⟨Nat.le_of_ble_eq_true rfl, Nat.le_of_ble_eq_true rfl⟩) hP hD hS hA [] [] rfl rfl (by decide) (by decide) (fun r_12 u9 H locs hF hP hD hS => ?_)
            exact hj_68 r_12 hF _ _ hP hD hS ls (lv_sub hl [2, 3, 4, 5, 6] rfl)
          · have hF := hF.2 cc_10
            refine lv_iconst (v := (0 : Int32)) hx hb dX2_bestCleared_53 (by decide) ?_
            refine lv_goto (tgt := 68) hx hb dX2_bestCleared_54 (by decide) ?_
            exact hj_68 (0 : Int32) hF _ _ hP hD hS ls (lv_sub hl [2, 3, 4, 5, 6] rfl)
  exact hlp_10 _ (-9 : Int32) (60 : Int32) (0 : Int32) hI_10 (Nat.lt_succ_self _) _ _ hP hD hS ls (lv_sub hl [3, 4, 2, 1, 0] rfl)
