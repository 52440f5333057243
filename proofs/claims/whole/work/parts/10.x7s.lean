set_option maxHeartbeats 8000000 in
set_option maxRecDepth 100000 in
theorem c_J13_bitCount_95d88 (l : Launch) (D : va_G) (cI cJ cZ : ClassId)  (l0 : Int64) (sz : Nat) {post : Int32 → Prop} (h : wp_J13_bitCount_95d88  l0 post) : Met l yJ13_bitCount_95d88 wsJ13_bitCount_95d88 ({ frames := 0, cells := 0, slots := 0, locals := 0 }) (zPc D cI cJ cZ [.long l0] sz []) (va_Qi (fun (r : Int32) (u : Unit) => post r ) (fun (u : Unit) t => va_P D vwCl [] t.heap ∧ va_D (va_A [] sz) []) (va_A [] sz)) 0 0 (va_A [] sz) := by
  refine Met.ofW (cc := cJ13_bitCount_95d88) (maxL := 2) (ret := (some .int)) (by decide) rfl ?_
  intro p e s m args below meth c s₁ B hml hv
  obtain ⟨rfl, hsz, hP, hE, hD0⟩ := hv
  have hx := B.exec
  have hb := B.bytes
  have hr := B.returns
  have hts := atoms_spec (ws := wsJ13_bitCount_95d88) B.pre
  have hown : s.vm.findClass RJ13 = some m.cls := findClass_of_methodNamed B.named
  have hlocks := B.notSynchronized
  have hK := hE.1
  subst hsz
  have hD := hD0.self (sz := s.heap.size)
  generalize hAe : va_A [] s.heap.size = A at hD ⊢
  have hA : ∀ q : Nat, s.heap.size ≤ q → A q := fun q h => by rw [← hAe]; exact Or.inr h
  have hS : va_S A s.heap s.heap [] := va_S.rf
  have hP : va_P D vwCl [] s.heap := hP
  have hl := lv_entry ([.long l0]) (n := 2) (Nat.le_of_ble_eq_true rfl)
  rw [lg_entry_eq]
  generalize (lg_sl ([.long l0]) ++ List.replicate (2 - (lg_sl ([.long l0])).length) Slot.unset).toArray = ls at hl ⊢
  have hl : lv_has ls 2 [(0, .long l0)] := hl
  generalize hQ9 : MQ below (va_Qi (fun (r : Int32) (u : Unit) => post r ) (fun (u : Unit) t => va_P D vwCl [] t.heap ∧ va_D A []) A) ([.long l0] : List Value).toArray s 0 0 A = Q9
  have hf_314 := hts (.constantLong RJ13 314 (6148914691236517205)) (by decide +kernel)
  have hf_316 := hts (.constantLong RJ13 316 (3689348814741910323)) (by decide +kernel)
  have hf_318 := hts (.constantLong RJ13 318 (1085102592571150095)) (by decide +kernel)
  have hF := h
  unfold wp_J13_bitCount_95d88 at hF
  refine lv_lload_n hx hb dJ13_bitCount_95d88_0 rfl (lv_at hl 0 rfl) ?_
  refine lv_lload_n hx hb dJ13_bitCount_95d88_1 rfl (lv_at hl 0 rfl) ?_
  refine lv_iconst (v := (1 : Int32)) hx hb dJ13_bitCount_95d88_2 (by decide) ?_
  refine lv_lushr (v := (jlushr l0 (1 : Int32))) hx hb dJ13_bitCount_95d88_3 rfl ?_
  refine lv_ldc2 (v := (6148914691236517205 : Int64)) hx hb hown hf_314 dJ13_bitCount_95d88_4 ?_
  refine lv_land hx hb dJ13_bitCount_95d88_7 ?_
  refine lv_lsub hx hb dJ13_bitCount_95d88_8 ?_
  refine lv_topl (fun l0_1 e_l0_1 => ?_)
  have hF := hF l0_1 e_l0_1
  refine lv_lstore_n (lv' := [(0, .long l0_1)]) hx hb dJ13_bitCount_95d88_9 rfl hl (by decide) rfl (fun ls hl => ?_)
  refine lv_lload_n hx hb dJ13_bitCount_95d88_10 rfl (lv_at hl 0 rfl) ?_
  refine lv_ldc2 (v := (3689348814741910323 : Int64)) hx hb hown hf_316 dJ13_bitCount_95d88_11 ?_
  refine lv_land hx hb dJ13_bitCount_95d88_14 ?_
  refine lv_lload_n hx hb dJ13_bitCount_95d88_15 rfl (lv_at hl 0 rfl) ?_
  refine lv_iconst (v := (2 : Int32)) hx hb dJ13_bitCount_95d88_16 (by decide) ?_
  refine lv_lushr (v := (jlushr l0_1 (2 : Int32))) hx hb dJ13_bitCount_95d88_17 rfl ?_
  refine lv_ldc2 (v := (3689348814741910323 : Int64)) hx hb hown hf_316 dJ13_bitCount_95d88_18 ?_
  refine lv_land hx hb dJ13_bitCount_95d88_21 ?_
  refine lv_ladd hx hb dJ13_bitCount_95d88_22 ?_
  refine lv_topl (fun l0_2 e_l0_2 => ?_)
  have hF := hF l0_2 e_l0_2
  refine lv_lstore_n (lv' := [(0, .long l0_2)]) hx hb dJ13_bitCount_95d88_23 rfl hl (by decide) rfl (fun ls hl => ?_)
  refine lv_lload_n hx hb dJ13_bitCount_95d88_24 rfl (lv_at hl 0 rfl) ?_
  refine lv_lload_n hx hb dJ13_bitCount_95d88_25 rfl (lv_at hl 0 rfl) ?_
  refine lv_iconst (v := (4 : Int32)) hx hb dJ13_bitCount_95d88_26 (by decide) ?_
  refine lv_lushr (v := (jlushr l0_2 (4 : Int32))) hx hb dJ13_bitCount_95d88_27 rfl ?_
  refine lv_ladd hx hb dJ13_bitCount_95d88_28 ?_
  refine lv_ldc2 (v := (1085102592571150095 : Int64)) hx hb hown hf_318 dJ13_bitCount_95d88_29 ?_
  refine lv_land hx hb dJ13_bitCount_95d88_32 ?_
  refine lv_topl (fun l0_3 e_l0_3 => ?_)
  have hF := hF l0_3 e_l0_3
  refine lv_lstore_n (lv' := [(0, .long l0_3)]) hx hb dJ13_bitCount_95d88_33 rfl hl (by decide) rfl (fun ls hl => ?_)
  refine lv_lload_n hx hb dJ13_bitCount_95d88_34 rfl (lv_at hl 0 rfl) ?_
  refine lv_lload_n hx hb dJ13_bitCount_95d88_35 rfl (lv_at hl 0 rfl) ?_
  refine lv_bipush (v := (8 : Int32)) hx hb dJ13_bitCount_95d88_36 (by decide) ?_
  refine lv_lushr (v := (jlushr l0_3 (8 : Int32))) hx hb dJ13_bitCount_95d88_38 rfl ?_
  refine lv_ladd hx hb dJ13_bitCount_95d88_39 ?_
  refine lv_lstore_n (lv' := [(0, .long (l0_3 + (jlushr l0_3 (8 : Int32))))]) hx hb dJ13_bitCount_95d88_40 rfl hl (by decide) rfl (fun ls hl => ?_)
  refine lv_lload_n hx hb dJ13_bitCount_95d88_41 rfl (lv_at hl 0 rfl) ?_
  refine lv_lload_n hx hb dJ13_bitCount_95d88_42 rfl (lv_at hl 0 rfl) ?_
  refine lv_bipush (v := (16 : Int32)) hx hb dJ13_bitCount_95d88_43 (by decide) ?_
  refine lv_lushr (v := (jlushr (l0_3 + (jlushr l0_3 (8 : Int32))) (16 : Int32))) hx hb dJ13_bitCount_95d88_45 rfl ?_
  refine lv_ladd hx hb dJ13_bitCount_95d88_46 ?_
  refine lv_topl (fun l0_4 e_l0_4 => ?_)
  have hF := hF l0_4 e_l0_4
  refine lv_lstore_n (lv' := [(0, .long l0_4)]) hx hb dJ13_bitCount_95d88_47 rfl hl (by decide) rfl (fun ls hl => ?_)
  refine lv_lload_n hx hb dJ13_bitCount_95d88_48 rfl (lv_at hl 0 rfl) ?_
  refine lv_lload_n hx hb dJ13_bitCount_95d88_49 rfl (lv_at hl 0 rfl) ?_
  refine lv_bipush (v := (32 : Int32)) hx hb dJ13_bitCount_95d88_50 (by decide) ?_
  refine lv_lushr (v := (jlushr l0_4 (32 : Int32))) hx hb dJ13_bitCount_95d88_52 rfl ?_
  refine lv_ladd hx hb dJ13_bitCount_95d88_53 ?_
  refine lv_lstore_n (lv' := [(0, .long (l0_4 + (jlushr l0_4 (32 : Int32))))]) hx hb dJ13_bitCount_95d88_54 rfl hl (by decide) rfl (fun ls hl => ?_)
  refine lv_lload_n hx hb dJ13_bitCount_95d88_55 rfl (lv_at hl 0 rfl) ?_
  refine lv_l2i (v := ((l0_4 + (jlushr l0_4 (32 : Int32))).toInt32)) hx hb dJ13_bitCount_95d88_56 rfl ?_
  refine lv_bipush (v := (127 : Int32)) hx hb dJ13_bitCount_95d88_57 (by decide) ?_
  refine lv_iand hx hb dJ13_bitCount_95d88_59 ?_
  exact z_iret () hx hb hr hlocks hQ9 hF hP hD hS dJ13_bitCount_95d88_60
set_option maxHeartbeats 8000000 in
set_option maxRecDepth 100000 in
theorem c_J7_fill_d0a16 (l : Launch) (D : va_G) (cI cJ cZ : ClassId) (n9 : Nat) (p_a : Nat) (a : Nat → Int64) (l1 : Int64) (sz : Nat) {post : (Nat → Int64) → Prop} (h : wp_J7_fill_d0a16 n9 a l1 post) : Met l yJ7_fill_d0a16 wsJ7_fill_d0a16 ({ frames := 0, cells := 0, slots := 0, locals := 0 }) (zPc D cI cJ cZ [.ref p_a, .long l1] sz [(p_a, .inl (cJ, n9, .inr (.inl a)))]) (va_Qv (fun (u : (Nat → Int64)) => post u) (fun (u : (Nat → Int64)) t => va_P D vwCl [(p_a, .inl (cJ, n9, .inr (.inl u)))] t.heap ∧ va_D (va_A [(p_a, .inl (cJ, n9, .inr (.inl a)))] sz) [(p_a, .inl (cJ, n9, .inr (.inl u)))]) (va_A [(p_a, .inl (cJ, n9, .inr (.inl a)))] sz)) 0 0 (va_A [(p_a, .inl (cJ, n9, .inr (.inl a)))] sz) := by
  refine Met.ofW (cc := cJ7_fill_d0a16) (maxL := 5) (ret := none) (by decide) rfl ?_
  intro p e s m args below meth c s₁ B hml hv
  obtain ⟨rfl, hsz, hP, hE, hD0⟩ := hv
  have hx := B.exec
  have hb := B.bytes
  have hr := B.returns
  have hts := atoms_spec (ws := wsJ7_fill_d0a16) B.pre
  have hown : s.vm.findClass RJ7 = some m.cls := findClass_of_methodNamed B.named
  have hlocks := B.notSynchronized
  have hK := hE.1
  subst hsz
  have hD := hD0.self (sz := s.heap.size)
  generalize hAe : va_A [(p_a, .inl (cJ, n9, .inr (.inl a)))] s.heap.size = A at hD ⊢
  have hA : ∀ q : Nat, s.heap.size ≤ q → A q := fun q h => by rw [← hAe]; exact Or.inr h
  have hS : va_S A s.heap s.heap [] := va_S.rf
  have hP : va_P D vwCl [(p_a, .inl (cJ, n9, .inr (.inl a)))] s.heap := hP
  have hl := lv_entry ([.ref p_a, .long l1]) (n := 5) (Nat.le_of_ble_eq_true rfl)
  rw [lg_entry_eq]
  generalize (lg_sl ([.ref p_a, .long l1]) ++ List.replicate (5 - (lg_sl ([.ref p_a, .long l1])).length) Slot.unset).toArray = ls at hl ⊢
  have hl : lv_has ls 5 [(0, .ref p_a), (1, .long l1)] := hl
  generalize hQ9 : MQ below (va_Qv (fun (u : (Nat → Int64)) => post u) (fun (u : (Nat → Int64)) t => va_P D vwCl [(p_a, .inl (cJ, n9, .inr (.inl u)))] t.heap ∧ va_D A [(p_a, .inl (cJ, n9, .inr (.inl u)))]) A) ([.ref p_a, .long l1] : List Value).toArray s 0 0 A = Q9
  have hF := h
  unfold wp_J7_fill_d0a16 at hF
  refine lv_iconst (v := (0 : Int32)) hx hb dJ7_fill_d0a16_0 (by decide) ?_
  refine lv_istore_n (lv' := [(3, .int (0 : Int32)), (0, .ref p_a), (1, .long l1)]) hx hb dJ7_fill_d0a16_1 rfl hl (by decide) rfl (fun ls hl => ?_)
  refine lv_aload_n hx hb dJ7_fill_d0a16_2 rfl (lv_at hl 1 rfl) ?_
  refine va_alen (v := (Int32.ofNat n9)) hx hb hK hP 0 1 rfl rfl rfl dJ7_fill_d0a16_3 ?_
  refine lv_istore (lv' := [(4, .int (Int32.ofNat n9)), (3, .int (0 : Int32)), (0, .ref p_a), (1, .long l1)]) hx hb dJ7_fill_d0a16_4 hl (by decide) rfl (fun ls hl => ?_)
  obtain ⟨I_6, μ_6, hI_6, hs_6⟩ := hF
  have hlp_6 : ∀ (n : Nat) (l3_1 : Int32) (a_2 : Nat → Int64), I_6 l3_1 a_2 → μ_6 l3_1 a_2 < n → ∀ (H : Heap) (locs : List Loc), va_P D vwCl [(p_a, .inl (cJ, n9, .inr (.inl a_2)))] H → va_D A [(p_a, .inl (cJ, n9, .inr (.inl a_2)))] → va_S A s.heap H locs → ∀ ls : Array Slot, lv_has ls 5 [(0, .ref p_a), (1, .long l1), (3, .int l3_1), (4, .int (Int32.ofNat n9))] → W p l e ({ frames := 0, cells := 0, slots := 0, locals := 0 } : Room) s m ([.ref p_a, .long l1] : List Value).toArray below meth c H locs 0 0 Q9 (F0 m 6 ls []) := by
    intro n
    induction n with
    | zero => intro l3_1 a_2 _ hn; exact absurd hn (Nat.not_lt_zero _)
    | succ n ih_6 =>
      intro l3_1 a_2 hI9 hn_6 H locs hP hD hS ls hl
      have hF := hs_6 l3_1 a_2 hI9
      unfold bd_J7_fill_d0a16_6 at hF
      refine lv_iload_n hx hb dJ7_fill_d0a16_6 rfl (lv_at hl 2 rfl) ?_
      refine lv_iload hx hb dJ7_fill_d0a16_7 (lv_at hl 3 rfl) ?_
      refine lv_icmp_ge (tgt := 22) hx hb dJ7_fill_d0a16_9 (by decide) (fun cc_3 => ?_) (fun cc_3 => ?_)
      · have hF := hF.1 cc_3
        exact z_vret (a_2) hx hb hr hlocks hQ9 hF hP hD hS dJ7_fill_d0a16_22
      · have hF := hF.2 cc_3
        refine lv_aload_n hx hb dJ7_fill_d0a16_12 rfl (lv_at hl 0 rfl) ?_
        refine lv_iload_n hx hb dJ7_fill_d0a16_13 rfl (lv_at hl 2 rfl) ?_
        refine lv_lload_n hx hb dJ7_fill_d0a16_14 rfl (lv_at hl 1 rfl) ?_
        have hb_4 := hF.1
        have hF := hF.2
        refine va_last hx hb hK hP hD hS 0 1 rfl rfl hb_4 dJ7_fill_d0a16_15 (fun H locs hP hD hS => ?_)
        have hP : va_P D vwCl [(p_a, .inl (cJ, n9, .inr (.inl (vp_updL a_2 l3_1.toNatClampNeg l1))))] H := hP
        have hD : va_D A [(p_a, .inl (cJ, n9, .inr (.inl (vp_updL a_2 l3_1.toNatClampNeg l1))))] := hD
        refine lv_iinc (v := (l3_1 + (1 : Int32))) (lv' := [(3, .int (l3_1 + (1 : Int32))), (0, .ref p_a), (1, .long l1), (4, .int (Int32.ofNat n9))]) hx hb dJ7_fill_d0a16_16 hl (k := 2) rfl rfl (by decide) rfl (fun ls hl => ?_)
        refine lv_goto (tgt := 6) hx hb dJ7_fill_d0a16_19 (by decide) ?_
        exact ih_6 (l3_1 + (1 : Int32)) (vp_updL a_2 l3_1.toNatClampNeg l1) hF.1 (Nat.lt_of_lt_of_le hF.2 (Nat.le_of_lt_succ hn_6)) _ _ hP hD hS ls (lv_sub hl [1, 2, 0, 3] rfl)
  exact hlp_6 _ (0 : Int32) a hI_6 (Nat.lt_succ_self _) _ _ hP hD hS ls (lv_sub hl [2, 3, 1, 0] rfl)
set_option maxHeartbeats 8000000 in
set_option maxRecDepth 100000 in
theorem c_J7_fill_53178 (l : Launch) (D : va_G) (cI cJ cZ : ClassId) (n9 : Nat) (p_a : Nat) (a : Nat → Int32) (l1 : Int32) (sz : Nat) {post : (Nat → Int32) → Prop} (h : wp_J7_fill_53178 n9 a l1 post) : Met l yJ7_fill_53178 wsJ7_fill_53178 ({ frames := 0, cells := 0, slots := 0, locals := 0 }) (zPc D cI cJ cZ [.ref p_a, .int l1] sz [(p_a, .inl (cI, n9, .inl a))]) (va_Qv (fun (u : (Nat → Int32)) => post u) (fun (u : (Nat → Int32)) t => va_P D vwCl [(p_a, .inl (cI, n9, .inl u))] t.heap ∧ va_D (va_A [(p_a, .inl (cI, n9, .inl a))] sz) [(p_a, .inl (cI, n9, .inl u))]) (va_A [(p_a, .inl (cI, n9, .inl a))] sz)) 0 0 (va_A [(p_a, .inl (cI, n9, .inl a))] sz) := by
  refine Met.ofW (cc := cJ7_fill_53178) (maxL := 4) (ret := none) (by decide) rfl ?_
  intro p e s m args below meth c s₁ B hml hv
  obtain ⟨rfl, hsz, hP, hE, hD0⟩ := hv
  have hx := B.exec
  have hb := B.bytes
  have hr := B.returns
  have hts := atoms_spec (ws := wsJ7_fill_53178) B.pre
  have hown : s.vm.findClass RJ7 = some m.cls := findClass_of_methodNamed B.named
  have hlocks := B.notSynchronized
  have hK := hE.1
  subst hsz
  have hD := hD0.self (sz := s.heap.size)
  generalize hAe : va_A [(p_a, .inl (cI, n9, .inl a))] s.heap.size = A at hD ⊢
  have hA : ∀ q : Nat, s.heap.size ≤ q → A q := fun q h => by rw [← hAe]; exact Or.inr h
  have hS : va_S A s.heap s.heap [] := va_S.rf
  have hP : va_P D vwCl [(p_a, .inl (cI, n9, .inl a))] s.heap := hP
  have hl := lv_entry ([.ref p_a, .int l1]) (n := 4) (Nat.le_of_ble_eq_true rfl)
  rw [lg_entry_eq]
  generalize (lg_sl ([.ref p_a, .int l1]) ++ List.replicate (4 - (lg_sl ([.ref p_a, .int l1])).length) Slot.unset).toArray = ls at hl ⊢
  have hl : lv_has ls 4 [(0, .ref p_a), (1, .int l1)] := hl
  generalize hQ9 : MQ below (va_Qv (fun (u : (Nat → Int32)) => post u) (fun (u : (Nat → Int32)) t => va_P D vwCl [(p_a, .inl (cI, n9, .inl u))] t.heap ∧ va_D A [(p_a, .inl (cI, n9, .inl u))]) A) ([.ref p_a, .int l1] : List Value).toArray s 0 0 A = Q9
  have hF := h
  unfold wp_J7_fill_53178 at hF
  refine lv_iconst (v := (0 : Int32)) hx hb dJ7_fill_53178_0 (by decide) ?_
  refine lv_istore_n (lv' := [(2, .int (0 : Int32)), (0, .ref p_a), (1, .int l1)]) hx hb dJ7_fill_53178_1 rfl hl (by decide) rfl (fun ls hl => ?_)
  refine lv_aload_n hx hb dJ7_fill_53178_2 rfl (lv_at hl 1 rfl) ?_
  refine va_alen (v := (Int32.ofNat n9)) hx hb hK hP 0 0 rfl rfl rfl dJ7_fill_53178_3 ?_
  refine lv_istore_n (lv' := [(3, .int (Int32.ofNat n9)), (2, .int (0 : Int32)), (0, .ref p_a), (1, .int l1)]) hx hb dJ7_fill_53178_4 rfl hl (by decide) rfl (fun ls hl => ?_)
  obtain ⟨I_5, μ_5, hI_5, hs_5⟩ := hF
  have hlp_5 : ∀ (n : Nat) (l2_1 : Int32) (a_2 : Nat → Int32), I_5 l2_1 a_2 → μ_5 l2_1 a_2 < n → ∀ (H : Heap) (locs : List Loc), va_P D vwCl [(p_a, .inl (cI, n9, .inl a_2))] H → va_D A [(p_a, .inl (cI, n9, .inl a_2))] → va_S A s.heap H locs → ∀ ls : Array Slot, lv_has ls 4 [(0, .ref p_a), (1, .int l1), (2, .int l2_1), (3, .int (Int32.ofNat n9))] → W p l e ({ frames := 0, cells := 0, slots := 0, locals := 0 } : Room) s m ([.ref p_a, .int l1] : List Value).toArray below meth c H locs 0 0 Q9 (F0 m 5 ls []) := by
    intro n
    induction n with
    | zero => intro l2_1 a_2 _ hn; exact absurd hn (Nat.not_lt_zero _)
    | succ n ih_5 =>
      intro l2_1 a_2 hI9 hn_5 H locs hP hD hS ls hl
      have hF := hs_5 l2_1 a_2 hI9
      unfold bd_J7_fill_53178_5 at hF
      refine lv_iload_n hx hb dJ7_fill_53178_5 rfl (lv_at hl 2 rfl) ?_
      refine lv_iload_n hx hb dJ7_fill_53178_6 rfl (lv_at hl 3 rfl) ?_
      refine lv_icmp_ge (tgt := 20) hx hb dJ7_fill_53178_7 (by decide) (fun cc_3 => ?_) (fun cc_3 => ?_)
      · have hF := hF.1 cc_3
        exact z_vret (a_2) hx hb hr hlocks hQ9 hF hP hD hS dJ7_fill_53178_20
      · have hF := hF.2 cc_3
        refine lv_aload_n hx hb dJ7_fill_53178_10 rfl (lv_at hl 0 rfl) ?_
        refine lv_iload_n hx hb dJ7_fill_53178_11 rfl (lv_at hl 2 rfl) ?_
        refine lv_iload_n hx hb dJ7_fill_53178_12 rfl (lv_at hl 1 rfl) ?_
        have hb_4 := hF.1
        have hF := hF.2
        refine va_iast hx hb hK hP hD hS 0 0 rfl rfl hb_4 dJ7_fill_53178_13 (fun H locs hP hD hS => ?_)
        have hP : va_P D vwCl [(p_a, .inl (cI, n9, .inl (upd a_2 l2_1.toNatClampNeg l1)))] H := hP
        have hD : va_D A [(p_a, .inl (cI, n9, .inl (upd a_2 l2_1.toNatClampNeg l1)))] := hD
        refine lv_iinc (v := (l2_1 + (1 : Int32))) (lv' := [(2, .int (l2_1 + (1 : Int32))), (0, .ref p_a), (1, .int l1), (3, .int (Int32.ofNat n9))]) hx hb dJ7_fill_53178_14 hl (k := 2) rfl rfl (by decide) rfl (fun ls hl => ?_)
        refine lv_goto (tgt := 5) hx hb dJ7_fill_53178_17 (by decide) ?_
        exact ih_5 (l2_1 + (1 : Int32)) (upd a_2 l2_1.toNatClampNeg l1) hF.1 (Nat.lt_of_lt_of_le hF.2 (Nat.le_of_lt_succ hn_5)) _ _ hP hD hS ls (lv_sub hl [1, 2, 0, 3] rfl)
  exact hlp_5 _ (0 : Int32) a hI_5 (Nat.lt_succ_self _) _ _ hP hD hS ls (lv_sub hl [2, 3, 1, 0] rfl)
set_option maxHeartbeats 8000000 in
set_option maxRecDepth 100000 in
theorem c_X7_isWithin (l : Launch) (D : va_G) (cI cJ cZ : ClassId)  (l0 : Int32) (l1 : Int32) (l2 : Int32) (sz : Nat) {post : Int32 → Prop} (h : wp_X7_isWithin  l0 l1 l2 post) : Met l yX7_isWithin wsX7_isWithin ({ frames := 0, cells := 0, slots := 0, locals := 0 }) (zPc D cI cJ cZ [.int l0, .int l1, .int l2] sz []) (va_Qi (fun (r : Int32) (u : Unit) => post r ) (fun (u : Unit) t => va_P D vwCl [] t.heap ∧ va_D (va_A [] sz) []) (va_A [] sz)) 0 0 (va_A [] sz) := by
  refine Met.ofW (cc := cX7_isWithin) (maxL := 3) (ret := (some .boolean)) (by decide) rfl ?_
  intro p e s m args below meth c s₁ B hml hv
  obtain ⟨rfl, hsz, hP, hE, hD0⟩ := hv
  have hx := B.exec
  have hb := B.bytes
  have hr := B.returns
  have hts := atoms_spec (ws := wsX7_isWithin) B.pre
  have hown : s.vm.findClass RX7 = some m.cls := findClass_of_methodNamed B.named
  have hlocks := B.notSynchronized
  have hK := hE.1
  subst hsz
  have hD := hD0.self (sz := s.heap.size)
  generalize hAe : va_A [] s.heap.size = A at hD ⊢
  have hA : ∀ q : Nat, s.heap.size ≤ q → A q := fun q h => by rw [← hAe]; exact Or.inr h
  have hS : va_S A s.heap s.heap [] := va_S.rf
  have hP : va_P D vwCl [] s.heap := hP
  have hl := lv_entry ([.int l0, .int l1, .int l2]) (n := 3) (Nat.le_of_ble_eq_true rfl)
  rw [lg_entry_eq]
  generalize (lg_sl ([.int l0, .int l1, .int l2]) ++ List.replicate (3 - (lg_sl ([.int l0, .int l1, .int l2])).length) Slot.unset).toArray = ls at hl ⊢
  have hl : lv_has ls 3 [(0, .int l0), (1, .int l1), (2, .int l2)] := hl
  generalize hQ9 : MQ below (va_Qi (fun (r : Int32) (u : Unit) => post r ) (fun (u : Unit) t => va_P D vwCl [] t.heap ∧ va_D A []) A) ([.int l0, .int l1, .int l2] : List Value).toArray s 0 0 A = Q9
  have hF := h
  unfold wp_X7_isWithin at hF
  refine lv_iload_n hx hb dX7_isWithin_0 rfl (lv_at hl 0 rfl) ?_
  refine lv_iload_n hx hb dX7_isWithin_1 rfl (lv_at hl 1 rfl) ?_
  refine lv_icmp_lt (tgt := 14) hx hb dX7_isWithin_2 (by decide) (fun cc_1 => ?_) (fun cc_1 => ?_)
  · have hF := hF.1 cc_1
    refine lv_iconst (v := (0 : Int32)) hx hb dX7_isWithin_14 (by decide) ?_
    exact z_zret () hx hb hr hlocks hQ9 (z_nb z_01) hF hP hD hS dX7_isWithin_15
  · have hF := hF.2 cc_1
    refine lv_iload_n hx hb dX7_isWithin_5 rfl (lv_at hl 0 rfl) ?_
    refine lv_iload_n hx hb dX7_isWithin_6 rfl (lv_at hl 2 rfl) ?_
    refine lv_icmp_gt (tgt := 14) hx hb dX7_isWithin_7 (by decide) (fun cc_2 => ?_) (fun cc_2 => ?_)
    · have hF := hF.1 cc_2
      refine lv_iconst (v := (0 : Int32)) hx hb dX7_isWithin_14 (by decide) ?_
      exact z_zret () hx hb hr hlocks hQ9 (z_nb z_01) hF hP hD hS dX7_isWithin_15
    · have hF := hF.2 cc_2
      refine lv_iconst (v := (1 : Int32)) hx hb dX7_isWithin_10 (by decide) ?_
      refine lv_goto (tgt := 15) hx hb dX7_isWithin_11 (by decide) ?_
      exact z_zret () hx hb hr hlocks hQ9 (z_nb z_11) hF hP hD hS dX7_isWithin_15
set_option maxHeartbeats 8000000 in
set_option maxRecDepth 100000 in
theorem c_X7_cellOf (l : Launch) (D : va_G) (cI cJ cZ : ClassId)  (l0 : Int32) (l1 : Int32) (sz : Nat) {post : Int32 → Prop} (h : wp_X7_cellOf  l0 l1 post) : Met l yX7_cellOf wsX7_cellOf ({ frames := 0, cells := 0, slots := 0, locals := 0 }) (zPc D cI cJ cZ [.int l0, .int l1] sz []) (va_Qi (fun (r : Int32) (u : Unit) => post r ) (fun (u : Unit) t => va_P D vwCl [] t.heap ∧ va_D (va_A [] sz) []) (va_A [] sz)) 0 0 (va_A [] sz) := by
  refine Met.ofW (cc := cX7_cellOf) (maxL := 2) (ret := (some .int)) (by decide) rfl ?_
  intro p e s m args below meth c s₁ B hml hv
  obtain ⟨rfl, hsz, hP, hE, hD0⟩ := hv
  have hx := B.exec
  have hb := B.bytes
  have hr := B.returns
  have hts := atoms_spec (ws := wsX7_cellOf) B.pre
  have hown : s.vm.findClass RX7 = some m.cls := findClass_of_methodNamed B.named
  have hlocks := B.notSynchronized
  have hK := hE.1
  subst hsz
  have hD := hD0.self (sz := s.heap.size)
  generalize hAe : va_A [] s.heap.size = A at hD ⊢
  have hA : ∀ q : Nat, s.heap.size ≤ q → A q := fun q h => by rw [← hAe]; exact Or.inr h
  have hS : va_S A s.heap s.heap [] := va_S.rf
  have hP : va_P D vwCl [] s.heap := hP
  have hl := lv_entry ([.int l0, .int l1]) (n := 2) (Nat.le_of_ble_eq_true rfl)
  rw [lg_entry_eq]
  generalize (lg_sl ([.int l0, .int l1]) ++ List.replicate (2 - (lg_sl ([.int l0, .int l1])).length) Slot.unset).toArray = ls at hl ⊢
  have hl : lv_has ls 2 [(0, .int l0), (1, .int l1)] := hl
  generalize hQ9 : MQ below (va_Qi (fun (r : Int32) (u : Unit) => post r ) (fun (u : Unit) t => va_P D vwCl [] t.heap ∧ va_D A []) A) ([.int l0, .int l1] : List Value).toArray s 0 0 A = Q9
  have hF := h
  unfold wp_X7_cellOf at hF
  refine lv_bipush (v := (10 : Int32)) hx hb dX7_cellOf_0 (by decide) ?_
  refine lv_iload_n hx hb dX7_cellOf_2 rfl (lv_at hl 0 rfl) ?_
  refine lv_imul hx hb dX7_cellOf_3 ?_
  refine lv_iload_n hx hb dX7_cellOf_4 rfl (lv_at hl 1 rfl) ?_
  refine lv_iadd hx hb dX7_cellOf_5 ?_
  exact z_iret () hx hb hr hlocks hQ9 hF hP hD hS dX7_cellOf_6
set_option maxHeartbeats 8000000 in
set_option maxRecDepth 100000 in
theorem c_X7_columnOf (l : Launch) (D : va_G) (cI cJ cZ : ClassId)  (l0 : Int32) (sz : Nat) {post : Int32 → Prop} (h : wp_X7_columnOf  l0 post) : Met l yX7_columnOf wsX7_columnOf ({ frames := 0, cells := 0, slots := 0, locals := 0 }) (zPc D cI cJ cZ [.int l0] sz []) (va_Qi (fun (r : Int32) (u : Unit) => post r ) (fun (u : Unit) t => va_P D vwCl [] t.heap ∧ va_D (va_A [] sz) []) (va_A [] sz)) 0 0 (va_A [] sz) := by
  refine Met.ofW (cc := cX7_columnOf) (maxL := 1) (ret := (some .int)) (by decide) rfl ?_
  intro p e s m args below meth c s₁ B hml hv
  obtain ⟨rfl, hsz, hP, hE, hD0⟩ := hv
  have hx := B.exec
  have hb := B.bytes
  have hr := B.returns
  have hts := atoms_spec (ws := wsX7_columnOf) B.pre
  have hown : s.vm.findClass RX7 = some m.cls := findClass_of_methodNamed B.named
  have hlocks := B.notSynchronized
  have hK := hE.1
  subst hsz
  have hD := hD0.self (sz := s.heap.size)
  generalize hAe : va_A [] s.heap.size = A at hD ⊢
  have hA : ∀ q : Nat, s.heap.size ≤ q → A q := fun q h => by rw [← hAe]; exact Or.inr h
  have hS : va_S A s.heap s.heap [] := va_S.rf
  have hP : va_P D vwCl [] s.heap := hP
  have hl := lv_entry ([.int l0]) (n := 1) (Nat.le_of_ble_eq_true rfl)
  rw [lg_entry_eq]
  generalize (lg_sl ([.int l0]) ++ List.replicate (1 - (lg_sl ([.int l0])).length) Slot.unset).toArray = ls at hl ⊢
  have hl : lv_has ls 1 [(0, .int l0)] := hl
  generalize hQ9 : MQ below (va_Qi (fun (r : Int32) (u : Unit) => post r ) (fun (u : Unit) t => va_P D vwCl [] t.heap ∧ va_D A []) A) ([.int l0] : List Value).toArray s 0 0 A = Q9
  have hF := h
  unfold wp_X7_columnOf at hF
  refine lv_iload_n hx hb dX7_columnOf_0 rfl (lv_at hl 0 rfl) ?_
  refine lv_bipush (v := (10 : Int32)) hx hb dX7_columnOf_1 (by decide) ?_
  refine lv_idiv hx hb dX7_columnOf_3 (by decide) ?_
  exact z_iret () hx hb hr hlocks hQ9 hF hP hD hS dX7_columnOf_4
set_option maxHeartbeats 8000000 in
set_option maxRecDepth 100000 in
theorem c_X7_rowOf (l : Launch) (D : va_G) (cI cJ cZ : ClassId)  (l0 : Int32) (sz : Nat) {post : Int32 → Prop} (h : wp_X7_rowOf  l0 post) : Met l yX7_rowOf wsX7_rowOf ({ frames := 0, cells := 0, slots := 0, locals := 0 }) (zPc D cI cJ cZ [.int l0] sz []) (va_Qi (fun (r : Int32) (u : Unit) => post r ) (fun (u : Unit) t => va_P D vwCl [] t.heap ∧ va_D (va_A [] sz) []) (va_A [] sz)) 0 0 (va_A [] sz) := by
  refine Met.ofW (cc := cX7_rowOf) (maxL := 1) (ret := (some .int)) (by decide) rfl ?_
  intro p e s m args below meth c s₁ B hml hv
  obtain ⟨rfl, hsz, hP, hE, hD0⟩ := hv
  have hx := B.exec
  have hb := B.bytes
  have hr := B.returns
  have hts := atoms_spec (ws := wsX7_rowOf) B.pre
  have hown : s.vm.findClass RX7 = some m.cls := findClass_of_methodNamed B.named
  have hlocks := B.notSynchronized
  have hK := hE.1
  subst hsz
  have hD := hD0.self (sz := s.heap.size)
  generalize hAe : va_A [] s.heap.size = A at hD ⊢
  have hA : ∀ q : Nat, s.heap.size ≤ q → A q := fun q h => by rw [← hAe]; exact Or.inr h
  have hS : va_S A s.heap s.heap [] := va_S.rf
  have hP : va_P D vwCl [] s.heap := hP
  have hl := lv_entry ([.int l0]) (n := 1) (Nat.le_of_ble_eq_true rfl)
  rw [lg_entry_eq]
  generalize (lg_sl ([.int l0]) ++ List.replicate (1 - (lg_sl ([.int l0])).length) Slot.unset).toArray = ls at hl ⊢
  have hl : lv_has ls 1 [(0, .int l0)] := hl
  generalize hQ9 : MQ below (va_Qi (fun (r : Int32) (u : Unit) => post r ) (fun (u : Unit) t => va_P D vwCl [] t.heap ∧ va_D A []) A) ([.int l0] : List Value).toArray s 0 0 A = Q9
  have hF := h
  unfold wp_X7_rowOf at hF
  refine lv_iload_n hx hb dX7_rowOf_0 rfl (lv_at hl 0 rfl) ?_
  refine lv_bipush (v := (10 : Int32)) hx hb dX7_rowOf_1 (by decide) ?_
  refine lv_irem hx hb dX7_rowOf_3 (by decide) ?_
  exact z_iret () hx hb hr hlocks hQ9 hF hP hD hS dX7_rowOf_4
set_option maxHeartbeats 8000000 in
set_option maxRecDepth 100000 in
theorem c_X7_isIn (l : Launch) (D : va_G) (cI cJ cZ : ClassId)  (l0 : Int64) (l2 : Int32) (sz : Nat) {post : Int32 → Prop} (h : wp_X7_isIn  l0 l2 post) : Met l yX7_isIn wsX7_isIn ({ frames := 0, cells := 0, slots := 0, locals := 0 }) (zPc D cI cJ cZ [.long l0, .int l2] sz []) (va_Qi (fun (r : Int32) (u : Unit) => post r ) (fun (u : Unit) t => va_P D vwCl [] t.heap ∧ va_D (va_A [] sz) []) (va_A [] sz)) 0 0 (va_A [] sz) := by
  refine Met.ofW (cc := cX7_isIn) (maxL := 3) (ret := (some .boolean)) (by decide) rfl ?_
  intro p e s m args below meth c s₁ B hml hv
  obtain ⟨rfl, hsz, hP, hE, hD0⟩ := hv
  have hx := B.exec
  have hb := B.bytes
  have hr := B.returns
  have hts := atoms_spec (ws := wsX7_isIn) B.pre
  have hown : s.vm.findClass RX7 = some m.cls := findClass_of_methodNamed B.named
  have hlocks := B.notSynchronized
  have hK := hE.1
  subst hsz
  have hD := hD0.self (sz := s.heap.size)
  generalize hAe : va_A [] s.heap.size = A at hD ⊢
  have hA : ∀ q : Nat, s.heap.size ≤ q → A q := fun q h => by rw [← hAe]; exact Or.inr h
  have hS : va_S A s.heap s.heap [] := va_S.rf
  have hP : va_P D vwCl [] s.heap := hP
  have hl := lv_entry ([.long l0, .int l2]) (n := 3) (Nat.le_of_ble_eq_true rfl)
  rw [lg_entry_eq]
  generalize (lg_sl ([.long l0, .int l2]) ++ List.replicate (3 - (lg_sl ([.long l0, .int l2])).length) Slot.unset).toArray = ls at hl ⊢
  have hl : lv_has ls 3 [(0, .long l0), (2, .int l2)] := hl
  generalize hQ9 : MQ below (va_Qi (fun (r : Int32) (u : Unit) => post r ) (fun (u : Unit) t => va_P D vwCl [] t.heap ∧ va_D A []) A) ([.long l0, .int l2] : List Value).toArray s 0 0 A = Q9
  have hF := h
  unfold wp_X7_isIn at hF
  refine lv_lload_n hx hb dX7_isIn_0 rfl (lv_at hl 0 rfl) ?_
  refine lv_iload_n hx hb dX7_isIn_1 rfl (lv_at hl 1 rfl) ?_
  refine lv_lushr (v := (jlushr l0 l2)) hx hb dX7_isIn_2 rfl ?_
  refine lv_lconst (v := (1 : Int64)) hx hb dX7_isIn_3 (by decide) ?_
  refine lv_land hx hb dX7_isIn_4 ?_
  refine lv_lconst (v := (0 : Int64)) hx hb dX7_isIn_5 (by decide) ?_
  refine W.lcmp hx hb dX7_isIn_6 ?_
  refine lv_if_eq (tgt := 14) hx hb dX7_isIn_7 (by decide) (fun cc_1 => ?_) (fun cc_1 => ?_)
  · have hF := hF.1 (z_cmp_eq.mp cc_1)
    refine lv_iconst (v := (0 : Int32)) hx hb dX7_isIn_14 (by decide) ?_
    exact z_zret () hx hb hr hlocks hQ9 (z_nb z_01) hF hP hD hS dX7_isIn_15
  · have hF := hF.2 (fun h9 => cc_1 (z_cmp_eq.mpr h9))
    refine lv_iconst (v := (1 : Int32)) hx hb dX7_isIn_10 (by decide) ?_
    refine lv_goto (tgt := 15) hx hb dX7_isIn_11 (by decide) ?_
    exact z_zret () hx hb hr hlocks hQ9 (z_nb z_11) hF hP hD hS dX7_isIn_15
set_option maxHeartbeats 8000000 in
set_option maxRecDepth 100000 in
theorem c_X7_greatest (l : Launch) (D : va_G) (cI cJ cZ : ClassId)  (l0 : Int64) (sz : Nat) {post : Int32 → Prop} (h : wp_X7_greatest  l0 post) : Met l yX7_greatest wsX7_greatest ({ frames := 1, cells := 0, slots := 0, locals := 21 }) (zPc D cI cJ cZ [.long l0] sz []) (va_Qi (fun (r : Int32) (u : Unit) => post r ) (fun (u : Unit) t => va_P D vwCl [] t.heap ∧ va_D (va_A [] sz) []) (va_A [] sz)) 0 0 (va_A [] sz) := by
  refine Met.ofW (cc := cX7_greatest) (maxL := 5) (ret := (some .int)) (by decide) rfl ?_
  intro p e s m args below meth c s₁ B hml hv
  obtain ⟨rfl, hsz, hP, hE, hD0⟩ := hv
  have hx := B.exec
  have hb := B.bytes
  have hr := B.returns
  have hts := atoms_spec (ws := wsX7_greatest) B.pre
  have hown : s.vm.findClass RX7 = some m.cls := findClass_of_methodNamed B.named
  have hlocks := B.notSynchronized
  have hK := hE.1
  subst hsz
  have hD := hD0.self (sz := s.heap.size)
  generalize hAe : va_A [] s.heap.size = A at hD ⊢
  have hA : ∀ q : Nat, s.heap.size ≤ q → A q := fun q h => by rw [← hAe]; exact Or.inr h
  have hS : va_S A s.heap s.heap [] := va_S.rf
  have hP : va_P D vwCl [] s.heap := hP
  have hl := lv_entry ([.long l0]) (n := 5) (Nat.le_of_ble_eq_true rfl)
  rw [lg_entry_eq]
  generalize (lg_sl ([.long l0]) ++ List.replicate (5 - (lg_sl ([.long l0])).length) Slot.unset).toArray = ls at hl ⊢
  have hl : lv_has ls 5 [(0, .long l0)] := hl
  generalize hQ9 : MQ below (va_Qi (fun (r : Int32) (u : Unit) => post r ) (fun (u : Unit) t => va_P D vwCl [] t.heap ∧ va_D A []) A) ([.long l0] : List Value).toArray s 0 0 A = Q9
  have hF := h
  unfold wp_X7_greatest at hF
  refine lv_lload_n hx hb dX7_greatest_0 rfl (lv_at hl 0 rfl) ?_
  refine lv_lstore_n (lv' := [(2, .long l0), (0, .long l0)]) hx hb dX7_greatest_1 rfl hl (by decide) rfl (fun ls hl => ?_)
  refine lv_iconst (v := (1 : Int32)) hx hb dX7_greatest_2 (by decide) ?_
  refine lv_istore (lv' := [(4, .int (1 : Int32)), (2, .long l0), (0, .long l0)]) hx hb dX7_greatest_3 hl (by decide) rfl (fun ls hl => ?_)
  obtain ⟨I_5, μ_5, hI_5, hs_5⟩ := hF
  have hlp_5 : ∀ (n : Nat) (l2_1 : Int64) (l4_2 : Int32), I_5 l2_1 l4_2 → μ_5 l2_1 l4_2 < n → ∀ (H : Heap) (locs : List Loc), va_P D vwCl [] H → va_D A [] → va_S A s.heap H locs → ∀ ls : Array Slot, lv_has ls 5 [(2, .long l2_1), (4, .int l4_2)] → W p l e ({ frames := 1, cells := 0, slots := 0, locals := 21 } : Room) s m ([.long l0] : List Value).toArray below meth c H locs 0 0 Q9 (F0 m 5 ls []) := by
    intro n
    induction n with
    | zero => intro l2_1 l4_2 _ hn; exact absurd hn (Nat.not_lt_zero _)
    | succ n ih_5 =>
      intro l2_1 l4_2 hI9 hn_5 H locs hP hD hS ls hl
      have hF := hs_5 l2_1 l4_2 hI9
      unfold bd_X7_greatest_5 at hF
      refine lv_iload hx hb dX7_greatest_5 (lv_at hl 1 rfl) ?_
      refine lv_bipush (v := (64 : Int32)) hx hb dX7_greatest_7 (by decide) ?_
      refine lv_icmp_ge (tgt := 29) hx hb dX7_greatest_9 (by decide) (fun cc_3 => ?_) (fun cc_3 => ?_)
      · have hF := hF.1 cc_3
        refine lv_lload_n hx hb dX7_greatest_29 rfl (lv_at hl 0 rfl) ?_
        refine lv_lconst (v := (0 : Int64)) hx hb dX7_greatest_30 (by decide) ?_
        refine W.lcmp hx hb dX7_greatest_31 ?_
        refine lv_if_ne (tgt := 40) hx hb dX7_greatest_32 (by decide) (fun cc_4 => ?_) (fun cc_4 => ?_)
        · have hF := hF.1 (fun h9 => cc_4 (z_cmp_eq.mpr h9))
          refine lv_lload_n hx hb dX7_greatest_40 rfl (lv_at hl 0 rfl) ?_
          refine z_calli (wr := []) (va_runS (As := [.long l2_1]) (rest := []) ⟨hx, hb, hml, hown, hts⟩ (c_J13_bitCount_95d88 l D cI cJ cZ   l2_1 H.size hF) (va_cwS 1 hts gX7_greatest_J13_bitCount_95d88 rfl rfl rfl (by decide +kernel) ⟨Nat.le_of_ble_eq_true rfl, Nat.le_of_ble_eq_true rfl⟩) (z_preS (wc := []) hP hE hD [] (by decide) rfl) rfl rfl hl.1 rfl (lv_room (Nat.le_of_ble_eq_true rfl)) dX7_greatest_41 ⟨Nat.le_of_ble_eq_true rfl, Nat.le_of_ble_eq_true rfl⟩) hP hD hS hA [] [] rfl rfl (by decide) (by decide) (fun r_5 u9 H locs hF hP hD hS => ?_)
          refine lv_iconst (v := (1 : Int32)) hx hb dX7_greatest_44 (by decide) ?_
          refine lv_isub hx hb dX7_greatest_45 ?_
          exact z_iret () hx hb hr hlocks hQ9 hF hP hD hS dX7_greatest_46
        · have hF := hF.2 (z_cmp_eq.mp cc_4)
          refine lv_bipush (v := (-9 : Int32)) hx hb dX7_greatest_35 (by decide) ?_
          refine lv_goto (tgt := 46) hx hb dX7_greatest_37 (by decide) ?_
          exact z_iret () hx hb hr hlocks hQ9 hF hP hD hS dX7_greatest_46
      · have hF := hF.2 cc_3
        refine lv_lload_n hx hb dX7_greatest_12 rfl (lv_at hl 0 rfl) ?_
        refine lv_lload_n hx hb dX7_greatest_13 rfl (lv_at hl 0 rfl) ?_
        refine lv_iload hx hb dX7_greatest_14 (lv_at hl 1 rfl) ?_
        refine lv_lushr (v := (jlushr l2_1 l4_2)) hx hb dX7_greatest_16 rfl ?_
        refine lv_lor hx hb dX7_greatest_17 ?_
        refine lv_lstore_n (lv' := [(2, .long (l2_1 ||| (jlushr l2_1 l4_2))), (4, .int l4_2)]) hx hb dX7_greatest_18 rfl hl (by decide) rfl (fun ls hl => ?_)
        refine lv_iload hx hb dX7_greatest_19 (lv_at hl 1 rfl) ?_
        refine lv_iload hx hb dX7_greatest_21 (lv_at hl 1 rfl) ?_
        refine lv_iadd hx hb dX7_greatest_23 ?_
        refine lv_istore (lv' := [(4, .int (l4_2 + l4_2)), (2, .long (l2_1 ||| (jlushr l2_1 l4_2)))]) hx hb dX7_greatest_24 hl (by decide) rfl (fun ls hl => ?_)
        refine lv_goto (tgt := 5) hx hb dX7_greatest_26 (by decide) ?_
        exact ih_5 (l2_1 ||| (jlushr l2_1 l4_2)) (l4_2 + l4_2) hF.1 (Nat.lt_of_lt_of_le hF.2 (Nat.le_of_lt_succ hn_5)) _ _ hP hD hS ls (lv_sub hl [1, 0] rfl)
  exact hlp_5 _ l0 (1 : Int32) hI_5 (Nat.lt_succ_self _) _ _ hP hD hS ls (lv_sub hl [1, 0] rfl)
set_option maxHeartbeats 8000000 in
set_option maxRecDepth 100000 in
theorem c_X7_isSlot (l : Launch) (D : va_G) (cI cJ cZ : ClassId)  (l0 : Int32) (sz : Nat) {post : Int32 → Prop} (h : wp_X7_isSlot  l0 post) : Met l yX7_isSlot wsX7_isSlot ({ frames := 1, cells := 0, slots := 0, locals := 22 }) (zPc D cI cJ cZ [.int l0] sz []) (va_Qi (fun (r : Int32) (u : Unit) => post r ) (fun (u : Unit) t => va_P D vwCl [] t.heap ∧ va_D (va_A [] sz) []) (va_A [] sz)) 0 0 (va_A [] sz) := by
  refine Met.ofW (cc := cX7_isSlot) (maxL := 1) (ret := (some .boolean)) (by decide) rfl ?_
  intro p e s m args below meth c s₁ B hml hv
  obtain ⟨rfl, hsz, hP, hE, hD0⟩ := hv
  have hx := B.exec
  have hb := B.bytes
  have hr := B.returns
  have hts := atoms_spec (ws := wsX7_isSlot) B.pre
  have hown : s.vm.findClass RX7 = some m.cls := findClass_of_methodNamed B.named
  have hlocks := B.notSynchronized
  have hK := hE.1
  subst hsz
  have hD := hD0.self (sz := s.heap.size)
  generalize hAe : va_A [] s.heap.size = A at hD ⊢
  have hA : ∀ q : Nat, s.heap.size ≤ q → A q := fun q h => by rw [← hAe]; exact Or.inr h
  have hS : va_S A s.heap s.heap [] := va_S.rf
  have hP : va_P D vwCl [] s.heap := hP
  have hl := lv_entry ([.int l0]) (n := 1) (Nat.le_of_ble_eq_true rfl)
  rw [lg_entry_eq]
  generalize (lg_sl ([.int l0]) ++ List.replicate (1 - (lg_sl ([.int l0])).length) Slot.unset).toArray = ls at hl ⊢
  have hl : lv_has ls 1 [(0, .int l0)] := hl
  generalize hQ9 : MQ below (va_Qi (fun (r : Int32) (u : Unit) => post r ) (fun (u : Unit) t => va_P D vwCl [] t.heap ∧ va_D A []) A) ([.int l0] : List Value).toArray s 0 0 A = Q9
  have hF := h
  unfold wp_X7_isSlot at hF
  refine lv_iload_n hx hb dX7_isSlot_0 rfl (lv_at hl 0 rfl) ?_
  refine lv_iconst (v := (0 : Int32)) hx hb dX7_isSlot_1 (by decide) ?_
  refine lv_iconst (v := (1 : Int32)) hx hb dX7_isSlot_2 (by decide) ?_
  refine z_calli (wr := []) (va_runS (As := [.int l0, .int (0 : Int32), .int (1 : Int32)]) (rest := []) ⟨hx, hb, hml, hown, hts⟩ (c_X7_isWithin l D cI cJ cZ   l0 (0 : Int32) (1 : Int32) s.heap.size hF) (va_cwS 3 hts gX7_isSlot_X7_isWithin rfl rfl rfl (by decide +kernel) ⟨Nat.le_of_ble_eq_true rfl, Nat.le_of_ble_eq_true rfl⟩) (z_preS (wc := []) hP hE hD [] (by decide) rfl) rfl rfl hl.1 rfl (lv_room (Nat.le_of_ble_eq_true rfl)) dX7_isSlot_3 ⟨Nat.le_of_ble_eq_true rfl, Nat.le_of_ble_eq_true rfl⟩) hP hD hS hA [] [] rfl rfl (by decide) (by decide) (fun r_1 u9 H locs hF hP hD hS => ?_)
  have hz_2 := hF.1
  have hF := hF.2
  exact z_zret () hx hb hr hlocks hQ9 (z_nb hz_2) hF hP hD hS dX7_isSlot_6
set_option maxHeartbeats 8000000 in
set_option maxRecDepth 100000 in
theorem c_X7_isSort (l : Launch) (D : va_G) (cI cJ cZ : ClassId)  (l0 : Int32) (sz : Nat) {post : Int32 → Prop} (h : wp_X7_isSort  l0 post) : Met l yX7_isSort wsX7_isSort ({ frames := 1, cells := 0, slots := 0, locals := 22 }) (zPc D cI cJ cZ [.int l0] sz []) (va_Qi (fun (r : Int32) (u : Unit) => post r ) (fun (u : Unit) t => va_P D vwCl [] t.heap ∧ va_D (va_A [] sz) []) (va_A [] sz)) 0 0 (va_A [] sz) := by
  refine Met.ofW (cc := cX7_isSort) (maxL := 1) (ret := (some .boolean)) (by decide) rfl ?_
  intro p e s m args below meth c s₁ B hml hv
  obtain ⟨rfl, hsz, hP, hE, hD0⟩ := hv
  have hx := B.exec
  have hb := B.bytes
  have hr := B.returns
  have hts := atoms_spec (ws := wsX7_isSort) B.pre
  have hown : s.vm.findClass RX7 = some m.cls := findClass_of_methodNamed B.named
  have hlocks := B.notSynchronized
  have hK := hE.1
  subst hsz
  have hD := hD0.self (sz := s.heap.size)
  generalize hAe : va_A [] s.heap.size = A at hD ⊢
  have hA : ∀ q : Nat, s.heap.size ≤ q → A q := fun q h => by rw [← hAe]; exact Or.inr h
  have hS : va_S A s.heap s.heap [] := va_S.rf
  have hP : va_P D vwCl [] s.heap := hP
  have hl := lv_entry ([.int l0]) (n := 1) (Nat.le_of_ble_eq_true rfl)
  rw [lg_entry_eq]
  generalize (lg_sl ([.int l0]) ++ List.replicate (1 - (lg_sl ([.int l0])).length) Slot.unset).toArray = ls at hl ⊢
  have hl : lv_has ls 1 [(0, .int l0)] := hl
  generalize hQ9 : MQ below (va_Qi (fun (r : Int32) (u : Unit) => post r ) (fun (u : Unit) t => va_P D vwCl [] t.heap ∧ va_D A []) A) ([.int l0] : List Value).toArray s 0 0 A = Q9
  have hF := h
  unfold wp_X7_isSort at hF
  refine lv_iload_n hx hb dX7_isSort_0 rfl (lv_at hl 0 rfl) ?_
  refine lv_iconst (v := (0 : Int32)) hx hb dX7_isSort_1 (by decide) ?_
  refine lv_iconst (v := (5 : Int32)) hx hb dX7_isSort_2 (by decide) ?_
  refine z_calli (wr := []) (va_runS (As := [.int l0, .int (0 : Int32), .int (5 : Int32)]) (rest := []) ⟨hx, hb, hml, hown, hts⟩ (c_X7_isWithin l D cI cJ cZ   l0 (0 : Int32) (5 : Int32) s.heap.size hF) (va_cwS 3 hts gX7_isSort_X7_isWithin rfl rfl rfl (by decide +kernel) ⟨Nat.le_of_ble_eq_true rfl, Nat.le_of_ble_eq_true rfl⟩) (z_preS (wc := []) hP hE hD [] (by decide) rfl) rfl rfl hl.1 rfl (lv_room (Nat.le_of_ble_eq_true rfl)) dX7_isSort_3 ⟨Nat.le_of_ble_eq_true rfl, Nat.le_of_ble_eq_true rfl⟩) hP hD hS hA [] [] rfl rfl (by decide) (by decide) (fun r_1 u9 H locs hF hP hD hS => ?_)
  have hz_2 := hF.1
  have hF := hF.2
  exact z_zret () hx hb hr hlocks hQ9 (z_nb hz_2) hF hP hD hS dX7_isSort_6
set_option maxHeartbeats 8000000 in
set_option maxRecDepth 100000 in
theorem c_X7_isLength (l : Launch) (D : va_G) (cI cJ cZ : ClassId)  (l0 : Int32) (sz : Nat) {post : Int32 → Prop} (h : wp_X7_isLength  l0 post) : Met l yX7_isLength wsX7_isLength ({ frames := 1, cells := 0, slots := 0, locals := 22 }) (zPc D cI cJ cZ [.int l0] sz []) (va_Qi (fun (r : Int32) (u : Unit) => post r ) (fun (u : Unit) t => va_P D vwCl [] t.heap ∧ va_D (va_A [] sz) []) (va_A [] sz)) 0 0 (va_A [] sz) := by
  refine Met.ofW (cc := cX7_isLength) (maxL := 1) (ret := (some .boolean)) (by decide) rfl ?_
  intro p e s m args below meth c s₁ B hml hv
  obtain ⟨rfl, hsz, hP, hE, hD0⟩ := hv
  have hx := B.exec
  have hb := B.bytes
  have hr := B.returns
  have hts := atoms_spec (ws := wsX7_isLength) B.pre
  have hown : s.vm.findClass RX7 = some m.cls := findClass_of_methodNamed B.named
  have hlocks := B.notSynchronized
  have hK := hE.1
  subst hsz
  have hD := hD0.self (sz := s.heap.size)
  generalize hAe : va_A [] s.heap.size = A at hD ⊢
  have hA : ∀ q : Nat, s.heap.size ≤ q → A q := fun q h => by rw [← hAe]; exact Or.inr h
  have hS : va_S A s.heap s.heap [] := va_S.rf
  have hP : va_P D vwCl [] s.heap := hP
  have hl := lv_entry ([.int l0]) (n := 1) (Nat.le_of_ble_eq_true rfl)
  rw [lg_entry_eq]
  generalize (lg_sl ([.int l0]) ++ List.replicate (1 - (lg_sl ([.int l0])).length) Slot.unset).toArray = ls at hl ⊢
  have hl : lv_has ls 1 [(0, .int l0)] := hl
  generalize hQ9 : MQ below (va_Qi (fun (r : Int32) (u : Unit) => post r ) (fun (u : Unit) t => va_P D vwCl [] t.heap ∧ va_D A []) A) ([.int l0] : List Value).toArray s 0 0 A = Q9
  have hF := h
  unfold wp_X7_isLength at hF
  refine lv_iload_n hx hb dX7_isLength_0 rfl (lv_at hl 0 rfl) ?_
  refine lv_iconst (v := (1 : Int32)) hx hb dX7_isLength_1 (by decide) ?_
  refine lv_iconst (v := (3 : Int32)) hx hb dX7_isLength_2 (by decide) ?_
  refine z_calli (wr := []) (va_runS (As := [.int l0, .int (1 : Int32), .int (3 : Int32)]) (rest := []) ⟨hx, hb, hml, hown, hts⟩ (c_X7_isWithin l D cI cJ cZ   l0 (1 : Int32) (3 : Int32) s.heap.size hF) (va_cwS 3 hts gX7_isLength_X7_isWithin rfl rfl rfl (by decide +kernel) ⟨Nat.le_of_ble_eq_true rfl, Nat.le_of_ble_eq_true rfl⟩) (z_preS (wc := []) hP hE hD [] (by decide) rfl) rfl rfl hl.1 rfl (lv_room (Nat.le_of_ble_eq_true rfl)) dX7_isLength_3 ⟨Nat.le_of_ble_eq_true rfl, Nat.le_of_ble_eq_true rfl⟩) hP hD hS hA [] [] rfl rfl (by decide) (by decide) (fun r_1 u9 H locs hF hP hD hS => ?_)
  have hz_2 := hF.1
  have hF := hF.2
  exact z_zret () hx hb hr hlocks hQ9 (z_nb hz_2) hF hP hD hS dX7_isLength_6
set_option maxHeartbeats 8000000 in
set_option maxRecDepth 100000 in
theorem c_X7_isThickness (l : Launch) (D : va_G) (cI cJ cZ : ClassId)  (l0 : Int32) (sz : Nat) {post : Int32 → Prop} (h : wp_X7_isThickness  l0 post) : Met l yX7_isThickness wsX7_isThickness ({ frames := 1, cells := 0, slots := 0, locals := 22 }) (zPc D cI cJ cZ [.int l0] sz []) (va_Qi (fun (r : Int32) (u : Unit) => post r ) (fun (u : Unit) t => va_P D vwCl [] t.heap ∧ va_D (va_A [] sz) []) (va_A [] sz)) 0 0 (va_A [] sz) := by
  refine Met.ofW (cc := cX7_isThickness) (maxL := 1) (ret := (some .boolean)) (by decide) rfl ?_
  intro p e s m args below meth c s₁ B hml hv
  obtain ⟨rfl, hsz, hP, hE, hD0⟩ := hv
  have hx := B.exec
  have hb := B.bytes
  have hr := B.returns
  have hts := atoms_spec (ws := wsX7_isThickness) B.pre
  have hown : s.vm.findClass RX7 = some m.cls := findClass_of_methodNamed B.named
  have hlocks := B.notSynchronized
  have hK := hE.1
  subst hsz
  have hD := hD0.self (sz := s.heap.size)
  generalize hAe : va_A [] s.heap.size = A at hD ⊢
  have hA : ∀ q : Nat, s.heap.size ≤ q → A q := fun q h => by rw [← hAe]; exact Or.inr h
  have hS : va_S A s.heap s.heap [] := va_S.rf
  have hP : va_P D vwCl [] s.heap := hP
  have hl := lv_entry ([.int l0]) (n := 1) (Nat.le_of_ble_eq_true rfl)
  rw [lg_entry_eq]
  generalize (lg_sl ([.int l0]) ++ List.replicate (1 - (lg_sl ([.int l0])).length) Slot.unset).toArray = ls at hl ⊢
  have hl : lv_has ls 1 [(0, .int l0)] := hl
  generalize hQ9 : MQ below (va_Qi (fun (r : Int32) (u : Unit) => post r ) (fun (u : Unit) t => va_P D vwCl [] t.heap ∧ va_D A []) A) ([.int l0] : List Value).toArray s 0 0 A = Q9
  have hF := h
  unfold wp_X7_isThickness at hF
  refine lv_iload_n hx hb dX7_isThickness_0 rfl (lv_at hl 0 rfl) ?_
  refine lv_iconst (v := (1 : Int32)) hx hb dX7_isThickness_1 (by decide) ?_
  refine lv_bipush (v := (9 : Int32)) hx hb dX7_isThickness_2 (by decide) ?_
  refine z_calli (wr := []) (va_runS (As := [.int l0, .int (1 : Int32), .int (9 : Int32)]) (rest := []) ⟨hx, hb, hml, hown, hts⟩ (c_X7_isWithin l D cI cJ cZ   l0 (1 : Int32) (9 : Int32) s.heap.size hF) (va_cwS 3 hts gX7_isThickness_X7_isWithin rfl rfl rfl (by decide +kernel) ⟨Nat.le_of_ble_eq_true rfl, Nat.le_of_ble_eq_true rfl⟩) (z_preS (wc := []) hP hE hD [] (by decide) rfl) rfl rfl hl.1 rfl (lv_room (Nat.le_of_ble_eq_true rfl)) dX7_isThickness_4 ⟨Nat.le_of_ble_eq_true rfl, Nat.le_of_ble_eq_true rfl⟩) hP hD hS hA [] [] rfl rfl (by decide) (by decide) (fun r_1 u9 H locs hF hP hD hS => ?_)
  have hz_2 := hF.1
  have hF := hF.2
  exact z_zret () hx hb hr hlocks hQ9 (z_nb hz_2) hF hP hD hS dX7_isThickness_7
set_option maxHeartbeats 8000000 in
set_option maxRecDepth 100000 in
theorem c_X7_isWind (l : Launch) (D : va_G) (cI cJ cZ : ClassId)  (l0 : Int32) (sz : Nat) {post : Int32 → Prop} (h : wp_X7_isWind  l0 post) : Met l yX7_isWind wsX7_isWind ({ frames := 1, cells := 0, slots := 0, locals := 22 }) (zPc D cI cJ cZ [.int l0] sz []) (va_Qi (fun (r : Int32) (u : Unit) => post r ) (fun (u : Unit) t => va_P D vwCl [] t.heap ∧ va_D (va_A [] sz) []) (va_A [] sz)) 0 0 (va_A [] sz) := by
  refine Met.ofW (cc := cX7_isWind) (maxL := 1) (ret := (some .boolean)) (by decide) rfl ?_
  intro p e s m args below meth c s₁ B hml hv
  obtain ⟨rfl, hsz, hP, hE, hD0⟩ := hv
  have hx := B.exec
  have hb := B.bytes
  have hr := B.returns
  have hts := atoms_spec (ws := wsX7_isWind) B.pre
  have hown : s.vm.findClass RX7 = some m.cls := findClass_of_methodNamed B.named
  have hlocks := B.notSynchronized
  have hK := hE.1
  subst hsz
  have hD := hD0.self (sz := s.heap.size)
  generalize hAe : va_A [] s.heap.size = A at hD ⊢
  have hA : ∀ q : Nat, s.heap.size ≤ q → A q := fun q h => by rw [← hAe]; exact Or.inr h
  have hS : va_S A s.heap s.heap [] := va_S.rf
  have hP : va_P D vwCl [] s.heap := hP
  have hl := lv_entry ([.int l0]) (n := 1) (Nat.le_of_ble_eq_true rfl)
  rw [lg_entry_eq]
  generalize (lg_sl ([.int l0]) ++ List.replicate (1 - (lg_sl ([.int l0])).length) Slot.unset).toArray = ls at hl ⊢
  have hl : lv_has ls 1 [(0, .int l0)] := hl
  generalize hQ9 : MQ below (va_Qi (fun (r : Int32) (u : Unit) => post r ) (fun (u : Unit) t => va_P D vwCl [] t.heap ∧ va_D A []) A) ([.int l0] : List Value).toArray s 0 0 A = Q9
  have hF := h
  unfold wp_X7_isWind at hF
  refine lv_iload_n hx hb dX7_isWind_0 rfl (lv_at hl 0 rfl) ?_
  refine lv_iconst (v := (0 : Int32)) hx hb dX7_isWind_1 (by decide) ?_
  refine lv_iconst (v := (4 : Int32)) hx hb dX7_isWind_2 (by decide) ?_
  refine z_calli (wr := []) (va_runS (As := [.int l0, .int (0 : Int32), .int (4 : Int32)]) (rest := []) ⟨hx, hb, hml, hown, hts⟩ (c_X7_isWithin l D cI cJ cZ   l0 (0 : Int32) (4 : Int32) s.heap.size hF) (va_cwS 3 hts gX7_isWind_X7_isWithin rfl rfl rfl (by decide +kernel) ⟨Nat.le_of_ble_eq_true rfl, Nat.le_of_ble_eq_true rfl⟩) (z_preS (wc := []) hP hE hD [] (by decide) rfl) rfl rfl hl.1 rfl (lv_room (Nat.le_of_ble_eq_true rfl)) dX7_isWind_3 ⟨Nat.le_of_ble_eq_true rfl, Nat.le_of_ble_eq_true rfl⟩) hP hD hS hA [] [] rfl rfl (by decide) (by decide) (fun r_1 u9 H locs hF hP hD hS => ?_)
  have hz_2 := hF.1
  have hF := hF.2
  exact z_zret () hx hb hr hlocks hQ9 (z_nb hz_2) hF hP hD hS dX7_isWind_6
