def wp_X7_cellOf  (l0 : Int32) (l1 : Int32) (post : Int32 → Prop) : Prop :=
  (post (((10 : Int32) * l0) + l1) )
set_option maxHeartbeats 8000000 in
set_option maxRecDepth 100000 in
theorem c_X7_cellOf (l : Launch) (D : va_G) (cI cJ cZ : ClassId)  (l0 : Int32) (l1 : Int32) (sz : Nat) {post : Int32 → Prop} (h : wp_X7_cellOf  l0 l1 post) : Met l yX7_cellOf wsX7_cellOf ({ frames := 0, cells := 0, slots := 0, locals := 0 }) (zPc D cI cJ cZ [.int l0, .int l1] sz []) (va_Qi (fun (r : Int32) (u : Unit) => post r ) (fun (u : Unit) t => va_P D vwCl [] t.heap ∧ va_D (va_A [] sz) []) (va_A [] sz)) 0 0 (va_A [] sz) := by
  refine Met.ofW (cc := cX7_cellOf) (maxL := 2) (ret := (some .int)) (by decide) rfl ?_
  intro p e s m args below meth c s₁ B hml hv
  obtain ⟨rfl, hsz, hP, hE, hD0⟩ := hv
  have hx := B.exec
  have hb := B.bytes
  have hr := B.returns
  have hts := atoms_spec (ws := wsX7_cellOf) B.pre
  have hown : s.vm.findClass RX7 = some m.cls := findClass_of_methodNamed B.named
  have hlocks := B.notSynchronized
  have hK := hE.1
  subst hsz
  have hD := hD0.self (sz := s.heap.size)
  generalize hAe : va_A [] s.heap.size = A at hD ⊢
  have hA : ∀ q : Nat, s.heap.size ≤ q → A q := fun q h => by rw [← hAe]; exact Or.inr h
  have hS : va_S A s.heap s.heap [] := va_S.rf
  have hP : va_P D vwCl [] s.heap := hP
  have hl := lv_entry ([.int l0, .int l1]) (n := 2) (Nat.le_of_ble_eq_true rfl)
  rw [lg_entry_eq]
  generalize (lg_sl ([.int l0, .int l1]) ++ List.replicate (2 - (lg_sl ([.int l0, .int l1])).length) Slot.unset).toArray = ls at hl ⊢
  have hl : lv_has ls 2 [(0, .int l0), (1, .int l1)] := hl
  generalize hQ9 : MQ below (va_Qi (fun (r : Int32) (u : Unit) => post r ) (fun (u : Unit) t => va_P D vwCl [] t.heap ∧ va_D A []) A) ([.int l0, .int l1] : List Value).toArray s 0 0 A = Q9
  have hF := h
  unfold wp_X7_cellOf at hF
  refine lv_bipush (v := (10 : Int32)) hx hb dX7_cellOf_0 (by decide) ?_
  refine lv_iload_n hx hb dX7_cellOf_2 rfl (lv_at hl 0 rfl) ?_
  refine lv_imul hx hb dX7_cellOf_3 ?_
  refine lv_iload_n hx hb dX7_cellOf_4 rfl (lv_at hl 1 rfl) ?_
  refine lv_iadd hx hb dX7_cellOf_5 ?_
  exact z_iret () hx hb hr hlocks hQ9 hF hP hD hS dX7_cellOf_6
def wp_X7_isWithin  (l0 : Int32) (l1 : Int32) (l2 : Int32) (post : Int32 → Prop) : Prop :=
  ((l0 < l1 → (post (0 : Int32) )) ∧ (¬ l0 < l1 → ((l2 < l0 → (post (0 : Int32) )) ∧ (¬ l2 < l0 → (post (1 : Int32) )))))
set_option maxHeartbeats 8000000 in
set_option maxRecDepth 100000 in
theorem c_X7_isWithin (l : Launch) (D : va_G) (cI cJ cZ : ClassId)  (l0 : Int32) (l1 : Int32) (l2 : Int32) (sz : Nat) {post : Int32 → Prop} (h : wp_X7_isWithin  l0 l1 l2 post) : Met l yX7_isWithin wsX7_isWithin ({ frames := 0, cells := 0, slots := 0, locals := 0 }) (zPc D cI cJ cZ [.int l0, .int l1, .int l2] sz []) (va_Qi (fun (r : Int32) (u : Unit) => post r ) (fun (u : Unit) t => va_P D vwCl [] t.heap ∧ va_D (va_A [] sz) []) (va_A [] sz)) 0 0 (va_A [] sz) := by
  refine Met.ofW (cc := cX7_isWithin) (maxL := 3) (ret := (some .boolean)) (by decide) rfl ?_
  intro p e s m args below meth c s₁ B hml hv
  obtain ⟨rfl, hsz, hP, hE, hD0⟩ := hv
  have hx := B.exec
  have hb := B.bytes
  have hr := B.returns
  have hts := atoms_spec (ws := wsX7_isWithin) B.pre
  have hown : s.vm.findClass RX7 = some m.cls := findClass_of_methodNamed B.named
  have hlocks := B.notSynchronized
  have hK := hE.1
  subst hsz
  have hD := hD0.self (sz := s.heap.size)
  generalize hAe : va_A [] s.heap.size = A at hD ⊢
  have hA : ∀ q : Nat, s.heap.size ≤ q → A q := fun q h => by rw [← hAe]; exact Or.inr h
  have hS : va_S A s.heap s.heap [] := va_S.rf
  have hP : va_P D vwCl [] s.heap := hP
  have hl := lv_entry ([.int l0, .int l1, .int l2]) (n := 3) (Nat.le_of_ble_eq_true rfl)
  rw [lg_entry_eq]
  generalize (lg_sl ([.int l0, .int l1, .int l2]) ++ List.replicate (3 - (lg_sl ([.int l0, .int l1, .int l2])).length) Slot.unset).toArray = ls at hl ⊢
  have hl : lv_has ls 3 [(0, .int l0), (1, .int l1), (2, .int l2)] := hl
  generalize hQ9 : MQ below (va_Qi (fun (r : Int32) (u : Unit) => post r ) (fun (u : Unit) t => va_P D vwCl [] t.heap ∧ va_D A []) A) ([.int l0, .int l1, .int l2] : List Value).toArray s 0 0 A = Q9
  have hF := h
  unfold wp_X7_isWithin at hF
  refine lv_iload_n hx hb dX7_isWithin_0 rfl (lv_at hl 0 rfl) ?_
  refine lv_iload_n hx hb dX7_isWithin_1 rfl (lv_at hl 1 rfl) ?_
  refine lv_icmp_lt (tgt := 14) hx hb dX7_isWithin_2 (by decide) (fun cc_1 => ?_) (fun cc_1 => ?_)
  · have hF := hF.1 cc_1
    refine lv_iconst (v := (0 : Int32)) hx hb dX7_isWithin_14 (by decide) ?_
    exact z_zret () hx hb hr hlocks hQ9 (z_nb z_01) hF hP hD hS dX7_isWithin_15
  · have hF := hF.2 cc_1
    refine lv_iload_n hx hb dX7_isWithin_5 rfl (lv_at hl 0 rfl) ?_
    refine lv_iload_n hx hb dX7_isWithin_6 rfl (lv_at hl 2 rfl) ?_
    refine lv_icmp_gt (tgt := 14) hx hb dX7_isWithin_7 (by decide) (fun cc_2 => ?_) (fun cc_2 => ?_)
    · have hF := hF.1 cc_2
      refine lv_iconst (v := (0 : Int32)) hx hb dX7_isWithin_14 (by decide) ?_
      exact z_zret () hx hb hr hlocks hQ9 (z_nb z_01) hF hP hD hS dX7_isWithin_15
    · have hF := hF.2 cc_2
      refine lv_iconst (v := (1 : Int32)) hx hb dX7_isWithin_10 (by decide) ?_
      refine lv_goto (tgt := 15) hx hb dX7_isWithin_11 (by decide) ?_
      exact z_zret () hx hb hr hlocks hQ9 (z_nb z_11) hF hP hD hS dX7_isWithin_15
def wp_X7_rowOf  (l0 : Int32) (post : Int32 → Prop) : Prop :=
  (post (jirem l0 (10 : Int32)) )
set_option maxHeartbeats 8000000 in
set_option maxRecDepth 100000 in
theorem c_X7_rowOf (l : Launch) (D : va_G) (cI cJ cZ : ClassId)  (l0 : Int32) (sz : Nat) {post : Int32 → Prop} (h : wp_X7_rowOf  l0 post) : Met l yX7_rowOf wsX7_rowOf ({ frames := 0, cells := 0, slots := 0, locals := 0 }) (zPc D cI cJ cZ [.int l0] sz []) (va_Qi (fun (r : Int32) (u : Unit) => post r ) (fun (u : Unit) t => va_P D vwCl [] t.heap ∧ va_D (va_A [] sz) []) (va_A [] sz)) 0 0 (va_A [] sz) := by
  refine Met.ofW (cc := cX7_rowOf) (maxL := 1) (ret := (some .int)) (by decide) rfl ?_
  intro p e s m args below meth c s₁ B hml hv
  obtain ⟨rfl, hsz, hP, hE, hD0⟩ := hv
  have hx := B.exec
  have hb := B.bytes
  have hr := B.returns
  have hts := atoms_spec (ws := wsX7_rowOf) B.pre
  have hown : s.vm.findClass RX7 = some m.cls := findClass_of_methodNamed B.named
  have hlocks := B.notSynchronized
  have hK := hE.1
  subst hsz
  have hD := hD0.self (sz := s.heap.size)
  generalize hAe : va_A [] s.heap.size = A at hD ⊢
  have hA : ∀ q : Nat, s.heap.size ≤ q → A q := fun q h => by rw [← hAe]; exact Or.inr h
  have hS : va_S A s.heap s.heap [] := va_S.rf
  have hP : va_P D vwCl [] s.heap := hP
  have hl := lv_entry ([.int l0]) (n := 1) (Nat.le_of_ble_eq_true rfl)
  rw [lg_entry_eq]
  generalize (lg_sl ([.int l0]) ++ List.replicate (1 - (lg_sl ([.int l0])).length) Slot.unset).toArray = ls at hl ⊢
  have hl : lv_has ls 1 [(0, .int l0)] := hl
  generalize hQ9 : MQ below (va_Qi (fun (r : Int32) (u : Unit) => post r ) (fun (u : Unit) t => va_P D vwCl [] t.heap ∧ va_D A []) A) ([.int l0] : List Value).toArray s 0 0 A = Q9
  have hF := h
  unfold wp_X7_rowOf at hF
  refine lv_iload_n hx hb dX7_rowOf_0 rfl (lv_at hl 0 rfl) ?_
  refine lv_bipush (v := (10 : Int32)) hx hb dX7_rowOf_1 (by decide) ?_
  refine lv_irem hx hb dX7_rowOf_3 (by decide) ?_
  exact z_iret () hx hb hr hlocks hQ9 hF hP hD hS dX7_rowOf_4
def wp_X7_columnOf  (l0 : Int32) (post : Int32 → Prop) : Prop :=
  (post (l0 / (10 : Int32)) )
set_option maxHeartbeats 8000000 in
set_option maxRecDepth 100000 in
theorem c_X7_columnOf (l : Launch) (D : va_G) (cI cJ cZ : ClassId)  (l0 : Int32) (sz : Nat) {post : Int32 → Prop} (h : wp_X7_columnOf  l0 post) : Met l yX7_columnOf wsX7_columnOf ({ frames := 0, cells := 0, slots := 0, locals := 0 }) (zPc D cI cJ cZ [.int l0] sz []) (va_Qi (fun (r : Int32) (u : Unit) => post r ) (fun (u : Unit) t => va_P D vwCl [] t.heap ∧ va_D (va_A [] sz) []) (va_A [] sz)) 0 0 (va_A [] sz) := by
  refine Met.ofW (cc := cX7_columnOf) (maxL := 1) (ret := (some .int)) (by decide) rfl ?_
  intro p e s m args below meth c s₁ B hml hv
  obtain ⟨rfl, hsz, hP, hE, hD0⟩ := hv
  have hx := B.exec
  have hb := B.bytes
  have hr := B.returns
  have hts := atoms_spec (ws := wsX7_columnOf) B.pre
  have hown : s.vm.findClass RX7 = some m.cls := findClass_of_methodNamed B.named
  have hlocks := B.notSynchronized
  have hK := hE.1
  subst hsz
  have hD := hD0.self (sz := s.heap.size)
  generalize hAe : va_A [] s.heap.size = A at hD ⊢
  have hA : ∀ q : Nat, s.heap.size ≤ q → A q := fun q h => by rw [← hAe]; exact Or.inr h
  have hS : va_S A s.heap s.heap [] := va_S.rf
  have hP : va_P D vwCl [] s.heap := hP
  have hl := lv_entry ([.int l0]) (n := 1) (Nat.le_of_ble_eq_true rfl)
  rw [lg_entry_eq]
  generalize (lg_sl ([.int l0]) ++ List.replicate (1 - (lg_sl ([.int l0])).length) Slot.unset).toArray = ls at hl ⊢
  have hl : lv_has ls 1 [(0, .int l0)] := hl
  generalize hQ9 : MQ below (va_Qi (fun (r : Int32) (u : Unit) => post r ) (fun (u : Unit) t => va_P D vwCl [] t.heap ∧ va_D A []) A) ([.int l0] : List Value).toArray s 0 0 A = Q9
  have hF := h
  unfold wp_X7_columnOf at hF
  refine lv_iload_n hx hb dX7_columnOf_0 rfl (lv_at hl 0 rfl) ?_
  refine lv_bipush (v := (10 : Int32)) hx hb dX7_columnOf_1 (by decide) ?_
  refine lv_idiv hx hb dX7_columnOf_3 (by decide) ?_
  exact z_iret () hx hb hr hlocks hQ9 hF hP hD hS dX7_columnOf_4
def wp_X7_isIn  (l0 : Int64) (l2 : Int32) (post : Int32 → Prop) : Prop :=
  ((((jlushr l0 l2) &&& (1 : Int64)) = (0 : Int64) → (post (0 : Int32) )) ∧ (¬ ((jlushr l0 l2) &&& (1 : Int64)) = (0 : Int64) → (post (1 : Int32) )))
set_option maxHeartbeats 8000000 in
set_option maxRecDepth 100000 in
theorem c_X7_isIn (l : Launch) (D : va_G) (cI cJ cZ : ClassId)  (l0 : Int64) (l2 : Int32) (sz : Nat) {post : Int32 → Prop} (h : wp_X7_isIn  l0 l2 post) : Met l yX7_isIn wsX7_isIn ({ frames := 0, cells := 0, slots := 0, locals := 0 }) (zPc D cI cJ cZ [.long l0, .int l2] sz []) (va_Qi (fun (r : Int32) (u : Unit) => post r ) (fun (u : Unit) t => va_P D vwCl [] t.heap ∧ va_D (va_A [] sz) []) (va_A [] sz)) 0 0 (va_A [] sz) := by
  refine Met.ofW (cc := cX7_isIn) (maxL := 3) (ret := (some .boolean)) (by decide) rfl ?_
  intro p e s m args below meth c s₁ B hml hv
  obtain ⟨rfl, hsz, hP, hE, hD0⟩ := hv
  have hx := B.exec
  have hb := B.bytes
  have hr := B.returns
  have hts := atoms_spec (ws := wsX7_isIn) B.pre
  have hown : s.vm.findClass RX7 = some m.cls := findClass_of_methodNamed B.named
  have hlocks := B.notSynchronized
  have hK := hE.1
  subst hsz
  have hD := hD0.self (sz := s.heap.size)
  generalize hAe : va_A [] s.heap.size = A at hD ⊢
  have hA : ∀ q : Nat, s.heap.size ≤ q → A q := fun q h => by rw [← hAe]; exact Or.inr h
  have hS : va_S A s.heap s.heap [] := va_S.rf
  have hP : va_P D vwCl [] s.heap := hP
  have hl := lv_entry ([.long l0, .int l2]) (n := 3) (Nat.le_of_ble_eq_true rfl)
  rw [lg_entry_eq]
  generalize (lg_sl ([.long l0, .int l2]) ++ List.replicate (3 - (lg_sl ([.long l0, .int l2])).length) Slot.unset).toArray = ls at hl ⊢
  have hl : lv_has ls 3 [(0, .long l0), (2, .int l2)] := hl
  generalize hQ9 : MQ below (va_Qi (fun (r : Int32) (u : Unit) => post r ) (fun (u : Unit) t => va_P D vwCl [] t.heap ∧ va_D A []) A) ([.long l0, .int l2] : List Value).toArray s 0 0 A = Q9
  have hF := h
  unfold wp_X7_isIn at hF
  refine lv_lload_n hx hb dX7_isIn_0 rfl (lv_at hl 0 rfl) ?_
  refine lv_iload_n hx hb dX7_isIn_1 rfl (lv_at hl 1 rfl) ?_
  refine lv_lushr (v := (jlushr l0 l2)) hx hb dX7_isIn_2 rfl ?_
  refine lv_lconst (v := (1 : Int64)) hx hb dX7_isIn_3 (by decide) ?_
  refine lv_land hx hb dX7_isIn_4 ?_
  refine lv_lconst (v := (0 : Int64)) hx hb dX7_isIn_5 (by decide) ?_
  refine W.lcmp hx hb dX7_isIn_6 ?_
  refine lv_if_eq (tgt := 14) hx hb dX7_isIn_7 (by decide) (fun cc_1 => ?_) (fun cc_1 => ?_)
  · have hF := hF.1 (z_cmp_eq.mp cc_1)
    refine lv_iconst (v := (0 : Int32)) hx hb dX7_isIn_14 (by decide) ?_
    exact z_zret () hx hb hr hlocks hQ9 (z_nb z_01) hF hP hD hS dX7_isIn_15
  · have hF := hF.2 (fun h9 => cc_1 (z_cmp_eq.mpr h9))
    refine lv_iconst (v := (1 : Int32)) hx hb dX7_isIn_10 (by decide) ?_
    refine lv_goto (tgt := 15) hx hb dX7_isIn_11 (by decide) ?_
    exact z_zret () hx hb hr hlocks hQ9 (z_nb z_11) hF hP hD hS dX7_isIn_15
def wp_J13_bitCount_95d88  (l0 : Int64) (post : Int32 → Prop) : Prop :=
  (∀ l0_1 : Int64, l0_1 = (l0 - ((jlushr l0 (1 : Int32)) &&& (6148914691236517205 : Int64))) → (∀ l0_2 : Int64, l0_2 = ((l0_1 &&& (3689348814741910323 : Int64)) + ((jlushr l0_1 (2 : Int32)) &&& (3689348814741910323 : Int64))) → (∀ l0_3 : Int64, l0_3 = ((l0_2 + (jlushr l0_2 (4 : Int32))) &&& (1085102592571150095 : Int64)) → (∀ l0_4 : Int64, l0_4 = ((l0_3 + (jlushr l0_3 (8 : Int32))) + (jlushr (l0_3 + (jlushr l0_3 (8 : Int32))) (16 : Int32))) → (post (((l0_4 + (jlushr l0_4 (32 : Int32))).toInt32) &&& (127 : Int32)) )))))
set_option maxHeartbeats 8000000 in
set_option maxRecDepth 100000 in
theorem c_J13_bitCount_95d88 (l : Launch) (D : va_G) (cI cJ cZ : ClassId)  (l0 : Int64) (sz : Nat) {post : Int32 → Prop} (h : wp_J13_bitCount_95d88  l0 post) : Met l yJ13_bitCount_95d88 wsJ13_bitCount_95d88 ({ frames := 0, cells := 0, slots := 0, locals := 0 }) (zPc D cI cJ cZ [.long l0] sz []) (va_Qi (fun (r : Int32) (u : Unit) => post r ) (fun (u : Unit) t => va_P D vwCl [] t.heap ∧ va_D (va_A [] sz) []) (va_A [] sz)) 0 0 (va_A [] sz) := by
  refine Met.ofW (cc := cJ13_bitCount_95d88) (maxL := 2) (ret := (some .int)) (by decide) rfl ?_
  intro p e s m args below meth c s₁ B hml hv
  obtain ⟨rfl, hsz, hP, hE, hD0⟩ := hv
  have hx := B.exec
  have hb := B.bytes
  have hr := B.returns
  have hts := atoms_spec (ws := wsJ13_bitCount_95d88) B.pre
  have hown : s.vm.findClass RJ13 = some m.cls := findClass_of_methodNamed B.named
  have hlocks := B.notSynchronized
  have hK := hE.1
  subst hsz
  have hD := hD0.self (sz := s.heap.size)
  generalize hAe : va_A [] s.heap.size = A at hD ⊢
  have hA : ∀ q : Nat, s.heap.size ≤ q → A q := fun q h => by rw [← hAe]; exact Or.inr h
  have hS : va_S A s.heap s.heap [] := va_S.rf
  have hP : va_P D vwCl [] s.heap := hP
  have hl := lv_entry ([.long l0]) (n := 2) (Nat.le_of_ble_eq_true rfl)
  rw [lg_entry_eq]
  generalize (lg_sl ([.long l0]) ++ List.replicate (2 - (lg_sl ([.long l0])).length) Slot.unset).toArray = ls at hl ⊢
  have hl : lv_has ls 2 [(0, .long l0)] := hl
  generalize hQ9 : MQ below (va_Qi (fun (r : Int32) (u : Unit) => post r ) (fun (u : Unit) t => va_P D vwCl [] t.heap ∧ va_D A []) A) ([.long l0] : List Value).toArray s 0 0 A = Q9
  have hf_314 := hts (.constantLong RJ13 314 (6148914691236517205)) (by decide +kernel)
  have hf_316 := hts (.constantLong RJ13 316 (3689348814741910323)) (by decide +kernel)
  have hf_318 := hts (.constantLong RJ13 318 (1085102592571150095)) (by decide +kernel)
  have hF := h
  unfold wp_J13_bitCount_95d88 at hF
  refine lv_lload_n hx hb dJ13_bitCount_95d88_0 rfl (lv_at hl 0 rfl) ?_
  refine lv_lload_n hx hb dJ13_bitCount_95d88_1 rfl (lv_at hl 0 rfl) ?_
  refine lv_iconst (v := (1 : Int32)) hx hb dJ13_bitCount_95d88_2 (by decide) ?_
  refine lv_lushr (v := (jlushr l0 (1 : Int32))) hx hb dJ13_bitCount_95d88_3 rfl ?_
  refine lv_ldc2 (v := (6148914691236517205 : Int64)) hx hb hown hf_314 dJ13_bitCount_95d88_4 ?_
  refine lv_land hx hb dJ13_bitCount_95d88_7 ?_
  refine lv_lsub hx hb dJ13_bitCount_95d88_8 ?_
  refine lv_topl (fun l0_1 e_l0_1 => ?_)
  have hF := hF l0_1 e_l0_1
  refine lv_lstore_n (lv' := [(0, .long l0_1)]) hx hb dJ13_bitCount_95d88_9 rfl hl (by decide) rfl (fun ls hl => ?_)
  refine lv_lload_n hx hb dJ13_bitCount_95d88_10 rfl (lv_at hl 0 rfl) ?_
  refine lv_ldc2 (v := (3689348814741910323 : Int64)) hx hb hown hf_316 dJ13_bitCount_95d88_11 ?_
  refine lv_land hx hb dJ13_bitCount_95d88_14 ?_
  refine lv_lload_n hx hb dJ13_bitCount_95d88_15 rfl (lv_at hl 0 rfl) ?_
  refine lv_iconst (v := (2 : Int32)) hx hb dJ13_bitCount_95d88_16 (by decide) ?_
  refine lv_lushr (v := (jlushr l0_1 (2 : Int32))) hx hb dJ13_bitCount_95d88_17 rfl ?_
  refine lv_ldc2 (v := (3689348814741910323 : Int64)) hx hb hown hf_316 dJ13_bitCount_95d88_18 ?_
  refine lv_land hx hb dJ13_bitCount_95d88_21 ?_
  refine lv_ladd hx hb dJ13_bitCount_95d88_22 ?_
  refine lv_topl (fun l0_2 e_l0_2 => ?_)
  have hF := hF l0_2 e_l0_2
  refine lv_lstore_n (lv' := [(0, .long l0_2)]) hx hb dJ13_bitCount_95d88_23 rfl hl (by decide) rfl (fun ls hl => ?_)
  refine lv_lload_n hx hb dJ13_bitCount_95d88_24 rfl (lv_at hl 0 rfl) ?_
  refine lv_lload_n hx hb dJ13_bitCount_95d88_25 rfl (lv_at hl 0 rfl) ?_
  refine lv_iconst (v := (4 : Int32)) hx hb dJ13_bitCount_95d88_26 (by decide) ?_
  refine lv_lushr (v := (jlushr l0_2 (4 : Int32))) hx hb dJ13_bitCount_95d88_27 rfl ?_
  refine lv_ladd hx hb dJ13_bitCount_95d88_28 ?_
  refine lv_ldc2 (v := (1085102592571150095 : Int64)) hx hb hown hf_318 dJ13_bitCount_95d88_29 ?_
  refine lv_land hx hb dJ13_bitCount_95d88_32 ?_
  refine lv_topl (fun l0_3 e_l0_3 => ?_)
  have hF := hF l0_3 e_l0_3
  refine lv_lstore_n (lv' := [(0, .long l0_3)]) hx hb dJ13_bitCount_95d88_33 rfl hl (by decide) rfl (fun ls hl => ?_)
  refine lv_lload_n hx hb dJ13_bitCount_95d88_34 rfl (lv_at hl 0 rfl) ?_
  refine lv_lload_n hx hb dJ13_bitCount_95d88_35 rfl (lv_at hl 0 rfl) ?_
  refine lv_bipush (v := (8 : Int32)) hx hb dJ13_bitCount_95d88_36 (by decide) ?_
  refine lv_lushr (v := (jlushr l0_3 (8 : Int32))) hx hb dJ13_bitCount_95d88_38 rfl ?_
  refine lv_ladd hx hb dJ13_bitCount_95d88_39 ?_
  refine lv_lstore_n (lv' := [(0, .long (l0_3 + (jlushr l0_3 (8 : Int32))))]) hx hb dJ13_bitCount_95d88_40 rfl hl (by decide) rfl (fun ls hl => ?_)
  refine lv_lload_n hx hb dJ13_bitCount_95d88_41 rfl (lv_at hl 0 rfl) ?_
  refine lv_lload_n hx hb dJ13_bitCount_95d88_42 rfl (lv_at hl 0 rfl) ?_
  refine lv_bipush (v := (16 : Int32)) hx hb dJ13_bitCount_95d88_43 (by decide) ?_
  refine lv_lushr (v := (jlushr (l0_3 + (jlushr l0_3 (8 : Int32))) (16 : Int32))) hx hb dJ13_bitCount_95d88_45 rfl ?_
  refine lv_ladd hx hb dJ13_bitCount_95d88_46 ?_
  refine lv_topl (fun l0_4 e_l0_4 => ?_)
  have hF := hF l0_4 e_l0_4
  refine lv_lstore_n (lv' := [(0, .long l0_4)]) hx hb dJ13_bitCount_95d88_47 rfl hl (by decide) rfl (fun ls hl => ?_)
  refine lv_lload_n hx hb dJ13_bitCount_95d88_48 rfl (lv_at hl 0 rfl) ?_
  refine lv_lload_n hx hb dJ13_bitCount_95d88_49 rfl (lv_at hl 0 rfl) ?_
  refine lv_bipush (v := (32 : Int32)) hx hb dJ13_bitCount_95d88_50 (by decide) ?_
  refine lv_lushr (v := (jlushr l0_4 (32 : Int32))) hx hb dJ13_bitCount_95d88_52 rfl ?_
  refine lv_ladd hx hb dJ13_bitCount_95d88_53 ?_
  refine lv_lstore_n (lv' := [(0, .long (l0_4 + (jlushr l0_4 (32 : Int32))))]) hx hb dJ13_bitCount_95d88_54 rfl hl (by decide) rfl (fun ls hl => ?_)
  refine lv_lload_n hx hb dJ13_bitCount_95d88_55 rfl (lv_at hl 0 rfl) ?_
  refine lv_l2i (v := ((l0_4 + (jlushr l0_4 (32 : Int32))).toInt32)) hx hb dJ13_bitCount_95d88_56 rfl ?_
  refine lv_bipush (v := (127 : Int32)) hx hb dJ13_bitCount_95d88_57 (by decide) ?_
  refine lv_iand hx hb dJ13_bitCount_95d88_59 ?_
  exact z_iret () hx hb hr hlocks hQ9 hF hP hD hS dJ13_bitCount_95d88_60
def bd_X7_greatest_5 (post : Int32 → Prop) (rec_5 : Int64 → Int32 → Prop) : Int64 → Int32 → Prop := fun l2_1 l4_2 =>
  (((64 : Int32) ≤ l4_2 → ((¬ l2_1 = (0 : Int64) → (wp_J13_bitCount_95d88  l2_1 (fun (r_5 : Int32) => (post (r_5 - (1 : Int32)) )))) ∧ (l2_1 = (0 : Int64) → (post (-9 : Int32) )))) ∧ (¬ (64 : Int32) ≤ l4_2 → (rec_5 (l2_1 ||| (jlushr l2_1 l4_2)) (l4_2 + l4_2))))
def wp_X7_greatest  (l0 : Int64) (post : Int32 → Prop) : Prop :=
  (zl2 (bd_X7_greatest_5 post) l0 (1 : Int32))
set_option maxHeartbeats 8000000 in
set_option maxRecDepth 100000 in
theorem c_X7_greatest (l : Launch) (D : va_G) (cI cJ cZ : ClassId)  (l0 : Int64) (sz : Nat) {post : Int32 → Prop} (h : wp_X7_greatest  l0 post) : Met l yX7_greatest wsX7_greatest ({ frames := 1, cells := 0, slots := 0, locals := 21 }) (zPc D cI cJ cZ [.long l0] sz []) (va_Qi (fun (r : Int32) (u : Unit) => post r ) (fun (u : Unit) t => va_P D vwCl [] t.heap ∧ va_D (va_A [] sz) []) (va_A [] sz)) 0 0 (va_A [] sz) := by
  refine Met.ofW (cc := cX7_greatest) (maxL := 5) (ret := (some .int)) (by decide) rfl ?_
  intro p e s m args below meth c s₁ B hml hv
  obtain ⟨rfl, hsz, hP, hE, hD0⟩ := hv
  have hx := B.exec
  have hb := B.bytes
  have hr := B.returns
  have hts := atoms_spec (ws := wsX7_greatest) B.pre
  have hown : s.vm.findClass RX7 = some m.cls := findClass_of_methodNamed B.named
  have hlocks := B.notSynchronized
  have hK := hE.1
  subst hsz
  have hD := hD0.self (sz := s.heap.size)
  generalize hAe : va_A [] s.heap.size = A at hD ⊢
  have hA : ∀ q : Nat, s.heap.size ≤ q → A q := fun q h => by rw [← hAe]; exact Or.inr h
  have hS : va_S A s.heap s.heap [] := va_S.rf
  have hP : va_P D vwCl [] s.heap := hP
  have hl := lv_entry ([.long l0]) (n := 5) (Nat.le_of_ble_eq_true rfl)
  rw [lg_entry_eq]
  generalize (lg_sl ([.long l0]) ++ List.replicate (5 - (lg_sl ([.long l0])).length) Slot.unset).toArray = ls at hl ⊢
  have hl : lv_has ls 5 [(0, .long l0)] := hl
  generalize hQ9 : MQ below (va_Qi (fun (r : Int32) (u : Unit) => post r ) (fun (u : Unit) t => va_P D vwCl [] t.heap ∧ va_D A []) A) ([.long l0] : List Value).toArray s 0 0 A = Q9
  have hF := h
  unfold wp_X7_greatest at hF
  refine lv_lload_n hx hb dX7_greatest_0 rfl (lv_at hl 0 rfl) ?_
  refine lv_lstore_n (lv' := [(2, .long l0), (0, .long l0)]) hx hb dX7_greatest_1 rfl hl (by decide) rfl (fun ls hl => ?_)
  refine lv_iconst (v := (1 : Int32)) hx hb dX7_greatest_2 (by decide) ?_
  refine lv_istore (lv' := [(4, .int (1 : Int32)), (2, .long l0), (0, .long l0)]) hx hb dX7_greatest_3 hl (by decide) rfl (fun ls hl => ?_)
  obtain ⟨I_5, μ_5, hI_5, hs_5⟩ := hF
  have hlp_5 : ∀ (n : Nat) (l2_1 : Int64) (l4_2 : Int32), I_5 l2_1 l4_2 → μ_5 l2_1 l4_2 < n → ∀ (H : Heap) (locs : List Loc), va_P D vwCl [] H → va_D A [] → va_S A s.heap H locs → ∀ ls : Array Slot, lv_has ls 5 [(2, .long l2_1), (4, .int l4_2)] → W p l e ({ frames := 1, cells := 0, slots := 0, locals := 21 } : Room) s m ([.long l0] : List Value).toArray below meth c H locs 0 0 Q9 (F0 m 5 ls []) := by
    intro n
    induction n with
    | zero => intro l2_1 l4_2 _ hn; exact absurd hn (Nat.not_lt_zero _)
    | succ n ih_5 =>
      intro l2_1 l4_2 hI9 hn_5 H locs hP hD hS ls hl
      have hF := hs_5 l2_1 l4_2 hI9
      unfold bd_X7_greatest_5 at hF
      refine lv_iload hx hb dX7_greatest_5 (lv_at hl 1 rfl) ?_
      refine lv_bipush (v := (64 : Int32)) hx hb dX7_greatest_7 (by decide) ?_
      refine lv_icmp_ge (tgt := 29) hx hb dX7_greatest_9 (by decide) (fun cc_3 => ?_) (fun cc_3 => ?_)
      · have hF := hF.1 cc_3
        refine lv_lload_n hx hb dX7_greatest_29 rfl (lv_at hl 0 rfl) ?_
        refine lv_lconst (v := (0 : Int64)) hx hb dX7_greatest_30 (by decide) ?_
        refine W.lcmp hx hb dX7_greatest_31 ?_
        refine lv_if_ne (tgt := 40) hx hb dX7_greatest_32 (by decide) (fun cc_4 => ?_) (fun cc_4 => ?_)
        · have hF := hF.1 (fun h9 => cc_4 (z_cmp_eq.mpr h9))
          refine lv_lload_n hx hb dX7_greatest_40 rfl (lv_at hl 0 rfl) ?_
          refine z_calli (wr := []) (va_runS (As := [.long l2_1]) (rest := []) ⟨hx, hb, hml, hown, hts⟩ (c_J13_bitCount_95d88 l D cI cJ cZ   l2_1 H.size hF) (va_cwS 1 hts gX7_greatest_J13_bitCount_95d88 rfl rfl rfl (by decide +kernel) ⟨Nat.le_of_ble_eq_true rfl, Nat.le_of_ble_eq_true rfl⟩) (z_preS (wc := []) hP hE hD [] (by decide) rfl) rfl rfl hl.1 rfl (lv_room (Nat.le_of_ble_eq_true rfl)) dX7_greatest_41 ⟨Nat.le_of_ble_eq_true rfl, Nat.le_of_ble_eq_true rfl⟩) hP hD hS hA [] [] rfl rfl (by decide) (by decide) (fun r_5 u9 H locs hF hP hD hS => ?_)
          refine lv_iconst (v := (1 : Int32)) hx hb dX7_greatest_44 (by decide) ?_
          refine lv_isub hx hb dX7_greatest_45 ?_
          exact z_iret () hx hb hr hlocks hQ9 hF hP hD hS dX7_greatest_46
        · have hF := hF.2 (z_cmp_eq.mp (Decidable.not_not.mp cc_4))
          refine lv_bipush (v := (-9 : Int32)) hx hb dX7_greatest_35 (by decide) ?_
          refine lv_goto (tgt := 46) hx hb dX7_greatest_37 (by decide) ?_
          exact z_iret () hx hb hr hlocks hQ9 hF hP hD hS dX7_greatest_46
      · have hF := hF.2 cc_3
        refine lv_lload_n hx hb dX7_greatest_12 rfl (lv_at hl 0 rfl) ?_
        refine lv_lload_n hx hb dX7_greatest_13 rfl (lv_at hl 0 rfl) ?_
        refine lv_iload hx hb dX7_greatest_14 (lv_at hl 1 rfl) ?_
        refine lv_lushr (v := (jlushr l2_1 l4_2)) hx hb dX7_greatest_16 rfl ?_
        refine lv_lor hx hb dX7_greatest_17 ?_
        refine lv_lstore_n (lv' := [(2, .long (l2_1 ||| (jlushr l2_1 l4_2))), (4, .int l4_2)]) hx hb dX7_greatest_18 rfl hl (by decide) rfl (fun ls hl => ?_)
        refine lv_iload hx hb dX7_greatest_19 (lv_at hl 1 rfl) ?_
        refine lv_iload hx hb dX7_greatest_21 (lv_at hl 1 rfl) ?_
        refine lv_iadd hx hb dX7_greatest_23 ?_
        refine lv_istore (lv' := [(4, .int (l4_2 + l4_2)), (2, .long (l2_1 ||| (jlushr l2_1 l4_2)))]) hx hb dX7_greatest_24 hl (by decide) rfl (fun ls hl => ?_)
        refine lv_goto (tgt := 5) hx hb dX7_greatest_26 (by decide) ?_
        exact ih_5 (l2_1 ||| (jlushr l2_1 l4_2)) (l4_2 + l4_2) hF.1 (Nat.lt_of_lt_of_le hF.2 (Nat.le_of_lt_succ hn_5)) _ _ hP hD hS ls (lv_sub hl [1, 0] rfl)
  exact hlp_5 _ l0 (1 : Int32) hI_5 (Nat.lt_succ_self _) _ _ hP hD hS ls (lv_sub hl [1, 0] rfl)
def wp_X3_hasColumn (F_columns : Int32) (l1 : Int32) (post : Int32 → Prop) : Prop :=
  (wp_X7_isWithin  l1 (0 : Int32) (F_columns - (1 : Int32)) (fun (r_1 : Int32) => ((r_1 = 0 ∨ r_1 = 1) ∧ (post r_1 ))))
set_option maxHeartbeats 8000000 in
set_option maxRecDepth 100000 in
theorem c_X3_hasColumn (l : Launch) (D : va_G) (cI cJ cZ : ClassId) (p_F p_F_cells p_F_wearing p_F_turning : Nat) (F_columns : Int32) (F_rows : Int32) (F_steepness : Int32) (F_size : Int32) (l1 : Int32) (sz : Nat) {post : Int32 → Prop} (h : wp_X3_hasColumn F_columns l1 post) : Met l yX3_hasColumn wsX3_hasColumn ({ frames := 1, cells := 0, slots := 0, locals := 22 }) (zPc D cI cJ cZ [.ref p_F, .int l1] sz [(p_F, .inr (2, [.int F_columns, .int F_rows, .int F_steepness, .int F_size, .ref p_F_cells, .ref p_F_wearing, .ref p_F_turning]))]) (va_Qi (fun (r : Int32) (u : Unit) => post r ) (fun (u : Unit) t => va_P D vwCl [(p_F, .inr (2, [.int F_columns, .int F_rows, .int F_steepness, .int F_size, .ref p_F_cells, .ref p_F_wearing, .ref p_F_turning]))] t.heap ∧ va_D (va_A [(p_F, .inr (2, [.int F_columns, .int F_rows, .int F_steepness, .int F_size, .ref p_F_cells, .ref p_F_wearing, .ref p_F_turning]))] sz) [(p_F, .inr (2, [.int F_columns, .int F_rows, .int F_steepness, .int F_size, .ref p_F_cells, .ref p_F_wearing, .ref p_F_turning]))]) (va_A [(p_F, .inr (2, [.int F_columns, .int F_rows, .int F_steepness, .int F_size, .ref p_F_cells, .ref p_F_wearing, .ref p_F_turning]))] sz)) 0 0 (va_A [(p_F, .inr (2, [.int F_columns, .int F_rows, .int F_steepness, .int F_size, .ref p_F_cells, .ref p_F_wearing, .ref p_F_turning]))] sz) := by
  refine Met.ofW (cc := cX3_hasColumn) (maxL := 2) (ret := (some .boolean)) (by decide) rfl ?_
  intro p e s m args below meth c s₁ B hml hv
  obtain ⟨rfl, hsz, hP, hE, hD0⟩ := hv
  have hx := B.exec
  have hb := B.bytes
  have hr := B.returns
  have hts := atoms_spec (ws := wsX3_hasColumn) B.pre
  have hown : s.vm.findClass RX3 = some m.cls := findClass_of_methodNamed B.named
  have hlocks := B.notSynchronized
  have hK := hE.1
  subst hsz
  have hD := hD0.self (sz := s.heap.size)
  generalize hAe : va_A [(p_F, .inr (2, [.int F_columns, .int F_rows, .int F_steepness, .int F_size, .ref p_F_cells, .ref p_F_wearing, .ref p_F_turning]))] s.heap.size = A at hD ⊢
  have hA : ∀ q : Nat, s.heap.size ≤ q → A q := fun q h => by rw [← hAe]; exact Or.inr h
  have hS : va_S A s.heap s.heap [] := va_S.rf
  have hP : va_P D vwCl [(p_F, .inr (2, [.int F_columns, .int F_rows, .int F_steepness, .int F_size, .ref p_F_cells, .ref p_F_wearing, .ref p_F_turning]))] s.heap := hP
  have hl := lv_entry ([.ref p_F, .int l1]) (n := 2) (Nat.le_of_ble_eq_true rfl)
  rw [lg_entry_eq]
  generalize (lg_sl ([.ref p_F, .int l1]) ++ List.replicate (2 - (lg_sl ([.ref p_F, .int l1])).length) Slot.unset).toArray = ls at hl ⊢
  have hl : lv_has ls 2 [(0, .ref p_F), (1, .int l1)] := hl
  generalize hQ9 : MQ below (va_Qi (fun (r : Int32) (u : Unit) => post r ) (fun (u : Unit) t => va_P D vwCl [(p_F, .inr (2, [.int F_columns, .int F_rows, .int F_steepness, .int F_size, .ref p_F_cells, .ref p_F_wearing, .ref p_F_turning]))] t.heap ∧ va_D A [(p_F, .inr (2, [.int F_columns, .int F_rows, .int F_steepness, .int F_size, .ref p_F_cells, .ref p_F_wearing, .ref p_F_turning]))]) A) ([.ref p_F, .int l1] : List Value).toArray s 0 0 A = Q9
  have hf_29 := hts (.fieldLink RX3 29 "StrawCoats$Frame" "columns" "I") (by decide +kernel)
  have hi_X3 : ∀ w ∈ u_ws RX3 TX3 7, w ∈ wsX3_hasColumn := by decide +kernel
  have hF := h
  unfold wp_X3_hasColumn at hF
  refine lv_iload_n hx hb dX3_hasColumn_0 rfl (lv_at hl 1 rfl) ?_
  refine lv_iconst (v := (0 : Int32)) hx hb dX3_hasColumn_1 (by decide) ?_
  refine lv_aload_n hx hb dX3_hasColumn_2 rfl (lv_at hl 0 rfl) ?_
  refine va_get (D := D) (ci := 2) (v := .int F_columns) (C := RX3) (T := TX3) (N := 7) hx hb hts hi_X3 hown hK hP 0 rfl rfl 0 (by decide) hf_29 (fun _ h9 => h9) rfl dX3_hasColumn_3 ?_
  refine lv_iconst (v := (1 : Int32)) hx hb dX3_hasColumn_6 (by decide) ?_
  refine lv_isub hx hb dX3_hasColumn_7 ?_
  refine z_calli (wr := [(p_F, .inr (2, [.int F_columns, .int F_rows, .int F_steepness, .int F_size, .ref p_F_cells, .ref p_F_wearing, .ref p_F_turning]))]) (va_runSN (As := [.int l1, .int (0 : Int32), .int (F_columns - (1 : Int32))]) (rest := []) ⟨hx, hb, hml, hown, hts⟩ (c_X7_isWithin l D cI cJ cZ   l1 (0 : Int32) (F_columns - (1 : Int32)) H.size hF) ⟨va_cnB 3 hts gX3_hasColumn_X7_isWithin_n48 rfl rfl rfl (zN.n9 hE.2) (hts (.initialized RX7) (by decide +kernel)) (by decide +kernel) ⟨Nat.le_of_ble_eq_true rfl, Nat.le_of_ble_eq_true rfl⟩, hts (.static yX7_isWithin) (by decide +kernel), trivial⟩ (z_preS (wc := []) hP hE hD [] (by decide) rfl) rfl rfl hl.1 rfl (lv_room (Nat.le_of_ble_eq_true rfl)) dX3_hasColumn_8 ⟨Nat.le_of_ble_eq_true rfl, Nat.le_of_ble_eq_true rfl⟩) hP hD hS hA [] [0] rfl rfl (by decide) (by decide) (fun r_1 u9 H locs hF hP hD hS => ?_)
  have hz_2 := hF.1
  have hF := hF.2
  exact z_zret () hx hb hr hlocks hQ9 (z_nb hz_2) hF hP hD hS dX3_hasColumn_11
def wp_X3_hasRow (F_rows : Int32) (l1 : Int32) (post : Int32 → Prop) : Prop :=
  (wp_X7_isWithin  l1 (0 : Int32) (F_rows - (1 : Int32)) (fun (r_1 : Int32) => ((r_1 = 0 ∨ r_1 = 1) ∧ (post r_1 ))))
set_option maxHeartbeats 8000000 in
set_option maxRecDepth 100000 in
theorem c_X3_hasRow (l : Launch) (D : va_G) (cI cJ cZ : ClassId) (p_F p_F_cells p_F_wearing p_F_turning : Nat) (F_columns : Int32) (F_rows : Int32) (F_steepness : Int32) (F_size : Int32) (l1 : Int32) (sz : Nat) {post : Int32 → Prop} (h : wp_X3_hasRow F_rows l1 post) : Met l yX3_hasRow wsX3_hasRow ({ frames := 1, cells := 0, slots := 0, locals := 22 }) (zPc D cI cJ cZ [.ref p_F, .int l1] sz [(p_F, .inr (2, [.int F_columns, .int F_rows, .int F_steepness, .int F_size, .ref p_F_cells, .ref p_F_wearing, .ref p_F_turning]))]) (va_Qi (fun (r : Int32) (u : Unit) => post r ) (fun (u : Unit) t => va_P D vwCl [(p_F, .inr (2, [.int F_columns, .int F_rows, .int F_steepness, .int F_size, .ref p_F_cells, .ref p_F_wearing, .ref p_F_turning]))] t.heap ∧ va_D (va_A [(p_F, .inr (2, [.int F_columns, .int F_rows, .int F_steepness, .int F_size, .ref p_F_cells, .ref p_F_wearing, .ref p_F_turning]))] sz) [(p_F, .inr (2, [.int F_columns, .int F_rows, .int F_steepness, .int F_size, .ref p_F_cells, .ref p_F_wearing, .ref p_F_turning]))]) (va_A [(p_F, .inr (2, [.int F_columns, .int F_rows, .int F_steepness, .int F_size, .ref p_F_cells, .ref p_F_wearing, .ref p_F_turning]))] sz)) 0 0 (va_A [(p_F, .inr (2, [.int F_columns, .int F_rows, .int F_steepness, .int F_size, .ref p_F_cells, .ref p_F_wearing, .ref p_F_turning]))] sz) := by
  refine Met.ofW (cc := cX3_hasRow) (maxL := 2) (ret := (some .boolean)) (by decide) rfl ?_
  intro p e s m args below meth c s₁ B hml hv
  obtain ⟨rfl, hsz, hP, hE, hD0⟩ := hv
  have hx := B.exec
  have hb := B.bytes
  have hr := B.returns
  have hts := atoms_spec (ws := wsX3_hasRow) B.pre
  have hown : s.vm.findClass RX3 = some m.cls := findClass_of_methodNamed B.named
  have hlocks := B.notSynchronized
  have hK := hE.1
  subst hsz
  have hD := hD0.self (sz := s.heap.size)
  generalize hAe : va_A [(p_F, .inr (2, [.int F_columns, .int F_rows, .int F_steepness, .int F_size, .ref p_F_cells, .ref p_F_wearing, .ref p_F_turning]))] s.heap.size = A at hD ⊢
  have hA : ∀ q : Nat, s.heap.size ≤ q → A q := fun q h => by rw [← hAe]; exact Or.inr h
  have hS : va_S A s.heap s.heap [] := va_S.rf
  have hP : va_P D vwCl [(p_F, .inr (2, [.int F_columns, .int F_rows, .int F_steepness, .int F_size, .ref p_F_cells, .ref p_F_wearing, .ref p_F_turning]))] s.heap := hP
  have hl := lv_entry ([.ref p_F, .int l1]) (n := 2) (Nat.le_of_ble_eq_true rfl)
  rw [lg_entry_eq]
  generalize (lg_sl ([.ref p_F, .int l1]) ++ List.replicate (2 - (lg_sl ([.ref p_F, .int l1])).length) Slot.unset).toArray = ls at hl ⊢
  have hl : lv_has ls 2 [(0, .ref p_F), (1, .int l1)] := hl
  generalize hQ9 : MQ below (va_Qi (fun (r : Int32) (u : Unit) => post r ) (fun (u : Unit) t => va_P D vwCl [(p_F, .inr (2, [.int F_columns, .int F_rows, .int F_steepness, .int F_size, .ref p_F_cells, .ref p_F_wearing, .ref p_F_turning]))] t.heap ∧ va_D A [(p_F, .inr (2, [.int F_columns, .int F_rows, .int F_steepness, .int F_size, .ref p_F_cells, .ref p_F_wearing, .ref p_F_turning]))]) A) ([.ref p_F, .int l1] : List Value).toArray s 0 0 A = Q9
  have hf_32 := hts (.fieldLink RX3 32 "StrawCoats$Frame" "rows" "I") (by decide +kernel)
  have hi_X3 : ∀ w ∈ u_ws RX3 TX3 7, w ∈ wsX3_hasRow := by decide +kernel
  have hF := h
  unfold wp_X3_hasRow at hF
  refine lv_iload_n hx hb dX3_hasRow_0 rfl (lv_at hl 1 rfl) ?_
  refine lv_iconst (v := (0 : Int32)) hx hb dX3_hasRow_1 (by decide) ?_
  refine lv_aload_n hx hb dX3_hasRow_2 rfl (lv_at hl 0 rfl) ?_
  refine va_get (D := D) (ci := 2) (v := .int F_rows) (C := RX3) (T := TX3) (N := 7) hx hb hts hi_X3 hown hK hP 0 rfl rfl 1 (by decide) hf_32 (fun _ h9 => h9) rfl dX3_hasRow_3 ?_
  refine lv_iconst (v := (1 : Int32)) hx hb dX3_hasRow_6 (by decide) ?_
  refine lv_isub hx hb dX3_hasRow_7 ?_
  refine z_calli (wr := [(p_F, .inr (2, [.int F_columns, .int F_rows, .int F_steepness, .int F_size, .ref p_F_cells, .ref p_F_wearing, .ref p_F_turning]))]) (va_runSN (As := [.int l1, .int (0 : Int32), .int (F_rows - (1 : Int32))]) (rest := []) ⟨hx, hb, hml, hown, hts⟩ (c_X7_isWithin l D cI cJ cZ   l1 (0 : Int32) (F_rows - (1 : Int32)) H.size hF) ⟨va_cnB 3 hts gX3_hasRow_X7_isWithin_n48 rfl rfl rfl (zN.n9 hE.2) (hts (.initialized RX7) (by decide +kernel)) (by decide +kernel) ⟨Nat.le_of_ble_eq_true rfl, Nat.le_of_ble_eq_true rfl⟩, hts (.static yX7_isWithin) (by decide +kernel), trivial⟩ (z_preS (wc := []) hP hE hD [] (by decide) rfl) rfl rfl hl.1 rfl (lv_room (Nat.le_of_ble_eq_true rfl)) dX3_hasRow_8 ⟨Nat.le_of_ble_eq_true rfl, Nat.le_of_ble_eq_true rfl⟩) hP hD hS hA [] [0] rfl rfl (by decide) (by decide) (fun r_1 u9 H locs hF hP hD hS => ?_)
  have hz_2 := hF.1
  have hF := hF.2
  exact z_zret () hx hb hr hlocks hQ9 (z_nb hz_2) hF hP hD hS dX3_hasRow_11
def wp_X3_hasCell (F_columns : Int32) (F_rows : Int32) (l1 : Int32) (l2 : Int32) (post : Int32 → Prop) : Prop :=
  (wp_X3_hasColumn F_columns l1 (fun (r_1 : Int32) => ((r_1 = 0 → (post (0 : Int32) )) ∧ (¬ r_1 = 0 → (wp_X3_hasRow F_rows l2 (fun (r_3 : Int32) => ((r_3 = 0 → (post (0 : Int32) )) ∧ (¬ r_3 = 0 → (post (1 : Int32) )))))))))
set_option maxHeartbeats 8000000 in
set_option maxRecDepth 100000 in
theorem c_X3_hasCell (l : Launch) (D : va_G) (cI cJ cZ : ClassId) (p_F p_F_cells p_F_wearing p_F_turning : Nat) (F_columns : Int32) (F_rows : Int32) (F_steepness : Int32) (F_size : Int32) (l1 : Int32) (l2 : Int32) (sz : Nat) {post : Int32 → Prop} (h : wp_X3_hasCell F_columns F_rows l1 l2 post) : Met l yX3_hasCell wsX3_hasCell ({ frames := 2, cells := 0, slots := 0, locals := 43 }) (zPc D cI cJ cZ [.ref p_F, .int l1, .int l2] sz [(p_F, .inr (2, [.int F_columns, .int F_rows, .int F_steepness, .int F_size, .ref p_F_cells, .ref p_F_wearing, .ref p_F_turning]))]) (va_Qi (fun (r : Int32) (u : Unit) => post r ) (fun (u : Unit) t => va_P D vwCl [(p_F, .inr (2, [.int F_columns, .int F_rows, .int F_steepness, .int F_size, .ref p_F_cells, .ref p_F_wearing, .ref p_F_turning]))] t.heap ∧ va_D (va_A [(p_F, .inr (2, [.int F_columns, .int F_rows, .int F_steepness, .int F_size, .ref p_F_cells, .ref p_F_wearing, .ref p_F_turning]))] sz) [(p_F, .inr (2, [.int F_columns, .int F_rows, .int F_steepness, .int F_size, .ref p_F_cells, .ref p_F_wearing, .ref p_F_turning]))]) (va_A [(p_F, .inr (2, [.int F_columns, .int F_rows, .int F_steepness, .int F_size, .ref p_F_cells, .ref p_F_wearing, .ref p_F_turning]))] sz)) 0 0 (va_A [(p_F, .inr (2, [.int F_columns, .int F_rows, .int F_steepness, .int F_size, .ref p_F_cells, .ref p_F_wearing, .ref p_F_turning]))] sz) := by
  refine Met.ofW (cc := cX3_hasCell) (maxL := 3) (ret := (some .boolean)) (by decide) rfl ?_
  intro p e s m args below meth c s₁ B hml hv
  obtain ⟨rfl, hsz, hP, hE, hD0⟩ := hv
  have hx := B.exec
  have hb := B.bytes
  have hr := B.returns
  have hts := atoms_spec (ws := wsX3_hasCell) B.pre
  have hown : s.vm.findClass RX3 = some m.cls := findClass_of_methodNamed B.named
  have hlocks := B.notSynchronized
  have hK := hE.1
  subst hsz
  have hD := hD0.self (sz := s.heap.size)
  generalize hAe : va_A [(p_F, .inr (2, [.int F_columns, .int F_rows, .int F_steepness, .int F_size, .ref p_F_cells, .ref p_F_wearing, .ref p_F_turning]))] s.heap.size = A at hD ⊢
  have hA : ∀ q : Nat, s.heap.size ≤ q → A q := fun q h => by rw [← hAe]; exact Or.inr h
  have hS : va_S A s.heap s.heap [] := va_S.rf
  have hP : va_P D vwCl [(p_F, .inr (2, [.int F_columns, .int F_rows, .int F_steepness, .int F_size, .ref p_F_cells, .ref p_F_wearing, .ref p_F_turning]))] s.heap := hP
  have hl := lv_entry ([.ref p_F, .int l1, .int l2]) (n := 3) (Nat.le_of_ble_eq_true rfl)
  rw [lg_entry_eq]
  generalize (lg_sl ([.ref p_F, .int l1, .int l2]) ++ List.replicate (3 - (lg_sl ([.ref p_F, .int l1, .int l2])).length) Slot.unset).toArray = ls at hl ⊢
  have hl : lv_has ls 3 [(0, .ref p_F), (1, .int l1), (2, .int l2)] := hl
  generalize hQ9 : MQ below (va_Qi (fun (r : Int32) (u : Unit) => post r ) (fun (u : Unit) t => va_P D vwCl [(p_F, .inr (2, [.int F_columns, .int F_rows, .int F_steepness, .int F_size, .ref p_F_cells, .ref p_F_wearing, .ref p_F_turning]))] t.heap ∧ va_D A [(p_F, .inr (2, [.int F_columns, .int F_rows, .int F_steepness, .int F_size, .ref p_F_cells, .ref p_F_wearing, .ref p_F_turning]))]) A) ([.ref p_F, .int l1, .int l2] : List Value).toArray s 0 0 A = Q9
  have hF := h
  unfold wp_X3_hasCell at hF
  refine lv_aload_n hx hb dX3_hasCell_0 rfl (lv_at hl 0 rfl) ?_
  refine lv_iload_n hx hb dX3_hasCell_1 rfl (lv_at hl 1 rfl) ?_
  refine z_calli (wr := []) (va_runV (As := [.int l1]) (rest := []) ⟨hx, hb, hml, hown, hts⟩ (c_X3_hasColumn l D cI cJ cZ p_F p_F_cells p_F_wearing p_F_turning F_columns F_rows F_steepness F_size l1 H.size hF) (cwV 1 hts gX3_hasCell_X3_hasColumn rfl rfl rfl (by decide +kernel) ⟨Nat.le_of_ble_eq_true rfl, Nat.le_of_ble_eq_true rfl⟩) (z_preV (wc := [(p_F, .inr (2, [.int F_columns, .int F_rows, .int F_steepness, .int F_size, .ref p_F_cells, .ref p_F_wearing, .ref p_F_turning]))]) hP hE hD 2 0 rfl rfl [0] (by decide) rfl) rfl rfl hl.1 rfl (lv_room (Nat.le_of_ble_eq_true rfl)) dX3_hasCell_2 ⟨Nat.le_of_ble_eq_true rfl, Nat.le_of_ble_eq_true rfl⟩) hP hD hS hA [0] [] rfl rfl (by decide) (by decide) (fun r_1 u9 H locs hF hP hD hS => ?_)
  have hP : va_P D vwCl [(p_F, .inr (2, [.int F_columns, .int F_rows, .int F_steepness, .int F_size, .ref p_F_cells, .ref p_F_wearing, .ref p_F_turning]))] H := hP
  have hD : va_D A [(p_F, .inr (2, [.int F_columns, .int F_rows, .int F_steepness, .int F_size, .ref p_F_cells, .ref p_F_wearing, .ref p_F_turning]))] := hD
  refine lv_if_eq (tgt := 20) hx hb dX3_hasCell_5 (by decide) (fun cc_2 => ?_) (fun cc_2 => ?_)
  · have hF := hF.1 cc_2
    refine lv_iconst (v := (0 : Int32)) hx hb dX3_hasCell_20 (by decide) ?_
    exact z_zret () hx hb hr hlocks hQ9 (z_nb z_01) hF hP hD hS dX3_hasCell_21
  · have hF := hF.2 cc_2
    refine lv_aload_n hx hb dX3_hasCell_8 rfl (lv_at hl 0 rfl) ?_
    refine lv_iload_n hx hb dX3_hasCell_9 rfl (lv_at hl 2 rfl) ?_
    refine z_calli (wr := []) (va_runV (As := [.int l2]) (rest := []) ⟨hx, hb, hml, hown, hts⟩ (c_X3_hasRow l D cI cJ cZ p_F p_F_cells p_F_wearing p_F_turning F_columns F_rows F_steepness F_size l2 H.size hF) (cwV 1 hts gX3_hasCell_X3_hasRow rfl rfl rfl (by decide +kernel) ⟨Nat.le_of_ble_eq_true rfl, Nat.le_of_ble_eq_true rfl⟩) (z_preV (wc := [(p_F, .inr (2, [.int F_columns, .int F_rows, .int F_steepness, .int F_size, .ref p_F_cells, .ref p_F_wearing, .ref p_F_turning]))]) hP hE hD 2 0 rfl rfl [0] (by decide) rfl) rfl rfl hl.1 rfl (lv_room (Nat.le_of_ble_eq_true rfl)) dX3_hasCell_10 ⟨Nat.le_of_ble_eq_true rfl, Nat.le_of_ble_eq_true rfl⟩) hP hD hS hA [0] [] rfl rfl (by decide) (by decide) (fun r_3 u9 H locs hF hP hD hS => ?_)
    have hP : va_P D vwCl [(p_F, .inr (2, [.int F_columns, .int F_rows, .int F_steepness, .int F_size, .ref p_F_cells, .ref p_F_wearing, .ref p_F_turning]))] H := hP
    have hD : va_D A [(p_F, .inr (2, [.int F_columns, .int F_rows, .int F_steepness, .int F_size, .ref p_F_cells, .ref p_F_wearing, .ref p_F_turning]))] := hD
    refine lv_if_eq (tgt := 20) hx hb dX3_hasCell_13 (by decide) (fun cc_4 => ?_) (fun cc_4 => ?_)
    · have hF := hF.1 cc_4
      refine lv_iconst (v := (0 : Int32)) hx hb dX3_hasCell_20 (by decide) ?_
      exact z_zret () hx hb hr hlocks hQ9 (z_nb z_01) hF hP hD hS dX3_hasCell_21
    · have hF := hF.2 cc_4
      refine lv_iconst (v := (1 : Int32)) hx hb dX3_hasCell_16 (by decide) ?_
      refine lv_goto (tgt := 21) hx hb dX3_hasCell_17 (by decide) ?_
      exact z_zret () hx hb hr hlocks hQ9 (z_nb z_11) hF hP hD hS dX3_hasCell_21
def wp_X3_isOpening (F_turning : Nat → Int32) (l1 : Int32) (post : Int32 → Prop) : Prop :=
  (vp_in l1 60 ∧ (((F_turning l1.toNatClampNeg) = 0 → (post (0 : Int32) )) ∧ (¬ (F_turning l1.toNatClampNeg) = 0 → (post (1 : Int32) ))))
set_option maxHeartbeats 8000000 in
set_option maxRecDepth 100000 in
theorem c_X3_isOpening (l : Launch) (D : va_G) (cI cJ cZ : ClassId) (p_F p_F_cells p_F_wearing p_F_turning : Nat) (F_columns : Int32) (F_rows : Int32) (F_steepness : Int32) (F_size : Int32) (F_turning : Nat → Int32) (l1 : Int32) (sz : Nat) {post : Int32 → Prop} (h : wp_X3_isOpening F_turning l1 post) : Met l yX3_isOpening wsX3_isOpening ({ frames := 0, cells := 0, slots := 0, locals := 0 }) (zPc D cI cJ cZ [.ref p_F, .int l1] sz [(p_F, .inr (2, [.int F_columns, .int F_rows, .int F_steepness, .int F_size, .ref p_F_cells, .ref p_F_wearing, .ref p_F_turning])), (p_F_turning, .inl (cI, 60, .inl F_turning))]) (va_Qi (fun (r : Int32) (u : Unit) => post r ) (fun (u : Unit) t => va_P D vwCl [(p_F, .inr (2, [.int F_columns, .int F_rows, .int F_steepness, .int F_size, .ref p_F_cells, .ref p_F_wearing, .ref p_F_turning])), (p_F_turning, .inl (cI, 60, .inl F_turning))] t.heap ∧ va_D (va_A [(p_F, .inr (2, [.int F_columns, .int F_rows, .int F_steepness, .int F_size, .ref p_F_cells, .ref p_F_wearing, .ref p_F_turning])), (p_F_turning, .inl (cI, 60, .inl F_turning))] sz) [(p_F, .inr (2, [.int F_columns, .int F_rows, .int F_steepness, .int F_size, .ref p_F_cells, .ref p_F_wearing, .ref p_F_turning])), (p_F_turning, .inl (cI, 60, .inl F_turning))]) (va_A [(p_F, .inr (2, [.int F_columns, .int F_rows, .int F_steepness, .int F_size, .ref p_F_cells, .ref p_F_wearing, .ref p_F_turning])), (p_F_turning, .inl (cI, 60, .inl F_turning))] sz)) 0 0 (va_A [(p_F, .inr (2, [.int F_columns, .int F_rows, .int F_steepness, .int F_size, .ref p_F_cells, .ref p_F_wearing, .ref p_F_turning])), (p_F_turning, .inl (cI, 60, .inl F_turning))] sz) := by
  refine Met.ofW (cc := cX3_isOpening) (maxL := 2) (ret := (some .boolean)) (by decide) rfl ?_
  intro p e s m args below meth c s₁ B hml hv
  obtain ⟨rfl, hsz, hP, hE, hD0⟩ := hv
  have hx := B.exec
  have hb := B.bytes
  have hr := B.returns
  have hts := atoms_spec (ws := wsX3_isOpening) B.pre
  have hown : s.vm.findClass RX3 = some m.cls := findClass_of_methodNamed B.named
  have hlocks := B.notSynchronized
  have hK := hE.1
  subst hsz
  have hD := hD0.self (sz := s.heap.size)
  generalize hAe : va_A [(p_F, .inr (2, [.int F_columns, .int F_rows, .int F_steepness, .int F_size, .ref p_F_cells, .ref p_F_wearing, .ref p_F_turning])), (p_F_turning, .inl (cI, 60, .inl F_turning))] s.heap.size = A at hD ⊢
  have hA : ∀ q : Nat, s.heap.size ≤ q → A q := fun q h => by rw [← hAe]; exact Or.inr h
  have hS : va_S A s.heap s.heap [] := va_S.rf
  have hP : va_P D vwCl [(p_F, .inr (2, [.int F_columns, .int F_rows, .int F_steepness, .int F_size, .ref p_F_cells, .ref p_F_wearing, .ref p_F_turning])), (p_F_turning, .inl (cI, 60, .inl F_turning))] s.heap := hP
  have hl := lv_entry ([.ref p_F, .int l1]) (n := 2) (Nat.le_of_ble_eq_true rfl)
  rw [lg_entry_eq]
  generalize (lg_sl ([.ref p_F, .int l1]) ++ List.replicate (2 - (lg_sl ([.ref p_F, .int l1])).length) Slot.unset).toArray = ls at hl ⊢
  have hl : lv_has ls 2 [(0, .ref p_F), (1, .int l1)] := hl
  generalize hQ9 : MQ below (va_Qi (fun (r : Int32) (u : Unit) => post r ) (fun (u : Unit) t => va_P D vwCl [(p_F, .inr (2, [.int F_columns, .int F_rows, .int F_steepness, .int F_size, .ref p_F_cells, .ref p_F_wearing, .ref p_F_turning])), (p_F_turning, .inl (cI, 60, .inl F_turning))] t.heap ∧ va_D A [(p_F, .inr (2, [.int F_columns, .int F_rows, .int F_steepness, .int F_size, .ref p_F_cells, .ref p_F_wearing, .ref p_F_turning])), (p_F_turning, .inl (cI, 60, .inl F_turning))]) A) ([.ref p_F, .int l1] : List Value).toArray s 0 0 A = Q9
  have hf_22 := hts (.fieldLink RX3 22 "StrawCoats$Frame" "turning" "[I") (by decide +kernel)
  have hi_X3 : ∀ w ∈ u_ws RX3 TX3 7, w ∈ wsX3_isOpening := by decide +kernel
  have hF := h
  unfold wp_X3_isOpening at hF
  refine lv_aload_n hx hb dX3_isOpening_0 rfl (lv_at hl 0 rfl) ?_
  refine va_get (D := D) (ci := 2) (v := .ref p_F_turning) (C := RX3) (T := TX3) (N := 7) hx hb hts hi_X3 hown hK hP 0 rfl rfl 6 (by decide) hf_22 (fun _ h9 => h9) rfl dX3_isOpening_1 ?_
  refine lv_iload_n hx hb dX3_isOpening_4 rfl (lv_at hl 1 rfl) ?_
  have hb_1 := hF.1
  have hF := hF.2
  refine va_iald hx hb hK hP 1 0 rfl rfl hb_1 dX3_isOpening_5 ?_
  refine lv_if_eq (tgt := 13) hx hb dX3_isOpening_6 (by decide) (fun cc_2 => ?_) (fun cc_2 => ?_)
  · have hF := hF.1 cc_2
    refine lv_iconst (v := (0 : Int32)) hx hb dX3_isOpening_13 (by decide) ?_
    exact z_zret () hx hb hr hlocks hQ9 (z_nb z_01) hF hP hD hS dX3_isOpening_14
  · have hF := hF.2 cc_2
    refine lv_iconst (v := (1 : Int32)) hx hb dX3_isOpening_9 (by decide) ?_
    refine lv_goto (tgt := 14) hx hb dX3_isOpening_10 (by decide) ?_
    exact z_zret () hx hb hr hlocks hQ9 (z_nb z_11) hF hP hD hS dX3_isOpening_14
def bd_X3_countOpenings_4 (F_size : Int32) (F_cells : Nat → Int32) (F_turning : Nat → Int32) (post : Int32 → Prop) (rec_4 : Int32 → Int32 → Prop) : Int32 → Int32 → Prop := fun l1_1 l2_2 =>
  ((F_size ≤ l2_2 → (post l1_1 )) ∧ (¬ F_size ≤ l2_2 → (vp_in l2_2 36 ∧ (wp_X3_isOpening F_turning (F_cells l2_2.toNatClampNeg) (fun (r_5 : Int32) => ((r_5 = 0 → (rec_4 l1_1 (l2_2 + (1 : Int32)))) ∧ (¬ r_5 = 0 → (rec_4 (l1_1 + (1 : Int32)) (l2_2 + (1 : Int32))))))))))
def wp_X3_countOpenings (F_size : Int32) (F_cells : Nat → Int32) (F_turning : Nat → Int32)  (post : Int32 → Prop) : Prop :=
  (zl2 (bd_X3_countOpenings_4 F_size F_cells F_turning post) (0 : Int32) (0 : Int32))
set_option maxHeartbeats 8000000 in
set_option maxRecDepth 100000 in
theorem c_X3_countOpenings (l : Launch) (D : va_G) (cI cJ cZ : ClassId) (p_F p_F_cells p_F_wearing p_F_turning : Nat) (F_columns : Int32) (F_rows : Int32) (F_steepness : Int32) (F_size : Int32) (F_cells : Nat → Int32) (F_turning : Nat → Int32)  (sz : Nat) {post : Int32 → Prop} (h : wp_X3_countOpenings F_size F_cells F_turning  post) : Met l yX3_countOpenings wsX3_countOpenings ({ frames := 1, cells := 0, slots := 0, locals := 21 }) (zPc D cI cJ cZ [.ref p_F] sz [(p_F, .inr (2, [.int F_columns, .int F_rows, .int F_steepness, .int F_size, .ref p_F_cells, .ref p_F_wearing, .ref p_F_turning])), (p_F_cells, .inl (cI, 36, .inl F_cells)), (p_F_turning, .inl (cI, 60, .inl F_turning))]) (va_Qi (fun (r : Int32) (u : Unit) => post r ) (fun (u : Unit) t => va_P D vwCl [(p_F, .inr (2, [.int F_columns, .int F_rows, .int F_steepness, .int F_size, .ref p_F_cells, .ref p_F_wearing, .ref p_F_turning])), (p_F_cells, .inl (cI, 36, .inl F_cells)), (p_F_turning, .inl (cI, 60, .inl F_turning))] t.heap ∧ va_D (va_A [(p_F, .inr (2, [.int F_columns, .int F_rows, .int F_steepness, .int F_size, .ref p_F_cells, .ref p_F_wearing, .ref p_F_turning])), (p_F_cells, .inl (cI, 36, .inl F_cells)), (p_F_turning, .inl (cI, 60, .inl F_turning))] sz) [(p_F, .inr (2, [.int F_columns, .int F_rows, .int F_steepness, .int F_size, .ref p_F_cells, .ref p_F_wearing, .ref p_F_turning])), (p_F_cells, .inl (cI, 36, .inl F_cells)), (p_F_turning, .inl (cI, 60, .inl F_turning))]) (va_A [(p_F, .inr (2, [.int F_columns, .int F_rows, .int F_steepness, .int F_size, .ref p_F_cells, .ref p_F_wearing, .ref p_F_turning])), (p_F_cells, .inl (cI, 36, .inl F_cells)), (p_F_turning, .inl (cI, 60, .inl F_turning))] sz)) 0 0 (va_A [(p_F, .inr (2, [.int F_columns, .int F_rows, .int F_steepness, .int F_size, .ref p_F_cells, .ref p_F_wearing, .ref p_F_turning])), (p_F_cells, .inl (cI, 36, .inl F_cells)), (p_F_turning, .inl (cI, 60, .inl F_turning))] sz) := by
  refine Met.ofW (cc := cX3_countOpenings) (maxL := 3) (ret := (some .int)) (by decide) rfl ?_
  intro p e s m args below meth c s₁ B hml hv
  obtain ⟨rfl, hsz, hP, hE, hD0⟩ := hv
  have hx := B.exec
  have hb := B.bytes
  have hr := B.returns
  have hts := atoms_spec (ws := wsX3_countOpenings) B.pre
  have hown : s.vm.findClass RX3 = some m.cls := findClass_of_methodNamed B.named
  have hlocks := B.notSynchronized
  have hK := hE.1
  subst hsz
  have hD := hD0.self (sz := s.heap.size)
  generalize hAe : va_A [(p_F, .inr (2, [.int F_columns, .int F_rows, .int F_steepness, .int F_size, .ref p_F_cells, .ref p_F_wearing, .ref p_F_turning])), (p_F_cells, .inl (cI, 36, .inl F_cells)), (p_F_turning, .inl (cI, 60, .inl F_turning))] s.heap.size = A at hD ⊢
  have hA : ∀ q : Nat, s.heap.size ≤ q → A q := fun q h => by rw [← hAe]; exact Or.inr h
  have hS : va_S A s.heap s.heap [] := va_S.rf
  have hP : va_P D vwCl [(p_F, .inr (2, [.int F_columns, .int F_rows, .int F_steepness, .int F_size, .ref p_F_cells, .ref p_F_wearing, .ref p_F_turning])), (p_F_cells, .inl (cI, 36, .inl F_cells)), (p_F_turning, .inl (cI, 60, .inl F_turning))] s.heap := hP
  have hl := lv_entry ([.ref p_F]) (n := 3) (Nat.le_of_ble_eq_true rfl)
  rw [lg_entry_eq]
  generalize (lg_sl ([.ref p_F]) ++ List.replicate (3 - (lg_sl ([.ref p_F])).length) Slot.unset).toArray = ls at hl ⊢
  have hl : lv_has ls 3 [(0, .ref p_F)] := hl
  generalize hQ9 : MQ below (va_Qi (fun (r : Int32) (u : Unit) => post r ) (fun (u : Unit) t => va_P D vwCl [(p_F, .inr (2, [.int F_columns, .int F_rows, .int F_steepness, .int F_size, .ref p_F_cells, .ref p_F_wearing, .ref p_F_turning])), (p_F_cells, .inl (cI, 36, .inl F_cells)), (p_F_turning, .inl (cI, 60, .inl F_turning))] t.heap ∧ va_D A [(p_F, .inr (2, [.int F_columns, .int F_rows, .int F_steepness, .int F_size, .ref p_F_cells, .ref p_F_wearing, .ref p_F_turning])), (p_F_cells, .inl (cI, 36, .inl F_cells)), (p_F_turning, .inl (cI, 60, .inl F_turning))]) A) ([.ref p_F] : List Value).toArray s 0 0 A = Q9
  have hf_35 := hts (.fieldLink RX3 35 "StrawCoats$Frame" "size" "I") (by decide +kernel)
  have hf_15 := hts (.fieldLink RX3 15 "StrawCoats$Frame" "cells" "[I") (by decide +kernel)
  have hi_X3 : ∀ w ∈ u_ws RX3 TX3 7, w ∈ wsX3_countOpenings := by decide +kernel
  have hF := h
  unfold wp_X3_countOpenings at hF
  refine lv_iconst (v := (0 : Int32)) hx hb dX3_countOpenings_0 (by decide) ?_
  refine lv_istore_n (lv' := [(1, .int (0 : Int32)), (0, .ref p_F)]) hx hb dX3_countOpenings_1 rfl hl (by decide) rfl (fun ls hl => ?_)
  refine lv_iconst (v := (0 : Int32)) hx hb dX3_countOpenings_2 (by decide) ?_
  refine lv_istore_n (lv' := [(2, .int (0 : Int32)), (1, .int (0 : Int32)), (0, .ref p_F)]) hx hb dX3_countOpenings_3 rfl hl (by decide) rfl (fun ls hl => ?_)
  obtain ⟨I_4, μ_4, hI_4, hs_4⟩ := hF
  have hlp_4 : ∀ (n : Nat) (l1_1 : Int32) (l2_2 : Int32), I_4 l1_1 l2_2 → μ_4 l1_1 l2_2 < n → ∀ (H : Heap) (locs : List Loc), va_P D vwCl [(p_F, .inr (2, [.int F_columns, .int F_rows, .int F_steepness, .int F_size, .ref p_F_cells, .ref p_F_wearing, .ref p_F_turning])), (p_F_cells, .inl (cI, 36, .inl F_cells)), (p_F_turning, .inl (cI, 60, .inl F_turning))] H → va_D A [(p_F, .inr (2, [.int F_columns, .int F_rows, .int F_steepness, .int F_size, .ref p_F_cells, .ref p_F_wearing, .ref p_F_turning])), (p_F_cells, .inl (cI, 36, .inl F_cells)), (p_F_turning, .inl (cI, 60, .inl F_turning))] → va_S A s.heap H locs → ∀ ls : Array Slot, lv_has ls 3 [(0, .ref p_F), (1, .int l1_1), (2, .int l2_2)] → W p l e ({ frames := 1, cells := 0, slots := 0, locals := 21 } : Room) s m ([.ref p_F] : List Value).toArray below meth c H locs 0 0 Q9 (F0 m 4 ls []) := by
    intro n
    induction n with
    | zero => intro l1_1 l2_2 _ hn; exact absurd hn (Nat.not_lt_zero _)
    | succ n ih_4 =>
      intro l1_1 l2_2 hI9 hn_4 H locs hP hD hS ls hl
      have hF := hs_4 l1_1 l2_2 hI9
      unfold bd_X3_countOpenings_4 at hF
      refine lv_iload_n hx hb dX3_countOpenings_4 rfl (lv_at hl 2 rfl) ?_
      refine lv_aload_n hx hb dX3_countOpenings_5 rfl (lv_at hl 0 rfl) ?_
      refine va_get (D := D) (ci := 2) (v := .int F_size) (C := RX3) (T := TX3) (N := 7) hx hb hts hi_X3 hown hK hP 0 rfl rfl 3 (by decide) hf_35 (fun _ h9 => h9) rfl dX3_countOpenings_6 ?_
      refine lv_icmp_ge (tgt := 34) hx hb dX3_countOpenings_9 (by decide) (fun cc_3 => ?_) (fun cc_3 => ?_)
      · have hF := hF.1 cc_3
        refine lv_iload_n hx hb dX3_countOpenings_34 rfl (lv_at hl 1 rfl) ?_
        exact z_iret () hx hb hr hlocks hQ9 hF hP hD hS dX3_countOpenings_35
      · have hF := hF.2 cc_3
        refine lv_aload_n hx hb dX3_countOpenings_12 rfl (lv_at hl 0 rfl) ?_
        refine lv_aload_n hx hb dX3_countOpenings_13 rfl (lv_at hl 0 rfl) ?_
        refine va_get (D := D) (ci := 2) (v := .ref p_F_cells) (C := RX3) (T := TX3) (N := 7) hx hb hts hi_X3 hown hK hP 0 rfl rfl 4 (by decide) hf_15 (fun _ h9 => h9) rfl dX3_countOpenings_14 ?_
        refine lv_iload_n hx hb dX3_countOpenings_17 rfl (lv_at hl 2 rfl) ?_
        have hb_4 := hF.1
        have hF := hF.2
        refine va_iald hx hb hK hP 1 0 rfl rfl hb_4 dX3_countOpenings_18 ?_
        refine z_calli (wr := [(p_F_cells, .inl (cI, 36, .inl F_cells))]) (va_runV (As := [.int (F_cells l2_2.toNatClampNeg)]) (rest := []) ⟨hx, hb, hml, hown, hts⟩ (c_X3_isOpening l D cI cJ cZ p_F p_F_cells p_F_wearing p_F_turning F_columns F_rows F_steepness F_size F_turning (F_cells l2_2.toNatClampNeg) H.size hF) (cwV 1 hts gX3_countOpenings_X3_isOpening rfl rfl rfl (by decide +kernel) ⟨Nat.le_of_ble_eq_true rfl, Nat.le_of_ble_eq_true rfl⟩) (z_preV (wc := [(p_F, .inr (2, [.int F_columns, .int F_rows, .int F_steepness, .int F_size, .ref p_F_cells, .ref p_F_wearing, .ref p_F_turning])), (p_F_turning, .inl (cI, 60, .inl F_turning))]) hP hE hD 2 0 rfl rfl [0, 2] (by decide) rfl) rfl rfl hl.1 rfl (lv_room (Nat.le_of_ble_eq_true rfl)) dX3_countOpenings_19 ⟨Nat.le_of_ble_eq_true rfl, Nat.le_of_ble_eq_true rfl⟩) hP hD hS hA [0, 2] [1] rfl rfl (by decide) (by decide) (fun r_5 u9 H locs hF hP hD hS => ?_)
        have hP : va_P D vwCl [(p_F_cells, .inl (cI, 36, .inl F_cells)), (p_F, .inr (2, [.int F_columns, .int F_rows, .int F_steepness, .int F_size, .ref p_F_cells, .ref p_F_wearing, .ref p_F_turning])), (p_F_turning, .inl (cI, 60, .inl F_turning))] H := hP
        have hD : va_D A [(p_F_cells, .inl (cI, 36, .inl F_cells)), (p_F, .inr (2, [.int F_columns, .int F_rows, .int F_steepness, .int F_size, .ref p_F_cells, .ref p_F_wearing, .ref p_F_turning])), (p_F_turning, .inl (cI, 60, .inl F_turning))] := hD
        refine lv_if_eq (tgt := 28) hx hb dX3_countOpenings_22 (by decide) (fun cc_6 => ?_) (fun cc_6 => ?_)
        · have hF := hF.1 cc_6
          refine lv_iinc (v := (l2_2 + (1 : Int32))) (lv' := [(2, .int (l2_2 + (1 : Int32))), (0, .ref p_F), (1, .int l1_1)]) hx hb dX3_countOpenings_28 hl (k := 2) rfl rfl (by decide) rfl (fun ls hl => ?_)
          refine lv_goto (tgt := 4) hx hb dX3_countOpenings_31 (by decide) ?_
          exact ih_4 l1_1 (l2_2 + (1 : Int32)) hF.1 (Nat.lt_of_lt_of_le hF.2 (Nat.le_of_lt_succ hn_4)) _ _ (z_sub hP [1, 0, 2] (wc := [(p_F, .inr (2, [.int F_columns, .int F_rows, .int F_steepness, .int F_size, .ref p_F_cells, .ref p_F_wearing, .ref p_F_turning])), (p_F_cells, .inl (cI, 36, .inl F_cells)), (p_F_turning, .inl (cI, 60, .inl F_turning))]) rfl) (hD.sub (ws' := [(p_F, .inr (2, [.int F_columns, .int F_rows, .int F_steepness, .int F_size, .ref p_F_cells, .ref p_F_wearing, .ref p_F_turning])), (p_F_cells, .inl (cI, 36, .inl F_cells)), (p_F_turning, .inl (cI, 60, .inl F_turning))]) [1, 0, 2] (by decide) rfl) hS ls (lv_sub hl [1, 2, 0] rfl)
        · have hF := hF.2 cc_6
          refine lv_iinc (v := (l1_1 + (1 : Int32))) (lv' := [(1, .int (l1_1 + (1 : Int32))), (0, .ref p_F), (2, .int l2_2)]) hx hb dX3_countOpenings_25 hl (k := 1) rfl rfl (by decide) rfl (fun ls hl => ?_)
          refine lv_iinc (v := (l2_2 + (1 : Int32))) (lv' := [(2, .int (l2_2 + (1 : Int32))), (1, .int (l1_1 + (1 : Int32))), (0, .ref p_F)]) hx hb dX3_countOpenings_28 hl (k := 2) rfl rfl (by decide) rfl (fun ls hl => ?_)
          refine lv_goto (tgt := 4) hx hb dX3_countOpenings_31 (by decide) ?_
          exact ih_4 (l1_1 + (1 : Int32)) (l2_2 + (1 : Int32)) hF.1 (Nat.lt_of_lt_of_le hF.2 (Nat.le_of_lt_succ hn_4)) _ _ (z_sub hP [1, 0, 2] (wc := [(p_F, .inr (2, [.int F_columns, .int F_rows, .int F_steepness, .int F_size, .ref p_F_cells, .ref p_F_wearing, .ref p_F_turning])), (p_F_cells, .inl (cI, 36, .inl F_cells)), (p_F_turning, .inl (cI, 60, .inl F_turning))]) rfl) (hD.sub (ws' := [(p_F, .inr (2, [.int F_columns, .int F_rows, .int F_steepness, .int F_size, .ref p_F_cells, .ref p_F_wearing, .ref p_F_turning])), (p_F_cells, .inl (cI, 36, .inl F_cells)), (p_F_turning, .inl (cI, 60, .inl F_turning))]) [1, 0, 2] (by decide) rfl) hS ls (lv_sub hl [2, 1, 0] rfl)
  exact hlp_4 _ (0 : Int32) (0 : Int32) hI_4 (Nat.lt_succ_self _) _ _ hP hD hS ls (lv_sub hl [2, 1, 0] rfl)
def wp_X3_lap (F_steepness : Int32)  (post : Int32 → Prop) : Prop :=
  ((¬ F_steepness = (1 : Int32) → (post (1 : Int32) )) ∧ (F_steepness = (1 : Int32) → (post (2 : Int32) )))
set_option maxHeartbeats 8000000 in
set_option maxRecDepth 100000 in
theorem c_X3_lap (l : Launch) (D : va_G) (cI cJ cZ : ClassId) (p_F p_F_cells p_F_wearing p_F_turning : Nat) (F_columns : Int32) (F_rows : Int32) (F_steepness : Int32) (F_size : Int32)  (sz : Nat) {post : Int32 → Prop} (h : wp_X3_lap F_steepness  post) : Met l yX3_lap wsX3_lap ({ frames := 0, cells := 0, slots := 0, locals := 0 }) (zPc D cI cJ cZ [.ref p_F] sz [(p_F, .inr (2, [.int F_columns, .int F_rows, .int F_steepness, .int F_size, .ref p_F_cells, .ref p_F_wearing, .ref p_F_turning]))]) (va_Qi (fun (r : Int32) (u : Unit) => post r ) (fun (u : Unit) t => va_P D vwCl [(p_F, .inr (2, [.int F_columns, .int F_rows, .int F_steepness, .int F_size, .ref p_F_cells, .ref p_F_wearing, .ref p_F_turning]))] t.heap ∧ va_D (va_A [(p_F, .inr (2, [.int F_columns, .int F_rows, .int F_steepness, .int F_size, .ref p_F_cells, .ref p_F_wearing, .ref p_F_turning]))] sz) [(p_F, .inr (2, [.int F_columns, .int F_rows, .int F_steepness, .int F_size, .ref p_F_cells, .ref p_F_wearing, .ref p_F_turning]))]) (va_A [(p_F, .inr (2, [.int F_columns, .int F_rows, .int F_steepness, .int F_size, .ref p_F_cells, .ref p_F_wearing, .ref p_F_turning]))] sz)) 0 0 (va_A [(p_F, .inr (2, [.int F_columns, .int F_rows, .int F_steepness, .int F_size, .ref p_F_cells, .ref p_F_wearing, .ref p_F_turning]))] sz) := by
  refine Met.ofW (cc := cX3_lap) (maxL := 1) (ret := (some .int)) (by decide) rfl ?_
  intro p e s m args below meth c s₁ B hml hv
  obtain ⟨rfl, hsz, hP, hE, hD0⟩ := hv
  have hx := B.exec
  have hb := B.bytes
  have hr := B.returns
  have hts := atoms_spec (ws := wsX3_lap) B.pre
  have hown : s.vm.findClass RX3 = some m.cls := findClass_of_methodNamed B.named
  have hlocks := B.notSynchronized
  have hK := hE.1
  subst hsz
  have hD := hD0.self (sz := s.heap.size)
  generalize hAe : va_A [(p_F, .inr (2, [.int F_columns, .int F_rows, .int F_steepness, .int F_size, .ref p_F_cells, .ref p_F_wearing, .ref p_F_turning]))] s.heap.size = A at hD ⊢
  have hA : ∀ q : Nat, s.heap.size ≤ q → A q := fun q h => by rw [← hAe]; exact Or.inr h
  have hS : va_S A s.heap s.heap [] := va_S.rf
  have hP : va_P D vwCl [(p_F, .inr (2, [.int F_columns, .int F_rows, .int F_steepness, .int F_size, .ref p_F_cells, .ref p_F_wearing, .ref p_F_turning]))] s.heap := hP
  have hl := lv_entry ([.ref p_F]) (n := 1) (Nat.le_of_ble_eq_true rfl)
  rw [lg_entry_eq]
  generalize (lg_sl ([.ref p_F]) ++ List.replicate (1 - (lg_sl ([.ref p_F])).length) Slot.unset).toArray = ls at hl ⊢
  have hl : lv_has ls 1 [(0, .ref p_F)] := hl
  generalize hQ9 : MQ below (va_Qi (fun (r : Int32) (u : Unit) => post r ) (fun (u : Unit) t => va_P D vwCl [(p_F, .inr (2, [.int F_columns, .int F_rows, .int F_steepness, .int F_size, .ref p_F_cells, .ref p_F_wearing, .ref p_F_turning]))] t.heap ∧ va_D A [(p_F, .inr (2, [.int F_columns, .int F_rows, .int F_steepness, .int F_size, .ref p_F_cells, .ref p_F_wearing, .ref p_F_turning]))]) A) ([.ref p_F] : List Value).toArray s 0 0 A = Q9
  have hf_9 := hts (.fieldLink RX3 9 "StrawCoats$Frame" "steepness" "I") (by decide +kernel)
  have hi_X3 : ∀ w ∈ u_ws RX3 TX3 7, w ∈ wsX3_lap := by decide +kernel
  have hF := h
  unfold wp_X3_lap at hF
  refine lv_aload_n hx hb dX3_lap_0 rfl (lv_at hl 0 rfl) ?_
  refine va_get (D := D) (ci := 2) (v := .int F_steepness) (C := RX3) (T := TX3) (N := 7) hx hb hts hi_X3 hown hK hP 0 rfl rfl 2 (by decide) hf_9 (fun _ h9 => h9) rfl dX3_lap_1 ?_
  refine lv_iconst (v := (1 : Int32)) hx hb dX3_lap_4 (by decide) ?_
  refine lv_icmp_ne (tgt := 12) hx hb dX3_lap_5 (by decide) (fun cc_1 => ?_) (fun cc_1 => ?_)
  · have hF := hF.1 cc_1
    refine lv_iconst (v := (1 : Int32)) hx hb dX3_lap_12 (by decide) ?_
    exact z_iret () hx hb hr hlocks hQ9 hF hP hD hS dX3_lap_13
  · have hF := hF.2 (Decidable.not_not.mp cc_1)
    refine lv_iconst (v := (2 : Int32)) hx hb dX3_lap_8 (by decide) ?_
    refine lv_goto (tgt := 13) hx hb dX3_lap_9 (by decide) ?_
    exact z_iret () hx hb hr hlocks hQ9 hF hP hD hS dX3_lap_13
def bd_X3_lowestRow_8 (F_turning : Nat → Int32) (l1 : Int32) (l2 : Int32) (l3 : Int32) (post : Int32 → Prop) (rec_8 : Int32 → Int32 → Prop) : Int32 → Int32 → Prop := fun l4_1 l5_2 =>
  ((l5_2 < 0 → (post l4_1 )) ∧ (¬ l5_2 < 0 → ((l5_2 ≤ (l2 - l3) → (post l4_1 )) ∧ (¬ l5_2 ≤ (l2 - l3) → (wp_X7_cellOf  l1 l5_2 (fun (r_5 : Int32) => (wp_X3_isOpening F_turning r_5 (fun (r_6 : Int32) => ((r_6 = 0 → (rec_8 l5_2 (l5_2 + (-1 : Int32)))) ∧ (¬ r_6 = 0 → (post l4_1 )))))))))))
def wp_X3_lowestRow (F_turning : Nat → Int32) (l1 : Int32) (l2 : Int32) (l3 : Int32) (post : Int32 → Prop) : Prop :=
  (zl2 (bd_X3_lowestRow_8 F_turning l1 l2 l3 post) l2 (l2 - (1 : Int32)))
set_option maxHeartbeats 8000000 in
set_option maxRecDepth 100000 in
theorem c_X3_lowestRow (l : Launch) (D : va_G) (cI cJ cZ : ClassId) (p_F p_F_cells p_F_wearing p_F_turning : Nat) (F_columns : Int32) (F_rows : Int32) (F_steepness : Int32) (F_size : Int32) (F_turning : Nat → Int32) (l1 : Int32) (l2 : Int32) (l3 : Int32) (sz : Nat) {post : Int32 → Prop} (h : wp_X3_lowestRow F_turning l1 l2 l3 post) : Met l yX3_lowestRow wsX3_lowestRow ({ frames := 1, cells := 0, slots := 0, locals := 21 }) (zPc D cI cJ cZ [.ref p_F, .int l1, .int l2, .int l3] sz [(p_F, .inr (2, [.int F_columns, .int F_rows, .int F_steepness, .int F_size, .ref p_F_cells, .ref p_F_wearing, .ref p_F_turning])), (p_F_turning, .inl (cI, 60, .inl F_turning))]) (va_Qi (fun (r : Int32) (u : Unit) => post r ) (fun (u : Unit) t => va_P D vwCl [(p_F, .inr (2, [.int F_columns, .int F_rows, .int F_steepness, .int F_size, .ref p_F_cells, .ref p_F_wearing, .ref p_F_turning])), (p_F_turning, .inl (cI, 60, .inl F_turning))] t.heap ∧ va_D (va_A [(p_F, .inr (2, [.int F_columns, .int F_rows, .int F_steepness, .int F_size, .ref p_F_cells, .ref p_F_wearing, .ref p_F_turning])), (p_F_turning, .inl (cI, 60, .inl F_turning))] sz) [(p_F, .inr (2, [.int F_columns, .int F_rows, .int F_steepness, .int F_size, .ref p_F_cells, .ref p_F_wearing, .ref p_F_turning])), (p_F_turning, .inl (cI, 60, .inl F_turning))]) (va_A [(p_F, .inr (2, [.int F_columns, .int F_rows, .int F_steepness, .int F_size, .ref p_F_cells, .ref p_F_wearing, .ref p_F_turning])), (p_F_turning, .inl (cI, 60, .inl F_turning))] sz)) 0 0 (va_A [(p_F, .inr (2, [.int F_columns, .int F_rows, .int F_steepness, .int F_size, .ref p_F_cells, .ref p_F_wearing, .ref p_F_turning])), (p_F_turning, .inl (cI, 60, .inl F_turning))] sz) := by
  refine Met.ofW (cc := cX3_lowestRow) (maxL := 6) (ret := (some .int)) (by decide) rfl ?_
  intro p e s m args below meth c s₁ B hml hv
  obtain ⟨rfl, hsz, hP, hE, hD0⟩ := hv
  have hx := B.exec
  have hb := B.bytes
  have hr := B.returns
  have hts := atoms_spec (ws := wsX3_lowestRow) B.pre
  have hown : s.vm.findClass RX3 = some m.cls := findClass_of_methodNamed B.named
  have hlocks := B.notSynchronized
  have hK := hE.1
  subst hsz
  have hD := hD0.self (sz := s.heap.size)
  generalize hAe : va_A [(p_F, .inr (2, [.int F_columns, .int F_rows, .int F_steepness, .int F_size, .ref p_F_cells, .ref p_F_wearing, .ref p_F_turning])), (p_F_turning, .inl (cI, 60, .inl F_turning))] s.heap.size = A at hD ⊢
  have hA : ∀ q : Nat, s.heap.size ≤ q → A q := fun q h => by rw [← hAe]; exact Or.inr h
  have hS : va_S A s.heap s.heap [] := va_S.rf
  have hP : va_P D vwCl [(p_F, .inr (2, [.int F_columns, .int F_rows, .int F_steepness, .int F_size, .ref p_F_cells, .ref p_F_wearing, .ref p_F_turning])), (p_F_turning, .inl (cI, 60, .inl F_turning))] s.heap := hP
  have hl := lv_entry ([.ref p_F, .int l1, .int l2, .int l3]) (n := 6) (Nat.le_of_ble_eq_true rfl)
  rw [lg_entry_eq]
  generalize (lg_sl ([.ref p_F, .int l1, .int l2, .int l3]) ++ List.replicate (6 - (lg_sl ([.ref p_F, .int l1, .int l2, .int l3])).length) Slot.unset).toArray = ls at hl ⊢
  have hl : lv_has ls 6 [(0, .ref p_F), (1, .int l1), (2, .int l2), (3, .int l3)] := hl
  generalize hQ9 : MQ below (va_Qi (fun (r : Int32) (u : Unit) => post r ) (fun (u : Unit) t => va_P D vwCl [(p_F, .inr (2, [.int F_columns, .int F_rows, .int F_steepness, .int F_size, .ref p_F_cells, .ref p_F_wearing, .ref p_F_turning])), (p_F_turning, .inl (cI, 60, .inl F_turning))] t.heap ∧ va_D A [(p_F, .inr (2, [.int F_columns, .int F_rows, .int F_steepness, .int F_size, .ref p_F_cells, .ref p_F_wearing, .ref p_F_turning])), (p_F_turning, .inl (cI, 60, .inl F_turning))]) A) ([.ref p_F, .int l1, .int l2, .int l3] : List Value).toArray s 0 0 A = Q9
  have hF := h
  unfold wp_X3_lowestRow at hF
  refine lv_iload_n hx hb dX3_lowestRow_0 rfl (lv_at hl 2 rfl) ?_
  refine lv_istore (lv' := [(4, .int l2), (0, .ref p_F), (1, .int l1), (2, .int l2), (3, .int l3)]) hx hb dX3_lowestRow_1 hl (by decide) rfl (fun ls hl => ?_)
  refine lv_iload_n hx hb dX3_lowestRow_3 rfl (lv_at hl 3 rfl) ?_
  refine lv_iconst (v := (1 : Int32)) hx hb dX3_lowestRow_4 (by decide) ?_
  refine lv_isub hx hb dX3_lowestRow_5 ?_
  refine lv_istore (lv' := [(5, .int (l2 - (1 : Int32))), (4, .int l2), (0, .ref p_F), (1, .int l1), (2, .int l2), (3, .int l3)]) hx hb dX3_lowestRow_6 hl (by decide) rfl (fun ls hl => ?_)
  obtain ⟨I_8, μ_8, hI_8, hs_8⟩ := hF
  have hlp_8 : ∀ (n : Nat) (l4_1 : Int32) (l5_2 : Int32), I_8 l4_1 l5_2 → μ_8 l4_1 l5_2 < n → ∀ (H : Heap) (locs : List Loc), va_P D vwCl [(p_F, .inr (2, [.int F_columns, .int F_rows, .int F_steepness, .int F_size, .ref p_F_cells, .ref p_F_wearing, .ref p_F_turning])), (p_F_turning, .inl (cI, 60, .inl F_turning))] H → va_D A [(p_F, .inr (2, [.int F_columns, .int F_rows, .int F_steepness, .int F_size, .ref p_F_cells, .ref p_F_wearing, .ref p_F_turning])), (p_F_turning, .inl (cI, 60, .inl F_turning))] → va_S A s.heap H locs → ∀ ls : Array Slot, lv_has ls 6 [(0, .ref p_F), (1, .int l1), (2, .int l2), (3, .int l3), (4, .int l4_1), (5, .int l5_2)] → W p l e ({ frames := 1, cells := 0, slots := 0, locals := 21 } : Room) s m ([.ref p_F, .int l1, .int l2, .int l3] : List Value).toArray below meth c H locs 0 0 Q9 (F0 m 8 ls []) := by
    intro n
    induction n with
    | zero => intro l4_1 l5_2 _ hn; exact absurd hn (Nat.not_lt_zero _)
    | succ n ih_8 =>
      intro l4_1 l5_2 hI9 hn_8 H locs hP hD hS ls hl
      have hF := hs_8 l4_1 l5_2 hI9
      unfold bd_X3_lowestRow_8 at hF
      refine lv_iload hx hb dX3_lowestRow_8 (lv_at hl 5 rfl) ?_
      refine lv_if_lt (tgt := 47) hx hb dX3_lowestRow_10 (by decide) (fun cc_3 => ?_) (fun cc_3 => ?_)
      · have hF := hF.1 cc_3
        refine lv_iload hx hb dX3_lowestRow_47 (lv_at hl 4 rfl) ?_
        exact z_iret () hx hb hr hlocks hQ9 hF hP hD hS dX3_lowestRow_49
      · have hF := hF.2 cc_3
        refine lv_iload hx hb dX3_lowestRow_13 (lv_at hl 5 rfl) ?_
        refine lv_iload_n hx hb dX3_lowestRow_15 rfl (lv_at hl 2 rfl) ?_
        refine lv_iload_n hx hb dX3_lowestRow_16 rfl (lv_at hl 3 rfl) ?_
        refine lv_isub hx hb dX3_lowestRow_17 ?_
        refine lv_icmp_le (tgt := 47) hx hb dX3_lowestRow_18 (by decide) (fun cc_4 => ?_) (fun cc_4 => ?_)
        · have hF := hF.1 cc_4
          refine lv_iload hx hb dX3_lowestRow_47 (lv_at hl 4 rfl) ?_
          exact z_iret () hx hb hr hlocks hQ9 hF hP hD hS dX3_lowestRow_49
        · have hF := hF.2 cc_4
          refine lv_aload_n hx hb dX3_lowestRow_21 rfl (lv_at hl 0 rfl) ?_
          refine lv_iload_n hx hb dX3_lowestRow_22 rfl (lv_at hl 1 rfl) ?_
          refine lv_iload hx hb dX3_lowestRow_23 (lv_at hl 5 rfl) ?_
          refine z_calli (wr := [(p_F, .inr (2, [.int F_columns, .int F_rows, .int F_steepness, .int F_size, .ref p_F_cells, .ref p_F_wearing, .ref p_F_turning])), (p_F_turning, .inl (cI, 60, .inl F_turning))]) (va_runSN (As := [.int l1, .int l5_2]) (rest := [.ref p_F]) ⟨hx, hb, hml, hown, hts⟩ (c_X7_cellOf l D cI cJ cZ   l1 l5_2 H.size hF) ⟨va_cnB 2 hts gX3_lowestRow_X7_cellOf_n38 rfl rfl rfl (zN.n8 hE.2) (hts (.initialized RX7) (by decide +kernel)) (by decide +kernel) ⟨Nat.le_of_ble_eq_true rfl, Nat.le_of_ble_eq_true rfl⟩, hts (.static yX7_cellOf) (by decide +kernel), trivial⟩ (z_preS (wc := []) hP hE hD [] (by decide) rfl) rfl rfl hl.1 rfl (lv_room (Nat.le_of_ble_eq_true rfl)) dX3_lowestRow_25 ⟨Nat.le_of_ble_eq_true rfl, Nat.le_of_ble_eq_true rfl⟩) hP hD hS hA [] [0, 1] rfl rfl (by decide) (by decide) (fun r_5 u9 H locs hF hP hD hS => ?_)
          refine z_calli (wr := []) (va_runV (As := [.int r_5]) (rest := []) ⟨hx, hb, hml, hown, hts⟩ (c_X3_isOpening l D cI cJ cZ p_F p_F_cells p_F_wearing p_F_turning F_columns F_rows F_steepness F_size F_turning r_5 H.size hF) (cwV 1 hts gX3_lowestRow_X3_isOpening rfl rfl rfl (by decide +kernel) ⟨Nat.le_of_ble_eq_true rfl, Nat.le_of_ble_eq_true rfl⟩) (z_preV (wc := [(p_F, .inr (2, [.int F_columns, .int F_rows, .int F_steepness, .int F_size, .ref p_F_cells, .ref p_F_wearing, .ref p_F_turning])), (p_F_turning, .inl (cI, 60, .inl F_turning))]) hP hE hD 2 0 rfl rfl [0, 1] (by decide) rfl) rfl rfl hl.1 rfl (lv_room (Nat.le_of_ble_eq_true rfl)) dX3_lowestRow_28 ⟨Nat.le_of_ble_eq_true rfl, Nat.le_of_ble_eq_true rfl⟩) hP hD hS hA [0, 1] [] rfl rfl (by decide) (by decide) (fun r_6 u9 H locs hF hP hD hS => ?_)
          have hP : va_P D vwCl [(p_F, .inr (2, [.int F_columns, .int F_rows, .int F_steepness, .int F_size, .ref p_F_cells, .ref p_F_wearing, .ref p_F_turning])), (p_F_turning, .inl (cI, 60, .inl F_turning))] H := hP
          have hD : va_D A [(p_F, .inr (2, [.int F_columns, .int F_rows, .int F_steepness, .int F_size, .ref p_F_cells, .ref p_F_wearing, .ref p_F_turning])), (p_F_turning, .inl (cI, 60, .inl F_turning))] := hD
          refine lv_if_eq (tgt := 37) hx hb dX3_lowestRow_31 (by decide) (fun cc_7 => ?_) (fun cc_7 => ?_)
          · have hF := hF.1 cc_7
            refine lv_iload hx hb dX3_lowestRow_37 (lv_at hl 5 rfl) ?_
            refine lv_istore (lv' := [(4, .int l5_2), (0, .ref p_F), (1, .int l1), (2, .int l2), (3, .int l3), (5, .int l5_2)]) hx hb dX3_lowestRow_39 hl (by decide) rfl (fun ls hl => ?_)
            refine lv_iinc (v := (l5_2 + (-1 : Int32))) (lv' := [(5, .int (l5_2 + (-1 : Int32))), (4, .int l5_2), (0, .ref p_F), (1, .int l1), (2, .int l2), (3, .int l3)]) hx hb dX3_lowestRow_41 hl (k := 5) rfl rfl (by decide) rfl (fun ls hl => ?_)
            refine lv_goto (tgt := 8) hx hb dX3_lowestRow_44 (by decide) ?_
            exact ih_8 l5_2 (l5_2 + (-1 : Int32)) hF.1 (Nat.lt_of_lt_of_le hF.2 (Nat.le_of_lt_succ hn_8)) _ _ hP hD hS ls (lv_sub hl [2, 3, 4, 5, 1, 0] rfl)
          · have hF := hF.2 cc_7
            refine lv_iload hx hb dX3_lowestRow_34 (lv_at hl 4 rfl) ?_
            exact z_iret () hx hb hr hlocks hQ9 hF hP hD hS dX3_lowestRow_36
  exact hlp_8 _ l2 (l2 - (1 : Int32)) hI_8 (Nat.lt_succ_self _) _ _ hP hD hS ls (lv_sub hl [2, 3, 4, 5, 1, 0] rfl)
