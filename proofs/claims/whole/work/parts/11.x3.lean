set_option maxHeartbeats 8000000 in
set_option maxRecDepth 100000 in
theorem c_X3_isOpening (l : Launch) (D : va_G) (cI cJ cZ : ClassId) (p_F p_F_cells p_F_wearing p_F_turning : Nat) (F_columns : Int32) (F_rows : Int32) (F_steepness : Int32) (F_size : Int32) (F_turning : Nat → Int32) (l1 : Int32) (sz : Nat) {post : Int32 → Prop} (h : wp_X3_isOpening F_turning l1 post) : Met l yX3_isOpening wsX3_isOpening ({ frames := 0, cells := 0, slots := 0, locals := 0 }) (zPc D cI cJ cZ [.ref p_F, .int l1] sz [(p_F, .inr (2, [.int F_columns, .int F_rows, .int F_steepness, .int F_size, .ref p_F_cells, .ref p_F_wearing, .ref p_F_turning])), (p_F_turning, .inl (cI, 60, .inl F_turning))]) (va_Qi (fun (r : Int32) (u : Unit) => post r ) (fun (u : Unit) t => va_P D vwCl [(p_F, .inr (2, [.int F_columns, .int F_rows, .int F_steepness, .int F_size, .ref p_F_cells, .ref p_F_wearing, .ref p_F_turning])), (p_F_turning, .inl (cI, 60, .inl F_turning))] t.heap ∧ va_D (va_A [(p_F, .inr (2, [.int F_columns, .int F_rows, .int F_steepness, .int F_size, .ref p_F_cells, .ref p_F_wearing, .ref p_F_turning])), (p_F_turning, .inl (cI, 60, .inl F_turning))] sz) [(p_F, .inr (2, [.int F_columns, .int F_rows, .int F_steepness, .int F_size, .ref p_F_cells, .ref p_F_wearing, .ref p_F_turning])), (p_F_turning, .inl (cI, 60, .inl F_turning))]) (va_A [(p_F, .inr (2, [.int F_columns, .int F_rows, .int F_steepness, .int F_size, .ref p_F_cells, .ref p_F_wearing, .ref p_F_turning])), (p_F_turning, .inl (cI, 60, .inl F_turning))] sz)) 0 0 (va_A [(p_F, .inr (2, [.int F_columns, .int F_rows, .int F_steepness, .int F_size, .ref p_F_cells, .ref p_F_wearing, .ref p_F_turning])), (p_F_turning, .inl (cI, 60, .inl F_turning))] sz) := by
  refine Met.ofW (cc := cX3_isOpening) (maxL := 2) (ret := (some .boolean)) (by decide) rfl ?_
  intro p e s m args below meth c s₁ B hml hv
  obtain ⟨rfl, hsz, hP, hE, hD0⟩ := hv
  have hx := B.exec
  have hb := B.bytes
  have hr := B.returns
  have hts := atoms_spec (ws := wsX3_isOpening) B.pre
  have hown : s.vm.findClass RX3 = some m.cls := findClass_of_methodNamed B.named
  have hlocks := B.notSynchronized
  have hK := hE.1
  subst hsz
  have hD := hD0.self (sz := s.heap.size)
  generalize hAe : va_A [(p_F, .inr (2, [.int F_columns, .int F_rows, .int F_steepness, .int F_size, .ref p_F_cells, .ref p_F_wearing, .ref p_F_turning])), (p_F_turning, .inl (cI, 60, .inl F_turning))] s.heap.size = A at hD ⊢
  have hA : ∀ q : Nat, s.heap.size ≤ q → A q := fun q h => by rw [← hAe]; exact Or.inr h
  have hS : va_S A s.heap s.heap [] := va_S.rf
  have hP : va_P D vwCl [(p_F, .inr (2, [.int F_columns, .int F_rows, .int F_steepness, .int F_size, .ref p_F_cells, .ref p_F_wearing, .ref p_F_turning])), (p_F_turning, .inl (cI, 60, .inl F_turning))] s.heap := hP
  have hl := lv_entry ([.ref p_F, .int l1]) (n := 2) (Nat.le_of_ble_eq_true rfl)
  rw [lg_entry_eq]
  generalize (lg_sl ([.ref p_F, .int l1]) ++ List.replicate (2 - (lg_sl ([.ref p_F, .int l1])).length) Slot.unset).toArray = ls at hl ⊢
  have hl : lv_has ls 2 [(0, .ref p_F), (1, .int l1)] := hl
  generalize hQ9 : MQ below (va_Qi (fun (r : Int32) (u : Unit) => post r ) (fun (u : Unit) t => va_P D vwCl [(p_F, .inr (2, [.int F_columns, .int F_rows, .int F_steepness, .int F_size, .ref p_F_cells, .ref p_F_wearing, .ref p_F_turning])), (p_F_turning, .inl (cI, 60, .inl F_turning))] t.heap ∧ va_D A [(p_F, .inr (2, [.int F_columns, .int F_rows, .int F_steepness, .int F_size, .ref p_F_cells, .ref p_F_wearing, .ref p_F_turning])), (p_F_turning, .inl (cI, 60, .inl F_turning))]) A) ([.ref p_F, .int l1] : List Value).toArray s 0 0 A = Q9
  have hf_22 := hts (.fieldLink RX3 22 "StrawCoats$Frame" "turning" "[I") (by decide +kernel)
  have hi_X3 : ∀ w ∈ u_ws RX3 TX3 7, w ∈ wsX3_isOpening := by decide +kernel
  have hF := h
  unfold wp_X3_isOpening at hF
  refine lv_aload_n hx hb dX3_isOpening_0 rfl (lv_at hl 0 rfl) ?_
  refine va_get (D := D) (ci := 2) (v := .ref p_F_turning) (C := RX3) (T := TX3) (N := 7) hx hb hts hi_X3 hown hK hP 0 rfl rfl 6 (by decide) hf_22 (fun _ h9 => h9) rfl dX3_isOpening_1 ?_
  refine lv_iload_n hx hb dX3_isOpening_4 rfl (lv_at hl 1 rfl) ?_
  have hb_1 := hF.1
  have hF := hF.2
  refine va_iald hx hb hK hP 1 0 rfl rfl hb_1 dX3_isOpening_5 ?_
  refine lv_if_eq (tgt := 13) hx hb dX3_isOpening_6 (by decide) (fun cc_2 => ?_) (fun cc_2 => ?_)
  · have hF := hF.1 cc_2
    refine lv_iconst (v := (0 : Int32)) hx hb dX3_isOpening_13 (by decide) ?_
    exact z_zret () hx hb hr hlocks hQ9 (z_nb z_01) hF hP hD hS dX3_isOpening_14
  · have hF := hF.2 cc_2
    refine lv_iconst (v := (1 : Int32)) hx hb dX3_isOpening_9 (by decide) ?_
    refine lv_goto (tgt := 14) hx hb dX3_isOpening_10 (by decide) ?_
    exact z_zret () hx hb hr hlocks hQ9 (z_nb z_11) hF hP hD hS dX3_isOpening_14
set_option maxHeartbeats 8000000 in
set_option maxRecDepth 100000 in
theorem c_X3_lowestRow (l : Launch) (D : va_G) (cI cJ cZ : ClassId) (p_F p_F_cells p_F_wearing p_F_turning : Nat) (F_columns : Int32) (F_rows : Int32) (F_steepness : Int32) (F_size : Int32) (F_turning : Nat → Int32) (l1 : Int32) (l2 : Int32) (l3 : Int32) (sz : Nat) {post : Int32 → Prop} (h : wp_X3_lowestRow F_turning l1 l2 l3 post) : Met l yX3_lowestRow wsX3_lowestRow ({ frames := 1, cells := 0, slots := 0, locals := 21 }) (zPc D cI cJ cZ [.ref p_F, .int l1, .int l2, .int l3] sz [(p_F, .inr (2, [.int F_columns, .int F_rows, .int F_steepness, .int F_size, .ref p_F_cells, .ref p_F_wearing, .ref p_F_turning])), (p_F_turning, .inl (cI, 60, .inl F_turning))]) (va_Qi (fun (r : Int32) (u : Unit) => post r ) (fun (u : Unit) t => va_P D vwCl [(p_F, .inr (2, [.int F_columns, .int F_rows, .int F_steepness, .int F_size, .ref p_F_cells, .ref p_F_wearing, .ref p_F_turning])), (p_F_turning, .inl (cI, 60, .inl F_turning))] t.heap ∧ va_D (va_A [(p_F, .inr (2, [.int F_columns, .int F_rows, .int F_steepness, .int F_size, .ref p_F_cells, .ref p_F_wearing, .ref p_F_turning])), (p_F_turning, .inl (cI, 60, .inl F_turning))] sz) [(p_F, .inr (2, [.int F_columns, .int F_rows, .int F_steepness, .int F_size, .ref p_F_cells, .ref p_F_wearing, .ref p_F_turning])), (p_F_turning, .inl (cI, 60, .inl F_turning))]) (va_A [(p_F, .inr (2, [.int F_columns, .int F_rows, .int F_steepness, .int F_size, .ref p_F_cells, .ref p_F_wearing, .ref p_F_turning])), (p_F_turning, .inl (cI, 60, .inl F_turning))] sz)) 0 0 (va_A [(p_F, .inr (2, [.int F_columns, .int F_rows, .int F_steepness, .int F_size, .ref p_F_cells, .ref p_F_wearing, .ref p_F_turning])), (p_F_turning, .inl (cI, 60, .inl F_turning))] sz) := by
  refine Met.ofW (cc := cX3_lowestRow) (maxL := 6) (ret := (some .int)) (by decide) rfl ?_
  intro p e s m args below meth c s₁ B hml hv
  obtain ⟨rfl, hsz, hP, hE, hD0⟩ := hv
  have hx := B.exec
  have hb := B.bytes
  have hr := B.returns
  have hts := atoms_spec (ws := wsX3_lowestRow) B.pre
  have hown : s.vm.findClass RX3 = some m.cls := findClass_of_methodNamed B.named
  have hlocks := B.notSynchronized
  have hK := hE.1
  subst hsz
  have hD := hD0.self (sz := s.heap.size)
  generalize hAe : va_A [(p_F, .inr (2, [.int F_columns, .int F_rows, .int F_steepness, .int F_size, .ref p_F_cells, .ref p_F_wearing, .ref p_F_turning])), (p_F_turning, .inl (cI, 60, .inl F_turning))] s.heap.size = A at hD ⊢
  have hA : ∀ q : Nat, s.heap.size ≤ q → A q := fun q h => by rw [← hAe]; exact Or.inr h
  have hS : va_S A s.heap s.heap [] := va_S.rf
  have hP : va_P D vwCl [(p_F, .inr (2, [.int F_columns, .int F_rows, .int F_steepness, .int F_size, .ref p_F_cells, .ref p_F_wearing, .ref p_F_turning])), (p_F_turning, .inl (cI, 60, .inl F_turning))] s.heap := hP
  have hl := lv_entry ([.ref p_F, .int l1, .int l2, .int l3]) (n := 6) (Nat.le_of_ble_eq_true rfl)
  rw [lg_entry_eq]
  generalize (lg_sl ([.ref p_F, .int l1, .int l2, .int l3]) ++ List.replicate (6 - (lg_sl ([.ref p_F, .int l1, .int l2, .int l3])).length) Slot.unset).toArray = ls at hl ⊢
  have hl : lv_has ls 6 [(0, .ref p_F), (1, .int l1), (2, .int l2), (3, .int l3)] := hl
  generalize hQ9 : MQ below (va_Qi (fun (r : Int32) (u : Unit) => post r ) (fun (u : Unit) t => va_P D vwCl [(p_F, .inr (2, [.int F_columns, .int F_rows, .int F_steepness, .int F_size, .ref p_F_cells, .ref p_F_wearing, .ref p_F_turning])), (p_F_turning, .inl (cI, 60, .inl F_turning))] t.heap ∧ va_D A [(p_F, .inr (2, [.int F_columns, .int F_rows, .int F_steepness, .int F_size, .ref p_F_cells, .ref p_F_wearing, .ref p_F_turning])), (p_F_turning, .inl (cI, 60, .inl F_turning))]) A) ([.ref p_F, .int l1, .int l2, .int l3] : List Value).toArray s 0 0 A = Q9
  have hF := h
  unfold wp_X3_lowestRow at hF
  refine lv_iload_n hx hb dX3_lowestRow_0 rfl (lv_at hl 2 rfl) ?_
  refine lv_istore (lv' := [(4, .int l2), (0, .ref p_F), (1, .int l1), (2, .int l2), (3, .int l3)]) hx hb dX3_lowestRow_1 hl (by decide) rfl (fun ls hl => ?_)
  refine lv_iload_n hx hb dX3_lowestRow_3 rfl (lv_at hl 3 rfl) ?_
  refine lv_iconst (v := (1 : Int32)) hx hb dX3_lowestRow_4 (by decide) ?_
  refine lv_isub hx hb dX3_lowestRow_5 ?_
  refine lv_istore (lv' := [(5, .int (l2 - (1 : Int32))), (4, .int l2), (0, .ref p_F), (1, .int l1), (2, .int l2), (3, .int l3)]) hx hb dX3_lowestRow_6 hl (by decide) rfl (fun ls hl => ?_)
  obtain ⟨I_8, μ_8, hI_8, hs_8⟩ := hF
  have hlp_8 : ∀ (n : Nat) (l4_1 : Int32) (l5_2 : Int32), I_8 l4_1 l5_2 → μ_8 l4_1 l5_2 < n → ∀ (H : Heap) (locs : List Loc), va_P D vwCl [(p_F, .inr (2, [.int F_columns, .int F_rows, .int F_steepness, .int F_size, .ref p_F_cells, .ref p_F_wearing, .ref p_F_turning])), (p_F_turning, .inl (cI, 60, .inl F_turning))] H → va_D A [(p_F, .inr (2, [.int F_columns, .int F_rows, .int F_steepness, .int F_size, .ref p_F_cells, .ref p_F_wearing, .ref p_F_turning])), (p_F_turning, .inl (cI, 60, .inl F_turning))] → va_S A s.heap H locs → ∀ ls : Array Slot, lv_has ls 6 [(0, .ref p_F), (1, .int l1), (2, .int l2), (3, .int l3), (4, .int l4_1), (5, .int l5_2)] → W p l e ({ frames := 1, cells := 0, slots := 0, locals := 21 } : Room) s m ([.ref p_F, .int l1, .int l2, .int l3] : List Value).toArray below meth c H locs 0 0 Q9 (F0 m 8 ls []) := by
    intro n
    induction n with
    | zero => intro l4_1 l5_2 _ hn; exact absurd hn (Nat.not_lt_zero _)
    | succ n ih_8 =>
      intro l4_1 l5_2 hI9 hn_8 H locs hP hD hS ls hl
      have hF := hs_8 l4_1 l5_2 hI9
      unfold bd_X3_lowestRow_8 at hF
      refine lv_iload hx hb dX3_lowestRow_8 (lv_at hl 5 rfl) ?_
      refine lv_if_lt (tgt := 47) hx hb dX3_lowestRow_10 (by decide) (fun cc_3 => ?_) (fun cc_3 => ?_)
      · have hF := hF.1 cc_3
        refine lv_iload hx hb dX3_lowestRow_47 (lv_at hl 4 rfl) ?_
        exact z_iret () hx hb hr hlocks hQ9 hF hP hD hS dX3_lowestRow_49
      · have hF := hF.2 cc_3
        refine lv_iload hx hb dX3_lowestRow_13 (lv_at hl 5 rfl) ?_
        refine lv_iload_n hx hb dX3_lowestRow_15 rfl (lv_at hl 2 rfl) ?_
        refine lv_iload_n hx hb dX3_lowestRow_16 rfl (lv_at hl 3 rfl) ?_
        refine lv_isub hx hb dX3_lowestRow_17 ?_
        refine lv_icmp_le (tgt := 47) hx hb dX3_lowestRow_18 (by decide) (fun cc_4 => ?_) (fun cc_4 => ?_)
        · have hF := hF.1 cc_4
          refine lv_iload hx hb dX3_lowestRow_47 (lv_at hl 4 rfl) ?_
          exact z_iret () hx hb hr hlocks hQ9 hF hP hD hS dX3_lowestRow_49
        · have hF := hF.2 cc_4
          refine lv_aload_n hx hb dX3_lowestRow_21 rfl (lv_at hl 0 rfl) ?_
          refine lv_iload_n hx hb dX3_lowestRow_22 rfl (lv_at hl 1 rfl) ?_
          refine lv_iload hx hb dX3_lowestRow_23 (lv_at hl 5 rfl) ?_
          refine z_calli (wr := [(p_F, .inr (2, [.int F_columns, .int F_rows, .int F_steepness, .int F_size, .ref p_F_cells, .ref p_F_wearing, .ref p_F_turning])), (p_F_turning, .inl (cI, 60, .inl F_turning))]) (va_runSN (As := [.int l1, .int l5_2]) (rest := [.ref p_F]) ⟨hx, hb, hml, hown, hts⟩ (c_X7_cellOf l D cI cJ cZ   l1 l5_2 H.size hF) ⟨va_cnB 2 hts gX3_lowestRow_X7_cellOf_n38 rfl rfl rfl (zN.n8 hE.2) (hts (.initialized RX7) (by decide +kernel)) (by decide +kernel) ⟨Nat.le_of_ble_eq_true rfl, Nat.le_of_ble_eq_true rfl⟩, hts (.static yX7_cellOf) (by decide +kernel), trivial⟩ (z_preS (wc := []) hP hE hD [] (by decide) rfl) rfl rfl hl.1 rfl (lv_room (Nat.le_of_ble_eq_true rfl)) dX3_lowestRow_25 ⟨Nat.le_of_ble_eq_true rfl, Nat.le_of_ble_eq_true rfl⟩) hP hD hS hA [] [0, 1] rfl rfl (by decide) (by decide) (fun r_5 u9 H locs hF hP hD hS => ?_)
          refine z_calli (wr := []) (va_runV (As := [.int r_5]) (rest := []) ⟨hx, hb, hml, hown, hts⟩ (c_X3_isOpening l D cI cJ cZ p_F p_F_cells p_F_wearing p_F_turning F_columns F_rows F_steepness F_size F_turning r_5 H.size hF) (cwV 1 hts gX3_lowestRow_X3_isOpening rfl rfl rfl (by decide +kernel) ⟨Nat.le_of_ble_eq_true rfl, Nat.le_of_ble_eq_true rfl⟩) (z_preV (wc := [(p_F, .inr (2, [.int F_columns, .int F_rows, .int F_steepness, .int F_size, .ref p_F_cells, .ref p_F_wearing, .ref p_F_turning])), (p_F_turning, .inl (cI, 60, .inl F_turning))]) hP hE hD 2 0 rfl rfl [0, 1] (by decide) rfl) rfl rfl hl.1 rfl (lv_room (Nat.le_of_ble_eq_true rfl)) dX3_lowestRow_28 ⟨Nat.le_of_ble_eq_true rfl, Nat.le_of_ble_eq_true rfl⟩) hP hD hS hA [0, 1] [] rfl rfl (by decide) (by decide) (fun r_6 u9 H locs hF hP hD hS => ?_)
          have hP : va_P D vwCl [(p_F, .inr (2, [.int F_columns, .int F_rows, .int F_steepness, .int F_size, .ref p_F_cells, .ref p_F_wearing, .ref p_F_turning])), (p_F_turning, .inl (cI, 60, .inl F_turning))] H := hP
          have hD : va_D A [(p_F, .inr (2, [.int F_columns, .int F_rows, .int F_steepness, .int F_size, .ref p_F_cells, .ref p_F_wearing, .ref p_F_turning])), (p_F_turning, .inl (cI, 60, .inl F_turning))] := hD
          refine lv_if_eq (tgt := 37) hx hb dX3_lowestRow_31 (by decide) (fun cc_7 => ?_) (fun cc_7 => ?_)
          · have hF := hF.1 cc_7
            refine lv_iload hx hb dX3_lowestRow_37 (lv_at hl 5 rfl) ?_
            refine lv_istore (lv' := [(4, .int l5_2), (0, .ref p_F), (1, .int l1), (2, .int l2), (3, .int l3), (5, .int l5_2)]) hx hb dX3_lowestRow_39 hl (by decide) rfl (fun ls hl => ?_)
            refine lv_iinc (v := (l5_2 + (-1 : Int32))) (lv' := [(5, .int (l5_2 + (-1 : Int32))), (4, .int l5_2), (0, .ref p_F), (1, .int l1), (2, .int l2), (3, .int l3)]) hx hb dX3_lowestRow_41 hl (k := 5) rfl rfl (by decide) rfl (fun ls hl => ?_)
            refine lv_goto (tgt := 8) hx hb dX3_lowestRow_44 (by decide) ?_
            exact ih_8 l5_2 (l5_2 + (-1 : Int32)) hF.1 (Nat.lt_of_lt_of_le hF.2 (Nat.le_of_lt_succ hn_8)) _ _ hP hD hS ls (lv_sub hl [2, 3, 4, 5, 1, 0] rfl)
          · have hF := hF.2 cc_7
            refine lv_iload hx hb dX3_lowestRow_34 (lv_at hl 4 rfl) ?_
            exact z_iret () hx hb hr hlocks hQ9 hF hP hD hS dX3_lowestRow_36
  exact hlp_8 _ l2 (l2 - (1 : Int32)) hI_8 (Nat.lt_succ_self _) _ _ hP hD hS ls (lv_sub hl [2, 3, 4, 5, 1, 0] rfl)
set_option maxHeartbeats 8000000 in
set_option maxRecDepth 100000 in
theorem c_X3_raise (l : Launch) (D : va_G) (cI cJ cZ : ClassId) (p_F p_F_cells p_F_wearing p_F_turning : Nat) (F_columns : Int32) (F_rows : Int32) (F_steepness : Int32) (F_size : Int32) (F_cells : Nat → Int32) (F_wearing : Nat → Int32) (F_turning : Nat → Int32) (l1 : Int32) (l2 : Int32) (sz : Nat) {post : Int32 → Int32 → Int32 → (Nat → Int32) → (Nat → Int32) → (Nat → Int32) → Prop} (h : wp_X3_raise F_cells F_wearing F_turning l1 l2 post) : Met l yX3_raise wsX3_raise ({ frames := 1, cells := 0, slots := 0, locals := 23 }) (zPc D cI cJ cZ [.ref p_F, .int l1, .int l2] sz [(p_F, .inr (2, [.int F_columns, .int F_rows, .int F_steepness, .int F_size, .ref p_F_cells, .ref p_F_wearing, .ref p_F_turning])), (p_F_cells, .inl (cI, 36, .inl F_cells)), (p_F_wearing, .inl (cI, 60, .inl F_wearing)), (p_F_turning, .inl (cI, 60, .inl F_turning))]) (va_Qv (fun (u : Int32 × Int32 × Int32 × (Nat → Int32) × (Nat → Int32) × (Nat → Int32)) => post (u.1) (u.2.1) (u.2.2.1) (u.2.2.2.1) (u.2.2.2.2.1) (u.2.2.2.2.2)) (fun (u : Int32 × Int32 × Int32 × (Nat → Int32) × (Nat → Int32) × (Nat → Int32)) t => va_P D vwCl [(p_F, .inr (2, [.int (u.1), .int (u.2.1), .int F_steepness, .int (u.2.2.1), .ref p_F_cells, .ref p_F_wearing, .ref p_F_turning])), (p_F_cells, .inl (cI, 36, .inl (u.2.2.2.1))), (p_F_wearing, .inl (cI, 60, .inl (u.2.2.2.2.1))), (p_F_turning, .inl (cI, 60, .inl (u.2.2.2.2.2)))] t.heap ∧ va_D (va_A [(p_F, .inr (2, [.int F_columns, .int F_rows, .int F_steepness, .int F_size, .ref p_F_cells, .ref p_F_wearing, .ref p_F_turning])), (p_F_cells, .inl (cI, 36, .inl F_cells)), (p_F_wearing, .inl (cI, 60, .inl F_wearing)), (p_F_turning, .inl (cI, 60, .inl F_turning))] sz) [(p_F, .inr (2, [.int (u.1), .int (u.2.1), .int F_steepness, .int (u.2.2.1), .ref p_F_cells, .ref p_F_wearing, .ref p_F_turning])), (p_F_cells, .inl (cI, 36, .inl (u.2.2.2.1))), (p_F_wearing, .inl (cI, 60, .inl (u.2.2.2.2.1))), (p_F_turning, .inl (cI, 60, .inl (u.2.2.2.2.2)))]) (va_A [(p_F, .inr (2, [.int F_columns, .int F_rows, .int F_steepness, .int F_size, .ref p_F_cells, .ref p_F_wearing, .ref p_F_turning])), (p_F_cells, .inl (cI, 36, .inl F_cells)), (p_F_wearing, .inl (cI, 60, .inl F_wearing)), (p_F_turning, .inl (cI, 60, .inl F_turning))] sz)) 0 0 (va_A [(p_F, .inr (2, [.int F_columns, .int F_rows, .int F_steepness, .int F_size, .ref p_F_cells, .ref p_F_wearing, .ref p_F_turning])), (p_F_cells, .inl (cI, 36, .inl F_cells)), (p_F_wearing, .inl (cI, 60, .inl F_wearing)), (p_F_turning, .inl (cI, 60, .inl F_turning))] sz) := by
  refine Met.ofW (cc := cX3_raise) (maxL := 5) (ret := none) (by decide) rfl ?_
  intro p e s m args below meth c s₁ B hml hv
  obtain ⟨rfl, hsz, hP, hE, hD0⟩ := hv
  have hx := B.exec
  have hb := B.bytes
  have hr := B.returns
  have hts := atoms_spec (ws := wsX3_raise) B.pre
  have hown : s.vm.findClass RX3 = some m.cls := findClass_of_methodNamed B.named
  have hlocks := B.notSynchronized
  have hK := hE.1
  subst hsz
  have hD := hD0.self (sz := s.heap.size)
  generalize hAe : va_A [(p_F, .inr (2, [.int F_columns, .int F_rows, .int F_steepness, .int F_size, .ref p_F_cells, .ref p_F_wearing, .ref p_F_turning])), (p_F_cells, .inl (cI, 36, .inl F_cells)), (p_F_wearing, .inl (cI, 60, .inl F_wearing)), (p_F_turning, .inl (cI, 60, .inl F_turning))] s.heap.size = A at hD ⊢
  have hA : ∀ q : Nat, s.heap.size ≤ q → A q := fun q h => by rw [← hAe]; exact Or.inr h
  have hS : va_S A s.heap s.heap [] := va_S.rf
  have hP : va_P D vwCl [(p_F, .inr (2, [.int F_columns, .int F_rows, .int F_steepness, .int F_size, .ref p_F_cells, .ref p_F_wearing, .ref p_F_turning])), (p_F_cells, .inl (cI, 36, .inl F_cells)), (p_F_wearing, .inl (cI, 60, .inl F_wearing)), (p_F_turning, .inl (cI, 60, .inl F_turning))] s.heap := hP
  have hl := lv_entry ([.ref p_F, .int l1, .int l2]) (n := 5) (Nat.le_of_ble_eq_true rfl)
  rw [lg_entry_eq]
  generalize (lg_sl ([.ref p_F, .int l1, .int l2]) ++ List.replicate (5 - (lg_sl ([.ref p_F, .int l1, .int l2])).length) Slot.unset).toArray = ls at hl ⊢
  have hl : lv_has ls 5 [(0, .ref p_F), (1, .int l1), (2, .int l2)] := hl
  generalize hQ9 : MQ below (va_Qv (fun (u : Int32 × Int32 × Int32 × (Nat → Int32) × (Nat → Int32) × (Nat → Int32)) => post (u.1) (u.2.1) (u.2.2.1) (u.2.2.2.1) (u.2.2.2.2.1) (u.2.2.2.2.2)) (fun (u : Int32 × Int32 × Int32 × (Nat → Int32) × (Nat → Int32) × (Nat → Int32)) t => va_P D vwCl [(p_F, .inr (2, [.int (u.1), .int (u.2.1), .int F_steepness, .int (u.2.2.1), .ref p_F_cells, .ref p_F_wearing, .ref p_F_turning])), (p_F_cells, .inl (cI, 36, .inl (u.2.2.2.1))), (p_F_wearing, .inl (cI, 60, .inl (u.2.2.2.2.1))), (p_F_turning, .inl (cI, 60, .inl (u.2.2.2.2.2)))] t.heap ∧ va_D A [(p_F, .inr (2, [.int (u.1), .int (u.2.1), .int F_steepness, .int (u.2.2.1), .ref p_F_cells, .ref p_F_wearing, .ref p_F_turning])), (p_F_cells, .inl (cI, 36, .inl (u.2.2.2.1))), (p_F_wearing, .inl (cI, 60, .inl (u.2.2.2.2.1))), (p_F_turning, .inl (cI, 60, .inl (u.2.2.2.2.2)))]) A) ([.ref p_F, .int l1, .int l2] : List Value).toArray s 0 0 A = Q9
  have hf_29 := hts (.fieldLink RX3 29 "StrawCoats$Frame" "columns" "I") (by decide +kernel)
  have hf_32 := hts (.fieldLink RX3 32 "StrawCoats$Frame" "rows" "I") (by decide +kernel)
  have hf_35 := hts (.fieldLink RX3 35 "StrawCoats$Frame" "size" "I") (by decide +kernel)
  have hf_15 := hts (.fieldLink RX3 15 "StrawCoats$Frame" "cells" "[I") (by decide +kernel)
  have hf_19 := hts (.fieldLink RX3 19 "StrawCoats$Frame" "wearing" "[I") (by decide +kernel)
  have hf_22 := hts (.fieldLink RX3 22 "StrawCoats$Frame" "turning" "[I") (by decide +kernel)
  have hi_X3 : ∀ w ∈ u_ws RX3 TX3 7, w ∈ wsX3_raise := by decide +kernel
  have hF := h
  unfold wp_X3_raise at hF
  refine lv_aload_n hx hb dX3_raise_0 rfl (lv_at hl 0 rfl) ?_
  refine lv_iload_n hx hb dX3_raise_1 rfl (lv_at hl 1 rfl) ?_
  refine va_put (D := D) (ci := 2) (v := .int l1) (ty := .int) (C := RX3) (T := TX3) (N := 7) hx hb hts hi_X3 tyX3 tyX3_ok nmX3 hown hK hP hD hS 0 rfl rfl 0 (by decide) hf_29 (fun _ h9 => h9) rfl (by decide +kernel) rfl rfl (Nat.le_of_ble_eq_true rfl) dX3_raise_2 (fun H locs hP hD hS => ?_)
  have hP : va_P D vwCl [(p_F, .inr (2, [.int l1, .int F_rows, .int F_steepness, .int F_size, .ref p_F_cells, .ref p_F_wearing, .ref p_F_turning])), (p_F_cells, .inl (cI, 36, .inl F_cells)), (p_F_wearing, .inl (cI, 60, .inl F_wearing)), (p_F_turning, .inl (cI, 60, .inl F_turning))] H := hP
  have hD : va_D A [(p_F, .inr (2, [.int l1, .int F_rows, .int F_steepness, .int F_size, .ref p_F_cells, .ref p_F_wearing, .ref p_F_turning])), (p_F_cells, .inl (cI, 36, .inl F_cells)), (p_F_wearing, .inl (cI, 60, .inl F_wearing)), (p_F_turning, .inl (cI, 60, .inl F_turning))] := hD
  refine lv_aload_n hx hb dX3_raise_5 rfl (lv_at hl 0 rfl) ?_
  refine lv_iload_n hx hb dX3_raise_6 rfl (lv_at hl 2 rfl) ?_
  refine va_put (D := D) (ci := 2) (v := .int l2) (ty := .int) (C := RX3) (T := TX3) (N := 7) hx hb hts hi_X3 tyX3 tyX3_ok nmX3 hown hK hP hD hS 0 rfl rfl 1 (by decide) hf_32 (fun _ h9 => h9) rfl (by decide +kernel) rfl rfl (Nat.le_of_ble_eq_true rfl) dX3_raise_7 (fun H locs hP hD hS => ?_)
  have hP : va_P D vwCl [(p_F, .inr (2, [.int l1, .int l2, .int F_steepness, .int F_size, .ref p_F_cells, .ref p_F_wearing, .ref p_F_turning])), (p_F_cells, .inl (cI, 36, .inl F_cells)), (p_F_wearing, .inl (cI, 60, .inl F_wearing)), (p_F_turning, .inl (cI, 60, .inl F_turning))] H := hP
  have hD : va_D A [(p_F, .inr (2, [.int l1, .int l2, .int F_steepness, .int F_size, .ref p_F_cells, .ref p_F_wearing, .ref p_F_turning])), (p_F_cells, .inl (cI, 36, .inl F_cells)), (p_F_wearing, .inl (cI, 60, .inl F_wearing)), (p_F_turning, .inl (cI, 60, .inl F_turning))] := hD
  refine lv_aload_n hx hb dX3_raise_10 rfl (lv_at hl 0 rfl) ?_
  refine lv_iconst (v := (0 : Int32)) hx hb dX3_raise_11 (by decide) ?_
  refine va_put (D := D) (ci := 2) (v := .int (0 : Int32)) (ty := .int) (C := RX3) (T := TX3) (N := 7) hx hb hts hi_X3 tyX3 tyX3_ok nmX3 hown hK hP hD hS 0 rfl rfl 3 (by decide) hf_35 (fun _ h9 => h9) rfl (by decide +kernel) rfl rfl (Nat.le_of_ble_eq_true rfl) dX3_raise_12 (fun H locs hP hD hS => ?_)
  have hP : va_P D vwCl [(p_F, .inr (2, [.int l1, .int l2, .int F_steepness, .int (0 : Int32), .ref p_F_cells, .ref p_F_wearing, .ref p_F_turning])), (p_F_cells, .inl (cI, 36, .inl F_cells)), (p_F_wearing, .inl (cI, 60, .inl F_wearing)), (p_F_turning, .inl (cI, 60, .inl F_turning))] H := hP
  have hD : va_D A [(p_F, .inr (2, [.int l1, .int l2, .int F_steepness, .int (0 : Int32), .ref p_F_cells, .ref p_F_wearing, .ref p_F_turning])), (p_F_cells, .inl (cI, 36, .inl F_cells)), (p_F_wearing, .inl (cI, 60, .inl F_wearing)), (p_F_turning, .inl (cI, 60, .inl F_turning))] := hD
  refine lv_iconst (v := (0 : Int32)) hx hb dX3_raise_15 (by decide) ?_
  refine lv_istore_n (lv' := [(3, .int (0 : Int32)), (0, .ref p_F), (1, .int l1), (2, .int l2)]) hx hb dX3_raise_16 rfl hl (by decide) rfl (fun ls hl => ?_)
  obtain ⟨I_17, μ_17, hI_17, hs_17⟩ := hF
  have hlp_17 : ∀ (n : Nat) (l3_1 : Int32) (F_size_2 : Int32) (F_cells_3 : Nat → Int32), I_17 l3_1 F_size_2 F_cells_3 → μ_17 l3_1 F_size_2 F_cells_3 < n → ∀ (H : Heap) (locs : List Loc), va_P D vwCl [(p_F, .inr (2, [.int l1, .int l2, .int F_steepness, .int F_size_2, .ref p_F_cells, .ref p_F_wearing, .ref p_F_turning])), (p_F_cells, .inl (cI, 36, .inl F_cells_3)), (p_F_wearing, .inl (cI, 60, .inl F_wearing)), (p_F_turning, .inl (cI, 60, .inl F_turning))] H → va_D A [(p_F, .inr (2, [.int l1, .int l2, .int F_steepness, .int F_size_2, .ref p_F_cells, .ref p_F_wearing, .ref p_F_turning])), (p_F_cells, .inl (cI, 36, .inl F_cells_3)), (p_F_wearing, .inl (cI, 60, .inl F_wearing)), (p_F_turning, .inl (cI, 60, .inl F_turning))] → va_S A s.heap H locs → ∀ ls : Array Slot, lv_has ls 5 [(0, .ref p_F), (3, .int l3_1)] → W p l e ({ frames := 1, cells := 0, slots := 0, locals := 23 } : Room) s m ([.ref p_F, .int l1, .int l2] : List Value).toArray below meth c H locs 0 0 Q9 (F0 m 17 ls []) := by
    intro n
    induction n with
    | zero => intro l3_1 F_size_2 F_cells_3 _ hn; exact absurd hn (Nat.not_lt_zero _)
    | succ n ih_17 =>
      intro l3_1 F_size_2 F_cells_3 hI9 hn_17 H locs hP hD hS ls hl
      have hF := hs_17 l3_1 F_size_2 F_cells_3 hI9
      unfold bd_X3_raise_17 at hF
      refine lv_iload_n hx hb dX3_raise_17 rfl (lv_at hl 1 rfl) ?_
      refine lv_aload_n hx hb dX3_raise_18 rfl (lv_at hl 0 rfl) ?_
      refine va_get (D := D) (ci := 2) (v := .int l1) (C := RX3) (T := TX3) (N := 7) hx hb hts hi_X3 hown hK hP 0 rfl rfl 0 (by decide) hf_29 (fun _ h9 => h9) rfl dX3_raise_19 ?_
      refine lv_icmp_ge (tgt := 71) hx hb dX3_raise_22 (by decide) (fun cc_4 => ?_) (fun cc_4 => ?_)
      · have hF := hF.1 cc_4
        refine lv_aload_n hx hb dX3_raise_71 rfl (lv_at hl 0 rfl) ?_
        refine va_get (D := D) (ci := 2) (v := .ref p_F_wearing) (C := RX3) (T := TX3) (N := 7) hx hb hts hi_X3 hown hK hP 0 rfl rfl 5 (by decide) hf_19 (fun _ h9 => h9) rfl dX3_raise_72 ?_
        refine lv_iconst (v := (1 : Int32)) hx hb dX3_raise_75 (by decide) ?_
        refine z_callv (wr := [(p_F, .inr (2, [.int l1, .int l2, .int F_steepness, .int F_size_2, .ref p_F_cells, .ref p_F_wearing, .ref p_F_turning])), (p_F_cells, .inl (cI, 36, .inl F_cells_3)), (p_F_turning, .inl (cI, 60, .inl F_turning))]) (va_runS (As := [.ref p_F_wearing, .int (1 : Int32)]) (rest := []) ⟨hx, hb, hml, hown, hts⟩ (c_J7_fill_53178 l D cI cJ cZ 60 p_F_wearing F_wearing (1 : Int32) H.size hF) (va_cwS 2 hts gX3_raise_J7_fill_53178 rfl rfl rfl (by decide +kernel) ⟨Nat.le_of_ble_eq_true rfl, Nat.le_of_ble_eq_true rfl⟩) (z_preS (wc := [(p_F_wearing, .inl (cI, 60, .inl F_wearing))]) hP hE hD [2] (by decide) rfl) rfl rfl hl.1 rfl (lv_room (Nat.le_of_ble_eq_true rfl)) dX3_raise_76 ⟨Nat.le_of_ble_eq_true rfl, Nat.le_of_ble_eq_true rfl⟩) hP hD hS hA [2] [0, 1, 3] rfl rfl (by decide) (by decide) (fun u9 H locs hF hP hD hS => ?_)
        obtain ⟨F_wearing_5, rfl⟩ : ∃ z, z = u9 := ⟨_, rfl⟩
        have hP : va_P D vwCl [(p_F, .inr (2, [.int l1, .int l2, .int F_steepness, .int F_size_2, .ref p_F_cells, .ref p_F_wearing, .ref p_F_turning])), (p_F_cells, .inl (cI, 36, .inl F_cells_3)), (p_F_turning, .inl (cI, 60, .inl F_turning)), (p_F_wearing, .inl (cI, 60, .inl F_wearing_5))] H := hP
        have hD : va_D A [(p_F, .inr (2, [.int l1, .int l2, .int F_steepness, .int F_size_2, .ref p_F_cells, .ref p_F_wearing, .ref p_F_turning])), (p_F_cells, .inl (cI, 36, .inl F_cells_3)), (p_F_turning, .inl (cI, 60, .inl F_turning)), (p_F_wearing, .inl (cI, 60, .inl F_wearing_5))] := hD
        refine lv_aload_n hx hb dX3_raise_79 rfl (lv_at hl 0 rfl) ?_
        refine va_get (D := D) (ci := 2) (v := .ref p_F_turning) (C := RX3) (T := TX3) (N := 7) hx hb hts hi_X3 hown hK hP 0 rfl rfl 6 (by decide) hf_22 (fun _ h9 => h9) rfl dX3_raise_80 ?_
        refine lv_iconst (v := (0 : Int32)) hx hb dX3_raise_83 (by decide) ?_
        refine z_callv (wr := [(p_F, .inr (2, [.int l1, .int l2, .int F_steepness, .int F_size_2, .ref p_F_cells, .ref p_F_wearing, .ref p_F_turning])), (p_F_cells, .inl (cI, 36, .inl F_cells_3)), (p_F_wearing, .inl (cI, 60, .inl F_wearing_5))]) (va_runS (As := [.ref p_F_turning, .int (0 : Int32)]) (rest := []) ⟨hx, hb, hml, hown, hts⟩ (c_J7_fill_53178 l D cI cJ cZ 60 p_F_turning F_turning (0 : Int32) H.size hF) (va_cwS 2 hts gX3_raise_J7_fill_53178 rfl rfl rfl (by decide +kernel) ⟨Nat.le_of_ble_eq_true rfl, Nat.le_of_ble_eq_true rfl⟩) (z_preS (wc := [(p_F_turning, .inl (cI, 60, .inl F_turning))]) hP hE hD [2] (by decide) rfl) rfl rfl hl.1 rfl (lv_room (Nat.le_of_ble_eq_true rfl)) dX3_raise_84 ⟨Nat.le_of_ble_eq_true rfl, Nat.le_of_ble_eq_true rfl⟩) hP hD hS hA [2] [0, 1, 3] rfl rfl (by decide) (by decide) (fun u9 H locs hF hP hD hS => ?_)
        obtain ⟨F_turning_6, rfl⟩ : ∃ z, z = u9 := ⟨_, rfl⟩
        have hP : va_P D vwCl [(p_F, .inr (2, [.int l1, .int l2, .int F_steepness, .int F_size_2, .ref p_F_cells, .ref p_F_wearing, .ref p_F_turning])), (p_F_cells, .inl (cI, 36, .inl F_cells_3)), (p_F_wearing, .inl (cI, 60, .inl F_wearing_5)), (p_F_turning, .inl (cI, 60, .inl F_turning_6))] H := hP
        have hD : va_D A [(p_F, .inr (2, [.int l1, .int l2, .int F_steepness, .int F_size_2, .ref p_F_cells, .ref p_F_wearing, .ref p_F_turning])), (p_F_cells, .inl (cI, 36, .inl F_cells_3)), (p_F_wearing, .inl (cI, 60, .inl F_wearing_5)), (p_F_turning, .inl (cI, 60, .inl F_turning_6))] := hD
        exact z_vret (l1, l2, F_size_2, F_cells_3, F_wearing_5, F_turning_6) hx hb hr hlocks hQ9 hF hP hD hS dX3_raise_87
      · have hF := hF.2 cc_4
        refine lv_iconst (v := (0 : Int32)) hx hb dX3_raise_25 (by decide) ?_
        refine lv_istore (lv' := [(4, .int (0 : Int32)), (0, .ref p_F), (3, .int l3_1)]) hx hb dX3_raise_26 hl (by decide) rfl (fun ls hl => ?_)
        obtain ⟨I_28, μ_28, hI_28, hs_28⟩ := hF
        have hlp_28 : ∀ (n : Nat) (l4_7 : Int32) (F_size_8 : Int32) (F_cells_9 : Nat → Int32), I_28 l4_7 F_size_8 F_cells_9 → μ_28 l4_7 F_size_8 F_cells_9 < n → ∀ (H : Heap) (locs : List Loc), va_P D vwCl [(p_F, .inr (2, [.int l1, .int l2, .int F_steepness, .int F_size_8, .ref p_F_cells, .ref p_F_wearing, .ref p_F_turning])), (p_F_cells, .inl (cI, 36, .inl F_cells_9)), (p_F_wearing, .inl (cI, 60, .inl F_wearing)), (p_F_turning, .inl (cI, 60, .inl F_turning))] H → va_D A [(p_F, .inr (2, [.int l1, .int l2, .int F_steepness, .int F_size_8, .ref p_F_cells, .ref p_F_wearing, .ref p_F_turning])), (p_F_cells, .inl (cI, 36, .inl F_cells_9)), (p_F_wearing, .inl (cI, 60, .inl F_wearing)), (p_F_turning, .inl (cI, 60, .inl F_turning))] → va_S A s.heap H locs → ∀ ls : Array Slot, lv_has ls 5 [(0, .ref p_F), (3, .int l3_1), (4, .int l4_7)] → W p l e ({ frames := 1, cells := 0, slots := 0, locals := 23 } : Room) s m ([.ref p_F, .int l1, .int l2] : List Value).toArray below meth c H locs 0 0 Q9 (F0 m 28 ls []) := by
          intro n
          induction n with
          | zero => intro l4_7 F_size_8 F_cells_9 _ hn; exact absurd hn (Nat.not_lt_zero _)
          | succ n ih_28 =>
            intro l4_7 F_size_8 F_cells_9 hI9 hn_28 H locs hP hD hS ls hl
            have hF := hs_28 l4_7 F_size_8 F_cells_9 hI9
            unfold bd_X3_raise_28 at hF
            refine lv_iload hx hb dX3_raise_28 (lv_at hl 2 rfl) ?_
            refine lv_aload_n hx hb dX3_raise_30 rfl (lv_at hl 0 rfl) ?_
            refine va_get (D := D) (ci := 2) (v := .int l2) (C := RX3) (T := TX3) (N := 7) hx hb hts hi_X3 hown hK hP 0 rfl rfl 1 (by decide) hf_32 (fun _ h9 => h9) rfl dX3_raise_31 ?_
            refine lv_icmp_ge (tgt := 65) hx hb dX3_raise_34 (by decide) (fun cc_10 => ?_) (fun cc_10 => ?_)
            · have hF := hF.1 cc_10
              refine lv_iinc (v := (l3_1 + (1 : Int32))) (lv' := [(3, .int (l3_1 + (1 : Int32))), (0, .ref p_F), (4, .int l4_7)]) hx hb dX3_raise_65 hl (k := 1) rfl rfl (by decide) rfl (fun ls hl => ?_)
              refine lv_goto (tgt := 17) hx hb dX3_raise_68 (by decide) ?_
              exact ih_17 (l3_1 + (1 : Int32)) F_size_8 F_cells_9 hF.1 (Nat.lt_of_lt_of_le hF.2 (Nat.le_of_lt_succ hn_17)) _ _ hP hD hS ls (lv_sub hl [1, 0] rfl)
            · have hF := hF.2 cc_10
              refine lv_aload_n hx hb dX3_raise_37 rfl (lv_at hl 0 rfl) ?_
              refine va_get (D := D) (ci := 2) (v := .ref p_F_cells) (C := RX3) (T := TX3) (N := 7) hx hb hts hi_X3 hown hK hP 0 rfl rfl 4 (by decide) hf_15 (fun _ h9 => h9) rfl dX3_raise_38 ?_
              refine lv_aload_n hx hb dX3_raise_41 rfl (lv_at hl 0 rfl) ?_
              refine lv_dup hx hb dX3_raise_42 rfl ?_
              refine va_get (D := D) (ci := 2) (v := .int F_size_8) (C := RX3) (T := TX3) (N := 7) hx hb hts hi_X3 hown hK hP 0 rfl rfl 3 (by decide) hf_35 (fun _ h9 => h9) rfl dX3_raise_43 ?_
              refine lv_dup_x1 hx hb dX3_raise_46 rfl rfl ?_
              refine lv_iconst (v := (1 : Int32)) hx hb dX3_raise_47 (by decide) ?_
              refine lv_iadd hx hb dX3_raise_48 ?_
              refine va_put (D := D) (ci := 2) (v := .int (F_size_8 + (1 : Int32))) (ty := .int) (C := RX3) (T := TX3) (N := 7) hx hb hts hi_X3 tyX3 tyX3_ok nmX3 hown hK hP hD hS 0 rfl rfl 3 (by decide) hf_35 (fun _ h9 => h9) rfl (by decide +kernel) rfl rfl (Nat.le_of_ble_eq_true rfl) dX3_raise_49 (fun H locs hP hD hS => ?_)
              have hP : va_P D vwCl [(p_F, .inr (2, [.int l1, .int l2, .int F_steepness, .int (F_size_8 + (1 : Int32)), .ref p_F_cells, .ref p_F_wearing, .ref p_F_turning])), (p_F_cells, .inl (cI, 36, .inl F_cells_9)), (p_F_wearing, .inl (cI, 60, .inl F_wearing)), (p_F_turning, .inl (cI, 60, .inl F_turning))] H := hP
              have hD : va_D A [(p_F, .inr (2, [.int l1, .int l2, .int F_steepness, .int (F_size_8 + (1 : Int32)), .ref p_F_cells, .ref p_F_wearing, .ref p_F_turning])), (p_F_cells, .inl (cI, 36, .inl F_cells_9)), (p_F_wearing, .inl (cI, 60, .inl F_wearing)), (p_F_turning, .inl (cI, 60, .inl F_turning))] := hD
              refine lv_iload_n hx hb dX3_raise_52 rfl (lv_at hl 1 rfl) ?_
              refine lv_iload hx hb dX3_raise_53 (lv_at hl 2 rfl) ?_
              refine z_calli (wr := [(p_F, .inr (2, [.int l1, .int l2, .int F_steepness, .int (F_size_8 + (1 : Int32)), .ref p_F_cells, .ref p_F_wearing, .ref p_F_turning])), (p_F_cells, .inl (cI, 36, .inl F_cells_9)), (p_F_wearing, .inl (cI, 60, .inl F_wearing)), (p_F_turning, .inl (cI, 60, .inl F_turning))]) (va_runSN (As := [.int l3_1, .int l4_7]) (rest := [.int F_size_8, .ref p_F_cells]) ⟨hx, hb, hml, hown, hts⟩ (c_X7_cellOf l D cI cJ cZ   l3_1 l4_7 H.size hF) ⟨va_cnB 2 hts gX3_raise_X7_cellOf_n38 rfl rfl rfl (zN.n8 hE.2) (hts (.initialized RX7) (by decide +kernel)) (by decide +kernel) ⟨Nat.le_of_ble_eq_true rfl, Nat.le_of_ble_eq_true rfl⟩, hts (.static yX7_cellOf) (by decide +kernel), trivial⟩ (z_preS (wc := []) hP hE hD [] (by decide) rfl) rfl rfl hl.1 rfl (lv_room (Nat.le_of_ble_eq_true rfl)) dX3_raise_55 ⟨Nat.le_of_ble_eq_true rfl, Nat.le_of_ble_eq_true rfl⟩) hP hD hS hA [] [0, 1, 2, 3] rfl rfl (by decide) (by decide) (fun r_11 u9 H locs hF hP hD hS => ?_)
              have hb_12 := hF.1
              have hF := hF.2
              refine va_iast hx hb hK hP hD hS 1 0 rfl rfl hb_12 dX3_raise_58 (fun H locs hP hD hS => ?_)
              have hP : va_P D vwCl [(p_F, .inr (2, [.int l1, .int l2, .int F_steepness, .int (F_size_8 + (1 : Int32)), .ref p_F_cells, .ref p_F_wearing, .ref p_F_turning])), (p_F_cells, .inl (cI, 36, .inl (upd F_cells_9 F_size_8.toNatClampNeg r_11))), (p_F_wearing, .inl (cI, 60, .inl F_wearing)), (p_F_turning, .inl (cI, 60, .inl F_turning))] H := hP
              have hD : va_D A [(p_F, .inr (2, [.int l1, .int l2, .int F_steepness, .int (F_size_8 + (1 : Int32)), .ref p_F_cells, .ref p_F_wearing, .ref p_F_turning])), (p_F_cells, .inl (cI, 36, .inl (upd F_cells_9 F_size_8.toNatClampNeg r_11))), (p_F_wearing, .inl (cI, 60, .inl F_wearing)), (p_F_turning, .inl (cI, 60, .inl F_turning))] := hD
              refine lv_iinc (v := (l4_7 + (1 : Int32))) (lv' := [(4, .int (l4_7 + (1 : Int32))), (0, .ref p_F), (3, .int l3_1)]) hx hb dX3_raise_59 hl (k := 2) rfl rfl (by decide) rfl (fun ls hl => ?_)
              refine lv_goto (tgt := 28) hx hb dX3_raise_62 (by decide) ?_
              exact ih_28 (l4_7 + (1 : Int32)) (F_size_8 + (1 : Int32)) (upd F_cells_9 F_size_8.toNatClampNeg r_11) hF.1 (Nat.lt_of_lt_of_le hF.2 (Nat.le_of_lt_succ hn_28)) _ _ hP hD hS ls (lv_sub hl [1, 2, 0] rfl)
        exact hlp_28 _ (0 : Int32) F_size_2 F_cells_3 hI_28 (Nat.lt_succ_self _) _ _ hP hD hS ls (lv_sub hl [1, 2, 0] rfl)
  exact hlp_17 _ (0 : Int32) (0 : Int32) F_cells hI_17 (Nat.lt_succ_self _) _ _ hP hD hS ls (lv_sub hl [1, 0] rfl)
set_option maxHeartbeats 8000000 in
set_option maxRecDepth 100000 in
theorem c_X3_hasColumn (l : Launch) (D : va_G) (cI cJ cZ : ClassId) (p_F p_F_cells p_F_wearing p_F_turning : Nat) (F_columns : Int32) (F_rows : Int32) (F_steepness : Int32) (F_size : Int32) (l1 : Int32) (sz : Nat) {post : Int32 → Prop} (h : wp_X3_hasColumn F_columns l1 post) : Met l yX3_hasColumn wsX3_hasColumn ({ frames := 1, cells := 0, slots := 0, locals := 22 }) (zPc D cI cJ cZ [.ref p_F, .int l1] sz [(p_F, .inr (2, [.int F_columns, .int F_rows, .int F_steepness, .int F_size, .ref p_F_cells, .ref p_F_wearing, .ref p_F_turning]))]) (va_Qi (fun (r : Int32) (u : Unit) => post r ) (fun (u : Unit) t => va_P D vwCl [(p_F, .inr (2, [.int F_columns, .int F_rows, .int F_steepness, .int F_size, .ref p_F_cells, .ref p_F_wearing, .ref p_F_turning]))] t.heap ∧ va_D (va_A [(p_F, .inr (2, [.int F_columns, .int F_rows, .int F_steepness, .int F_size, .ref p_F_cells, .ref p_F_wearing, .ref p_F_turning]))] sz) [(p_F, .inr (2, [.int F_columns, .int F_rows, .int F_steepness, .int F_size, .ref p_F_cells, .ref p_F_wearing, .ref p_F_turning]))]) (va_A [(p_F, .inr (2, [.int F_columns, .int F_rows, .int F_steepness, .int F_size, .ref p_F_cells, .ref p_F_wearing, .ref p_F_turning]))] sz)) 0 0 (va_A [(p_F, .inr (2, [.int F_columns, .int F_rows, .int F_steepness, .int F_size, .ref p_F_cells, .ref p_F_wearing, .ref p_F_turning]))] sz) := by
  refine Met.ofW (cc := cX3_hasColumn) (maxL := 2) (ret := (some .boolean)) (by decide) rfl ?_
  intro p e s m args below meth c s₁ B hml hv
  obtain ⟨rfl, hsz, hP, hE, hD0⟩ := hv
  have hx := B.exec
  have hb := B.bytes
  have hr := B.returns
  have hts := atoms_spec (ws := wsX3_hasColumn) B.pre
  have hown : s.vm.findClass RX3 = some m.cls := findClass_of_methodNamed B.named
  have hlocks := B.notSynchronized
  have hK := hE.1
  subst hsz
  have hD := hD0.self (sz := s.heap.size)
  generalize hAe : va_A [(p_F, .inr (2, [.int F_columns, .int F_rows, .int F_steepness, .int F_size, .ref p_F_cells, .ref p_F_wearing, .ref p_F_turning]))] s.heap.size = A at hD ⊢
  have hA : ∀ q : Nat, s.heap.size ≤ q → A q := fun q h => by rw [← hAe]; exact Or.inr h
  have hS : va_S A s.heap s.heap [] := va_S.rf
  have hP : va_P D vwCl [(p_F, .inr (2, [.int F_columns, .int F_rows, .int F_steepness, .int F_size, .ref p_F_cells, .ref p_F_wearing, .ref p_F_turning]))] s.heap := hP
  have hl := lv_entry ([.ref p_F, .int l1]) (n := 2) (Nat.le_of_ble_eq_true rfl)
  rw [lg_entry_eq]
  generalize (lg_sl ([.ref p_F, .int l1]) ++ List.replicate (2 - (lg_sl ([.ref p_F, .int l1])).length) Slot.unset).toArray = ls at hl ⊢
  have hl : lv_has ls 2 [(0, .ref p_F), (1, .int l1)] := hl
  generalize hQ9 : MQ below (va_Qi (fun (r : Int32) (u : Unit) => post r ) (fun (u : Unit) t => va_P D vwCl [(p_F, .inr (2, [.int F_columns, .int F_rows, .int F_steepness, .int F_size, .ref p_F_cells, .ref p_F_wearing, .ref p_F_turning]))] t.heap ∧ va_D A [(p_F, .inr (2, [.int F_columns, .int F_rows, .int F_steepness, .int F_size, .ref p_F_cells, .ref p_F_wearing, .ref p_F_turning]))]) A) ([.ref p_F, .int l1] : List Value).toArray s 0 0 A = Q9
  have hf_29 := hts (.fieldLink RX3 29 "StrawCoats$Frame" "columns" "I") (by decide +kernel)
  have hi_X3 : ∀ w ∈ u_ws RX3 TX3 7, w ∈ wsX3_hasColumn := by decide +kernel
  have hF := h
  unfold wp_X3_hasColumn at hF
  refine lv_iload_n hx hb dX3_hasColumn_0 rfl (lv_at hl 1 rfl) ?_
  refine lv_iconst (v := (0 : Int32)) hx hb dX3_hasColumn_1 (by decide) ?_
  refine lv_aload_n hx hb dX3_hasColumn_2 rfl (lv_at hl 0 rfl) ?_
  refine va_get (D := D) (ci := 2) (v := .int F_columns) (C := RX3) (T := TX3) (N := 7) hx hb hts hi_X3 hown hK hP 0 rfl rfl 0 (by decide) hf_29 (fun _ h9 => h9) rfl dX3_hasColumn_3 ?_
  refine lv_iconst (v := (1 : Int32)) hx hb dX3_hasColumn_6 (by decide) ?_
  refine lv_isub hx hb dX3_hasColumn_7 ?_
  refine z_calli (wr := [(p_F, .inr (2, [.int F_columns, .int F_rows, .int F_steepness, .int F_size, .ref p_F_cells, .ref p_F_wearing, .ref p_F_turning]))]) (va_runSN (As := [.int l1, .int (0 : Int32), .int (F_columns - (1 : Int32))]) (rest := []) ⟨hx, hb, hml, hown, hts⟩ (c_X7_isWithin l D cI cJ cZ   l1 (0 : Int32) (F_columns - (1 : Int32)) s.heap.size hF) ⟨va_cnB 3 hts gX3_hasColumn_X7_isWithin_n48 rfl rfl rfl (zN.n9 hE.2) (hts (.initialized RX7) (by decide +kernel)) (by decide +kernel) ⟨Nat.le_of_ble_eq_true rfl, Nat.le_of_ble_eq_true rfl⟩, hts (.static yX7_isWithin) (by decide +kernel), trivial⟩ (z_preS (wc := []) hP hE hD [] (by decide) rfl) rfl rfl hl.1 rfl (lv_room (Nat.le_of_ble_eq_true rfl)) dX3_hasColumn_8 ⟨Nat.le_of_ble_eq_true rfl, Nat.le_of_ble_eq_true rfl⟩) hP hD hS hA [] [0] rfl rfl (by decide) (by decide) (fun r_1 u9 H locs hF hP hD hS => ?_)
  have hz_2 := hF.1
  have hF := hF.2
  exact z_zret () hx hb hr hlocks hQ9 (z_nb hz_2) hF hP hD hS dX3_hasColumn_11
set_option maxHeartbeats 8000000 in
set_option maxRecDepth 100000 in
theorem c_X3_hasRow (l : Launch) (D : va_G) (cI cJ cZ : ClassId) (p_F p_F_cells p_F_wearing p_F_turning : Nat) (F_columns : Int32) (F_rows : Int32) (F_steepness : Int32) (F_size : Int32) (l1 : Int32) (sz : Nat) {post : Int32 → Prop} (h : wp_X3_hasRow F_rows l1 post) : Met l yX3_hasRow wsX3_hasRow ({ frames := 1, cells := 0, slots := 0, locals := 22 }) (zPc D cI cJ cZ [.ref p_F, .int l1] sz [(p_F, .inr (2, [.int F_columns, .int F_rows, .int F_steepness, .int F_size, .ref p_F_cells, .ref p_F_wearing, .ref p_F_turning]))]) (va_Qi (fun (r : Int32) (u : Unit) => post r ) (fun (u : Unit) t => va_P D vwCl [(p_F, .inr (2, [.int F_columns, .int F_rows, .int F_steepness, .int F_size, .ref p_F_cells, .ref p_F_wearing, .ref p_F_turning]))] t.heap ∧ va_D (va_A [(p_F, .inr (2, [.int F_columns, .int F_rows, .int F_steepness, .int F_size, .ref p_F_cells, .ref p_F_wearing, .ref p_F_turning]))] sz) [(p_F, .inr (2, [.int F_columns, .int F_rows, .int F_steepness, .int F_size, .ref p_F_cells, .ref p_F_wearing, .ref p_F_turning]))]) (va_A [(p_F, .inr (2, [.int F_columns, .int F_rows, .int F_steepness, .int F_size, .ref p_F_cells, .ref p_F_wearing, .ref p_F_turning]))] sz)) 0 0 (va_A [(p_F, .inr (2, [.int F_columns, .int F_rows, .int F_steepness, .int F_size, .ref p_F_cells, .ref p_F_wearing, .ref p_F_turning]))] sz) := by
  refine Met.ofW (cc := cX3_hasRow) (maxL := 2) (ret := (some .boolean)) (by decide) rfl ?_
  intro p e s m args below meth c s₁ B hml hv
  obtain ⟨rfl, hsz, hP, hE, hD0⟩ := hv
  have hx := B.exec
  have hb := B.bytes
  have hr := B.returns
  have hts := atoms_spec (ws := wsX3_hasRow) B.pre
  have hown : s.vm.findClass RX3 = some m.cls := findClass_of_methodNamed B.named
  have hlocks := B.notSynchronized
  have hK := hE.1
  subst hsz
  have hD := hD0.self (sz := s.heap.size)
  generalize hAe : va_A [(p_F, .inr (2, [.int F_columns, .int F_rows, .int F_steepness, .int F_size, .ref p_F_cells, .ref p_F_wearing, .ref p_F_turning]))] s.heap.size = A at hD ⊢
  have hA : ∀ q : Nat, s.heap.size ≤ q → A q := fun q h => by rw [← hAe]; exact Or.inr h
  have hS : va_S A s.heap s.heap [] := va_S.rf
  have hP : va_P D vwCl [(p_F, .inr (2, [.int F_columns, .int F_rows, .int F_steepness, .int F_size, .ref p_F_cells, .ref p_F_wearing, .ref p_F_turning]))] s.heap := hP
  have hl := lv_entry ([.ref p_F, .int l1]) (n := 2) (Nat.le_of_ble_eq_true rfl)
  rw [lg_entry_eq]
  generalize (lg_sl ([.ref p_F, .int l1]) ++ List.replicate (2 - (lg_sl ([.ref p_F, .int l1])).length) Slot.unset).toArray = ls at hl ⊢
  have hl : lv_has ls 2 [(0, .ref p_F), (1, .int l1)] := hl
  generalize hQ9 : MQ below (va_Qi (fun (r : Int32) (u : Unit) => post r ) (fun (u : Unit) t => va_P D vwCl [(p_F, .inr (2, [.int F_columns, .int F_rows, .int F_steepness, .int F_size, .ref p_F_cells, .ref p_F_wearing, .ref p_F_turning]))] t.heap ∧ va_D A [(p_F, .inr (2, [.int F_columns, .int F_rows, .int F_steepness, .int F_size, .ref p_F_cells, .ref p_F_wearing, .ref p_F_turning]))]) A) ([.ref p_F, .int l1] : List Value).toArray s 0 0 A = Q9
  have hf_32 := hts (.fieldLink RX3 32 "StrawCoats$Frame" "rows" "I") (by decide +kernel)
  have hi_X3 : ∀ w ∈ u_ws RX3 TX3 7, w ∈ wsX3_hasRow := by decide +kernel
  have hF := h
  unfold wp_X3_hasRow at hF
  refine lv_iload_n hx hb dX3_hasRow_0 rfl (lv_at hl 1 rfl) ?_
  refine lv_iconst (v := (0 : Int32)) hx hb dX3_hasRow_1 (by decide) ?_
  refine lv_aload_n hx hb dX3_hasRow_2 rfl (lv_at hl 0 rfl) ?_
  refine va_get (D := D) (ci := 2) (v := .int F_rows) (C := RX3) (T := TX3) (N := 7) hx hb hts hi_X3 hown hK hP 0 rfl rfl 1 (by decide) hf_32 (fun _ h9 => h9) rfl dX3_hasRow_3 ?_
  refine lv_iconst (v := (1 : Int32)) hx hb dX3_hasRow_6 (by decide) ?_
  refine lv_isub hx hb dX3_hasRow_7 ?_
  refine z_calli (wr := [(p_F, .inr (2, [.int F_columns, .int F_rows, .int F_steepness, .int F_size, .ref p_F_cells, .ref p_F_wearing, .ref p_F_turning]))]) (va_runSN (As := [.int l1, .int (0 : Int32), .int (F_rows - (1 : Int32))]) (rest := []) ⟨hx, hb, hml, hown, hts⟩ (c_X7_isWithin l D cI cJ cZ   l1 (0 : Int32) (F_rows - (1 : Int32)) s.heap.size hF) ⟨va_cnB 3 hts gX3_hasRow_X7_isWithin_n48 rfl rfl rfl (zN.n9 hE.2) (hts (.initialized RX7) (by decide +kernel)) (by decide +kernel) ⟨Nat.le_of_ble_eq_true rfl, Nat.le_of_ble_eq_true rfl⟩, hts (.static yX7_isWithin) (by decide +kernel), trivial⟩ (z_preS (wc := []) hP hE hD [] (by decide) rfl) rfl rfl hl.1 rfl (lv_room (Nat.le_of_ble_eq_true rfl)) dX3_hasRow_8 ⟨Nat.le_of_ble_eq_true rfl, Nat.le_of_ble_eq_true rfl⟩) hP hD hS hA [] [0] rfl rfl (by decide) (by decide) (fun r_1 u9 H locs hF hP hD hS => ?_)
  have hz_2 := hF.1
  have hF := hF.2
  exact z_zret () hx hb hr hlocks hQ9 (z_nb hz_2) hF hP hD hS dX3_hasRow_11
set_option maxHeartbeats 8000000 in
set_option maxRecDepth 100000 in
theorem c_X3_hasCell (l : Launch) (D : va_G) (cI cJ cZ : ClassId) (p_F p_F_cells p_F_wearing p_F_turning : Nat) (F_columns : Int32) (F_rows : Int32) (F_steepness : Int32) (F_size : Int32) (l1 : Int32) (l2 : Int32) (sz : Nat) {post : Int32 → Prop} (h : wp_X3_hasCell F_columns F_rows l1 l2 post) : Met l yX3_hasCell wsX3_hasCell ({ frames := 2, cells := 0, slots := 0, locals := 43 }) (zPc D cI cJ cZ [.ref p_F, .int l1, .int l2] sz [(p_F, .inr (2, [.int F_columns, .int F_rows, .int F_steepness, .int F_size, .ref p_F_cells, .ref p_F_wearing, .ref p_F_turning]))]) (va_Qi (fun (r : Int32) (u : Unit) => post r ) (fun (u : Unit) t => va_P D vwCl [(p_F, .inr (2, [.int F_columns, .int F_rows, .int F_steepness, .int F_size, .ref p_F_cells, .ref p_F_wearing, .ref p_F_turning]))] t.heap ∧ va_D (va_A [(p_F, .inr (2, [.int F_columns, .int F_rows, .int F_steepness, .int F_size, .ref p_F_cells, .ref p_F_wearing, .ref p_F_turning]))] sz) [(p_F, .inr (2, [.int F_columns, .int F_rows, .int F_steepness, .int F_size, .ref p_F_cells, .ref p_F_wearing, .ref p_F_turning]))]) (va_A [(p_F, .inr (2, [.int F_columns, .int F_rows, .int F_steepness, .int F_size, .ref p_F_cells, .ref p_F_wearing, .ref p_F_turning]))] sz)) 0 0 (va_A [(p_F, .inr (2, [.int F_columns, .int F_rows, .int F_steepness, .int F_size, .ref p_F_cells, .ref p_F_wearing, .ref p_F_turning]))] sz) := by
  refine Met.ofW (cc := cX3_hasCell) (maxL := 3) (ret := (some .boolean)) (by decide) rfl ?_
  intro p e s m args below meth c s₁ B hml hv
  obtain ⟨rfl, hsz, hP, hE, hD0⟩ := hv
  have hx := B.exec
  have hb := B.bytes
  have hr := B.returns
  have hts := atoms_spec (ws := wsX3_hasCell) B.pre
  have hown : s.vm.findClass RX3 = some m.cls := findClass_of_methodNamed B.named
  have hlocks := B.notSynchronized
  have hK := hE.1
  subst hsz
  have hD := hD0.self (sz := s.heap.size)
  generalize hAe : va_A [(p_F, .inr (2, [.int F_columns, .int F_rows, .int F_steepness, .int F_size, .ref p_F_cells, .ref p_F_wearing, .ref p_F_turning]))] s.heap.size = A at hD ⊢
  have hA : ∀ q : Nat, s.heap.size ≤ q → A q := fun q h => by rw [← hAe]; exact Or.inr h
  have hS : va_S A s.heap s.heap [] := va_S.rf
  have hP : va_P D vwCl [(p_F, .inr (2, [.int F_columns, .int F_rows, .int F_steepness, .int F_size, .ref p_F_cells, .ref p_F_wearing, .ref p_F_turning]))] s.heap := hP
  have hl := lv_entry ([.ref p_F, .int l1, .int l2]) (n := 3) (Nat.le_of_ble_eq_true rfl)
  rw [lg_entry_eq]
  generalize (lg_sl ([.ref p_F, .int l1, .int l2]) ++ List.replicate (3 - (lg_sl ([.ref p_F, .int l1, .int l2])).length) Slot.unset).toArray = ls at hl ⊢
  have hl : lv_has ls 3 [(0, .ref p_F), (1, .int l1), (2, .int l2)] := hl
  generalize hQ9 : MQ below (va_Qi (fun (r : Int32) (u : Unit) => post r ) (fun (u : Unit) t => va_P D vwCl [(p_F, .inr (2, [.int F_columns, .int F_rows, .int F_steepness, .int F_size, .ref p_F_cells, .ref p_F_wearing, .ref p_F_turning]))] t.heap ∧ va_D A [(p_F, .inr (2, [.int F_columns, .int F_rows, .int F_steepness, .int F_size, .ref p_F_cells, .ref p_F_wearing, .ref p_F_turning]))]) A) ([.ref p_F, .int l1, .int l2] : List Value).toArray s 0 0 A = Q9
  have hF := h
  unfold wp_X3_hasCell at hF
  refine lv_aload_n hx hb dX3_hasCell_0 rfl (lv_at hl 0 rfl) ?_
  refine lv_iload_n hx hb dX3_hasCell_1 rfl (lv_at hl 1 rfl) ?_
  refine z_calli (wr := []) (va_runV (As := [.int l1]) (rest := []) ⟨hx, hb, hml, hown, hts⟩ (c_X3_hasColumn l D cI cJ cZ p_F p_F_cells p_F_wearing p_F_turning F_columns F_rows F_steepness F_size l1 s.heap.size hF) (cwV 1 hts gX3_hasCell_X3_hasColumn rfl rfl rfl (by decide +kernel) ⟨Nat.le_of_ble_eq_true rfl, Nat.le_of_ble_eq_true rfl⟩) (z_preV (wc := [(p_F, .inr (2, [.int F_columns, .int F_rows, .int F_steepness, .int F_size, .ref p_F_cells, .ref p_F_wearing, .ref p_F_turning]))]) hP hE hD 2 0 rfl rfl [0] (by decide) rfl) rfl rfl hl.1 rfl (lv_room (Nat.le_of_ble_eq_true rfl)) dX3_hasCell_2 ⟨Nat.le_of_ble_eq_true rfl, Nat.le_of_ble_eq_true rfl⟩) hP hD hS hA [0] [] rfl rfl (by decide) (by decide) (fun r_1 u9 H locs hF hP hD hS => ?_)
  have hP : va_P D vwCl [(p_F, .inr (2, [.int F_columns, .int F_rows, .int F_steepness, .int F_size, .ref p_F_cells, .ref p_F_wearing, .ref p_F_turning]))] H := hP
  have hD : va_D A [(p_F, .inr (2, [.int F_columns, .int F_rows, .int F_steepness, .int F_size, .ref p_F_cells, .ref p_F_wearing, .ref p_F_turning]))] := hD
  refine lv_if_eq (tgt := 20) hx hb dX3_hasCell_5 (by decide) (fun cc_2 => ?_) (fun cc_2 => ?_)
  · have hF := hF.1 cc_2
    refine lv_iconst (v := (0 : Int32)) hx hb dX3_hasCell_20 (by decide) ?_
    exact z_zret () hx hb hr hlocks hQ9 (z_nb z_01) hF hP hD hS dX3_hasCell_21
  · have hF := hF.2 cc_2
    refine lv_aload_n hx hb dX3_hasCell_8 rfl (lv_at hl 0 rfl) ?_
    refine lv_iload_n hx hb dX3_hasCell_9 rfl (lv_at hl 2 rfl) ?_
    refine z_calli (wr := []) (va_runV (As := [.int l2]) (rest := []) ⟨hx, hb, hml, hown, hts⟩ (c_X3_hasRow l D cI cJ cZ p_F p_F_cells p_F_wearing p_F_turning F_columns F_rows F_steepness F_size l2 H.size hF) (cwV 1 hts gX3_hasCell_X3_hasRow rfl rfl rfl (by decide +kernel) ⟨Nat.le_of_ble_eq_true rfl, Nat.le_of_ble_eq_true rfl⟩) (z_preV (wc := [(p_F, .inr (2, [.int F_columns, .int F_rows, .int F_steepness, .int F_size, .ref p_F_cells, .ref p_F_wearing, .ref p_F_turning]))]) hP hE hD 2 0 rfl rfl [0] (by decide) rfl) rfl rfl hl.1 rfl (lv_room (Nat.le_of_ble_eq_true rfl)) dX3_hasCell_10 ⟨Nat.le_of_ble_eq_true rfl, Nat.le_of_ble_eq_true rfl⟩) hP hD hS hA [0] [] rfl rfl (by decide) (by decide) (fun r_3 u9 H locs hF hP hD hS => ?_)
    have hP : va_P D vwCl [(p_F, .inr (2, [.int F_columns, .int F_rows, .int F_steepness, .int F_size, .ref p_F_cells, .ref p_F_wearing, .ref p_F_turning]))] H := hP
    have hD : va_D A [(p_F, .inr (2, [.int F_columns, .int F_rows, .int F_steepness, .int F_size, .ref p_F_cells, .ref p_F_wearing, .ref p_F_turning]))] := hD
    refine lv_if_eq (tgt := 20) hx hb dX3_hasCell_13 (by decide) (fun cc_4 => ?_) (fun cc_4 => ?_)
    · have hF := hF.1 cc_4
      refine lv_iconst (v := (0 : Int32)) hx hb dX3_hasCell_20 (by decide) ?_
      exact z_zret () hx hb hr hlocks hQ9 (z_nb z_01) hF hP hD hS dX3_hasCell_21
    · have hF := hF.2 cc_4
      refine lv_iconst (v := (1 : Int32)) hx hb dX3_hasCell_16 (by decide) ?_
      refine lv_goto (tgt := 21) hx hb dX3_hasCell_17 (by decide) ?_
      exact z_zret () hx hb hr hlocks hQ9 (z_nb z_11) hF hP hD hS dX3_hasCell_21
set_option maxHeartbeats 8000000 in
set_option maxRecDepth 100000 in
theorem c_X3_countOpenings (l : Launch) (D : va_G) (cI cJ cZ : ClassId) (p_F p_F_cells p_F_wearing p_F_turning : Nat) (F_columns : Int32) (F_rows : Int32) (F_steepness : Int32) (F_size : Int32) (F_cells : Nat → Int32) (F_turning : Nat → Int32)  (sz : Nat) {post : Int32 → Prop} (h : wp_X3_countOpenings F_size F_cells F_turning  post) : Met l yX3_countOpenings wsX3_countOpenings ({ frames := 1, cells := 0, slots := 0, locals := 21 }) (zPc D cI cJ cZ [.ref p_F] sz [(p_F, .inr (2, [.int F_columns, .int F_rows, .int F_steepness, .int F_size, .ref p_F_cells, .ref p_F_wearing, .ref p_F_turning])), (p_F_cells, .inl (cI, 36, .inl F_cells)), (p_F_turning, .inl (cI, 60, .inl F_turning))]) (va_Qi (fun (r : Int32) (u : Unit) => post r ) (fun (u : Unit) t => va_P D vwCl [(p_F, .inr (2, [.int F_columns, .int F_rows, .int F_steepness, .int F_size, .ref p_F_cells, .ref p_F_wearing, .ref p_F_turning])), (p_F_cells, .inl (cI, 36, .inl F_cells)), (p_F_turning, .inl (cI, 60, .inl F_turning))] t.heap ∧ va_D (va_A [(p_F, .inr (2, [.int F_columns, .int F_rows, .int F_steepness, .int F_size, .ref p_F_cells, .ref p_F_wearing, .ref p_F_turning])), (p_F_cells, .inl (cI, 36, .inl F_cells)), (p_F_turning, .inl (cI, 60, .inl F_turning))] sz) [(p_F, .inr (2, [.int F_columns, .int F_rows, .int F_steepness, .int F_size, .ref p_F_cells, .ref p_F_wearing, .ref p_F_turning])), (p_F_cells, .inl (cI, 36, .inl F_cells)), (p_F_turning, .inl (cI, 60, .inl F_turning))]) (va_A [(p_F, .inr (2, [.int F_columns, .int F_rows, .int F_steepness, .int F_size, .ref p_F_cells, .ref p_F_wearing, .ref p_F_turning])), (p_F_cells, .inl (cI, 36, .inl F_cells)), (p_F_turning, .inl (cI, 60, .inl F_turning))] sz)) 0 0 (va_A [(p_F, .inr (2, [.int F_columns, .int F_rows, .int F_steepness, .int F_size, .ref p_F_cells, .ref p_F_wearing, .ref p_F_turning])), (p_F_cells, .inl (cI, 36, .inl F_cells)), (p_F_turning, .inl (cI, 60, .inl F_turning))] sz) := by
  refine Met.ofW (cc := cX3_countOpenings) (maxL := 3) (ret := (some .int)) (by decide) rfl ?_
  intro p e s m args below meth c s₁ B hml hv
  obtain ⟨rfl, hsz, hP, hE, hD0⟩ := hv
  have hx := B.exec
  have hb := B.bytes
  have hr := B.returns
  have hts := atoms_spec (ws := wsX3_countOpenings) B.pre
  have hown : s.vm.findClass RX3 = some m.cls := findClass_of_methodNamed B.named
  have hlocks := B.notSynchronized
  have hK := hE.1
  subst hsz
  have hD := hD0.self (sz := s.heap.size)
  generalize hAe : va_A [(p_F, .inr (2, [.int F_columns, .int F_rows, .int F_steepness, .int F_size, .ref p_F_cells, .ref p_F_wearing, .ref p_F_turning])), (p_F_cells, .inl (cI, 36, .inl F_cells)), (p_F_turning, .inl (cI, 60, .inl F_turning))] s.heap.size = A at hD ⊢
  have hA : ∀ q : Nat, s.heap.size ≤ q → A q := fun q h => by rw [← hAe]; exact Or.inr h
  have hS : va_S A s.heap s.heap [] := va_S.rf
  have hP : va_P D vwCl [(p_F, .inr (2, [.int F_columns, .int F_rows, .int F_steepness, .int F_size, .ref p_F_cells, .ref p_F_wearing, .ref p_F_turning])), (p_F_cells, .inl (cI, 36, .inl F_cells)), (p_F_turning, .inl (cI, 60, .inl F_turning))] s.heap := hP
  have hl := lv_entry ([.ref p_F]) (n := 3) (Nat.le_of_ble_eq_true rfl)
  rw [lg_entry_eq]
  generalize (lg_sl ([.ref p_F]) ++ List.replicate (3 - (lg_sl ([.ref p_F])).length) Slot.unset).toArray = ls at hl ⊢
  have hl : lv_has ls 3 [(0, .ref p_F)] := hl
  generalize hQ9 : MQ below (va_Qi (fun (r : Int32) (u : Unit) => post r ) (fun (u : Unit) t => va_P D vwCl [(p_F, .inr (2, [.int F_columns, .int F_rows, .int F_steepness, .int F_size, .ref p_F_cells, .ref p_F_wearing, .ref p_F_turning])), (p_F_cells, .inl (cI, 36, .inl F_cells)), (p_F_turning, .inl (cI, 60, .inl F_turning))] t.heap ∧ va_D A [(p_F, .inr (2, [.int F_columns, .int F_rows, .int F_steepness, .int F_size, .ref p_F_cells, .ref p_F_wearing, .ref p_F_turning])), (p_F_cells, .inl (cI, 36, .inl F_cells)), (p_F_turning, .inl (cI, 60, .inl F_turning))]) A) ([.ref p_F] : List Value).toArray s 0 0 A = Q9
  have hf_35 := hts (.fieldLink RX3 35 "StrawCoats$Frame" "size" "I") (by decide +kernel)
  have hf_15 := hts (.fieldLink RX3 15 "StrawCoats$Frame" "cells" "[I") (by decide +kernel)
  have hi_X3 : ∀ w ∈ u_ws RX3 TX3 7, w ∈ wsX3_countOpenings := by decide +kernel
  have hF := h
  unfold wp_X3_countOpenings at hF
  refine lv_iconst (v := (0 : Int32)) hx hb dX3_countOpenings_0 (by decide) ?_
  refine lv_istore_n (lv' := [(1, .int (0 : Int32)), (0, .ref p_F)]) hx hb dX3_countOpenings_1 rfl hl (by decide) rfl (fun ls hl => ?_)
  refine lv_iconst (v := (0 : Int32)) hx hb dX3_countOpenings_2 (by decide) ?_
  refine lv_istore_n (lv' := [(2, .int (0 : Int32)), (1, .int (0 : Int32)), (0, .ref p_F)]) hx hb dX3_countOpenings_3 rfl hl (by decide) rfl (fun ls hl => ?_)
  obtain ⟨I_4, μ_4, hI_4, hs_4⟩ := hF
  have hlp_4 : ∀ (n : Nat) (l1_1 : Int32) (l2_2 : Int32), I_4 l1_1 l2_2 → μ_4 l1_1 l2_2 < n → ∀ (H : Heap) (locs : List Loc), va_P D vwCl [(p_F, .inr (2, [.int F_columns, .int F_rows, .int F_steepness, .int F_size, .ref p_F_cells, .ref p_F_wearing, .ref p_F_turning])), (p_F_cells, .inl (cI, 36, .inl F_cells)), (p_F_turning, .inl (cI, 60, .inl F_turning))] H → va_D A [(p_F, .inr (2, [.int F_columns, .int F_rows, .int F_steepness, .int F_size, .ref p_F_cells, .ref p_F_wearing, .ref p_F_turning])), (p_F_cells, .inl (cI, 36, .inl F_cells)), (p_F_turning, .inl (cI, 60, .inl F_turning))] → va_S A s.heap H locs → ∀ ls : Array Slot, lv_has ls 3 [(0, .ref p_F), (1, .int l1_1), (2, .int l2_2)] → W p l e ({ frames := 1, cells := 0, slots := 0, locals := 21 } : Room) s m ([.ref p_F] : List Value).toArray below meth c H locs 0 0 Q9 (F0 m 4 ls []) := by
    intro n
    induction n with
    | zero => intro l1_1 l2_2 _ hn; exact absurd hn (Nat.not_lt_zero _)
    | succ n ih_4 =>
      intro l1_1 l2_2 hI9 hn_4 H locs hP hD hS ls hl
      have hF := hs_4 l1_1 l2_2 hI9
      unfold bd_X3_countOpenings_4 at hF
      refine lv_iload_n hx hb dX3_countOpenings_4 rfl (lv_at hl 2 rfl) ?_
      refine lv_aload_n hx hb dX3_countOpenings_5 rfl (lv_at hl 0 rfl) ?_
      refine va_get (D := D) (ci := 2) (v := .int F_size) (C := RX3) (T := TX3) (N := 7) hx hb hts hi_X3 hown hK hP 0 rfl rfl 3 (by decide) hf_35 (fun _ h9 => h9) rfl dX3_countOpenings_6 ?_
      refine lv_icmp_ge (tgt := 34) hx hb dX3_countOpenings_9 (by decide) (fun cc_3 => ?_) (fun cc_3 => ?_)
      · have hF := hF.1 cc_3
        refine lv_iload_n hx hb dX3_countOpenings_34 rfl (lv_at hl 1 rfl) ?_
        exact z_iret () hx hb hr hlocks hQ9 hF hP hD hS dX3_countOpenings_35
      · have hF := hF.2 cc_3
        refine lv_aload_n hx hb dX3_countOpenings_12 rfl (lv_at hl 0 rfl) ?_
        refine lv_aload_n hx hb dX3_countOpenings_13 rfl (lv_at hl 0 rfl) ?_
        refine va_get (D := D) (ci := 2) (v := .ref p_F_cells) (C := RX3) (T := TX3) (N := 7) hx hb hts hi_X3 hown hK hP 0 rfl rfl 4 (by decide) hf_15 (fun _ h9 => h9) rfl dX3_countOpenings_14 ?_
        refine lv_iload_n hx hb dX3_countOpenings_17 rfl (lv_at hl 2 rfl) ?_
        have hb_4 := hF.1
        have hF := hF.2
        refine va_iald hx hb hK hP 1 0 rfl rfl hb_4 dX3_countOpenings_18 ?_
        refine z_calli (wr := [(p_F_cells, .inl (cI, 36, .inl F_cells))]) (va_runV (As := [.int (F_cells l2_2.toNatClampNeg)]) (rest := []) ⟨hx, hb, hml, hown, hts⟩ (c_X3_isOpening l D cI cJ cZ p_F p_F_cells p_F_wearing p_F_turning F_columns F_rows F_steepness F_size F_turning (F_cells l2_2.toNatClampNeg) H.size hF) (cwV 1 hts gX3_countOpenings_X3_isOpening rfl rfl rfl (by decide +kernel) ⟨Nat.le_of_ble_eq_true rfl, Nat.le_of_ble_eq_true rfl⟩) (z_preV (wc := [(p_F, .inr (2, [.int F_columns, .int F_rows, .int F_steepness, .int F_size, .ref p_F_cells, .ref p_F_wearing, .ref p_F_turning])), (p_F_turning, .inl (cI, 60, .inl F_turning))]) hP hE hD 2 0 rfl rfl [0, 2] (by decide) rfl) rfl rfl hl.1 rfl (lv_room (Nat.le_of_ble_eq_true rfl)) dX3_countOpenings_19 ⟨Nat.le_of_ble_eq_true rfl, Nat.le_of_ble_eq_true rfl⟩) hP hD hS hA [0, 2] [1] rfl rfl (by decide) (by decide) (fun r_5 u9 H locs hF hP hD hS => ?_)
        have hP : va_P D vwCl [(p_F_cells, .inl (cI, 36, .inl F_cells)), (p_F, .inr (2, [.int F_columns, .int F_rows, .int F_steepness, .int F_size, .ref p_F_cells, .ref p_F_wearing, .ref p_F_turning])), (p_F_turning, .inl (cI, 60, .inl F_turning))] H := hP
        have hD : va_D A [(p_F_cells, .inl (cI, 36, .inl F_cells)), (p_F, .inr (2, [.int F_columns, .int F_rows, .int F_steepness, .int F_size, .ref p_F_cells, .ref p_F_wearing, .ref p_F_turning])), (p_F_turning, .inl (cI, 60, .inl F_turning))] := hD
        refine lv_if_eq (tgt := 28) hx hb dX3_countOpenings_22 (by decide) (fun cc_6 => ?_) (fun cc_6 => ?_)
        · have hF := hF.1 cc_6
          refine lv_iinc (v := (l2_2 + (1 : Int32))) (lv' := [(2, .int (l2_2 + (1 : Int32))), (0, .ref p_F), (1, .int l1_1)]) hx hb dX3_countOpenings_28 hl (k := 2) rfl rfl (by decide) rfl (fun ls hl => ?_)
          refine lv_goto (tgt := 4) hx hb dX3_countOpenings_31 (by decide) ?_
          exact ih_4 l1_1 (l2_2 + (1 : Int32)) hF.1 (Nat.lt_of_lt_of_le hF.2 (Nat.le_of_lt_succ hn_4)) _ _ (z_sub hP [1, 0, 2] (wc := [(p_F, .inr (2, [.int F_columns, .int F_rows, .int F_steepness, .int F_size, .ref p_F_cells, .ref p_F_wearing, .ref p_F_turning])), (p_F_cells, .inl (cI, 36, .inl F_cells)), (p_F_turning, .inl (cI, 60, .inl F_turning))]) rfl) (hD.sub (ws' := [(p_F, .inr (2, [.int F_columns, .int F_rows, .int F_steepness, .int F_size, .ref p_F_cells, .ref p_F_wearing, .ref p_F_turning])), (p_F_cells, .inl (cI, 36, .inl F_cells)), (p_F_turning, .inl (cI, 60, .inl F_turning))]) [1, 0, 2] (by decide) rfl) hS ls (lv_sub hl [1, 2, 0] rfl)
        · have hF := hF.2 cc_6
          refine lv_iinc (v := (l1_1 + (1 : Int32))) (lv' := [(1, .int (l1_1 + (1 : Int32))), (0, .ref p_F), (2, .int l2_2)]) hx hb dX3_countOpenings_25 hl (k := 1) rfl rfl (by decide) rfl (fun ls hl => ?_)
          refine lv_iinc (v := (l2_2 + (1 : Int32))) (lv' := [(2, .int (l2_2 + (1 : Int32))), (1, .int (l1_1 + (1 : Int32))), (0, .ref p_F)]) hx hb dX3_countOpenings_28 hl (k := 2) rfl rfl (by decide) rfl (fun ls hl => ?_)
          refine lv_goto (tgt := 4) hx hb dX3_countOpenings_31 (by decide) ?_
          exact ih_4 (l1_1 + (1 : Int32)) (l2_2 + (1 : Int32)) hF.1 (Nat.lt_of_lt_of_le hF.2 (Nat.le_of_lt_succ hn_4)) _ _ (z_sub hP [1, 0, 2] (wc := [(p_F, .inr (2, [.int F_columns, .int F_rows, .int F_steepness, .int F_size, .ref p_F_cells, .ref p_F_wearing, .ref p_F_turning])), (p_F_cells, .inl (cI, 36, .inl F_cells)), (p_F_turning, .inl (cI, 60, .inl F_turning))]) rfl) (hD.sub (ws' := [(p_F, .inr (2, [.int F_columns, .int F_rows, .int F_steepness, .int F_size, .ref p_F_cells, .ref p_F_wearing, .ref p_F_turning])), (p_F_cells, .inl (cI, 36, .inl F_cells)), (p_F_turning, .inl (cI, 60, .inl F_turning))]) [1, 0, 2] (by decide) rfl) hS ls (lv_sub hl [2, 1, 0] rfl)
  exact hlp_4 _ (0 : Int32) (0 : Int32) hI_4 (Nat.lt_succ_self _) _ _ hP hD hS ls (lv_sub hl [2, 1, 0] rfl)
set_option maxHeartbeats 8000000 in
set_option maxRecDepth 100000 in
theorem c_X3_lap (l : Launch) (D : va_G) (cI cJ cZ : ClassId) (p_F p_F_cells p_F_wearing p_F_turning : Nat) (F_columns : Int32) (F_rows : Int32) (F_steepness : Int32) (F_size : Int32)  (sz : Nat) {post : Int32 → Prop} (h : wp_X3_lap F_steepness  post) : Met l yX3_lap wsX3_lap ({ frames := 0, cells := 0, slots := 0, locals := 0 }) (zPc D cI cJ cZ [.ref p_F] sz [(p_F, .inr (2, [.int F_columns, .int F_rows, .int F_steepness, .int F_size, .ref p_F_cells, .ref p_F_wearing, .ref p_F_turning]))]) (va_Qi (fun (r : Int32) (u : Unit) => post r ) (fun (u : Unit) t => va_P D vwCl [(p_F, .inr (2, [.int F_columns, .int F_rows, .int F_steepness, .int F_size, .ref p_F_cells, .ref p_F_wearing, .ref p_F_turning]))] t.heap ∧ va_D (va_A [(p_F, .inr (2, [.int F_columns, .int F_rows, .int F_steepness, .int F_size, .ref p_F_cells, .ref p_F_wearing, .ref p_F_turning]))] sz) [(p_F, .inr (2, [.int F_columns, .int F_rows, .int F_steepness, .int F_size, .ref p_F_cells, .ref p_F_wearing, .ref p_F_turning]))]) (va_A [(p_F, .inr (2, [.int F_columns, .int F_rows, .int F_steepness, .int F_size, .ref p_F_cells, .ref p_F_wearing, .ref p_F_turning]))] sz)) 0 0 (va_A [(p_F, .inr (2, [.int F_columns, .int F_rows, .int F_steepness, .int F_size, .ref p_F_cells, .ref p_F_wearing, .ref p_F_turning]))] sz) := by
  refine Met.ofW (cc := cX3_lap) (maxL := 1) (ret := (some .int)) (by decide) rfl ?_
  intro p e s m args below meth c s₁ B hml hv
  obtain ⟨rfl, hsz, hP, hE, hD0⟩ := hv
  have hx := B.exec
  have hb := B.bytes
  have hr := B.returns
  have hts := atoms_spec (ws := wsX3_lap) B.pre
  have hown : s.vm.findClass RX3 = some m.cls := findClass_of_methodNamed B.named
  have hlocks := B.notSynchronized
  have hK := hE.1
  subst hsz
  have hD := hD0.self (sz := s.heap.size)
  generalize hAe : va_A [(p_F, .inr (2, [.int F_columns, .int F_rows, .int F_steepness, .int F_size, .ref p_F_cells, .ref p_F_wearing, .ref p_F_turning]))] s.heap.size = A at hD ⊢
  have hA : ∀ q : Nat, s.heap.size ≤ q → A q := fun q h => by rw [← hAe]; exact Or.inr h
  have hS : va_S A s.heap s.heap [] := va_S.rf
  have hP : va_P D vwCl [(p_F, .inr (2, [.int F_columns, .int F_rows, .int F_steepness, .int F_size, .ref p_F_cells, .ref p_F_wearing, .ref p_F_turning]))] s.heap := hP
  have hl := lv_entry ([.ref p_F]) (n := 1) (Nat.le_of_ble_eq_true rfl)
  rw [lg_entry_eq]
  generalize (lg_sl ([.ref p_F]) ++ List.replicate (1 - (lg_sl ([.ref p_F])).length) Slot.unset).toArray = ls at hl ⊢
  have hl : lv_has ls 1 [(0, .ref p_F)] := hl
  generalize hQ9 : MQ below (va_Qi (fun (r : Int32) (u : Unit) => post r ) (fun (u : Unit) t => va_P D vwCl [(p_F, .inr (2, [.int F_columns, .int F_rows, .int F_steepness, .int F_size, .ref p_F_cells, .ref p_F_wearing, .ref p_F_turning]))] t.heap ∧ va_D A [(p_F, .inr (2, [.int F_columns, .int F_rows, .int F_steepness, .int F_size, .ref p_F_cells, .ref p_F_wearing, .ref p_F_turning]))]) A) ([.ref p_F] : List Value).toArray s 0 0 A = Q9
  have hf_9 := hts (.fieldLink RX3 9 "StrawCoats$Frame" "steepness" "I") (by decide +kernel)
  have hi_X3 : ∀ w ∈ u_ws RX3 TX3 7, w ∈ wsX3_lap := by decide +kernel
  have hF := h
  unfold wp_X3_lap at hF
  refine lv_aload_n hx hb dX3_lap_0 rfl (lv_at hl 0 rfl) ?_
  refine va_get (D := D) (ci := 2) (v := .int F_steepness) (C := RX3) (T := TX3) (N := 7) hx hb hts hi_X3 hown hK hP 0 rfl rfl 2 (by decide) hf_9 (fun _ h9 => h9) rfl dX3_lap_1 ?_
  refine lv_iconst (v := (1 : Int32)) hx hb dX3_lap_4 (by decide) ?_
  refine lv_icmp_ne (tgt := 12) hx hb dX3_lap_5 (by decide) (fun cc_1 => ?_) (fun cc_1 => ?_)
  · have hF := hF.1 cc_1
    refine lv_iconst (v := (1 : Int32)) hx hb dX3_lap_12 (by decide) ?_
    exact z_iret () hx hb hr hlocks hQ9 hF hP hD hS dX3_lap_13
  · have hF := hF.2 cc_1
    refine lv_iconst (v := (2 : Int32)) hx hb dX3_lap_8 (by decide) ?_
    refine lv_goto (tgt := 13) hx hb dX3_lap_9 (by decide) ?_
    exact z_iret () hx hb hr hlocks hQ9 hF hP hD hS dX3_lap_13
