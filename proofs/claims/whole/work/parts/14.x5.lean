set_option maxHeartbeats 8000000 in
set_option maxRecDepth 100000 in
theorem c_X5_append (l : Launch) (D : va_G) (cI cJ cZ : ClassId) (p_T p_T_bytes : Nat) (T_length : Int32) (T_bytes : Nat → Int32) (l1 : Int32) (l2 : Int64) (sz : Nat) {post : Int32 → (Nat → Int32) → Int32 → Prop} (h : wp_X5_append T_length T_bytes l1 l2 post) : Met l yX5_append wsX5_append ({ frames := 0, cells := 0, slots := 0, locals := 0 }) (zPc D cI cJ cZ [.ref p_T, .int l1, .long l2] sz [(p_T, .inr (4, [.ref p_T_bytes, .int T_length])), (p_T_bytes, .inl (cI, 60, .inl T_bytes))]) (va_Qi (fun (r : Int32) (u : (Nat → Int32) × Int32) => post r (u.1) (u.2)) (fun (u : (Nat → Int32) × Int32) t => va_P D vwCl [(p_T, .inr (4, [.ref p_T_bytes, .int (u.2)])), (p_T_bytes, .inl (cI, 60, .inl (u.1)))] t.heap ∧ va_D (va_A [(p_T, .inr (4, [.ref p_T_bytes, .int T_length])), (p_T_bytes, .inl (cI, 60, .inl T_bytes))] sz) [(p_T, .inr (4, [.ref p_T_bytes, .int (u.2)])), (p_T_bytes, .inl (cI, 60, .inl (u.1)))]) (va_A [(p_T, .inr (4, [.ref p_T_bytes, .int T_length])), (p_T_bytes, .inl (cI, 60, .inl T_bytes))] sz)) 0 0 (va_A [(p_T, .inr (4, [.ref p_T_bytes, .int T_length])), (p_T_bytes, .inl (cI, 60, .inl T_bytes))] sz) := by
  refine Met.ofW (cc := cX5_append) (maxL := 5) (ret := (some .int)) (by decide) rfl ?_
  intro p e s m args below meth c s₁ B hml hv
  obtain ⟨rfl, hsz, hP, hE, hD0⟩ := hv
  have hx := B.exec
  have hb := B.bytes
  have hr := B.returns
  have hts := atoms_spec (ws := wsX5_append) B.pre
  have hown : s.vm.findClass RX5 = some m.cls := findClass_of_methodNamed B.named
  have hlocks := B.notSynchronized
  have hK := hE.1
  subst hsz
  have hD := hD0.self (sz := s.heap.size)
  generalize hAe : va_A [(p_T, .inr (4, [.ref p_T_bytes, .int T_length])), (p_T_bytes, .inl (cI, 60, .inl T_bytes))] s.heap.size = A at hD ⊢
  have hA : ∀ q : Nat, s.heap.size ≤ q → A q := fun q h => by rw [← hAe]; exact Or.inr h
  have hS : va_S A s.heap s.heap [] := va_S.rf
  have hP : va_P D vwCl [(p_T, .inr (4, [.ref p_T_bytes, .int T_length])), (p_T_bytes, .inl (cI, 60, .inl T_bytes))] s.heap := hP
  have hl := lv_entry ([.ref p_T, .int l1, .long l2]) (n := 5) (Nat.le_of_ble_eq_true rfl)
  rw [lg_entry_eq]
  generalize (lg_sl ([.ref p_T, .int l1, .long l2]) ++ List.replicate (5 - (lg_sl ([.ref p_T, .int l1, .long l2])).length) Slot.unset).toArray = ls at hl ⊢
  have hl : lv_has ls 5 [(0, .ref p_T), (1, .int l1), (2, .long l2)] := hl
  generalize hQ9 : MQ below (va_Qi (fun (r : Int32) (u : (Nat → Int32) × Int32) => post r (u.1) (u.2)) (fun (u : (Nat → Int32) × Int32) t => va_P D vwCl [(p_T, .inr (4, [.ref p_T_bytes, .int (u.2)])), (p_T_bytes, .inl (cI, 60, .inl (u.1)))] t.heap ∧ va_D A [(p_T, .inr (4, [.ref p_T_bytes, .int (u.2)])), (p_T_bytes, .inl (cI, 60, .inl (u.1)))]) A) ([.ref p_T, .int l1, .long l2] : List Value).toArray s 0 0 A = Q9
  have hf_15 := hts (.fieldLink RX5 15 "StrawCoats$Text" "length" "I") (by decide +kernel)
  have hf_11 := hts (.fieldLink RX5 11 "StrawCoats$Text" "bytes" "[I") (by decide +kernel)
  have hf_19 := hts (.constantLong RX5 19 (255)) (by decide +kernel)
  have hi_X5 : ∀ w ∈ u_ws RX5 TX5 2, w ∈ wsX5_append := by decide +kernel
  have hF := h
  unfold wp_X5_append at hF
  refine lv_aload_n hx hb dX5_append_0 rfl (lv_at hl 0 rfl) ?_
  refine va_get (D := D) (ci := 4) (v := .int T_length) (C := RX5) (T := TX5) (N := 2) hx hb hts hi_X5 hown hK hP 0 rfl rfl 1 (by decide) hf_15 (fun _ h9 => h9) rfl dX5_append_1 ?_
  refine lv_iload_n hx hb dX5_append_4 rfl (lv_at hl 1 rfl) ?_
  refine lv_iadd hx hb dX5_append_5 ?_
  refine lv_bipush (v := (60 : Int32)) hx hb dX5_append_6 (by decide) ?_
  refine lv_icmp_le (tgt := 14) hx hb dX5_append_8 (by decide) (fun cc_1 => ?_) (fun cc_1 => ?_)
  · have hF := hF.1 cc_1
    refine lv_iload_n hx hb dX5_append_14 rfl (lv_at hl 1 rfl) ?_
    refine lv_iconst (v := (1 : Int32)) hx hb dX5_append_15 (by decide) ?_
    refine lv_isub hx hb dX5_append_16 ?_
    refine lv_istore (lv' := [(4, .int (l1 - (1 : Int32))), (0, .ref p_T), (1, .int l1), (2, .long l2)]) hx hb dX5_append_17 hl (by decide) rfl (fun ls hl => ?_)
    obtain ⟨I_19, μ_19, hI_19, hs_19⟩ := hF
    have hlp_19 : ∀ (n : Nat) (l4_2 : Int32) (T_bytes_3 : Nat → Int32) (T_length_4 : Int32), I_19 l4_2 T_bytes_3 T_length_4 → μ_19 l4_2 T_bytes_3 T_length_4 < n → ∀ (H : Heap) (locs : List Loc), va_P D vwCl [(p_T, .inr (4, [.ref p_T_bytes, .int T_length_4])), (p_T_bytes, .inl (cI, 60, .inl T_bytes_3))] H → va_D A [(p_T, .inr (4, [.ref p_T_bytes, .int T_length_4])), (p_T_bytes, .inl (cI, 60, .inl T_bytes_3))] → va_S A s.heap H locs → ∀ ls : Array Slot, lv_has ls 5 [(0, .ref p_T), (2, .long l2), (4, .int l4_2)] → W p l e ({ frames := 0, cells := 0, slots := 0, locals := 0 } : Room) s m ([.ref p_T, .int l1, .long l2] : List Value).toArray below meth c H locs 0 0 Q9 (F0 m 19 ls []) := by
      intro n
      induction n with
      | zero => intro l4_2 T_bytes_3 T_length_4 _ hn; exact absurd hn (Nat.not_lt_zero _)
      | succ n ih_19 =>
        intro l4_2 T_bytes_3 T_length_4 hI9 hn_19 H locs hP hD hS ls hl
        have hF := hs_19 l4_2 T_bytes_3 T_length_4 hI9
        unfold bd_X5_append_19 at hF
        refine lv_iload hx hb dX5_append_19 (lv_at hl 2 rfl) ?_
        refine lv_if_lt (tgt := 58) hx hb dX5_append_21 (by decide) (fun cc_5 => ?_) (fun cc_5 => ?_)
        · have hF := hF.1 cc_5
          refine lv_aload_n hx hb dX5_append_58 rfl (lv_at hl 0 rfl) ?_
          refine va_get (D := D) (ci := 4) (v := .int T_length_4) (C := RX5) (T := TX5) (N := 2) hx hb hts hi_X5 hown hK hP 0 rfl rfl 1 (by decide) hf_15 (fun _ h9 => h9) rfl dX5_append_59 ?_
          exact z_iret (T_bytes_3, T_length_4) hx hb hr hlocks hQ9 hF hP hD hS dX5_append_62
        · have hF := hF.2 cc_5
          refine lv_aload_n hx hb dX5_append_24 rfl (lv_at hl 0 rfl) ?_
          refine va_get (D := D) (ci := 4) (v := .ref p_T_bytes) (C := RX5) (T := TX5) (N := 2) hx hb hts hi_X5 hown hK hP 0 rfl rfl 0 (by decide) hf_11 (fun _ h9 => h9) rfl dX5_append_25 ?_
          refine lv_aload_n hx hb dX5_append_28 rfl (lv_at hl 0 rfl) ?_
          refine lv_dup hx hb dX5_append_29 rfl ?_
          refine va_get (D := D) (ci := 4) (v := .int T_length_4) (C := RX5) (T := TX5) (N := 2) hx hb hts hi_X5 hown hK hP 0 rfl rfl 1 (by decide) hf_15 (fun _ h9 => h9) rfl dX5_append_30 ?_
          refine lv_dup_x1 hx hb dX5_append_33 rfl rfl ?_
          refine lv_iconst (v := (1 : Int32)) hx hb dX5_append_34 (by decide) ?_
          refine lv_iadd hx hb dX5_append_35 ?_
          refine va_put (D := D) (ci := 4) (v := .int (T_length_4 + (1 : Int32))) (ty := .int) (C := RX5) (T := TX5) (N := 2) hx hb hts hi_X5 tyX5 tyX5_ok nmX5 hown hK hP hD hS 0 rfl rfl 1 (by decide) hf_15 (fun _ h9 => h9) rfl (by decide +kernel) rfl rfl (Nat.le_of_ble_eq_true rfl) dX5_append_36 (fun H locs hP hD hS => ?_)
          have hP : va_P D vwCl [(p_T, .inr (4, [.ref p_T_bytes, .int (T_length_4 + (1 : Int32))])), (p_T_bytes, .inl (cI, 60, .inl T_bytes_3))] H := hP
          have hD : va_D A [(p_T, .inr (4, [.ref p_T_bytes, .int (T_length_4 + (1 : Int32))])), (p_T_bytes, .inl (cI, 60, .inl T_bytes_3))] := hD
          refine lv_lload_n hx hb dX5_append_39 rfl (lv_at hl 1 rfl) ?_
          refine lv_bipush (v := (8 : Int32)) hx hb dX5_append_40 (by decide) ?_
          refine lv_iload hx hb dX5_append_42 (lv_at hl 2 rfl) ?_
          refine lv_imul hx hb dX5_append_44 ?_
          refine lv_lushr (v := (jlushr l2 ((8 : Int32) * l4_2))) hx hb dX5_append_45 rfl ?_
          refine lv_ldc2 (v := (255 : Int64)) hx hb hown hf_19 dX5_append_46 ?_
          refine lv_land hx hb dX5_append_49 ?_
          refine lv_l2i (v := (((jlushr l2 ((8 : Int32) * l4_2)) &&& (255 : Int64)).toInt32)) hx hb dX5_append_50 rfl ?_
          have hb_6 := hF.1
          have hF := hF.2
          refine va_iast hx hb hK hP hD hS 1 0 rfl rfl hb_6 dX5_append_51 (fun H locs hP hD hS => ?_)
          have hP : va_P D vwCl [(p_T, .inr (4, [.ref p_T_bytes, .int (T_length_4 + (1 : Int32))])), (p_T_bytes, .inl (cI, 60, .inl (upd T_bytes_3 T_length_4.toNatClampNeg (((jlushr l2 ((8 : Int32) * l4_2)) &&& (255 : Int64)).toInt32))))] H := hP
          have hD : va_D A [(p_T, .inr (4, [.ref p_T_bytes, .int (T_length_4 + (1 : Int32))])), (p_T_bytes, .inl (cI, 60, .inl (upd T_bytes_3 T_length_4.toNatClampNeg (((jlushr l2 ((8 : Int32) * l4_2)) &&& (255 : Int64)).toInt32))))] := hD
          refine lv_iinc (v := (l4_2 + (-1 : Int32))) (lv' := [(4, .int (l4_2 + (-1 : Int32))), (0, .ref p_T), (2, .long l2)]) hx hb dX5_append_52 hl (k := 2) rfl rfl (by decide) rfl (fun ls hl => ?_)
          refine lv_goto (tgt := 19) hx hb dX5_append_55 (by decide) ?_
          exact ih_19 (l4_2 + (-1 : Int32)) (upd T_bytes_3 T_length_4.toNatClampNeg (((jlushr l2 ((8 : Int32) * l4_2)) &&& (255 : Int64)).toInt32)) (T_length_4 + (1 : Int32)) hF.1 (Nat.lt_of_lt_of_le hF.2 (Nat.le_of_lt_succ hn_19)) _ _ hP hD hS ls (lv_sub hl [1, 2, 0] rfl)
    exact hlp_19 _ (l1 - (1 : Int32)) T_bytes T_length hI_19 (Nat.lt_succ_self _) _ _ hP hD hS ls (lv_sub hl [1, 3, 0] rfl)
  · have hF := hF.2 cc_1
    refine lv_bipush (v := (-4 : Int32)) hx hb dX5_append_11 (by decide) ?_
    exact z_iret (T_bytes, T_length) hx hb hr hlocks hQ9 hF hP hD hS dX5_append_13
set_option maxHeartbeats 8000000 in
set_option maxRecDepth 100000 in
theorem c_X5_figure (l : Launch) (D : va_G) (cI cJ cZ : ClassId) (p_T p_T_bytes : Nat) (T_length : Int32) (T_bytes : Nat → Int32) (l1 : Int32) (sz : Nat) {post : Int32 → Prop} (h : wp_X5_figure T_length T_bytes l1 post) : Met l yX5_figure wsX5_figure ({ frames := 1, cells := 0, slots := 0, locals := 22 }) (zPc D cI cJ cZ [.ref p_T, .int l1] sz [(p_T, .inr (4, [.ref p_T_bytes, .int T_length])), (p_T_bytes, .inl (cI, 60, .inl T_bytes))]) (va_Qi (fun (r : Int32) (u : Unit) => post r ) (fun (u : Unit) t => va_P D vwCl [(p_T, .inr (4, [.ref p_T_bytes, .int T_length])), (p_T_bytes, .inl (cI, 60, .inl T_bytes))] t.heap ∧ va_D (va_A [(p_T, .inr (4, [.ref p_T_bytes, .int T_length])), (p_T_bytes, .inl (cI, 60, .inl T_bytes))] sz) [(p_T, .inr (4, [.ref p_T_bytes, .int T_length])), (p_T_bytes, .inl (cI, 60, .inl T_bytes))]) (va_A [(p_T, .inr (4, [.ref p_T_bytes, .int T_length])), (p_T_bytes, .inl (cI, 60, .inl T_bytes))] sz)) 0 0 (va_A [(p_T, .inr (4, [.ref p_T_bytes, .int T_length])), (p_T_bytes, .inl (cI, 60, .inl T_bytes))] sz) := by
  refine Met.ofW (cc := cX5_figure) (maxL := 2) (ret := (some .int)) (by decide) rfl ?_
  intro p e s m args below meth c s₁ B hml hv
  obtain ⟨rfl, hsz, hP, hE, hD0⟩ := hv
  have hx := B.exec
  have hb := B.bytes
  have hr := B.returns
  have hts := atoms_spec (ws := wsX5_figure) B.pre
  have hown : s.vm.findClass RX5 = some m.cls := findClass_of_methodNamed B.named
  have hlocks := B.notSynchronized
  have hK := hE.1
  subst hsz
  have hD := hD0.self (sz := s.heap.size)
  generalize hAe : va_A [(p_T, .inr (4, [.ref p_T_bytes, .int T_length])), (p_T_bytes, .inl (cI, 60, .inl T_bytes))] s.heap.size = A at hD ⊢
  have hA : ∀ q : Nat, s.heap.size ≤ q → A q := fun q h => by rw [← hAe]; exact Or.inr h
  have hS : va_S A s.heap s.heap [] := va_S.rf
  have hP : va_P D vwCl [(p_T, .inr (4, [.ref p_T_bytes, .int T_length])), (p_T_bytes, .inl (cI, 60, .inl T_bytes))] s.heap := hP
  have hl := lv_entry ([.ref p_T, .int l1]) (n := 2) (Nat.le_of_ble_eq_true rfl)
  rw [lg_entry_eq]
  generalize (lg_sl ([.ref p_T, .int l1]) ++ List.replicate (2 - (lg_sl ([.ref p_T, .int l1])).length) Slot.unset).toArray = ls at hl ⊢
  have hl : lv_has ls 2 [(0, .ref p_T), (1, .int l1)] := hl
  generalize hQ9 : MQ below (va_Qi (fun (r : Int32) (u : Unit) => post r ) (fun (u : Unit) t => va_P D vwCl [(p_T, .inr (4, [.ref p_T_bytes, .int T_length])), (p_T_bytes, .inl (cI, 60, .inl T_bytes))] t.heap ∧ va_D A [(p_T, .inr (4, [.ref p_T_bytes, .int T_length])), (p_T_bytes, .inl (cI, 60, .inl T_bytes))]) A) ([.ref p_T, .int l1] : List Value).toArray s 0 0 A = Q9
  have hf_15 := hts (.fieldLink RX5 15 "StrawCoats$Text" "length" "I") (by decide +kernel)
  have hf_11 := hts (.fieldLink RX5 11 "StrawCoats$Text" "bytes" "[I") (by decide +kernel)
  have hi_X5 : ∀ w ∈ u_ws RX5 TX5 2, w ∈ wsX5_figure := by decide +kernel
  have hF := h
  unfold wp_X5_figure at hF
  refine lv_iload_n hx hb dX5_figure_0 rfl (lv_at hl 1 rfl) ?_
  refine lv_iconst (v := (0 : Int32)) hx hb dX5_figure_1 (by decide) ?_
  refine lv_aload_n hx hb dX5_figure_2 rfl (lv_at hl 0 rfl) ?_
  refine va_get (D := D) (ci := 4) (v := .int T_length) (C := RX5) (T := TX5) (N := 2) hx hb hts hi_X5 hown hK hP 0 rfl rfl 1 (by decide) hf_15 (fun _ h9 => h9) rfl dX5_figure_3 ?_
  refine lv_iconst (v := (1 : Int32)) hx hb dX5_figure_6 (by decide) ?_
  refine lv_isub hx hb dX5_figure_7 ?_
  refine z_calli (wr := [(p_T, .inr (4, [.ref p_T_bytes, .int T_length])), (p_T_bytes, .inl (cI, 60, .inl T_bytes))]) (va_runSN (As := [.int l1, .int (0 : Int32), .int (T_length - (1 : Int32))]) (rest := []) ⟨hx, hb, hml, hown, hts⟩ (c_X7_isWithin l D cI cJ cZ   l1 (0 : Int32) (T_length - (1 : Int32)) s.heap.size hF) ⟨va_cnB 3 hts gX5_figure_X7_isWithin_n21 rfl rfl rfl (zN.n15 hE.2) (hts (.initialized RX7) (by decide +kernel)) (by decide +kernel) ⟨Nat.le_of_ble_eq_true rfl, Nat.le_of_ble_eq_true rfl⟩, hts (.static yX7_isWithin) (by decide +kernel), trivial⟩ (z_preS (wc := []) hP hE hD [] (by decide) rfl) rfl rfl hl.1 rfl (lv_room (Nat.le_of_ble_eq_true rfl)) dX5_figure_8 ⟨Nat.le_of_ble_eq_true rfl, Nat.le_of_ble_eq_true rfl⟩) hP hD hS hA [] [0, 1] rfl rfl (by decide) (by decide) (fun r_1 u9 H locs hF hP hD hS => ?_)
  refine lv_if_eq (tgt := 26) hx hb dX5_figure_11 (by decide) (fun cc_2 => ?_) (fun cc_2 => ?_)
  · have hF := hF.1 cc_2
    refine lv_iconst (v := (0 : Int32)) hx hb dX5_figure_26 (by decide) ?_
    exact z_iret () hx hb hr hlocks hQ9 hF hP hD hS dX5_figure_27
  · have hF := hF.2 cc_2
    refine lv_aload_n hx hb dX5_figure_14 rfl (lv_at hl 0 rfl) ?_
    refine va_get (D := D) (ci := 4) (v := .ref p_T_bytes) (C := RX5) (T := TX5) (N := 2) hx hb hts hi_X5 hown hK hP 0 rfl rfl 0 (by decide) hf_11 (fun _ h9 => h9) rfl dX5_figure_15 ?_
    refine lv_iload_n hx hb dX5_figure_18 rfl (lv_at hl 1 rfl) ?_
    have hb_3 := hF.1
    have hF := hF.2
    refine va_iald hx hb hK hP 1 0 rfl rfl hb_3 dX5_figure_19 ?_
    refine lv_bipush (v := (48 : Int32)) hx hb dX5_figure_20 (by decide) ?_
    refine lv_isub hx hb dX5_figure_22 ?_
    refine lv_goto (tgt := 27) hx hb dX5_figure_23 (by decide) ?_
    exact z_iret () hx hb hr hlocks hQ9 hF hP hD hS dX5_figure_27
set_option maxHeartbeats 8000000 in
set_option maxRecDepth 100000 in
theorem c_X5_figuresOf (l : Launch) (D : va_G) (cI cJ cZ : ClassId)  (l0 : Int32) (sz : Nat) {post : Int32 → Prop} (h : wp_X5_figuresOf  l0 post) : Met l yX5_figuresOf wsX5_figuresOf ({ frames := 0, cells := 0, slots := 0, locals := 0 }) (zPc D cI cJ cZ [.int l0] sz []) (va_Qi (fun (r : Int32) (u : Unit) => post r ) (fun (u : Unit) t => va_P D vwCl [] t.heap ∧ va_D (va_A [] sz) []) (va_A [] sz)) 0 0 (va_A [] sz) := by
  refine Met.ofW (cc := cX5_figuresOf) (maxL := 1) (ret := (some .int)) (by decide) rfl ?_
  intro p e s m args below meth c s₁ B hml hv
  obtain ⟨rfl, hsz, hP, hE, hD0⟩ := hv
  have hx := B.exec
  have hb := B.bytes
  have hr := B.returns
  have hts := atoms_spec (ws := wsX5_figuresOf) B.pre
  have hown : s.vm.findClass RX5 = some m.cls := findClass_of_methodNamed B.named
  have hlocks := B.notSynchronized
  have hK := hE.1
  subst hsz
  have hD := hD0.self (sz := s.heap.size)
  generalize hAe : va_A [] s.heap.size = A at hD ⊢
  have hA : ∀ q : Nat, s.heap.size ≤ q → A q := fun q h => by rw [← hAe]; exact Or.inr h
  have hS : va_S A s.heap s.heap [] := va_S.rf
  have hP : va_P D vwCl [] s.heap := hP
  have hl := lv_entry ([.int l0]) (n := 1) (Nat.le_of_ble_eq_true rfl)
  rw [lg_entry_eq]
  generalize (lg_sl ([.int l0]) ++ List.replicate (1 - (lg_sl ([.int l0])).length) Slot.unset).toArray = ls at hl ⊢
  have hl : lv_has ls 1 [(0, .int l0)] := hl
  generalize hQ9 : MQ below (va_Qi (fun (r : Int32) (u : Unit) => post r ) (fun (u : Unit) t => va_P D vwCl [] t.heap ∧ va_D A []) A) ([.int l0] : List Value).toArray s 0 0 A = Q9
  have hF := h
  unfold wp_X5_figuresOf at hF
  refine lv_iload_n hx hb dX5_figuresOf_0 rfl (lv_at hl 0 rfl) ?_
  by_cases cc_1 : l0 = (66 : Int32)
  · have hF := hF.1 cc_1
    refine lv_lookup (off := 35) (tgt := 36) hx hb dX5_figuresOf_1 (by decide) (by rw [cc_1]; decide) (by decide) ?_
    refine lv_iconst (v := (5 : Int32)) hx hb dX5_figuresOf_36 (by decide) ?_
    exact z_iret () hx hb hr hlocks hQ9 hF hP hD hS dX5_figuresOf_37
  · have hF := hF.2 cc_1
    by_cases cc_2 : l0 = (83 : Int32)
    · have hF := hF.1 cc_2
      refine lv_lookup (off := 39) (tgt := 40) hx hb dX5_figuresOf_1 (by decide) (by rw [cc_2]; decide) (by decide) ?_
      refine lv_iconst (v := (2 : Int32)) hx hb dX5_figuresOf_40 (by decide) ?_
      exact z_iret () hx hb hr hlocks hQ9 hF hP hD hS dX5_figuresOf_41
    · have hF := hF.2 cc_2
      by_cases cc_3 : l0 = (89 : Int32)
      · have hF := hF.1 cc_3
        refine lv_lookup (off := 37) (tgt := 38) hx hb dX5_figuresOf_1 (by decide) (by rw [cc_3]; decide) (by decide) ?_
        refine lv_iconst (v := (1 : Int32)) hx hb dX5_figuresOf_38 (by decide) ?_
        exact z_iret () hx hb hr hlocks hQ9 hF hP hD hS dX5_figuresOf_39
      · have hF := hF.2 cc_3
        refine lv_lookup (off := 41) (tgt := 42) hx hb dX5_figuresOf_1 (by decide) ((lv_osw cc_1 (by decide)).trans ((lv_osw cc_2 (by decide)).trans ((lv_osw cc_3 (by decide)).trans rfl))) (by decide) ?_
        refine lv_iconst (v := (0 : Int32)) hx hb dX5_figuresOf_42 (by decide) ?_
        exact z_iret () hx hb hr hlocks hQ9 hF hP hD hS dX5_figuresOf_43
set_option maxHeartbeats 8000000 in
set_option maxRecDepth 100000 in
theorem c_X5_fits (l : Launch) (D : va_G) (cI cJ cZ : ClassId) (p_F p_F_cells p_F_wearing p_F_turning : Nat) (F_columns : Int32) (F_rows : Int32) (F_steepness : Int32) (F_size : Int32) (l1 : Int32) (l2 : Int32) (l3 : Int32) (sz : Nat) {post : Int32 → Prop} (h : wp_X5_fits F_columns F_rows l1 l2 l3 post) : Met l yX5_fits wsX5_fits ({ frames := 2, cells := 0, slots := 0, locals := 43 }) (zPc D cI cJ cZ [.ref p_F, .int l1, .int l2, .int l3] sz [(p_F, .inr (2, [.int F_columns, .int F_rows, .int F_steepness, .int F_size, .ref p_F_cells, .ref p_F_wearing, .ref p_F_turning]))]) (va_Qi (fun (r : Int32) (u : Unit) => post r ) (fun (u : Unit) t => va_P D vwCl [(p_F, .inr (2, [.int F_columns, .int F_rows, .int F_steepness, .int F_size, .ref p_F_cells, .ref p_F_wearing, .ref p_F_turning]))] t.heap ∧ va_D (va_A [(p_F, .inr (2, [.int F_columns, .int F_rows, .int F_steepness, .int F_size, .ref p_F_cells, .ref p_F_wearing, .ref p_F_turning]))] sz) [(p_F, .inr (2, [.int F_columns, .int F_rows, .int F_steepness, .int F_size, .ref p_F_cells, .ref p_F_wearing, .ref p_F_turning]))]) (va_A [(p_F, .inr (2, [.int F_columns, .int F_rows, .int F_steepness, .int F_size, .ref p_F_cells, .ref p_F_wearing, .ref p_F_turning]))] sz)) 0 0 (va_A [(p_F, .inr (2, [.int F_columns, .int F_rows, .int F_steepness, .int F_size, .ref p_F_cells, .ref p_F_wearing, .ref p_F_turning]))] sz) := by
  refine Met.ofW (cc := cX5_fits) (maxL := 4) (ret := (some .boolean)) (by decide) rfl ?_
  intro p e s m args below meth c s₁ B hml hv
  obtain ⟨rfl, hsz, hP, hE, hD0⟩ := hv
  have hx := B.exec
  have hb := B.bytes
  have hr := B.returns
  have hts := atoms_spec (ws := wsX5_fits) B.pre
  have hown : s.vm.findClass RX5 = some m.cls := findClass_of_methodNamed B.named
  have hlocks := B.notSynchronized
  have hK := hE.1
  subst hsz
  have hD := hD0.self (sz := s.heap.size)
  generalize hAe : va_A [(p_F, .inr (2, [.int F_columns, .int F_rows, .int F_steepness, .int F_size, .ref p_F_cells, .ref p_F_wearing, .ref p_F_turning]))] s.heap.size = A at hD ⊢
  have hA : ∀ q : Nat, s.heap.size ≤ q → A q := fun q h => by rw [← hAe]; exact Or.inr h
  have hS : va_S A s.heap s.heap [] := va_S.rf
  have hP : va_P D vwCl [(p_F, .inr (2, [.int F_columns, .int F_rows, .int F_steepness, .int F_size, .ref p_F_cells, .ref p_F_wearing, .ref p_F_turning]))] s.heap := hP
  have hl := lv_entry ([.ref p_F, .int l1, .int l2, .int l3]) (n := 4) (Nat.le_of_ble_eq_true rfl)
  rw [lg_entry_eq]
  generalize (lg_sl ([.ref p_F, .int l1, .int l2, .int l3]) ++ List.replicate (4 - (lg_sl ([.ref p_F, .int l1, .int l2, .int l3])).length) Slot.unset).toArray = ls at hl ⊢
  have hl : lv_has ls 4 [(0, .ref p_F), (1, .int l1), (2, .int l2), (3, .int l3)] := hl
  generalize hQ9 : MQ below (va_Qi (fun (r : Int32) (u : Unit) => post r ) (fun (u : Unit) t => va_P D vwCl [(p_F, .inr (2, [.int F_columns, .int F_rows, .int F_steepness, .int F_size, .ref p_F_cells, .ref p_F_wearing, .ref p_F_turning]))] t.heap ∧ va_D A [(p_F, .inr (2, [.int F_columns, .int F_rows, .int F_steepness, .int F_size, .ref p_F_cells, .ref p_F_wearing, .ref p_F_turning]))]) A) ([.ref p_F, .int l1, .int l2, .int l3] : List Value).toArray s 0 0 A = Q9
  have hF := h
  unfold wp_X5_fits at hF
  have hj_25 : jn_X5_fits_25 F_columns F_rows l2 l3 post  → ∀ (H : Heap) (locs : List Loc), va_P D vwCl [(p_F, .inr (2, [.int F_columns, .int F_rows, .int F_steepness, .int F_size, .ref p_F_cells, .ref p_F_wearing, .ref p_F_turning]))] H → va_D A [(p_F, .inr (2, [.int F_columns, .int F_rows, .int F_steepness, .int F_size, .ref p_F_cells, .ref p_F_wearing, .ref p_F_turning]))] → va_S A s.heap H locs → ∀ ls : Array Slot, lv_has ls 4 [(0, .ref p_F), (2, .int l2), (3, .int l3)] → W p l e ({ frames := 2, cells := 0, slots := 0, locals := 43 } : Room) s m ([.ref p_F, .int l1, .int l2, .int l3] : List Value).toArray below meth c H locs 0 0 Q9 (F0 m 25 ls []) := by
    intro  hF H locs hP hD hS ls hl
    unfold jn_X5_fits_25 at hF
    refine lv_iload_n hx hb dX5_fits_25 rfl (lv_at hl 1 rfl) ?_
    by_cases cc_1 : l2 = (1 : Int32)
    · have hF := hF.1 cc_1
      refine lv_tableIn (off := 30) (tgt := 56) hx hb dX5_fits_26 (by rw [cc_1]; decide) (by rw [cc_1]; decide) (by rw [cc_1]; decide) (by decide) ?_
      refine lv_aload_n hx hb dX5_fits_56 rfl (lv_at hl 0 rfl) ?_
      refine lv_iload_n hx hb dX5_fits_57 rfl (lv_at hl 2 rfl) ?_
      refine z_calli (wr := []) (va_runV (As := [.int l3]) (rest := []) ⟨hx, hb, hml, hown, hts⟩ (c_X3_hasColumn l D cI cJ cZ p_F p_F_cells p_F_wearing p_F_turning F_columns F_rows F_steepness F_size l3 H.size hF) (cwV 1 hts gX5_fits_X3_hasColumn rfl rfl rfl (by decide +kernel) ⟨Nat.le_of_ble_eq_true rfl, Nat.le_of_ble_eq_true rfl⟩) (z_preV (wc := [(p_F, .inr (2, [.int F_columns, .int F_rows, .int F_steepness, .int F_size, .ref p_F_cells, .ref p_F_wearing, .ref p_F_turning]))]) hP hE hD 2 0 rfl rfl [0] (by decide) rfl) rfl rfl hl.1 rfl (lv_room (Nat.le_of_ble_eq_true rfl)) dX5_fits_58 ⟨Nat.le_of_ble_eq_true rfl, Nat.le_of_ble_eq_true rfl⟩) hP hD hS hA [0] [] rfl rfl (by decide) (by decide) (fun r_2 u9 H locs hF hP hD hS => ?_)
      have hP : va_P D vwCl [(p_F, .inr (2, [.int F_columns, .int F_rows, .int F_steepness, .int F_size, .ref p_F_cells, .ref p_F_wearing, .ref p_F_turning]))] H := hP
      have hD : va_D A [(p_F, .inr (2, [.int F_columns, .int F_rows, .int F_steepness, .int F_size, .ref p_F_cells, .ref p_F_wearing, .ref p_F_turning]))] := hD
      have hz_3 := hF.1
      have hF := hF.2
      exact z_zret () hx hb hr hlocks hQ9 (z_nb hz_3) hF hP hD hS dX5_fits_61
    · have hF := hF.2 cc_1
      by_cases cc_4 : l2 = (2 : Int32)
      · have hF := hF.1 cc_4
        refine lv_tableIn (off := 36) (tgt := 62) hx hb dX5_fits_26 (by rw [cc_4]; decide) (by rw [cc_4]; decide) (by rw [cc_4]; decide) (by decide) ?_
        refine lv_aload_n hx hb dX5_fits_62 rfl (lv_at hl 0 rfl) ?_
        refine lv_iload_n hx hb dX5_fits_63 rfl (lv_at hl 2 rfl) ?_
        refine z_calli (wr := []) (va_runV (As := [.int l3]) (rest := []) ⟨hx, hb, hml, hown, hts⟩ (c_X3_hasRow l D cI cJ cZ p_F p_F_cells p_F_wearing p_F_turning F_columns F_rows F_steepness F_size l3 H.size hF) (cwV 1 hts gX5_fits_X3_hasRow rfl rfl rfl (by decide +kernel) ⟨Nat.le_of_ble_eq_true rfl, Nat.le_of_ble_eq_true rfl⟩) (z_preV (wc := [(p_F, .inr (2, [.int F_columns, .int F_rows, .int F_steepness, .int F_size, .ref p_F_cells, .ref p_F_wearing, .ref p_F_turning]))]) hP hE hD 2 0 rfl rfl [0] (by decide) rfl) rfl rfl hl.1 rfl (lv_room (Nat.le_of_ble_eq_true rfl)) dX5_fits_64 ⟨Nat.le_of_ble_eq_true rfl, Nat.le_of_ble_eq_true rfl⟩) hP hD hS hA [0] [] rfl rfl (by decide) (by decide) (fun r_5 u9 H locs hF hP hD hS => ?_)
        have hP : va_P D vwCl [(p_F, .inr (2, [.int F_columns, .int F_rows, .int F_steepness, .int F_size, .ref p_F_cells, .ref p_F_wearing, .ref p_F_turning]))] H := hP
        have hD : va_D A [(p_F, .inr (2, [.int F_columns, .int F_rows, .int F_steepness, .int F_size, .ref p_F_cells, .ref p_F_wearing, .ref p_F_turning]))] := hD
        have hz_6 := hF.1
        have hF := hF.2
        exact z_zret () hx hb hr hlocks hQ9 (z_nb hz_6) hF hP hD hS dX5_fits_67
      · have hF := hF.2 cc_4
        by_cases cc_7 : l2 = (3 : Int32)
        · have hF := hF.1 cc_7
          refine lv_tableIn (off := 42) (tgt := 68) hx hb dX5_fits_26 (by rw [cc_7]; decide) (by rw [cc_7]; decide) (by rw [cc_7]; decide) (by decide) ?_
          refine lv_iload_n hx hb dX5_fits_68 rfl (lv_at hl 2 rfl) ?_
          refine z_calli (wr := [(p_F, .inr (2, [.int F_columns, .int F_rows, .int F_steepness, .int F_size, .ref p_F_cells, .ref p_F_wearing, .ref p_F_turning]))]) (va_runSN (As := [.int l3]) (rest := []) ⟨hx, hb, hml, hown, hts⟩ (c_X7_isLength l D cI cJ cZ   l3 H.size hF) ⟨va_cnB 1 hts gX5_fits_X7_isLength_n49 rfl rfl rfl (zN.n16 hE.2) (hts (.initialized RX7) (by decide +kernel)) (by decide +kernel) ⟨Nat.le_of_ble_eq_true rfl, Nat.le_of_ble_eq_true rfl⟩, hts (.static yX7_isLength) (by decide +kernel), trivial⟩ (z_preS (wc := []) hP hE hD [] (by decide) rfl) rfl rfl hl.1 rfl (lv_room (Nat.le_of_ble_eq_true rfl)) dX5_fits_69 ⟨Nat.le_of_ble_eq_true rfl, Nat.le_of_ble_eq_true rfl⟩) hP hD hS hA [] [0] rfl rfl (by decide) (by decide) (fun r_8 u9 H locs hF hP hD hS => ?_)
          have hz_9 := hF.1
          have hF := hF.2
          exact z_zret () hx hb hr hlocks hQ9 (z_nb hz_9) hF hP hD hS dX5_fits_72
        · have hF := hF.2 cc_7
          by_cases cc_10 : l2 = (4 : Int32)
          · have hF := hF.1 cc_10
            refine lv_tableIn (off := 47) (tgt := 73) hx hb dX5_fits_26 (by rw [cc_10]; decide) (by rw [cc_10]; decide) (by rw [cc_10]; decide) (by decide) ?_
            refine lv_iload_n hx hb dX5_fits_73 rfl (lv_at hl 2 rfl) ?_
            refine z_calli (wr := [(p_F, .inr (2, [.int F_columns, .int F_rows, .int F_steepness, .int F_size, .ref p_F_cells, .ref p_F_wearing, .ref p_F_turning]))]) (va_runSN (As := [.int l3]) (rest := []) ⟨hx, hb, hml, hown, hts⟩ (c_X7_isSort l D cI cJ cZ   l3 H.size hF) ⟨va_cnB 1 hts gX5_fits_X7_isSort_n52 rfl rfl rfl (zN.n17 hE.2) (hts (.initialized RX7) (by decide +kernel)) (by decide +kernel) ⟨Nat.le_of_ble_eq_true rfl, Nat.le_of_ble_eq_true rfl⟩, hts (.static yX7_isSort) (by decide +kernel), trivial⟩ (z_preS (wc := []) hP hE hD [] (by decide) rfl) rfl rfl hl.1 rfl (lv_room (Nat.le_of_ble_eq_true rfl)) dX5_fits_74 ⟨Nat.le_of_ble_eq_true rfl, Nat.le_of_ble_eq_true rfl⟩) hP hD hS hA [] [0] rfl rfl (by decide) (by decide) (fun r_11 u9 H locs hF hP hD hS => ?_)
            have hz_12 := hF.1
            have hF := hF.2
            exact z_zret () hx hb hr hlocks hQ9 (z_nb hz_12) hF hP hD hS dX5_fits_77
          · have hF := hF.2 cc_10
            have h9_0 := lv_neT (a := 1) cc_1 (by decide)
            have h9_1 := lv_neT (a := 2) cc_4 (by decide)
            have h9_2 := lv_neT (a := 3) cc_7 (by decide)
            have h9_3 := lv_neT (a := 4) cc_10 (by decide)
            refine lv_tableOut (tgt := 78) hx hb dX5_fits_26 (by omega) (by decide) ?_
            refine lv_iload_n hx hb dX5_fits_78 rfl (lv_at hl 2 rfl) ?_
            refine z_calli (wr := [(p_F, .inr (2, [.int F_columns, .int F_rows, .int F_steepness, .int F_size, .ref p_F_cells, .ref p_F_wearing, .ref p_F_turning]))]) (va_runSN (As := [.int l3]) (rest := []) ⟨hx, hb, hml, hown, hts⟩ (c_X7_isThickness l D cI cJ cZ   l3 H.size hF) ⟨va_cnB 1 hts gX5_fits_X7_isThickness_n55 rfl rfl rfl (zN.n18 hE.2) (hts (.initialized RX7) (by decide +kernel)) (by decide +kernel) ⟨Nat.le_of_ble_eq_true rfl, Nat.le_of_ble_eq_true rfl⟩, hts (.static yX7_isThickness) (by decide +kernel), trivial⟩ (z_preS (wc := []) hP hE hD [] (by decide) rfl) rfl rfl hl.1 rfl (lv_room (Nat.le_of_ble_eq_true rfl)) dX5_fits_79 ⟨Nat.le_of_ble_eq_true rfl, Nat.le_of_ble_eq_true rfl⟩) hP hD hS hA [] [0] rfl rfl (by decide) (by decide) (fun r_13 u9 H locs hF hP hD hS => ?_)
            have hz_14 := hF.1
            have hF := hF.2
            exact z_zret () hx hb hr hlocks hQ9 (z_nb hz_14) hF hP hD hS dX5_fits_82
  refine lv_iload_n hx hb dX5_fits_0 rfl (lv_at hl 1 rfl) ?_
  refine lv_bipush (v := (89 : Int32)) hx hb dX5_fits_1 (by decide) ?_
  refine lv_icmp_eq (tgt := 17) hx hb dX5_fits_3 (by decide) (fun cc_15 => ?_) (fun cc_15 => ?_)
  · have hF := hF.1 cc_15
    refine lv_iload_n hx hb dX5_fits_17 rfl (lv_at hl 3 rfl) ?_
    refine lv_iconst (v := (1 : Int32)) hx hb dX5_fits_18 (by decide) ?_
    refine lv_bipush (v := (9 : Int32)) hx hb dX5_fits_19 (by decide) ?_
    refine z_calli (wr := [(p_F, .inr (2, [.int F_columns, .int F_rows, .int F_steepness, .int F_size, .ref p_F_cells, .ref p_F_wearing, .ref p_F_turning]))]) (va_runSN (As := [.int l3, .int (1 : Int32), .int (9 : Int32)]) (rest := []) ⟨hx, hb, hml, hown, hts⟩ (c_X7_isWithin l D cI cJ cZ   l3 (1 : Int32) (9 : Int32) s.heap.size hF) ⟨va_cnB 3 hts gX5_fits_X7_isWithin_n21 rfl rfl rfl (zN.n15 hE.2) (hts (.initialized RX7) (by decide +kernel)) (by decide +kernel) ⟨Nat.le_of_ble_eq_true rfl, Nat.le_of_ble_eq_true rfl⟩, hts (.static yX7_isWithin) (by decide +kernel), trivial⟩ (z_preS (wc := []) hP hE hD [] (by decide) rfl) rfl rfl hl.1 rfl (lv_room (Nat.le_of_ble_eq_true rfl)) dX5_fits_21 ⟨Nat.le_of_ble_eq_true rfl, Nat.le_of_ble_eq_true rfl⟩) hP hD hS hA [] [0] rfl rfl (by decide) (by decide) (fun r_16 u9 H locs hF hP hD hS => ?_)
    have hz_17 := hF.1
    have hF := hF.2
    exact z_zret () hx hb hr hlocks hQ9 (z_nb hz_17) hF hP hD hS dX5_fits_24
  · have hF := hF.2 cc_15
    refine lv_iload_n hx hb dX5_fits_6 rfl (lv_at hl 1 rfl) ?_
    refine lv_bipush (v := (83 : Int32)) hx hb dX5_fits_7 (by decide) ?_
    refine lv_icmp_ne (tgt := 25) hx hb dX5_fits_9 (by decide) (fun cc_18 => ?_) (fun cc_18 => ?_)
    · have hF := hF.1 cc_18
      exact hj_25  hF _ _ hP hD hS ls (lv_sub hl [0, 2, 3] rfl)
    · have hF := hF.2 cc_18
      refine lv_iload_n hx hb dX5_fits_12 rfl (lv_at hl 2 rfl) ?_
      refine lv_iconst (v := (2 : Int32)) hx hb dX5_fits_13 (by decide) ?_
      refine lv_icmp_ne (tgt := 25) hx hb dX5_fits_14 (by decide) (fun cc_19 => ?_) (fun cc_19 => ?_)
      · have hF := hF.1 cc_19
        exact hj_25  hF _ _ hP hD hS ls (lv_sub hl [0, 2, 3] rfl)
      · have hF := hF.2 cc_19
        refine lv_iload_n hx hb dX5_fits_17 rfl (lv_at hl 3 rfl) ?_
        refine lv_iconst (v := (1 : Int32)) hx hb dX5_fits_18 (by decide) ?_
        refine lv_bipush (v := (9 : Int32)) hx hb dX5_fits_19 (by decide) ?_
        refine z_calli (wr := [(p_F, .inr (2, [.int F_columns, .int F_rows, .int F_steepness, .int F_size, .ref p_F_cells, .ref p_F_wearing, .ref p_F_turning]))]) (va_runSN (As := [.int l3, .int (1 : Int32), .int (9 : Int32)]) (rest := []) ⟨hx, hb, hml, hown, hts⟩ (c_X7_isWithin l D cI cJ cZ   l3 (1 : Int32) (9 : Int32) s.heap.size hF) ⟨va_cnB 3 hts gX5_fits_X7_isWithin_n21 rfl rfl rfl (zN.n15 hE.2) (hts (.initialized RX7) (by decide +kernel)) (by decide +kernel) ⟨Nat.le_of_ble_eq_true rfl, Nat.le_of_ble_eq_true rfl⟩, hts (.static yX7_isWithin) (by decide +kernel), trivial⟩ (z_preS (wc := []) hP hE hD [] (by decide) rfl) rfl rfl hl.1 rfl (lv_room (Nat.le_of_ble_eq_true rfl)) dX5_fits_21 ⟨Nat.le_of_ble_eq_true rfl, Nat.le_of_ble_eq_true rfl⟩) hP hD hS hA [] [0] rfl rfl (by decide) (by decide) (fun r_20 u9 H locs hF hP hD hS => ?_)
        have hz_21 := hF.1
        have hF := hF.2
        exact z_zret () hx hb hr hlocks hQ9 (z_nb hz_21) hF hP hD hS dX5_fits_24
set_option maxHeartbeats 8000000 in
set_option maxRecDepth 100000 in
theorem c_X5_faultOfPart (l : Launch) (D : va_G) (cI cJ cZ : ClassId) (p_F p_F_cells p_F_wearing p_F_turning p_T p_T_bytes : Nat) (F_columns : Int32) (F_rows : Int32) (F_steepness : Int32) (F_size : Int32) (T_length : Int32) (T_bytes : Nat → Int32) (l2 : Int32) (sz : Nat) {post : Int32 → Prop} (h : wp_X5_faultOfPart F_columns F_rows T_length T_bytes l2 post) : Met l yX5_faultOfPart wsX5_faultOfPart ({ frames := 3, cells := 0, slots := 0, locals := 66 }) (zPc D cI cJ cZ [.ref p_T, .ref p_F, .int l2] sz [(p_F, .inr (2, [.int F_columns, .int F_rows, .int F_steepness, .int F_size, .ref p_F_cells, .ref p_F_wearing, .ref p_F_turning])), (p_T, .inr (4, [.ref p_T_bytes, .int T_length])), (p_T_bytes, .inl (cI, 60, .inl T_bytes))]) (va_Qi (fun (r : Int32) (u : Unit) => post r ) (fun (u : Unit) t => va_P D vwCl [(p_F, .inr (2, [.int F_columns, .int F_rows, .int F_steepness, .int F_size, .ref p_F_cells, .ref p_F_wearing, .ref p_F_turning])), (p_T, .inr (4, [.ref p_T_bytes, .int T_length])), (p_T_bytes, .inl (cI, 60, .inl T_bytes))] t.heap ∧ va_D (va_A [(p_F, .inr (2, [.int F_columns, .int F_rows, .int F_steepness, .int F_size, .ref p_F_cells, .ref p_F_wearing, .ref p_F_turning])), (p_T, .inr (4, [.ref p_T_bytes, .int T_length])), (p_T_bytes, .inl (cI, 60, .inl T_bytes))] sz) [(p_F, .inr (2, [.int F_columns, .int F_rows, .int F_steepness, .int F_size, .ref p_F_cells, .ref p_F_wearing, .ref p_F_turning])), (p_T, .inr (4, [.ref p_T_bytes, .int T_length])), (p_T_bytes, .inl (cI, 60, .inl T_bytes))]) (va_A [(p_F, .inr (2, [.int F_columns, .int F_rows, .int F_steepness, .int F_size, .ref p_F_cells, .ref p_F_wearing, .ref p_F_turning])), (p_T, .inr (4, [.ref p_T_bytes, .int T_length])), (p_T_bytes, .inl (cI, 60, .inl T_bytes))] sz)) 0 0 (va_A [(p_F, .inr (2, [.int F_columns, .int F_rows, .int F_steepness, .int F_size, .ref p_F_cells, .ref p_F_wearing, .ref p_F_turning])), (p_T, .inr (4, [.ref p_T_bytes, .int T_length])), (p_T_bytes, .inl (cI, 60, .inl T_bytes))] sz) := by
  refine Met.ofW (cc := cX5_faultOfPart) (maxL := 5) (ret := (some .int)) (by decide) rfl ?_
  intro p e s m args below meth c s₁ B hml hv
  obtain ⟨rfl, hsz, hP, hE, hD0⟩ := hv
  have hx := B.exec
  have hb := B.bytes
  have hr := B.returns
  have hts := atoms_spec (ws := wsX5_faultOfPart) B.pre
  have hown : s.vm.findClass RX5 = some m.cls := findClass_of_methodNamed B.named
  have hlocks := B.notSynchronized
  have hK := hE.1
  subst hsz
  have hD := hD0.self (sz := s.heap.size)
  generalize hAe : va_A [(p_F, .inr (2, [.int F_columns, .int F_rows, .int F_steepness, .int F_size, .ref p_F_cells, .ref p_F_wearing, .ref p_F_turning])), (p_T, .inr (4, [.ref p_T_bytes, .int T_length])), (p_T_bytes, .inl (cI, 60, .inl T_bytes))] s.heap.size = A at hD ⊢
  have hA : ∀ q : Nat, s.heap.size ≤ q → A q := fun q h => by rw [← hAe]; exact Or.inr h
  have hS : va_S A s.heap s.heap [] := va_S.rf
  have hP : va_P D vwCl [(p_F, .inr (2, [.int F_columns, .int F_rows, .int F_steepness, .int F_size, .ref p_F_cells, .ref p_F_wearing, .ref p_F_turning])), (p_T, .inr (4, [.ref p_T_bytes, .int T_length])), (p_T_bytes, .inl (cI, 60, .inl T_bytes))] s.heap := hP
  have hl := lv_entry ([.ref p_T, .ref p_F, .int l2]) (n := 5) (Nat.le_of_ble_eq_true rfl)
  rw [lg_entry_eq]
  generalize (lg_sl ([.ref p_T, .ref p_F, .int l2]) ++ List.replicate (5 - (lg_sl ([.ref p_T, .ref p_F, .int l2])).length) Slot.unset).toArray = ls at hl ⊢
  have hl : lv_has ls 5 [(0, .ref p_T), (1, .ref p_F), (2, .int l2)] := hl
  generalize hQ9 : MQ below (va_Qi (fun (r : Int32) (u : Unit) => post r ) (fun (u : Unit) t => va_P D vwCl [(p_F, .inr (2, [.int F_columns, .int F_rows, .int F_steepness, .int F_size, .ref p_F_cells, .ref p_F_wearing, .ref p_F_turning])), (p_T, .inr (4, [.ref p_T_bytes, .int T_length])), (p_T_bytes, .inl (cI, 60, .inl T_bytes))] t.heap ∧ va_D A [(p_F, .inr (2, [.int F_columns, .int F_rows, .int F_steepness, .int F_size, .ref p_F_cells, .ref p_F_wearing, .ref p_F_turning])), (p_T, .inr (4, [.ref p_T_bytes, .int T_length])), (p_T_bytes, .inl (cI, 60, .inl T_bytes))]) A) ([.ref p_T, .ref p_F, .int l2] : List Value).toArray s 0 0 A = Q9
  have hf_11 := hts (.fieldLink RX5 11 "StrawCoats$Text" "bytes" "[I") (by decide +kernel)
  have hf_15 := hts (.fieldLink RX5 15 "StrawCoats$Text" "length" "I") (by decide +kernel)
  have hi_X5 : ∀ w ∈ u_ws RX5 TX5 2, w ∈ wsX5_faultOfPart := by decide +kernel
  have hF := h
  unfold wp_X5_faultOfPart at hF
  refine lv_aload_n hx hb dX5_faultOfPart_0 rfl (lv_at hl 0 rfl) ?_
  refine va_get (D := D) (ci := 4) (v := .ref p_T_bytes) (C := RX5) (T := TX5) (N := 2) hx hb hts hi_X5 hown hK hP 1 rfl rfl 0 (by decide) hf_11 (fun _ h9 => h9) rfl dX5_faultOfPart_1 ?_
  refine lv_iload_n hx hb dX5_faultOfPart_4 rfl (lv_at hl 2 rfl) ?_
  have hb_1 := hF.1
  have hF := hF.2
  refine va_iald hx hb hK hP 2 0 rfl rfl hb_1 dX5_faultOfPart_5 ?_
  refine z_calli (wr := [(p_F, .inr (2, [.int F_columns, .int F_rows, .int F_steepness, .int F_size, .ref p_F_cells, .ref p_F_wearing, .ref p_F_turning])), (p_T, .inr (4, [.ref p_T_bytes, .int T_length])), (p_T_bytes, .inl (cI, 60, .inl T_bytes))]) (va_runS (As := [.int (T_bytes l2.toNatClampNeg)]) (rest := []) ⟨hx, hb, hml, hown, hts⟩ (c_X5_figuresOf l D cI cJ cZ   (T_bytes l2.toNatClampNeg) s.heap.size hF) (va_cwS 1 hts gX5_faultOfPart_X5_figuresOf rfl rfl rfl (by decide +kernel) ⟨Nat.le_of_ble_eq_true rfl, Nat.le_of_ble_eq_true rfl⟩) (z_preS (wc := []) hP hE hD [] (by decide) rfl) rfl rfl hl.1 rfl (lv_room (Nat.le_of_ble_eq_true rfl)) dX5_faultOfPart_6 ⟨Nat.le_of_ble_eq_true rfl, Nat.le_of_ble_eq_true rfl⟩) hP hD hS hA [] [0, 1, 2] rfl rfl (by decide) (by decide) (fun r_2 u9 H locs hF hP hD hS => ?_)
  refine lv_istore_n (lv' := [(3, .int r_2), (0, .ref p_T), (1, .ref p_F), (2, .int l2)]) hx hb dX5_faultOfPart_9 rfl hl (by decide) rfl (fun ls hl => ?_)
  refine lv_iload_n hx hb dX5_faultOfPart_10 rfl (lv_at hl 0 rfl) ?_
  refine lv_if_ne (tgt := 16) hx hb dX5_faultOfPart_11 (by decide) (fun cc_3 => ?_) (fun cc_3 => ?_)
  · have hF := hF.1 cc_3
    refine lv_iconst (v := (1 : Int32)) hx hb dX5_faultOfPart_16 (by decide) ?_
    refine lv_istore (lv' := [(4, .int (1 : Int32)), (3, .int r_2), (0, .ref p_T), (1, .ref p_F), (2, .int l2)]) hx hb dX5_faultOfPart_17 hl (by decide) rfl (fun ls hl => ?_)
    obtain ⟨I_19, μ_19, hI_19, hs_19⟩ := hF
    have hlp_19 : ∀ (n : Nat) (l4_4 : Int32), I_19 l4_4 → μ_19 l4_4 < n → ∀ (H : Heap) (locs : List Loc), va_P D vwCl [(p_F, .inr (2, [.int F_columns, .int F_rows, .int F_steepness, .int F_size, .ref p_F_cells, .ref p_F_wearing, .ref p_F_turning])), (p_T, .inr (4, [.ref p_T_bytes, .int T_length])), (p_T_bytes, .inl (cI, 60, .inl T_bytes))] H → va_D A [(p_F, .inr (2, [.int F_columns, .int F_rows, .int F_steepness, .int F_size, .ref p_F_cells, .ref p_F_wearing, .ref p_F_turning])), (p_T, .inr (4, [.ref p_T_bytes, .int T_length])), (p_T_bytes, .inl (cI, 60, .inl T_bytes))] → va_S A s.heap H locs → ∀ ls : Array Slot, lv_has ls 5 [(0, .ref p_T), (1, .ref p_F), (2, .int l2), (3, .int r_2), (4, .int l4_4)] → W p l e ({ frames := 3, cells := 0, slots := 0, locals := 66 } : Room) s m ([.ref p_T, .ref p_F, .int l2] : List Value).toArray below meth c H locs 0 0 Q9 (F0 m 19 ls []) := by
      intro n
      induction n with
      | zero => intro l4_4 _ hn; exact absurd hn (Nat.not_lt_zero _)
      | succ n ih_19 =>
        intro l4_4 hI9 hn_19 H locs hP hD hS ls hl
        have hF := hs_19 l4_4 hI9
        unfold bd_X5_faultOfPart_19 at hF
        refine lv_iload hx hb dX5_faultOfPart_19 (lv_at hl 4 rfl) ?_
        refine lv_iload_n hx hb dX5_faultOfPart_21 rfl (lv_at hl 3 rfl) ?_
        refine lv_icmp_gt (tgt := 75) hx hb dX5_faultOfPart_22 (by decide) (fun cc_5 => ?_) (fun cc_5 => ?_)
        · have hF := hF.1 cc_5
          refine lv_bipush (v := (-9 : Int32)) hx hb dX5_faultOfPart_75 (by decide) ?_
          exact z_iret () hx hb hr hlocks hQ9 hF hP hD hS dX5_faultOfPart_77
        · have hF := hF.2 cc_5
          refine lv_iload_n hx hb dX5_faultOfPart_25 rfl (lv_at hl 2 rfl) ?_
          refine lv_iload hx hb dX5_faultOfPart_26 (lv_at hl 4 rfl) ?_
          refine lv_iadd hx hb dX5_faultOfPart_28 ?_
          refine lv_aload_n hx hb dX5_faultOfPart_29 rfl (lv_at hl 0 rfl) ?_
          refine va_get (D := D) (ci := 4) (v := .int T_length) (C := RX5) (T := TX5) (N := 2) hx hb hts hi_X5 hown hK hP 1 rfl rfl 1 (by decide) hf_15 (fun _ h9 => h9) rfl dX5_faultOfPart_30 ?_
          refine lv_icmp_lt (tgt := 41) hx hb dX5_faultOfPart_33 (by decide) (fun cc_6 => ?_) (fun cc_6 => ?_)
          · have hF := hF.1 cc_6
            refine lv_aload_n hx hb dX5_faultOfPart_41 rfl (lv_at hl 1 rfl) ?_
            refine lv_aload_n hx hb dX5_faultOfPart_42 rfl (lv_at hl 0 rfl) ?_
            refine va_get (D := D) (ci := 4) (v := .ref p_T_bytes) (C := RX5) (T := TX5) (N := 2) hx hb hts hi_X5 hown hK hP 1 rfl rfl 0 (by decide) hf_11 (fun _ h9 => h9) rfl dX5_faultOfPart_43 ?_
            refine lv_iload_n hx hb dX5_faultOfPart_46 rfl (lv_at hl 2 rfl) ?_
            have hb_7 := hF.1
            have hF := hF.2
            refine va_iald hx hb hK hP 2 0 rfl rfl hb_7 dX5_faultOfPart_47 ?_
            refine lv_iload hx hb dX5_faultOfPart_48 (lv_at hl 4 rfl) ?_
            refine lv_aload_n hx hb dX5_faultOfPart_50 rfl (lv_at hl 0 rfl) ?_
            refine lv_iload_n hx hb dX5_faultOfPart_51 rfl (lv_at hl 2 rfl) ?_
            refine lv_iload hx hb dX5_faultOfPart_52 (lv_at hl 4 rfl) ?_
            refine lv_iadd hx hb dX5_faultOfPart_54 ?_
            refine z_calli (wr := [(p_F, .inr (2, [.int F_columns, .int F_rows, .int F_steepness, .int F_size, .ref p_F_cells, .ref p_F_wearing, .ref p_F_turning]))]) (va_runV (As := [.int (l2 + l4_4)]) (rest := [.int l4_4, .int (T_bytes l2.toNatClampNeg), .ref p_F]) ⟨hx, hb, hml, hown, hts⟩ (c_X5_figure l D cI cJ cZ p_T p_T_bytes T_length T_bytes (l2 + l4_4) H.size hF) (cwV 1 hts gX5_faultOfPart_X5_figure rfl rfl rfl (by decide +kernel) ⟨Nat.le_of_ble_eq_true rfl, Nat.le_of_ble_eq_true rfl⟩) (z_preV (wc := [(p_T, .inr (4, [.ref p_T_bytes, .int T_length])), (p_T_bytes, .inl (cI, 60, .inl T_bytes))]) hP hE hD 4 1 rfl rfl [1, 2] (by decide) rfl) rfl rfl hl.1 rfl (lv_room (Nat.le_of_ble_eq_true rfl)) dX5_faultOfPart_55 ⟨Nat.le_of_ble_eq_true rfl, Nat.le_of_ble_eq_true rfl⟩) hP hD hS hA [1, 2] [0] rfl rfl (by decide) (by decide) (fun r_8 u9 H locs hF hP hD hS => ?_)
            have hP : va_P D vwCl [(p_F, .inr (2, [.int F_columns, .int F_rows, .int F_steepness, .int F_size, .ref p_F_cells, .ref p_F_wearing, .ref p_F_turning])), (p_T, .inr (4, [.ref p_T_bytes, .int T_length])), (p_T_bytes, .inl (cI, 60, .inl T_bytes))] H := hP
            have hD : va_D A [(p_F, .inr (2, [.int F_columns, .int F_rows, .int F_steepness, .int F_size, .ref p_F_cells, .ref p_F_wearing, .ref p_F_turning])), (p_T, .inr (4, [.ref p_T_bytes, .int T_length])), (p_T_bytes, .inl (cI, 60, .inl T_bytes))] := hD
            refine z_calli (wr := [(p_T, .inr (4, [.ref p_T_bytes, .int T_length])), (p_T_bytes, .inl (cI, 60, .inl T_bytes))]) (va_runS (As := [.ref p_F, .int (T_bytes l2.toNatClampNeg), .int l4_4, .int r_8]) (rest := []) ⟨hx, hb, hml, hown, hts⟩ (c_X5_fits l D cI cJ cZ p_F p_F_cells p_F_wearing p_F_turning F_columns F_rows F_steepness F_size (T_bytes l2.toNatClampNeg) l4_4 r_8 H.size hF) (va_cwS 4 hts gX5_faultOfPart_X5_fits rfl rfl rfl (by decide +kernel) ⟨Nat.le_of_ble_eq_true rfl, Nat.le_of_ble_eq_true rfl⟩) (z_preS (wc := [(p_F, .inr (2, [.int F_columns, .int F_rows, .int F_steepness, .int F_size, .ref p_F_cells, .ref p_F_wearing, .ref p_F_turning]))]) hP hE hD [0] (by decide) rfl) rfl rfl hl.1 rfl (lv_room (Nat.le_of_ble_eq_true rfl)) dX5_faultOfPart_58 ⟨Nat.le_of_ble_eq_true rfl, Nat.le_of_ble_eq_true rfl⟩) hP hD hS hA [0] [1, 2] rfl rfl (by decide) (by decide) (fun r_9 u9 H locs hF hP hD hS => ?_)
            have hP : va_P D vwCl [(p_T, .inr (4, [.ref p_T_bytes, .int T_length])), (p_T_bytes, .inl (cI, 60, .inl T_bytes)), (p_F, .inr (2, [.int F_columns, .int F_rows, .int F_steepness, .int F_size, .ref p_F_cells, .ref p_F_wearing, .ref p_F_turning]))] H := hP
            have hD : va_D A [(p_T, .inr (4, [.ref p_T_bytes, .int T_length])), (p_T_bytes, .inl (cI, 60, .inl T_bytes)), (p_F, .inr (2, [.int F_columns, .int F_rows, .int F_steepness, .int F_size, .ref p_F_cells, .ref p_F_wearing, .ref p_F_turning]))] := hD
            refine lv_if_ne (tgt := 69) hx hb dX5_faultOfPart_61 (by decide) (fun cc_10 => ?_) (fun cc_10 => ?_)
            · have hF := hF.1 cc_10
              refine lv_iinc (v := (l4_4 + (1 : Int32))) (lv' := [(4, .int (l4_4 + (1 : Int32))), (0, .ref p_T), (1, .ref p_F), (2, .int l2), (3, .int r_2)]) hx hb dX5_faultOfPart_69 hl (k := 4) rfl rfl (by decide) rfl (fun ls hl => ?_)
              refine lv_goto (tgt := 19) hx hb dX5_faultOfPart_72 (by decide) ?_
              exact ih_19 (l4_4 + (1 : Int32)) hF.1 (Nat.lt_of_lt_of_le hF.2 (Nat.le_of_lt_succ hn_19)) _ _ (z_sub hP [2, 0, 1] (wc := [(p_F, .inr (2, [.int F_columns, .int F_rows, .int F_steepness, .int F_size, .ref p_F_cells, .ref p_F_wearing, .ref p_F_turning])), (p_T, .inr (4, [.ref p_T_bytes, .int T_length])), (p_T_bytes, .inl (cI, 60, .inl T_bytes))]) rfl) (hD.sub (ws' := [(p_F, .inr (2, [.int F_columns, .int F_rows, .int F_steepness, .int F_size, .ref p_F_cells, .ref p_F_wearing, .ref p_F_turning])), (p_T, .inr (4, [.ref p_T_bytes, .int T_length])), (p_T_bytes, .inl (cI, 60, .inl T_bytes))]) [2, 0, 1] (by decide) rfl) hS ls (lv_sub hl [1, 2, 3, 4, 0] rfl)
            · have hF := hF.2 cc_10
              refine lv_iload_n hx hb dX5_faultOfPart_64 rfl (lv_at hl 2 rfl) ?_
              refine lv_iload hx hb dX5_faultOfPart_65 (lv_at hl 4 rfl) ?_
              refine lv_iadd hx hb dX5_faultOfPart_67 ?_
              exact z_iret () hx hb hr hlocks hQ9 hF (z_sub hP [2, 0, 1] (wc := [(p_F, .inr (2, [.int F_columns, .int F_rows, .int F_steepness, .int F_size, .ref p_F_cells, .ref p_F_wearing, .ref p_F_turning])), (p_T, .inr (4, [.ref p_T_bytes, .int T_length])), (p_T_bytes, .inl (cI, 60, .inl T_bytes))]) rfl) (hD.sub (ws' := [(p_F, .inr (2, [.int F_columns, .int F_rows, .int F_steepness, .int F_size, .ref p_F_cells, .ref p_F_wearing, .ref p_F_turning])), (p_T, .inr (4, [.ref p_T_bytes, .int T_length])), (p_T_bytes, .inl (cI, 60, .inl T_bytes))]) [2, 0, 1] (by decide) rfl) hS dX5_faultOfPart_68
          · have hF := hF.2 cc_6
            refine lv_aload_n hx hb dX5_faultOfPart_36 rfl (lv_at hl 0 rfl) ?_
            refine va_get (D := D) (ci := 4) (v := .int T_length) (C := RX5) (T := TX5) (N := 2) hx hb hts hi_X5 hown hK hP 1 rfl rfl 1 (by decide) hf_15 (fun _ h9 => h9) rfl dX5_faultOfPart_37 ?_
            exact z_iret () hx hb hr hlocks hQ9 hF hP hD hS dX5_faultOfPart_40
    exact hlp_19 _ (1 : Int32) hI_19 (Nat.lt_succ_self _) _ _ hP hD hS ls (lv_sub hl [2, 3, 4, 1, 0] rfl)
  · have hF := hF.2 cc_3
    refine lv_iload_n hx hb dX5_faultOfPart_14 rfl (lv_at hl 3 rfl) ?_
    exact z_iret () hx hb hr hlocks hQ9 hF hP hD hS dX5_faultOfPart_15
set_option maxHeartbeats 8000000 in
set_option maxRecDepth 100000 in
theorem c_X5_firstFault (l : Launch) (D : va_G) (cI cJ cZ : ClassId) (p_F p_F_cells p_F_wearing p_F_turning p_T p_T_bytes : Nat) (F_columns : Int32) (F_rows : Int32) (F_steepness : Int32) (F_size : Int32) (T_length : Int32) (T_bytes : Nat → Int32)  (sz : Nat) {post : Int32 → Prop} (h : wp_X5_firstFault F_columns F_rows T_length T_bytes  post) : Met l yX5_firstFault wsX5_firstFault ({ frames := 4, cells := 0, slots := 0, locals := 90 }) (zPc D cI cJ cZ [.ref p_T, .ref p_F] sz [(p_F, .inr (2, [.int F_columns, .int F_rows, .int F_steepness, .int F_size, .ref p_F_cells, .ref p_F_wearing, .ref p_F_turning])), (p_T, .inr (4, [.ref p_T_bytes, .int T_length])), (p_T_bytes, .inl (cI, 60, .inl T_bytes))]) (va_Qi (fun (r : Int32) (u : Unit) => post r ) (fun (u : Unit) t => va_P D vwCl [(p_F, .inr (2, [.int F_columns, .int F_rows, .int F_steepness, .int F_size, .ref p_F_cells, .ref p_F_wearing, .ref p_F_turning])), (p_T, .inr (4, [.ref p_T_bytes, .int T_length])), (p_T_bytes, .inl (cI, 60, .inl T_bytes))] t.heap ∧ va_D (va_A [(p_F, .inr (2, [.int F_columns, .int F_rows, .int F_steepness, .int F_size, .ref p_F_cells, .ref p_F_wearing, .ref p_F_turning])), (p_T, .inr (4, [.ref p_T_bytes, .int T_length])), (p_T_bytes, .inl (cI, 60, .inl T_bytes))] sz) [(p_F, .inr (2, [.int F_columns, .int F_rows, .int F_steepness, .int F_size, .ref p_F_cells, .ref p_F_wearing, .ref p_F_turning])), (p_T, .inr (4, [.ref p_T_bytes, .int T_length])), (p_T_bytes, .inl (cI, 60, .inl T_bytes))]) (va_A [(p_F, .inr (2, [.int F_columns, .int F_rows, .int F_steepness, .int F_size, .ref p_F_cells, .ref p_F_wearing, .ref p_F_turning])), (p_T, .inr (4, [.ref p_T_bytes, .int T_length])), (p_T_bytes, .inl (cI, 60, .inl T_bytes))] sz)) 0 0 (va_A [(p_F, .inr (2, [.int F_columns, .int F_rows, .int F_steepness, .int F_size, .ref p_F_cells, .ref p_F_wearing, .ref p_F_turning])), (p_T, .inr (4, [.ref p_T_bytes, .int T_length])), (p_T_bytes, .inl (cI, 60, .inl T_bytes))] sz) := by
  refine Met.ofW (cc := cX5_firstFault) (maxL := 4) (ret := (some .int)) (by decide) rfl ?_
  intro p e s m args below meth c s₁ B hml hv
  obtain ⟨rfl, hsz, hP, hE, hD0⟩ := hv
  have hx := B.exec
  have hb := B.bytes
  have hr := B.returns
  have hts := atoms_spec (ws := wsX5_firstFault) B.pre
  have hown : s.vm.findClass RX5 = some m.cls := findClass_of_methodNamed B.named
  have hlocks := B.notSynchronized
  have hK := hE.1
  subst hsz
  have hD := hD0.self (sz := s.heap.size)
  generalize hAe : va_A [(p_F, .inr (2, [.int F_columns, .int F_rows, .int F_steepness, .int F_size, .ref p_F_cells, .ref p_F_wearing, .ref p_F_turning])), (p_T, .inr (4, [.ref p_T_bytes, .int T_length])), (p_T_bytes, .inl (cI, 60, .inl T_bytes))] s.heap.size = A at hD ⊢
  have hA : ∀ q : Nat, s.heap.size ≤ q → A q := fun q h => by rw [← hAe]; exact Or.inr h
  have hS : va_S A s.heap s.heap [] := va_S.rf
  have hP : va_P D vwCl [(p_F, .inr (2, [.int F_columns, .int F_rows, .int F_steepness, .int F_size, .ref p_F_cells, .ref p_F_wearing, .ref p_F_turning])), (p_T, .inr (4, [.ref p_T_bytes, .int T_length])), (p_T_bytes, .inl (cI, 60, .inl T_bytes))] s.heap := hP
  have hl := lv_entry ([.ref p_T, .ref p_F]) (n := 4) (Nat.le_of_ble_eq_true rfl)
  rw [lg_entry_eq]
  generalize (lg_sl ([.ref p_T, .ref p_F]) ++ List.replicate (4 - (lg_sl ([.ref p_T, .ref p_F])).length) Slot.unset).toArray = ls at hl ⊢
  have hl : lv_has ls 4 [(0, .ref p_T), (1, .ref p_F)] := hl
  generalize hQ9 : MQ below (va_Qi (fun (r : Int32) (u : Unit) => post r ) (fun (u : Unit) t => va_P D vwCl [(p_F, .inr (2, [.int F_columns, .int F_rows, .int F_steepness, .int F_size, .ref p_F_cells, .ref p_F_wearing, .ref p_F_turning])), (p_T, .inr (4, [.ref p_T_bytes, .int T_length])), (p_T_bytes, .inl (cI, 60, .inl T_bytes))] t.heap ∧ va_D A [(p_F, .inr (2, [.int F_columns, .int F_rows, .int F_steepness, .int F_size, .ref p_F_cells, .ref p_F_wearing, .ref p_F_turning])), (p_T, .inr (4, [.ref p_T_bytes, .int T_length])), (p_T_bytes, .inl (cI, 60, .inl T_bytes))]) A) ([.ref p_T, .ref p_F] : List Value).toArray s 0 0 A = Q9
  have hf_15 := hts (.fieldLink RX5 15 "StrawCoats$Text" "length" "I") (by decide +kernel)
  have hf_11 := hts (.fieldLink RX5 11 "StrawCoats$Text" "bytes" "[I") (by decide +kernel)
  have hi_X5 : ∀ w ∈ u_ws RX5 TX5 2, w ∈ wsX5_firstFault := by decide +kernel
  have hF := h
  unfold wp_X5_firstFault at hF
  refine lv_iconst (v := (0 : Int32)) hx hb dX5_firstFault_0 (by decide) ?_
  refine lv_istore_n (lv' := [(2, .int (0 : Int32)), (0, .ref p_T), (1, .ref p_F)]) hx hb dX5_firstFault_1 rfl hl (by decide) rfl (fun ls hl => ?_)
  obtain ⟨I_2, μ_2, hI_2, hs_2⟩ := hF
  have hlp_2 : ∀ (n : Nat) (l2_1 : Int32), I_2 l2_1 → μ_2 l2_1 < n → ∀ (H : Heap) (locs : List Loc), va_P D vwCl [(p_F, .inr (2, [.int F_columns, .int F_rows, .int F_steepness, .int F_size, .ref p_F_cells, .ref p_F_wearing, .ref p_F_turning])), (p_T, .inr (4, [.ref p_T_bytes, .int T_length])), (p_T_bytes, .inl (cI, 60, .inl T_bytes))] H → va_D A [(p_F, .inr (2, [.int F_columns, .int F_rows, .int F_steepness, .int F_size, .ref p_F_cells, .ref p_F_wearing, .ref p_F_turning])), (p_T, .inr (4, [.ref p_T_bytes, .int T_length])), (p_T_bytes, .inl (cI, 60, .inl T_bytes))] → va_S A s.heap H locs → ∀ ls : Array Slot, lv_has ls 4 [(0, .ref p_T), (1, .ref p_F), (2, .int l2_1)] → W p l e ({ frames := 4, cells := 0, slots := 0, locals := 90 } : Room) s m ([.ref p_T, .ref p_F] : List Value).toArray below meth c H locs 0 0 Q9 (F0 m 2 ls []) := by
    intro n
    induction n with
    | zero => intro l2_1 _ hn; exact absurd hn (Nat.not_lt_zero _)
    | succ n ih_2 =>
      intro l2_1 hI9 hn_2 H locs hP hD hS ls hl
      have hF := hs_2 l2_1 hI9
      unfold bd_X5_firstFault_2 at hF
      refine lv_iload_n hx hb dX5_firstFault_2 rfl (lv_at hl 2 rfl) ?_
      refine lv_aload_n hx hb dX5_firstFault_3 rfl (lv_at hl 0 rfl) ?_
      refine va_get (D := D) (ci := 4) (v := .int T_length) (C := RX5) (T := TX5) (N := 2) hx hb hts hi_X5 hown hK hP 1 rfl rfl 1 (by decide) hf_15 (fun _ h9 => h9) rfl dX5_firstFault_4 ?_
      refine lv_icmp_ge (tgt := 42) hx hb dX5_firstFault_7 (by decide) (fun cc_2 => ?_) (fun cc_2 => ?_)
      · have hF := hF.1 cc_2
        refine lv_bipush (v := (-9 : Int32)) hx hb dX5_firstFault_42 (by decide) ?_
        exact z_iret () hx hb hr hlocks hQ9 hF hP hD hS dX5_firstFault_44
      · have hF := hF.2 cc_2
        refine lv_aload_n hx hb dX5_firstFault_10 rfl (lv_at hl 0 rfl) ?_
        refine lv_aload_n hx hb dX5_firstFault_11 rfl (lv_at hl 1 rfl) ?_
        refine lv_iload_n hx hb dX5_firstFault_12 rfl (lv_at hl 2 rfl) ?_
        refine z_calli (wr := []) (va_runV (As := [.ref p_F, .int l2_1]) (rest := []) ⟨hx, hb, hml, hown, hts⟩ (c_X5_faultOfPart l D cI cJ cZ p_F p_F_cells p_F_wearing p_F_turning p_T p_T_bytes F_columns F_rows F_steepness F_size T_length T_bytes l2_1 H.size hF) (cwV 2 hts gX5_firstFault_X5_faultOfPart rfl rfl rfl (by decide +kernel) ⟨Nat.le_of_ble_eq_true rfl, Nat.le_of_ble_eq_true rfl⟩) (z_preV (wc := [(p_F, .inr (2, [.int F_columns, .int F_rows, .int F_steepness, .int F_size, .ref p_F_cells, .ref p_F_wearing, .ref p_F_turning])), (p_T, .inr (4, [.ref p_T_bytes, .int T_length])), (p_T_bytes, .inl (cI, 60, .inl T_bytes))]) hP hE hD 4 1 rfl rfl [0, 1, 2] (by decide) rfl) rfl rfl hl.1 rfl (lv_room (Nat.le_of_ble_eq_true rfl)) dX5_firstFault_13 ⟨Nat.le_of_ble_eq_true rfl, Nat.le_of_ble_eq_true rfl⟩) hP hD hS hA [0, 1, 2] [] rfl rfl (by decide) (by decide) (fun r_3 u9 H locs hF hP hD hS => ?_)
        have hP : va_P D vwCl [(p_F, .inr (2, [.int F_columns, .int F_rows, .int F_steepness, .int F_size, .ref p_F_cells, .ref p_F_wearing, .ref p_F_turning])), (p_T, .inr (4, [.ref p_T_bytes, .int T_length])), (p_T_bytes, .inl (cI, 60, .inl T_bytes))] H := hP
        have hD : va_D A [(p_F, .inr (2, [.int F_columns, .int F_rows, .int F_steepness, .int F_size, .ref p_F_cells, .ref p_F_wearing, .ref p_F_turning])), (p_T, .inr (4, [.ref p_T_bytes, .int T_length])), (p_T_bytes, .inl (cI, 60, .inl T_bytes))] := hD
        refine lv_istore_n (lv' := [(3, .int r_3), (0, .ref p_T), (1, .ref p_F), (2, .int l2_1)]) hx hb dX5_firstFault_16 rfl hl (by decide) rfl (fun ls hl => ?_)
        refine lv_iload_n hx hb dX5_firstFault_17 rfl (lv_at hl 0 rfl) ?_
        refine lv_bipush (v := (-9 : Int32)) hx hb dX5_firstFault_18 (by decide) ?_
        refine lv_icmp_eq (tgt := 25) hx hb dX5_firstFault_20 (by decide) (fun cc_4 => ?_) (fun cc_4 => ?_)
        · have hF := hF.1 cc_4
          refine lv_iload_n hx hb dX5_firstFault_25 rfl (lv_at hl 3 rfl) ?_
          refine lv_iconst (v := (1 : Int32)) hx hb dX5_firstFault_26 (by decide) ?_
          refine lv_aload_n hx hb dX5_firstFault_27 rfl (lv_at hl 1 rfl) ?_
          refine va_get (D := D) (ci := 4) (v := .ref p_T_bytes) (C := RX5) (T := TX5) (N := 2) hx hb hts hi_X5 hown hK hP 1 rfl rfl 0 (by decide) hf_11 (fun _ h9 => h9) rfl dX5_firstFault_28 ?_
          refine lv_iload_n hx hb dX5_firstFault_31 rfl (lv_at hl 3 rfl) ?_
          have hb_5 := hF.1
          have hF := hF.2
          refine va_iald hx hb hK hP 2 0 rfl rfl hb_5 dX5_firstFault_32 ?_
          refine z_calli (wr := [(p_F, .inr (2, [.int F_columns, .int F_rows, .int F_steepness, .int F_size, .ref p_F_cells, .ref p_F_wearing, .ref p_F_turning])), (p_T, .inr (4, [.ref p_T_bytes, .int T_length])), (p_T_bytes, .inl (cI, 60, .inl T_bytes))]) (va_runS (As := [.int (T_bytes l2_1.toNatClampNeg)]) (rest := [.int (1 : Int32), .int l2_1]) ⟨hx, hb, hml, hown, hts⟩ (c_X5_figuresOf l D cI cJ cZ   (T_bytes l2_1.toNatClampNeg) H.size hF) (va_cwS 1 hts gX5_firstFault_X5_figuresOf rfl rfl rfl (by decide +kernel) ⟨Nat.le_of_ble_eq_true rfl, Nat.le_of_ble_eq_true rfl⟩) (z_preS (wc := []) hP hE hD [] (by decide) rfl) rfl rfl hl.1 rfl (lv_room (Nat.le_of_ble_eq_true rfl)) dX5_firstFault_33 ⟨Nat.le_of_ble_eq_true rfl, Nat.le_of_ble_eq_true rfl⟩) hP hD hS hA [] [0, 1, 2] rfl rfl (by decide) (by decide) (fun r_6 u9 H locs hF hP hD hS => ?_)
          refine lv_iadd hx hb dX5_firstFault_36 ?_
          refine lv_iadd hx hb dX5_firstFault_37 ?_
          refine lv_istore_n (lv' := [(2, .int (l2_1 + ((1 : Int32) + r_6))), (3, .int r_3), (0, .ref p_T), (1, .ref p_F)]) hx hb dX5_firstFault_38 rfl hl (by decide) rfl (fun ls hl => ?_)
          refine lv_goto (tgt := 2) hx hb dX5_firstFault_39 (by decide) ?_
          exact ih_2 (l2_1 + ((1 : Int32) + r_6)) hF.1 (Nat.lt_of_lt_of_le hF.2 (Nat.le_of_lt_succ hn_2)) _ _ hP hD hS ls (lv_sub hl [2, 3, 0] rfl)
        · have hF := hF.2 cc_4
          refine lv_iload_n hx hb dX5_firstFault_23 rfl (lv_at hl 0 rfl) ?_
          exact z_iret () hx hb hr hlocks hQ9 hF hP hD hS dX5_firstFault_24
  exact hlp_2 _ (0 : Int32) hI_2 (Nat.lt_succ_self _) _ _ hP hD hS ls (lv_sub hl [1, 2, 0] rfl)
