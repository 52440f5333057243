/-! PURE OFFER 1: a roof laid column by column -/
def lay1 (tt : Nat → Nat → Nat) (c ln tk r : Nat) (s : BSt) : BSt := (s.1 + 1, set1 s.2.1 s.1 c, set1 s.2.2.1 s.1 r, set1 s.2.2.2.1 s.1 ln, set1 s.2.2.2.2.1 s.1 0, set1 s.2.2.2.2.2.1 s.1 tk, layL s.2.2.2.2.2.2 s.1 (lowF tt c r ln) r tk)
def layW (tt : Nat → Nat → Nat) (c ln tk w : Nat) : Nat → BSt → BSt
  | 0, s => s
  | r + 1, s => if w.testBit r = true then lay1 tt c ln tk r (layW tt c ln tk w r s) else layW tt c ln tk w r s
def lyS (s : BSt) : Nat → Nat → Nat → Bool := lyB s.1 s.2.1 s.2.2.2.2.2.2
def bst0 : BSt := (0, fun _ => 0, fun _ => 0, fun _ => 0, fun _ => 0, fun _ => 0, fun _ _ => 0)
def offW (C R lap : Nat) (tt : Nat → Nat → Nat) (ln tk : Nat) : Nat → Option BSt
  | 0 => some bst0
  | c + 1 => (offW C R lap tt ln tk c).bind (fun s => (bstW (prfB C R lap tt c ln (lyS s)) (2 ^ R)).map (fun w => layW tt c ln tk w R s))
theorem offW_none {C R lap : Nat} {tt : Nat → Nat → Nat} {ln tk k : Nat} (h : offW C R lap tt ln tk k = none) : ∀ j, offW C R lap tt ln tk (k + j) = none
  | 0 => h
  | j + 1 => by rw [← Nat.add_assoc, offW, offW_none h j]; rfl
def OffG (C R : Nat) (tt : Nat → Nat → Nat) (k m : Nat) (s : BSt) : Prop := GooS C R tt s ∧ s.1 ≤ m ∧ ∀ b, b < s.1 → s.2.1 b < k
theorem lay1_good {C R : Nat} {tt : Nat → Nat → Nat} {c ln tk r m : Nat} {s : BSt} (h : OffG C R tt (c + 1) m s) (hm : m < 40) (hc : c < C) (hr : r < R) (ht : tt c r = 0) (hl : 1 ≤ ln ∧ ln ≤ 3) (htk : 1 ≤ tk ∧ tk ≤ 9) : OffG C R tt (c + 1) (m + 1) (lay1 tt c ln tk r s) := by
  obtain ⟨⟨h1, h2⟩, h3, h4⟩ := h
  refine ⟨⟨?_, ?_⟩, ?_, fun b hb => ?_⟩
  · exact bunOK_add h1 (by omega) hc hr hl (by omega) htk
  · exact noOp_add h2 (lowF_ok ht hl)
  · show s.1 + 1 ≤ m + 1
    omega
  · show set1 s.2.1 s.1 c b < c + 1
    have hb' : b < s.1 + 1 := hb
    by_cases e : b = s.1
    · rw [e, set1_at]; omega
    · rw [set1_ne e]; exact h4 b (by omega)
theorem layW_good {C R : Nat} {tt : Nat → Nat → Nat} {c ln tk w m : Nat} {s : BSt} (h : OffG C R tt (c + 1) m s) (hm : m + R ≤ 40) (hc : c < C) (ho : ∀ r, r < R → w.testBit r = true → tt c r = 0) (hl : 1 ≤ ln ∧ ln ≤ 3) (htk : 1 ≤ tk ∧ tk ≤ 9) : ∀ r, r ≤ R → OffG C R tt (c + 1) (m + r) (layW tt c ln tk w r s)
  | 0, _ => h
  | r + 1, hr => by
    have ih := layW_good h hm hc ho hl htk r (by omega)
    rw [layW]
    by_cases e : w.testBit r = true
    · rw [if_pos e]
      exact lay1_good (m := m + r) ih (show m + r < 40 by omega) hc (by omega) (ho r (by omega) e) hl htk
    · rw [if_neg e]
      exact ⟨ih.1, by have := ih.2.1; omega, ih.2.2⟩
theorem prf_open {C R lap : Nat} {tt : Nat → Nat → Nat} {c ln w : Nat} {ly : Nat → Nat → Nat → Bool} (h : prfB C R lap tt c ln ly w = true) : ∀ r, r < R → w.testBit r = true → tt c r = 0 := by
  intro r hr hb
  unfold prfB at h
  rw [Bool.and_eq_true] at h
  have := al_iff.mp h.1 r hr
  rw [hb] at this
  exact of_decide_eq_true this
/-- what an offer costs -/
def OfR (C R lap : Nat) (tt wr : Nat → Nat → Nat) (ln tk y : Nat) (P v : Int32) : Prop := (offW C R lap tt ln tk C = none ∧ v = -9) ∨ ∃ s u, offW C R lap tt ln tk C = some s ∧ LeakR (fun k => fwL C R lap tt s.1 s.2.1 (itY s.1 s.2.1 wr s.2.2.2.2.2.2 k)) u ∧ ((u = nI 0 ∧ v = -9) ∨ (u = -9 ∧ v = nI 1 * (nI s.1 * P)) ∨ ∃ t, 1 ≤ t ∧ t ≤ 99 ∧ u = nI t ∧ v = nI ((y + t - 1) / t) * (nI s.1 * P))
theorem OfR.uniq {C R lap : Nat} {tt wr : Nat → Nat → Nat} {ln tk y : Nat} {P v v' : Int32} (h : OfR C R lap tt wr ln tk y P v) (h' : OfR C R lap tt wr ln tk y P v') : v = v' := by
  have n9 : ∀ t : Nat, t < 2 ^ 31 → nI t ≠ (-9 : Int32) := fun t ht => nI_ne9 ht
  rcases h with ⟨h1, h2⟩ | ⟨s, u, h1, h2, h3⟩
  · rcases h' with ⟨g1, g2⟩ | ⟨s', u', g1, g2, g3⟩
    · rw [h2, g2]
    · rw [h1] at g1; cases g1
  · rcases h' with ⟨g1, g2⟩ | ⟨s', u', g1, g2, g3⟩
    · rw [h1] at g1; cases g1
    · rw [h1] at g1
      have es := Option.some.inj g1
      subst es
      have eu := h2.uniq g2
      subst eu
      rcases h3 with ⟨a1, a2⟩ | ⟨a1, a2⟩ | ⟨t, t1, t2, a1, a2⟩
      · rcases g3 with ⟨b1, b2⟩ | ⟨b1, b2⟩ | ⟨t', t3, t4, b1, b2⟩
        · rw [a2, b2]
        · rw [a1] at b1; exact absurd b1 (n9 0 (by omega))
        · rw [a1] at b1; have := nI_inj (by omega) (by omega) b1; omega
      · rcases g3 with ⟨b1, b2⟩ | ⟨b1, b2⟩ | ⟨t', t3, t4, b1, b2⟩
        · rw [a1] at b1; exact absurd b1.symm (n9 0 (by omega))
        · rw [a2, b2]
        · rw [a1] at b1; exact absurd b1.symm (n9 t' (by omega))
      · rcases g3 with ⟨b1, b2⟩ | ⟨b1, b2⟩ | ⟨t', t3, t4, b1, b2⟩
        · rw [a1] at b1; have := nI_inj (by omega) (by omega) b1; omega
        · rw [a1] at b1; exact absurd b1 (n9 t (by omega))
        · rw [a1] at b1
          have := nI_inj (by omega) (by omega) b1
          rw [a2, b2, this]
theorem offG_0 {C R : Nat} {tt : Nat → Nat → Nat} : OffG C R tt 0 0 bst0 := ⟨⟨⟨by show 0 ≤ 40; omega, fun b hb => absurd hb (Nat.not_lt_zero b)⟩, fun b r hb => absurd hb (Nat.not_lt_zero b)⟩, Nat.le_refl 0, fun b hb => absurd hb (Nat.not_lt_zero b)⟩
theorem offW_step {C R lap : Nat} {tt : Nat → Nat → Nat} {ln tk k w : Nat} {s : BSt} (h : offW C R lap tt ln tk k = some s) (hw : bstW (prfB C R lap tt k ln (lyS s)) (2 ^ R) = some w) : offW C R lap tt ln tk (k + 1) = some (layW tt k ln tk w R s) := by
  rw [offW, h]
  show (bstW (prfB C R lap tt k ln (lyS s)) (2 ^ R)).map _ = _
  rw [hw]; rfl
theorem offW_stop {C R lap : Nat} {tt : Nat → Nat → Nat} {ln tk k : Nat} {s : BSt} (h : offW C R lap tt ln tk k = some s) (hw : bstW (prfB C R lap tt k ln (lyS s)) (2 ^ R) = none) : offW C R lap tt ln tk (k + 1) = none := by
  rw [offW, h]
  show (bstW (prfB C R lap tt k ln (lyS s)) (2 ^ R)).map _ = _
  rw [hw]; rfl
theorem sp_addAll {C R lap : Nat} {tt : Nat → Nat → Nat} {Fs : Int32} {Ft : Nat → Int32} (hRo : RoofC C R lap tt (nI C) (nI R) Fs Ft) {c ln tk w m : Nat} {s : BSt} (hG : OffG C R tt (c + 1) m s) (hm : m + R ≤ 40) (hc : c < C) (hw : w < 64) (ho : ∀ r, r < R → w.testBit r = true → tt c r = 0) (hl : 1 ≤ ln ∧ ln ≤ 3) (htk : 1 ≤ tk ∧ tk ≤ 9) {aL : Int32} {a1 a2 a3 a4 a5 a6 : Nat → Int32} {ly : Nat → Int64} (hS : ClsS C R s aL a1 a2 a3 a4 a5 a6 ly) {post : Int32 → (Nat → Int32) → (Nat → Int32) → (Nat → Int32) → (Nat → Int32) → (Nat → Int32) → (Nat → Int32) → (Nat → Int64) → Prop} (h : ∀ bL b1 b2 b3 b4 b5 b6 ly', ClsS C R (layW tt c ln tk w R s) bL b1 b2 b3 b4 b5 b6 ly' → post bL b1 b2 b3 b4 b5 b6 ly') : wp_X1_addAll (nI R) Ft aL a1 a2 a3 a4 a5 a6 ly (nI c) (nI w) (nI ln) (nI tk) post := by
  have hR6 : R ≤ 6 := hRo.2.2.2.1
  unfold wp_X1_addAll
  refine zu9_1 R (by omega) (fun r bL b1 b2 b3 b4 b5 b6 ly' => ClsS C R (layW tt c ln tk w r s) bL b1 b2 b3 b4 b5 b6 ly') 0 rfl (by omega) hS (fun r bL b1 b2 b3 b4 b5 b6 ly' rec hr hJ hrec => ?_)
  unfold bd_X1_addAll_3
  refine br_le (by omega) (by omega) (fun q => ?_) (fun q => sp_isIn (by omega) ?_)
  · have hr1 : r = R := by omega
    subst hr1
    exact h _ _ _ _ _ _ _ _ hJ
  · rw [lb_lN64 w hw r (by omega), nI_1]
    have hg := layW_good hG hm hc ho hl htk r (by omega)
    cases hb : w.testBit r with
    | false =>
      refine f01 (hrec _ _ _ _ _ _ _ _ q ?_)
      rw [layW, if_neg (by rw [hb]; decide)]
      exact hJ
    | true =>
      have ht := ho r q hb
      have hA : CoatA C R (layW tt c ln tk w r s).1 (layW tt c ln tk w r s).2.1 (layW tt c ln tk w r s).2.2.1 (layW tt c ln tk w r s).2.2.2.1 (layW tt c ln tk w r s).2.2.2.2.1 (layW tt c ln tk w r s).2.2.2.2.2.1 (layW tt c ln tk w r s).2.2.2.2.2.2 bL b1 b2 b3 b4 b5 b6 ly' := hJ
      obtain rfl := hA.1.1
      have hn := hg.2.1
      refine t01 (sp_add (st := 0) hRo hA (by omega) hc q ht hl htk (fun low aLeft' a' hlow hA' => ?_))
      have el : low = lowF tt c r ln := hlow.uniq (lowF_ok ht hl)
      subst el
      refine hrec _ _ _ _ _ _ _ _ q ?_
      rw [layW, if_pos hb]
      exact hA'
