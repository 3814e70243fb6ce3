section C22
variable {cy : Nat → ClassId} {ax : Nat → Nat} {hp0 : Hp} {l : Launch} {D : va_G} {base : Nat}
theorem r6 {r : Nat} (h : r < 6) : (0 : Int32) ≤ nI r ∧ nI r < 6 := by
  have e : (6 : Int32) = nI 6 := by decide +kernel
  have e0 : (0 : Int32) = nI 0 := by decide +kernel
  rw [e, e0]
  exact ⟨(nI_leI (by decide) (by omega)).mpr (by omega), (nI_ltI (by omega) (by decide)).mpr h⟩
set_option maxHeartbeats 4000000 in
theorem C_drop1 (hl : l.stackTraces = false) (d : Nat) (s : CSt) (r : Int32) (h : ¬ (0 ≤ r ∧ r < 6)) : MtW (IC cy ax hp0) l D cy base mX8_drop (d + 9) 1 6 [.ref (ax 0), .int r] s (fun o s2 => o = .inr yCls ∧ s2 = s) := by
  refine MtW.of hl mfX8_drop rfl (Nat.le_of_ble_eq_true rfl) ?_
  refine EW.iload_n dX8_drop_0 rfl rfl ?_
  refine EW.callS (bc := 1) (bs := 6) (mc' := 0) (ms' := 0) (C_isRule hl _ 0 s _) mfX8_isRule rfl l_X8_88 mvX8_isRule (by omega) dX8_drop_1 rfl rfl (Nat.le_of_ble_eq_true rfl) (fun v1 s1 q1 => ?_) (fun _ _ q => nomatch q.1)
  obtain ⟨e1, h1⟩ := q1; cases e1; replace h1 := h1.symm; subst h1
  refine EW.top (y := nI 0) ((if_neg h).trans (by decide +kernel)) ?_
  refine EW.if_ne 17 dX8_drop_4 (by decide) (fun c4 => ?_) (fun c4 => ?_)
  · exact absurd c4 (by decide +kernel)
  · exact EW.throwY (bc := 0) (bs := 0) ty_94 rfl dX8_drop_7 dX8_drop_10 dX8_drop_11 dX8_drop_13 dX8_drop_16 (by omega) (Nat.le_of_ble_eq_true rfl) ⟨rfl, rfl⟩
set_option maxHeartbeats 4000000 in
theorem C_drop2 (hl : l.stackTraces = false) (d : Nat) (s : CSt) (r : Nat) (hr : r < 6) (hx : s.2.2.2.1 r = none) : MtW (IC cy ax hp0) l D cy base mX8_drop (d + 9) 0 0 [.ref (ax 0), .int (nI r)] s (fun o s2 => o = .inl (some (.int (nI 0))) ∧ s2 = s) := by
  refine MtW.of hl mfX8_drop rfl (Nat.le_of_ble_eq_true rfl) ?_
  refine EW.iload_n dX8_drop_0 rfl rfl ?_
  refine EW.callS (bc := 0) (bs := 0) (mc' := 0) (ms' := 0) (C_isRule hl _ 0 s _) mfX8_isRule rfl l_X8_88 mvX8_isRule (by omega) dX8_drop_1 rfl rfl (Nat.le_of_ble_eq_true rfl) (fun v1 s1 q1 => ?_) (fun _ _ q => nomatch q.1)
  obtain ⟨e1, h1⟩ := q1; cases e1; replace h1 := h1.symm; subst h1
  refine EW.top (y := nI 1) ((if_pos (r6 hr)).trans (by decide +kernel)) ?_
  refine EW.if_ne 17 dX8_drop_4 (by decide) (fun c4 => ?_) (fun c4 => ?_)
  · refine EW.aload_n dX8_drop_17 rfl rfl ?_
    refine EC.get (k := 0) f_X8_33 dX8_drop_18 (by decide) rfl rfl ?_
    refine EW.iload_n dX8_drop_21 rfl rfl ?_
    refine EC.callV (bc := 0) (bs := 0) (mc' := 0) (ms' := 0) (k := 6) (C_expressionOf hl 0 r s hr) mfX2_expressionOf l_X8_99 mvX2_expressionOf (by omega) dX8_drop_22 rfl rfl (by decide) rfl rfl rfl (Nat.le_of_ble_eq_true rfl) (fun v22 s22 q22 => ?_) (fun _ _ q => nomatch q.1)
    obtain ⟨e22, h22⟩ := q22; cases e22; replace h22 := h22.symm; subst h22
    refine EW.rn hx ?_
    refine EW.ifnonnull (r := none) 30 dX8_drop_25 (by decide) (fun _ h => nomatch h) (fun _ => ?_)
    refine EW.ic 0 dX8_drop_28 ?_
    refine EW.zret (ty := .boolean) rfl (by decide +kernel) dX8_drop_29 ?_
    exact ⟨rfl, rfl⟩
  · exact absurd c4 (by decide +kernel)
set_option maxHeartbeats 4000000 in
theorem C_drop3 (hl : l.stackTraces = false) (d : Nat) (s : CSt) (r x : Nat) (hr : r < 6) (hx : s.2.2.2.1 r = some x) (v : Int32) (s1 : CSt) (hE : MtW (IC cy ax hp0) l D cy base mX2_examine (0 + 5) 0 0 [.ref (ax 6)] (s.1, s.2.1, s.2.2.1, va_up s.2.2.2.1 r none, s.2.2.2.2) (fun o s2 => o = .inl (some (.int v)) ∧ s2 = s1)) : MtW (IC cy ax hp0) l D cy base mX8_drop (d + 9) 0 0 [.ref (ax 0), .int (nI r)] s (fun o s2 => ∃ f, o = .inl (some (.int (nI 1))) ∧ s2 = (va_up s1.1 4 v, va_up s1.2.1 9 f, s1.2.2) ∧ ∀ j, j < 126 → f j = -2) := by
  refine MtW.of hl mfX8_drop rfl (Nat.le_of_ble_eq_true rfl) ?_
  refine EW.iload_n dX8_drop_0 rfl rfl ?_
  refine EW.callS (bc := 0) (bs := 0) (mc' := 0) (ms' := 0) (C_isRule hl _ 0 s _) mfX8_isRule rfl l_X8_88 mvX8_isRule (by omega) dX8_drop_1 rfl rfl (Nat.le_of_ble_eq_true rfl) (fun v1 s1 q1 => ?_) (fun _ _ q => nomatch q.1)
  obtain ⟨e1, h1⟩ := q1; cases e1; replace h1 := h1.symm; subst h1
  refine EW.top (y := nI 1) ((if_pos (r6 hr)).trans (by decide +kernel)) ?_
  refine EW.if_ne 17 dX8_drop_4 (by decide) (fun c4 => ?_) (fun c4 => ?_)
  · refine EW.aload_n dX8_drop_17 rfl rfl ?_
    refine EC.get (k := 0) f_X8_33 dX8_drop_18 (by decide) rfl rfl ?_
    refine EW.iload_n dX8_drop_21 rfl rfl ?_
    refine EC.callV (bc := 0) (bs := 0) (mc' := 0) (ms' := 0) (k := 6) (C_expressionOf hl 0 r s hr) mfX2_expressionOf l_X8_99 mvX2_expressionOf (by omega) dX8_drop_22 rfl rfl (by decide) rfl rfl rfl (Nat.le_of_ble_eq_true rfl) (fun v22 s22 q22 => ?_) (fun _ _ q => nomatch q.1)
    obtain ⟨e22, h22⟩ := q22; cases e22; replace h22 := h22.symm; subst h22
    rw [hx]
    refine EW.ifnonnull (r := some x) 30 dX8_drop_25 (by decide) (fun _ _ => ?_) (fun h => nomatch h)
    refine EW.aload_n dX8_drop_30 rfl rfl ?_
    refine EC.get (k := 0) f_X8_33 dX8_drop_31 (by decide) rfl rfl ?_
    refine EW.iload_n dX8_drop_34 rfl rfl ?_
    refine EW.null dX8_drop_35 ?_
    refine EC.callV (bc := 0) (bs := 0) (mc' := 0) (ms' := 0) (k := 6) (C_putN hl 0 r s hr v s1 hE) mfX2_put l_X8_81 mvX2_put (by omega) dX8_drop_36 rfl rfl (by decide) rfl rfl rfl (Nat.le_of_ble_eq_true rfl) (fun v36 s36 q36 => ?_) (fun _ _ q => nomatch q.1)
    obtain ⟨e36, h36⟩ := q36; cases e36; replace h36 := h36.symm; subst h36
    refine EW.aload_n dX8_drop_39 rfl rfl ?_
    refine EC.get (k := 0) f_X8_40 dX8_drop_40 (by decide) rfl rfl ?_
    refine EC.callV (bc := 0) (bs := 0) (mc' := 0) (ms' := 0) (k := 8) (C_forget hl 0 (va_up s1.1 4 v, s1.2)) mfX4_forget l_X8_85 mvX4_forget (by omega) dX8_drop_43 rfl rfl (by decide) rfl rfl rfl (Nat.le_of_ble_eq_true rfl) (fun v43 s43 q43 => ?_) (fun _ _ q => by obtain ⟨f, e, _⟩ := q; cases e)
    obtain ⟨f, e43, h43, hf⟩ := q43; cases e43; replace h43 := h43.symm; subst h43
    refine EW.ic 1 dX8_drop_46 ?_
    refine EW.zret (ty := .boolean) rfl (by decide +kernel) dX8_drop_47 ?_
    exact ⟨f, rfl, rfl, hf⟩
  · exact absurd c4 (by decide +kernel)
set_option maxHeartbeats 4000000 in
theorem C_outs0 (hl : l.stackTraces = false) (d : Nat) (s : CSt) (r : Int32) (h : ¬ (0 ≤ r ∧ r < 6)) : MtW (IC cy ax hp0) l D cy base mX8_outcomes (d + 9) 1 6 [.ref (ax 0), .int r] s (fun o s2 => o = .inr yCls ∧ s2 = s) := by
  refine MtW.of hl mfX8_outcomes rfl (Nat.le_of_ble_eq_true rfl) ?_
  refine EW.aload_n dX8_outcomes_0 rfl rfl ?_
  refine EC.get (k := 0) f_X8_33 dX8_outcomes_1 (by decide) rfl rfl ?_
  refine EW.iload_n dX8_outcomes_4 rfl rfl ?_
  refine EC.callV (bc := 1) (bs := 6) (mc' := 0) (ms' := 0) (k := 6) (C_expressionOfN hl 0 r s h) mfX2_expressionOf l_X8_99 mvX2_expressionOf (by omega) dX8_outcomes_5 rfl rfl (by decide) rfl rfl rfl (Nat.le_of_ble_eq_true rfl) (fun v5 s5 q5 => ?_) (fun _ _ q => nomatch q.1)
  obtain ⟨e5, h5⟩ := q5; cases e5; replace h5 := h5.symm; subst h5
  refine EW.astoreq_n dX8_outcomes_8 rfl (by decide) ?_
  refine EW.aloadq_n dX8_outcomes_9 rfl rfl ?_
  refine EW.ifnonnull (r := none) 23 dX8_outcomes_10 (by decide) (fun _ h => nomatch h) (fun _ => ?_)
  exact EW.throwY (bc := 0) (bs := 0) ty_119 rfl dX8_outcomes_13 dX8_outcomes_16 dX8_outcomes_17 dX8_outcomes_19 dX8_outcomes_22 (by omega) (Nat.le_of_ble_eq_true rfl) ⟨rfl, rfl⟩
set_option maxHeartbeats 4000000 in
theorem C_outs1 (hl : l.stackTraces = false) (d : Nat) (s : CSt) (r : Nat) (hr : r < 6) (hx : s.2.2.2.1 r = none) : MtW (IC cy ax hp0) l D cy base mX8_outcomes (d + 9) 1 6 [.ref (ax 0), .int (nI r)] s (fun o s2 => o = .inr yCls ∧ s2 = s) := by
  refine MtW.of hl mfX8_outcomes rfl (Nat.le_of_ble_eq_true rfl) ?_
  refine EW.aload_n dX8_outcomes_0 rfl rfl ?_
  refine EC.get (k := 0) f_X8_33 dX8_outcomes_1 (by decide) rfl rfl ?_
  refine EW.iload_n dX8_outcomes_4 rfl rfl ?_
  refine EC.callV (bc := 1) (bs := 6) (mc' := 0) (ms' := 0) (k := 6) (C_expressionOf hl 0 r s hr) mfX2_expressionOf l_X8_99 mvX2_expressionOf (by omega) dX8_outcomes_5 rfl rfl (by decide) rfl rfl rfl (Nat.le_of_ble_eq_true rfl) (fun v5 s5 q5 => ?_) (fun _ _ q => nomatch q.1)
  obtain ⟨e5, h5⟩ := q5; cases e5; replace h5 := h5.symm; subst h5
  refine EW.rn hx ?_
  refine EW.astoreq_n dX8_outcomes_8 rfl (by decide) ?_
  refine EW.aloadq_n dX8_outcomes_9 rfl rfl ?_
  refine EW.ifnonnull (r := none) 23 dX8_outcomes_10 (by decide) (fun _ h => nomatch h) (fun _ => ?_)
  exact EW.throwY (bc := 0) (bs := 0) ty_119 rfl dX8_outcomes_13 dX8_outcomes_16 dX8_outcomes_17 dX8_outcomes_19 dX8_outcomes_22 (by omega) (Nat.le_of_ble_eq_true rfl) ⟨rfl, rfl⟩
set_option maxHeartbeats 4000000 in
theorem C_outs2 (hl : l.stackTraces = false) (d : Nat) (s : CSt) (r x : Nat) (hr : r < 6) (hx : s.2.2.2.1 r = some x) (v : Nat) (hv : s.1 4 = nI v) (hv9 : v < 1000) (h2 : v % 10 = 2) : MtW (IC cy ax hp0) l D cy base mX8_outcomes (d + 9) 1 6 [.ref (ax 0), .int (nI r)] s (fun o s2 => o = .inr "java/lang/IllegalStateException" ∧ s2 = s) := by
  refine MtW.of hl mfX8_outcomes rfl (Nat.le_of_ble_eq_true rfl) ?_
  refine EW.aload_n dX8_outcomes_0 rfl rfl ?_
  refine EC.get (k := 0) f_X8_33 dX8_outcomes_1 (by decide) rfl rfl ?_
  refine EW.iload_n dX8_outcomes_4 rfl rfl ?_
  refine EC.callV (bc := 1) (bs := 6) (mc' := 0) (ms' := 0) (k := 6) (C_expressionOf hl 0 r s hr) mfX2_expressionOf l_X8_99 mvX2_expressionOf (by omega) dX8_outcomes_5 rfl rfl (by decide) rfl rfl rfl (Nat.le_of_ble_eq_true rfl) (fun v5 s5 q5 => ?_) (fun _ _ q => nomatch q.1)
  obtain ⟨e5, h5⟩ := q5; cases e5; replace h5 := h5.symm; subst h5
  rw [hx]
  refine EW.astore_n dX8_outcomes_8 rfl (by decide) ?_
  refine EW.aload_n dX8_outcomes_9 rfl rfl ?_
  refine EW.ifnonnull (r := some x) 23 dX8_outcomes_10 (by decide) (fun _ _ => ?_) (fun h => nomatch h)
  refine EW.aload_n dX8_outcomes_23 rfl rfl ?_
  refine EC.get (k := 0) f_X8_33 dX8_outcomes_24 (by decide) rfl rfl ?_
  refine EC.callV (bc := 1) (bs := 6) (mc' := 0) (ms' := 0) (k := 6) (C_misses hl 0 v s hv hv9) mfX2_misses l_X8_121 mvX2_misses (by omega) dX8_outcomes_27 rfl rfl (by decide) rfl rfl rfl (Nat.le_of_ble_eq_true rfl) (fun v27 s27 q27 => ?_) (fun _ _ q => nomatch q.1)
  obtain ⟨e27, h27⟩ := q27; cases e27; replace h27 := h27.symm; subst h27
  refine EW.top (y := nI 1) (if_pos h2) ?_
  refine EW.if_eq 43 dX8_outcomes_30 (by decide) (fun c30 => ?_) (fun c30 => ?_)
  · exact absurd c30 (by decide +kernel)
  · exact EW.throwS (bc := 0) (bs := 0) ts_X8_125 rfl dX8_outcomes_33 dX8_outcomes_36 dX8_outcomes_37 dX8_outcomes_39 dX8_outcomes_42 (by omega) (Nat.le_of_ble_eq_true rfl) ⟨rfl, rfl⟩
set_option maxHeartbeats 4000000 in
theorem C_outs3 (hl : l.stackTraces = false) (d : Nat) (s : CSt) (r x : Nat) (hr : r < 6) (hx : s.2.2.2.1 r = some x) (v : Nat) (hv : s.1 4 = nI v) (hv9 : v < 1000) (h2 : ¬ v % 10 = 2) (e9 : Option Nat × Option Nat) (he : s.2.2.2.2.2 x = some e9) (q : Nat) (hq : e9.2 = some q) (n : ND) (hn : s.2.2.2.2.1 q = some n) : MtW (IC cy ax hp0) l D cy base mX8_outcomes (d + 9) 0 0 [.ref (ax 0), .int (nI r)] s (fun o s2 => o = .inl (some (.int n.2.2.2.2.2.2.1)) ∧ s2 = s) := by
  refine MtW.of hl mfX8_outcomes rfl (Nat.le_of_ble_eq_true rfl) ?_
  refine EW.aload_n dX8_outcomes_0 rfl rfl ?_
  refine EC.get (k := 0) f_X8_33 dX8_outcomes_1 (by decide) rfl rfl ?_
  refine EW.iload_n dX8_outcomes_4 rfl rfl ?_
  refine EC.callV (bc := 0) (bs := 0) (mc' := 0) (ms' := 0) (k := 6) (C_expressionOf hl 0 r s hr) mfX2_expressionOf l_X8_99 mvX2_expressionOf (by omega) dX8_outcomes_5 rfl rfl (by decide) rfl rfl rfl (Nat.le_of_ble_eq_true rfl) (fun v5 s5 q5 => ?_) (fun _ _ q => nomatch q.1)
  obtain ⟨e5, h5⟩ := q5; cases e5; replace h5 := h5.symm; subst h5
  rw [hx]
  refine EW.astore_n dX8_outcomes_8 rfl (by decide) ?_
  refine EW.aload_n dX8_outcomes_9 rfl rfl ?_
  refine EW.ifnonnull (r := some x) 23 dX8_outcomes_10 (by decide) (fun _ _ => ?_) (fun h => nomatch h)
  refine EW.aload_n dX8_outcomes_23 rfl rfl ?_
  refine EC.get (k := 0) f_X8_33 dX8_outcomes_24 (by decide) rfl rfl ?_
  refine EC.callV (bc := 0) (bs := 0) (mc' := 0) (ms' := 0) (k := 6) (C_misses hl 0 v s hv hv9) mfX2_misses l_X8_121 mvX2_misses (by omega) dX8_outcomes_27 rfl rfl (by decide) rfl rfl rfl (Nat.le_of_ble_eq_true rfl) (fun v27 s27 q27 => ?_) (fun _ _ q => nomatch q.1)
  obtain ⟨e27, h27⟩ := q27; cases e27; replace h27 := h27.symm; subst h27
  refine EW.top (y := nI 0) (if_neg h2) ?_
  refine EW.if_eq 43 dX8_outcomes_30 (by decide) (fun c30 => ?_) (fun c30 => ?_)
  · refine EW.aload_n dX8_outcomes_43 rfl rfl ?_
    refine EC.callE (bc := 0) (bs := 0) (mc' := 0) (ms' := 0) (C_outcomesOfRoot hl 0 s x q e9 he hq n hn) mfX1_outcomesOfRoot l_X8_127 mvX1_outcomesOfRoot (by omega) dX8_outcomes_44 rfl rfl he rfl rfl (Nat.le_of_ble_eq_true rfl) (fun v44 s44 q44 => ?_) (fun _ _ q => nomatch q.1)
    obtain ⟨e44, h44⟩ := q44; cases e44; replace h44 := h44.symm; subst h44
    refine EW.iret rfl dX8_outcomes_47 ?_
    exact ⟨rfl, rfl⟩
  · exact absurd c30 (by decide +kernel)
set_option maxHeartbeats 4000000 in
theorem C_mat0 (hl : l.stackTraces = false) (d : Nat) (s : CSt) (r p : Int32) (h : ¬ (0 ≤ r ∧ r < 6)) : MtW (IC cy ax hp0) l D cy base mX8_match (d + 9) 1 6 [.ref (ax 0), .int r, .int p] s (fun o s2 => o = .inr yCls ∧ s2 = (szP (nI 0) s)) := by
  refine MtW.of hl mfX8_match rfl (Nat.le_of_ble_eq_true rfl) ?_
  refine EW.aload_n dX8_match_0 rfl rfl ?_
  refine EC.get (k := 0) f_X8_56 dX8_match_1 (by decide) rfl rfl ?_
  refine EC.callV (bc := 1) (bs := 6) (mc' := 0) (ms' := 0) (k := 13) (C_fell hl 0 s) mfX7_fell l_X8_135 mvX7_fell (by omega) dX8_match_4 rfl rfl (by decide) rfl rfl rfl (Nat.le_of_ble_eq_true rfl) (fun v4 s4 q4 => ?_) (fun _ _ q => nomatch q.1)
  obtain ⟨e4, h4⟩ := q4; cases e4; replace h4 := h4.symm; subst h4
  refine EW.aload_n dX8_match_7 rfl rfl ?_
  refine EC.get (k := 0) f_X8_33 dX8_match_8 (by decide) rfl rfl ?_
  refine EW.iload_n dX8_match_11 rfl rfl ?_
  refine EC.callV (bc := 1) (bs := 6) (mc' := 0) (ms' := 0) (k := 6) (C_expressionOfN hl 0 r (szP (nI 0) s) h) mfX2_expressionOf l_X8_99 mvX2_expressionOf (by omega) dX8_match_12 rfl rfl (by decide) rfl rfl rfl (Nat.le_of_ble_eq_true rfl) (fun v12 s12 q12 => ?_) (fun _ _ q => nomatch q.1)
  obtain ⟨e12, h12⟩ := q12; cases e12; replace h12 := h12.symm; subst h12
  refine EW.ifnonnull (r := none) 28 dX8_match_15 (by decide) (fun _ h => nomatch h) (fun _ => ?_)
  exact EW.throwY (bc := 0) (bs := 0) ty_119 rfl dX8_match_18 dX8_match_21 dX8_match_22 dX8_match_24 dX8_match_27 (by omega) (Nat.le_of_ble_eq_true rfl) ⟨rfl, rfl⟩
set_option maxHeartbeats 4000000 in
theorem C_mat1 (hl : l.stackTraces = false) (d : Nat) (s : CSt) (r : Nat) (p : Int32) (hr : r < 6) (hx : s.2.2.2.1 r = none) : MtW (IC cy ax hp0) l D cy base mX8_match (d + 9) 1 6 [.ref (ax 0), .int (nI r), .int p] s (fun o s2 => o = .inr yCls ∧ s2 = (szP (nI 0) s)) := by
  refine MtW.of hl mfX8_match rfl (Nat.le_of_ble_eq_true rfl) ?_
  refine EW.aload_n dX8_match_0 rfl rfl ?_
  refine EC.get (k := 0) f_X8_56 dX8_match_1 (by decide) rfl rfl ?_
  refine EC.callV (bc := 1) (bs := 6) (mc' := 0) (ms' := 0) (k := 13) (C_fell hl 0 s) mfX7_fell l_X8_135 mvX7_fell (by omega) dX8_match_4 rfl rfl (by decide) rfl rfl rfl (Nat.le_of_ble_eq_true rfl) (fun v4 s4 q4 => ?_) (fun _ _ q => nomatch q.1)
  obtain ⟨e4, h4⟩ := q4; cases e4; replace h4 := h4.symm; subst h4
  refine EW.aload_n dX8_match_7 rfl rfl ?_
  refine EC.get (k := 0) f_X8_33 dX8_match_8 (by decide) rfl rfl ?_
  refine EW.iload_n dX8_match_11 rfl rfl ?_
  refine EC.callV (bc := 1) (bs := 6) (mc' := 0) (ms' := 0) (k := 6) (C_expressionOf hl 0 r (szP (nI 0) s) hr) mfX2_expressionOf l_X8_99 mvX2_expressionOf (by omega) dX8_match_12 rfl rfl (by decide) rfl rfl rfl (Nat.le_of_ble_eq_true rfl) (fun v12 s12 q12 => ?_) (fun _ _ q => nomatch q.1)
  obtain ⟨e12, h12⟩ := q12; cases e12; replace h12 := h12.symm; subst h12
  refine EW.rn hx ?_
  refine EW.ifnonnull (r := none) 28 dX8_match_15 (by decide) (fun _ h => nomatch h) (fun _ => ?_)
  exact EW.throwY (bc := 0) (bs := 0) ty_119 rfl dX8_match_18 dX8_match_21 dX8_match_22 dX8_match_24 dX8_match_27 (by omega) (Nat.le_of_ble_eq_true rfl) ⟨rfl, rfl⟩
set_option maxHeartbeats 4000000 in
theorem C_mat2 (hl : l.stackTraces = false) (d : Nat) (s : CSt) (r x : Nat) (hr : r < 6) (hx : s.2.2.2.1 r = some x) (p : Int32) (hp : ¬ (0 ≤ p ∧ p ≤ s.1 1)) : MtW (IC cy ax hp0) l D cy base mX8_match (d + 9) 1 6 [.ref (ax 0), .int (nI r), .int p] s (fun o s2 => o = .inr "java/lang/IllegalArgumentException" ∧ s2 = (szP (nI 0) s)) := by
  refine MtW.of hl mfX8_match rfl (Nat.le_of_ble_eq_true rfl) ?_
  refine EW.aload_n dX8_match_0 rfl rfl ?_
  refine EC.get (k := 0) f_X8_56 dX8_match_1 (by decide) rfl rfl ?_
  refine EC.callV (bc := 1) (bs := 6) (mc' := 0) (ms' := 0) (k := 13) (C_fell hl 0 s) mfX7_fell l_X8_135 mvX7_fell (by omega) dX8_match_4 rfl rfl (by decide) rfl rfl rfl (Nat.le_of_ble_eq_true rfl) (fun v4 s4 q4 => ?_) (fun _ _ q => nomatch q.1)
  obtain ⟨e4, h4⟩ := q4; cases e4; replace h4 := h4.symm; subst h4
  refine EW.aload_n dX8_match_7 rfl rfl ?_
  refine EC.get (k := 0) f_X8_33 dX8_match_8 (by decide) rfl rfl ?_
  refine EW.iload_n dX8_match_11 rfl rfl ?_
  refine EC.callV (bc := 1) (bs := 6) (mc' := 0) (ms' := 0) (k := 6) (C_expressionOf hl 0 r (szP (nI 0) s) hr) mfX2_expressionOf l_X8_99 mvX2_expressionOf (by omega) dX8_match_12 rfl rfl (by decide) rfl rfl rfl (Nat.le_of_ble_eq_true rfl) (fun v12 s12 q12 => ?_) (fun _ _ q => nomatch q.1)
  obtain ⟨e12, h12⟩ := q12; cases e12; replace h12 := h12.symm; subst h12
  rw [show (szP (nI 0) s).2.2.2.1 r = some x from hx]
  refine EW.ifnonnull (r := some x) 28 dX8_match_15 (by decide) (fun _ _ => ?_) (fun h => nomatch h)
  refine EW.aload_n dX8_match_28 rfl rfl ?_
  refine EW.iload_n dX8_match_29 rfl rfl ?_
  refine EC.callV (bc := 1) (bs := 6) (mc' := 0) (ms' := 0) (k := 0) (C_isPlace hl 0 (szP (nI 0) s) _) mfX8_isPlace l_X8_138 mvX8_isPlace (by omega) dX8_match_30 rfl rfl (by decide) rfl rfl rfl (Nat.le_of_ble_eq_true rfl) (fun v30 s30 q30 => ?_) (fun _ _ q => nomatch q.1)
  obtain ⟨e30, h30⟩ := q30; cases e30; replace h30 := h30.symm; subst h30
  refine EW.top (y := nI 0) ((if_neg hp).trans (by decide +kernel)) ?_
  refine EW.if_ne 46 dX8_match_33 (by decide) (fun c33 => ?_) (fun c33 => ?_)
  · exact absurd c33 (by decide +kernel)
  · exact EW.throwS (bc := 0) (bs := 0) ts_X8_141 rfl dX8_match_36 dX8_match_39 dX8_match_40 dX8_match_42 dX8_match_45 (by omega) (Nat.le_of_ble_eq_true rfl) ⟨rfl, rfl⟩
set_option maxHeartbeats 4000000 in
theorem C_mat3 (hl : l.stackTraces = false) (d : Nat) (s : CSt) (r x : Nat) (hr : r < 6) (hx : s.2.2.2.1 r = some x) (p : Int32) (hp : 0 ≤ p ∧ p ≤ s.1 1) (hv : ¬ s.1 4 = 0) : MtW (IC cy ax hp0) l D cy base mX8_match (d + 9) 1 6 [.ref (ax 0), .int (nI r), .int p] s (fun o s2 => o = .inr "java/lang/IllegalStateException" ∧ s2 = (szP (nI 0) s)) := by
  refine MtW.of hl mfX8_match rfl (Nat.le_of_ble_eq_true rfl) ?_
  refine EW.aload_n dX8_match_0 rfl rfl ?_
  refine EC.get (k := 0) f_X8_56 dX8_match_1 (by decide) rfl rfl ?_
  refine EC.callV (bc := 1) (bs := 6) (mc' := 0) (ms' := 0) (k := 13) (C_fell hl 0 s) mfX7_fell l_X8_135 mvX7_fell (by omega) dX8_match_4 rfl rfl (by decide) rfl rfl rfl (Nat.le_of_ble_eq_true rfl) (fun v4 s4 q4 => ?_) (fun _ _ q => nomatch q.1)
  obtain ⟨e4, h4⟩ := q4; cases e4; replace h4 := h4.symm; subst h4
  refine EW.aload_n dX8_match_7 rfl rfl ?_
  refine EC.get (k := 0) f_X8_33 dX8_match_8 (by decide) rfl rfl ?_
  refine EW.iload_n dX8_match_11 rfl rfl ?_
  refine EC.callV (bc := 1) (bs := 6) (mc' := 0) (ms' := 0) (k := 6) (C_expressionOf hl 0 r (szP (nI 0) s) hr) mfX2_expressionOf l_X8_99 mvX2_expressionOf (by omega) dX8_match_12 rfl rfl (by decide) rfl rfl rfl (Nat.le_of_ble_eq_true rfl) (fun v12 s12 q12 => ?_) (fun _ _ q => nomatch q.1)
  obtain ⟨e12, h12⟩ := q12; cases e12; replace h12 := h12.symm; subst h12
  rw [show (szP (nI 0) s).2.2.2.1 r = some x from hx]
  refine EW.ifnonnull (r := some x) 28 dX8_match_15 (by decide) (fun _ _ => ?_) (fun h => nomatch h)
  refine EW.aload_n dX8_match_28 rfl rfl ?_
  refine EW.iload_n dX8_match_29 rfl rfl ?_
  refine EC.callV (bc := 1) (bs := 6) (mc' := 0) (ms' := 0) (k := 0) (C_isPlace hl 0 (szP (nI 0) s) _) mfX8_isPlace l_X8_138 mvX8_isPlace (by omega) dX8_match_30 rfl rfl (by decide) rfl rfl rfl (Nat.le_of_ble_eq_true rfl) (fun v30 s30 q30 => ?_) (fun _ _ q => nomatch q.1)
  obtain ⟨e30, h30⟩ := q30; cases e30; replace h30 := h30.symm; subst h30
  refine EW.top (y := nI 1) ((if_pos hp).trans (by decide +kernel)) ?_
  refine EW.if_ne 46 dX8_match_33 (by decide) (fun c33 => ?_) (fun c33 => ?_)
  · refine EW.aload_n dX8_match_46 rfl rfl ?_
    refine EC.get (k := 0) f_X8_33 dX8_match_47 (by decide) rfl rfl ?_
    refine EC.callV (bc := 1) (bs := 6) (mc' := 0) (ms' := 0) (k := 6) (C_verdict hl 0 (szP (nI 0) s)) mfX2_verdict l_X8_132 mvX2_verdict (by omega) dX8_match_50 rfl rfl (by decide) rfl rfl rfl (Nat.le_of_ble_eq_true rfl) (fun v50 s50 q50 => ?_) (fun _ _ q => nomatch q.1)
    obtain ⟨e50, h50⟩ := q50; cases e50; replace h50 := h50.symm; subst h50
    refine EW.if_eq 66 dX8_match_53 (by decide) (fun c53 => ?_) (fun c53 => ?_)
    · exact absurd c53 hv
    · exact EW.throwS (bc := 0) (bs := 0) ts_X8_143 rfl dX8_match_56 dX8_match_59 dX8_match_60 dX8_match_62 dX8_match_65 (by omega) (Nat.le_of_ble_eq_true rfl) ⟨rfl, rfl⟩
  · exact absurd c33 (by decide +kernel)
set_option maxHeartbeats 4000000 in
theorem C_mat4 (hl : l.stackTraces = false) (dd : Nat) (hdd : 9 ≤ dd) (s : CSt) (r x : Nat) (hr : r < 6) (hx : s.2.2.2.1 r = some x) (p : Nat) (hp21 : p < 21) (hp : (0 : Int32) ≤ nI p ∧ nI p ≤ s.1 1) (hv : s.1 4 = nI 0) (s9 : CSt) (hM : MtW (IC cy ax hp0) l D cy base mX3_matchRule dd 1 6 [.ref (ax 12), .int (nI r), .int (nI p), .int (nI 1)] (szP (nI 0) s) (fun o s2 => o = .inr "java/lang/IllegalStateException" ∧ s2 = s9)) : MtW (IC cy ax hp0) l D cy base mX8_match (dd + 1) 1 6 [.ref (ax 0), .int (nI r), .int (nI p)] s (fun o s2 => o = .inr "java/lang/IllegalStateException" ∧ s2 = s9) := by
  refine MtW.of hl mfX8_match rfl (Nat.le_of_ble_eq_true rfl) ?_
  refine EW.aload_n dX8_match_0 rfl rfl ?_
  refine EC.get (k := 0) f_X8_56 dX8_match_1 (by decide) rfl rfl ?_
  refine EC.callV (bc := 1) (bs := 6) (mc' := 0) (ms' := 0) (k := 13) (C_fell hl 0 s) mfX7_fell l_X8_135 mvX7_fell (by omega) dX8_match_4 rfl rfl (by decide) rfl rfl rfl (Nat.le_of_ble_eq_true rfl) (fun v4 s4 q4 => ?_) (fun _ _ q => nomatch q.1)
  obtain ⟨e4, h4⟩ := q4; cases e4; replace h4 := h4.symm; subst h4
  refine EW.aload_n dX8_match_7 rfl rfl ?_
  refine EC.get (k := 0) f_X8_33 dX8_match_8 (by decide) rfl rfl ?_
  refine EW.iload_n dX8_match_11 rfl rfl ?_
  refine EC.callV (bc := 1) (bs := 6) (mc' := 0) (ms' := 0) (k := 6) (C_expressionOf hl 0 r (szP (nI 0) s) hr) mfX2_expressionOf l_X8_99 mvX2_expressionOf (by omega) dX8_match_12 rfl rfl (by decide) rfl rfl rfl (Nat.le_of_ble_eq_true rfl) (fun v12 s12 q12 => ?_) (fun _ _ q => nomatch q.1)
  obtain ⟨e12, h12⟩ := q12; cases e12; replace h12 := h12.symm; subst h12
  rw [show (szP (nI 0) s).2.2.2.1 r = some x from hx]
  refine EW.ifnonnull (r := some x) 28 dX8_match_15 (by decide) (fun _ _ => ?_) (fun h => nomatch h)
  refine EW.aload_n dX8_match_28 rfl rfl ?_
  refine EW.iload_n dX8_match_29 rfl rfl ?_
  refine EC.callV (bc := 1) (bs := 6) (mc' := 0) (ms' := 0) (k := 0) (C_isPlace hl 0 (szP (nI 0) s) _) mfX8_isPlace l_X8_138 mvX8_isPlace (by omega) dX8_match_30 rfl rfl (by decide) rfl rfl rfl (Nat.le_of_ble_eq_true rfl) (fun v30 s30 q30 => ?_) (fun _ _ q => nomatch q.1)
  obtain ⟨e30, h30⟩ := q30; cases e30; replace h30 := h30.symm; subst h30
  refine EW.top (y := nI 1) ((if_pos hp).trans (by decide +kernel)) ?_
  refine EW.if_ne 46 dX8_match_33 (by decide) (fun c33 => ?_) (fun c33 => ?_)
  · refine EW.aload_n dX8_match_46 rfl rfl ?_
    refine EC.get (k := 0) f_X8_33 dX8_match_47 (by decide) rfl rfl ?_
    refine EC.callV (bc := 1) (bs := 6) (mc' := 0) (ms' := 0) (k := 6) (C_verdict hl 0 (szP (nI 0) s)) mfX2_verdict l_X8_132 mvX2_verdict (by omega) dX8_match_50 rfl rfl (by decide) rfl rfl rfl (Nat.le_of_ble_eq_true rfl) (fun v50 s50 q50 => ?_) (fun _ _ q => nomatch q.1)
    obtain ⟨e50, h50⟩ := q50; cases e50; replace h50 := h50.symm; subst h50
    refine EW.top (y := nI 0) hv ?_
    refine EW.if_eq 66 dX8_match_53 (by decide) (fun c53 => ?_) (fun c53 => ?_)
    · refine EW.aload_n dX8_match_66 rfl rfl ?_
      refine EC.get (k := 0) f_X8_49 dX8_match_67 (by decide) rfl rfl ?_
      refine EW.iload_n dX8_match_70 rfl rfl ?_
      refine EW.iload_n dX8_match_71 rfl rfl ?_
      refine EW.ic 1 dX8_match_72 ?_
      refine EC.callV (bc := 0) (bs := 0) (mc' := 1) (ms' := 6) (k := 12) hM mfX3_matchRule l_X8_145 mvX3_matchRule (by omega) dX8_match_73 rfl rfl (by decide) rfl rfl rfl (Nat.le_of_ble_eq_true rfl) (fun v s' q => nomatch q.1) (fun X s' q => ?_)
      obtain ⟨e1, e2⟩ := q
      cases e1
      subst e2
      exact EWX.out rfl ⟨rfl, rfl⟩
    · exact absurd c53 (by decide +kernel)
  · exact absurd c33 (by decide +kernel)
set_option maxHeartbeats 4000000 in
theorem C_mat5 (hl : l.stackTraces = false) (dd : Nat) (hdd : 9 ≤ dd) (s : CSt) (r x : Nat) (hr : r < 6) (hx : s.2.2.2.1 r = some x) (p : Nat) (hp21 : p < 21) (hp : (0 : Int32) ≤ nI p ∧ nI p ≤ s.1 1) (hv : s.1 4 = nI 0) (s9 : CSt) (hM : MtW (IC cy ax hp0) l D cy base mX3_matchRule dd 0 0 [.ref (ax 12), .int (nI r), .int (nI p), .int (nI 1)] (szP (nI 0) s) (fun o s2 => o = .inl (some (.int (-1))) ∧ s2 = s9)) : MtW (IC cy ax hp0) l D cy base mX8_match (dd + 1) 0 0 [.ref (ax 0), .int (nI r), .int (nI p)] s (fun o s2 => o = .inl (some (.int (-1))) ∧ s2 = s9) := by
  refine MtW.of hl mfX8_match rfl (Nat.le_of_ble_eq_true rfl) ?_
  refine EW.aload_n dX8_match_0 rfl rfl ?_
  refine EC.get (k := 0) f_X8_56 dX8_match_1 (by decide) rfl rfl ?_
  refine EC.callV (bc := 0) (bs := 0) (mc' := 0) (ms' := 0) (k := 13) (C_fell hl 0 s) mfX7_fell l_X8_135 mvX7_fell (by omega) dX8_match_4 rfl rfl (by decide) rfl rfl rfl (Nat.le_of_ble_eq_true rfl) (fun v4 s4 q4 => ?_) (fun _ _ q => nomatch q.1)
  obtain ⟨e4, h4⟩ := q4; cases e4; replace h4 := h4.symm; subst h4
  refine EW.aload_n dX8_match_7 rfl rfl ?_
  refine EC.get (k := 0) f_X8_33 dX8_match_8 (by decide) rfl rfl ?_
  refine EW.iload_n dX8_match_11 rfl rfl ?_
  refine EC.callV (bc := 0) (bs := 0) (mc' := 0) (ms' := 0) (k := 6) (C_expressionOf hl 0 r (szP (nI 0) s) hr) mfX2_expressionOf l_X8_99 mvX2_expressionOf (by omega) dX8_match_12 rfl rfl (by decide) rfl rfl rfl (Nat.le_of_ble_eq_true rfl) (fun v12 s12 q12 => ?_) (fun _ _ q => nomatch q.1)
  obtain ⟨e12, h12⟩ := q12; cases e12; replace h12 := h12.symm; subst h12
  rw [show (szP (nI 0) s).2.2.2.1 r = some x from hx]
  refine EW.ifnonnull (r := some x) 28 dX8_match_15 (by decide) (fun _ _ => ?_) (fun h => nomatch h)
  refine EW.aload_n dX8_match_28 rfl rfl ?_
  refine EW.iload_n dX8_match_29 rfl rfl ?_
  refine EC.callV (bc := 0) (bs := 0) (mc' := 0) (ms' := 0) (k := 0) (C_isPlace hl 0 (szP (nI 0) s) _) mfX8_isPlace l_X8_138 mvX8_isPlace (by omega) dX8_match_30 rfl rfl (by decide) rfl rfl rfl (Nat.le_of_ble_eq_true rfl) (fun v30 s30 q30 => ?_) (fun _ _ q => nomatch q.1)
  obtain ⟨e30, h30⟩ := q30; cases e30; replace h30 := h30.symm; subst h30
  refine EW.top (y := nI 1) ((if_pos hp).trans (by decide +kernel)) ?_
  refine EW.if_ne 46 dX8_match_33 (by decide) (fun c33 => ?_) (fun c33 => ?_)
  · refine EW.aload_n dX8_match_46 rfl rfl ?_
    refine EC.get (k := 0) f_X8_33 dX8_match_47 (by decide) rfl rfl ?_
    refine EC.callV (bc := 0) (bs := 0) (mc' := 0) (ms' := 0) (k := 6) (C_verdict hl 0 (szP (nI 0) s)) mfX2_verdict l_X8_132 mvX2_verdict (by omega) dX8_match_50 rfl rfl (by decide) rfl rfl rfl (Nat.le_of_ble_eq_true rfl) (fun v50 s50 q50 => ?_) (fun _ _ q => nomatch q.1)
    obtain ⟨e50, h50⟩ := q50; cases e50; replace h50 := h50.symm; subst h50
    refine EW.top (y := nI 0) hv ?_
    refine EW.if_eq 66 dX8_match_53 (by decide) (fun c53 => ?_) (fun c53 => ?_)
    · refine EW.aload_n dX8_match_66 rfl rfl ?_
      refine EC.get (k := 0) f_X8_49 dX8_match_67 (by decide) rfl rfl ?_
      refine EW.iload_n dX8_match_70 rfl rfl ?_
      refine EW.iload_n dX8_match_71 rfl rfl ?_
      refine EW.ic 1 dX8_match_72 ?_
      refine EC.callV (bc := 0) (bs := 0) (mc' := 0) (ms' := 0) (k := 12) (hM) mfX3_matchRule l_X8_145 mvX3_matchRule (by omega) dX8_match_73 rfl rfl (by decide) rfl rfl rfl (Nat.le_of_ble_eq_true rfl) (fun v73 s73 q73 => ?_) (fun _ _ q => nomatch q.1)
      obtain ⟨e73, h73⟩ := q73; cases e73; replace h73 := h73.symm; subst h73
      refine EW.istore_n dX8_match_76 rfl (by decide) ?_
      refine EW.iload_n dX8_match_77 rfl rfl ?_
      refine EW.iconst (v := -1) dX8_match_78 (by decide +kernel) ?_
      refine EW.icmp_eq 98 dX8_match_79 (by decide) (fun c79 => ?_) (fun c79 => ?_)
      · refine EW.iload_n dX8_match_98 rfl rfl ?_
        refine EW.iret rfl dX8_match_99 ?_
        exact ⟨rfl, rfl⟩
      · exact absurd rfl c79
    · exact absurd c53 (by decide +kernel)
  · exact absurd c33 (by decide +kernel)
set_option maxHeartbeats 4000000 in
theorem C_mat6 (hl : l.stackTraces = false) (dd : Nat) (hdd : 9 ≤ dd) (s : CSt) (r x : Nat) (hr : r < 6) (hx : s.2.2.2.1 r = some x) (p : Nat) (hp21 : p < 21) (hp : (0 : Int32) ≤ nI p ∧ nI p ≤ s.1 1) (hv : s.1 4 = nI 0) (s9 : CSt) (q : Nat) (hq : q ≤ 20) (hM : MtW (IC cy ax hp0) l D cy base mX3_matchRule dd 0 0 [.ref (ax 12), .int (nI r), .int (nI p), .int (nI 1)] (szP (nI 0) s) (fun o s2 => o = .inl (some (.int (nI q))) ∧ s2 = s9)) (P : CSt → Prop) (hG : MtW (IC cy ax hp0) l D cy base mX7_grow dd 0 0 [.ref (ax 13), .ref (ax 8), .int (nI (r * 21 + p))] s9 (fun o s2 => o = .inl none ∧ P s2)) : MtW (IC cy ax hp0) l D cy base mX8_match (dd + 1) 0 0 [.ref (ax 0), .int (nI r), .int (nI p)] s (fun o s2 => o = .inl (some (.int (nI q))) ∧ P s2) := by
  refine MtW.of hl mfX8_match rfl (Nat.le_of_ble_eq_true rfl) ?_
  refine EW.aload_n dX8_match_0 rfl rfl ?_
  refine EC.get (k := 0) f_X8_56 dX8_match_1 (by decide) rfl rfl ?_
  refine EC.callV (bc := 0) (bs := 0) (mc' := 0) (ms' := 0) (k := 13) (C_fell hl 0 s) mfX7_fell l_X8_135 mvX7_fell (by omega) dX8_match_4 rfl rfl (by decide) rfl rfl rfl (Nat.le_of_ble_eq_true rfl) (fun v4 s4 q4 => ?_) (fun _ _ q => nomatch q.1)
  obtain ⟨e4, h4⟩ := q4; cases e4; replace h4 := h4.symm; subst h4
  refine EW.aload_n dX8_match_7 rfl rfl ?_
  refine EC.get (k := 0) f_X8_33 dX8_match_8 (by decide) rfl rfl ?_
  refine EW.iload_n dX8_match_11 rfl rfl ?_
  refine EC.callV (bc := 0) (bs := 0) (mc' := 0) (ms' := 0) (k := 6) (C_expressionOf hl 0 r (szP (nI 0) s) hr) mfX2_expressionOf l_X8_99 mvX2_expressionOf (by omega) dX8_match_12 rfl rfl (by decide) rfl rfl rfl (Nat.le_of_ble_eq_true rfl) (fun v12 s12 q12 => ?_) (fun _ _ q => nomatch q.1)
  obtain ⟨e12, h12⟩ := q12; cases e12; replace h12 := h12.symm; subst h12
  rw [show (szP (nI 0) s).2.2.2.1 r = some x from hx]
  refine EW.ifnonnull (r := some x) 28 dX8_match_15 (by decide) (fun _ _ => ?_) (fun h => nomatch h)
  refine EW.aload_n dX8_match_28 rfl rfl ?_
  refine EW.iload_n dX8_match_29 rfl rfl ?_
  refine EC.callV (bc := 0) (bs := 0) (mc' := 0) (ms' := 0) (k := 0) (C_isPlace hl 0 (szP (nI 0) s) _) mfX8_isPlace l_X8_138 mvX8_isPlace (by omega) dX8_match_30 rfl rfl (by decide) rfl rfl rfl (Nat.le_of_ble_eq_true rfl) (fun v30 s30 q30 => ?_) (fun _ _ q => nomatch q.1)
  obtain ⟨e30, h30⟩ := q30; cases e30; replace h30 := h30.symm; subst h30
  refine EW.top (y := nI 1) ((if_pos hp).trans (by decide +kernel)) ?_
  refine EW.if_ne 46 dX8_match_33 (by decide) (fun c33 => ?_) (fun c33 => ?_)
  · refine EW.aload_n dX8_match_46 rfl rfl ?_
    refine EC.get (k := 0) f_X8_33 dX8_match_47 (by decide) rfl rfl ?_
    refine EC.callV (bc := 0) (bs := 0) (mc' := 0) (ms' := 0) (k := 6) (C_verdict hl 0 (szP (nI 0) s)) mfX2_verdict l_X8_132 mvX2_verdict (by omega) dX8_match_50 rfl rfl (by decide) rfl rfl rfl (Nat.le_of_ble_eq_true rfl) (fun v50 s50 q50 => ?_) (fun _ _ q => nomatch q.1)
    obtain ⟨e50, h50⟩ := q50; cases e50; replace h50 := h50.symm; subst h50
    refine EW.top (y := nI 0) hv ?_
    refine EW.if_eq 66 dX8_match_53 (by decide) (fun c53 => ?_) (fun c53 => ?_)
    · refine EW.aload_n dX8_match_66 rfl rfl ?_
      refine EC.get (k := 0) f_X8_49 dX8_match_67 (by decide) rfl rfl ?_
      refine EW.iload_n dX8_match_70 rfl rfl ?_
      refine EW.iload_n dX8_match_71 rfl rfl ?_
      refine EW.ic 1 dX8_match_72 ?_
      refine EC.callV (bc := 0) (bs := 0) (mc' := 0) (ms' := 0) (k := 12) (hM) mfX3_matchRule l_X8_145 mvX3_matchRule (by omega) dX8_match_73 rfl rfl (by decide) rfl rfl rfl (Nat.le_of_ble_eq_true rfl) (fun v73 s73 q73 => ?_) (fun _ _ q => nomatch q.1)
      obtain ⟨e73, h73⟩ := q73; cases e73; replace h73 := h73.symm; subst h73
      refine EW.istore_n dX8_match_76 rfl (by decide) ?_
      refine EW.iload_n dX8_match_77 rfl rfl ?_
      refine EW.iconst (v := -1) dX8_match_78 (by decide +kernel) ?_
      refine EW.icmp_eq 98 dX8_match_79 (by decide) (fun c79 => ?_) (fun c79 => ?_)
      · exact absurd c79 (nI_m1 (by omega))
      · refine EW.aload_n dX8_match_82 rfl rfl ?_
        refine EC.get (k := 0) f_X8_56 dX8_match_83 (by decide) rfl rfl ?_
        refine EW.aload_n dX8_match_86 rfl rfl ?_
        refine EC.get (k := 0) f_X8_40 dX8_match_87 (by decide) rfl rfl ?_
        refine EW.iload_n dX8_match_90 rfl rfl ?_
        refine EW.iload_n dX8_match_91 rfl rfl ?_
        refine EW.callS (bc := 0) (bs := 0) (mc' := 0) (ms' := 0) (C_cellOf hl _ 0 s9 r p hr hp21) mfX4_cellOf rfl l_X8_149 mvX4_cellOf (by omega) dX8_match_92 rfl rfl (Nat.le_of_ble_eq_true rfl) (fun v92 s92 q92 => ?_) (fun _ _ q => nomatch q.1)
        obtain ⟨e92, h92⟩ := q92; cases e92; replace h92 := h92.symm; subst h92
        refine EC.callV (bc := 0) (bs := 0) (mc' := 0) (ms' := 0) (k := 13) (hG) mfX7_grow l_X8_153 mvX7_grow (by omega) dX8_match_95 rfl rfl (by decide) rfl rfl rfl (Nat.le_of_ble_eq_true rfl) (fun v95 s95 q95 => ?_) (fun _ _ q => nomatch q.1)
        obtain ⟨e95, hP⟩ := q95; cases e95
        refine EW.iload_n dX8_match_98 rfl rfl ?_
        refine EW.iret rfl dX8_match_99 ?_
        exact ⟨rfl, hP⟩
    · exact absurd c53 (by decide +kernel)
  · exact absurd c33 (by decide +kernel)
set_option maxHeartbeats 4000000 in
theorem C_full0 (hl : l.stackTraces = false) (d : Nat) (s : CSt) (n : Nat) (hn : s.1 1 = nI n) (hn9 : n ≤ 20) (h : szF s.2.2.2.1 6 0 0 = 0) : MtW (IC cy ax hp0) l D cy base mX8_full (d + 1) 0 0 [.ref (ax 0)] s (fun o s2 => o = .inl (some (.float FP.fconst0)) ∧ s2 = s) := by
  refine MtW.of hl mfX8_full rfl (Nat.le_of_ble_eq_true rfl) ?_
  have hz := szF_le (es := s.2.2.2.1) 6 0 0
  have hzn : szF s.2.2.2.1 6 0 0 * (n + 1) ≤ 6 * 21 := Nat.mul_le_mul (by omega) (by omega)
  refine EW.aload_n dX8_full_0 rfl rfl ?_
  refine EC.get (k := 0) f_X8_33 dX8_full_1 (by decide) rfl rfl ?_
  refine EC.callV (bc := 0) (bs := 0) (mc' := 0) (ms' := 0) (k := 6) (C_gsize hl 0 s) mfX2_size l_X8_175 mvX2_size (by omega) dX8_full_4 rfl rfl (by decide) rfl rfl rfl (Nat.le_of_ble_eq_true rfl) (fun v4 s4 q4 => ?_) (fun _ _ q => nomatch q.1)
  obtain ⟨e4, h4⟩ := q4; cases e4; replace h4 := h4.symm; subst h4
  refine EW.aload_n dX8_full_7 rfl rfl ?_
  refine EC.get (k := 0) f_X8_18 dX8_full_8 (by decide) rfl rfl ?_
  refine EC.callV (bc := 0) (bs := 0) (mc' := 0) (ms' := 0) (k := 3) (C_size_in hl 0 s) mfX0_size l_X8_116 mvX0_size (by omega) dX8_full_11 rfl rfl (by decide) rfl rfl rfl (Nat.le_of_ble_eq_true rfl) (fun v11 s11 q11 => ?_) (fun _ _ q => nomatch q.1)
  obtain ⟨e11, h11⟩ := q11; cases e11; replace h11 := h11.symm; subst h11
  refine EW.top hn ?_
  refine EW.ic 1 dX8_full_14 ?_
  refine EW.iadd dX8_full_15 ?_
  refine EW.top (nI_add _ _) ?_
  refine EW.imul dX8_full_16 ?_
  refine EW.top (pk_mul _ _) ?_
  refine EW.istore_n dX8_full_17 rfl (by decide) ?_
  refine EW.iload_n dX8_full_18 rfl rfl ?_
  refine EW.if_gt 24 dX8_full_19 (by decide) (fun c19 => ?_) (fun c19 => ?_)
  · have c19 : 0 < (szF s.2.2.2.1 6 0 0) * (n + 1) := (nI_gt0 (by omega)).mp c19; exact absurd c19 (by rw [h]; simp)
  · have c19 : ¬ 0 < (szF s.2.2.2.1 6 0 0) * (n + 1) := fun h => c19 ((nI_gt0 (by omega)).mpr h)
    refine EW.fconst0 dX8_full_22 ?_
    refine EW.fret rfl dX8_full_23 ?_
    exact ⟨rfl, rfl⟩
set_option maxHeartbeats 4000000 in
theorem C_full1 (hl : l.stackTraces = false) (d : Nat) (s : CSt) (n : Nat) (hn : s.1 1 = nI n) (hn9 : n ≤ 20) (h : ¬ szF s.2.2.2.1 6 0 0 = 0) (hne : vf_n32 (FP.fdiv (FP.i2f (nI (mzF (s.2.1 9) 126 0 0))) (FP.i2f (nI (szF s.2.2.2.1 6 0 0 * (n + 1)))))) : MtW (IC cy ax hp0) l D cy base mX8_full (d + 1) 0 0 [.ref (ax 0)] s (fun o s2 => o = .inl (some (.float (FP.fdiv (FP.i2f (nI (mzF (s.2.1 9) 126 0 0))) (FP.i2f (nI (szF s.2.2.2.1 6 0 0 * (n + 1))))))) ∧ s2 = s) := by
  refine MtW.of hl mfX8_full rfl (Nat.le_of_ble_eq_true rfl) ?_
  have hz := szF_le (es := s.2.2.2.1) 6 0 0
  have hzn : szF s.2.2.2.1 6 0 0 * (n + 1) ≤ 6 * 21 := Nat.mul_le_mul (by omega) (by omega)
  refine EW.aload_n dX8_full_0 rfl rfl ?_
  refine EC.get (k := 0) f_X8_33 dX8_full_1 (by decide) rfl rfl ?_
  refine EC.callV (bc := 0) (bs := 0) (mc' := 0) (ms' := 0) (k := 6) (C_gsize hl 0 s) mfX2_size l_X8_175 mvX2_size (by omega) dX8_full_4 rfl rfl (by decide) rfl rfl rfl (Nat.le_of_ble_eq_true rfl) (fun v4 s4 q4 => ?_) (fun _ _ q => nomatch q.1)
  obtain ⟨e4, h4⟩ := q4; cases e4; replace h4 := h4.symm; subst h4
  refine EW.aload_n dX8_full_7 rfl rfl ?_
  refine EC.get (k := 0) f_X8_18 dX8_full_8 (by decide) rfl rfl ?_
  refine EC.callV (bc := 0) (bs := 0) (mc' := 0) (ms' := 0) (k := 3) (C_size_in hl 0 s) mfX0_size l_X8_116 mvX0_size (by omega) dX8_full_11 rfl rfl (by decide) rfl rfl rfl (Nat.le_of_ble_eq_true rfl) (fun v11 s11 q11 => ?_) (fun _ _ q => nomatch q.1)
  obtain ⟨e11, h11⟩ := q11; cases e11; replace h11 := h11.symm; subst h11
  refine EW.top hn ?_
  refine EW.ic 1 dX8_full_14 ?_
  refine EW.iadd dX8_full_15 ?_
  refine EW.top (nI_add _ _) ?_
  refine EW.imul dX8_full_16 ?_
  refine EW.top (pk_mul _ _) ?_
  refine EW.istore_n dX8_full_17 rfl (by decide) ?_
  refine EW.iload_n dX8_full_18 rfl rfl ?_
  refine EW.if_gt 24 dX8_full_19 (by decide) (fun c19 => ?_) (fun c19 => ?_)
  · have c19 : 0 < (szF s.2.2.2.1 6 0 0) * (n + 1) := (nI_gt0 (by omega)).mp c19
    refine EW.aload_n dX8_full_24 rfl rfl ?_
    refine EC.get (k := 0) f_X8_40 dX8_full_25 (by decide) rfl rfl ?_
    refine EC.callV (bc := 0) (bs := 0) (mc' := 0) (ms' := 0) (k := 8) (C_msize hl 0 s) mfX4_size l_X8_185 mvX4_size (by omega) dX8_full_28 rfl rfl (by decide) rfl rfl rfl (Nat.le_of_ble_eq_true rfl) (fun v28 s28 q28 => ?_) (fun _ _ q => nomatch q.1)
    obtain ⟨e28, h28⟩ := q28; cases e28; replace h28 := h28.symm; subst h28
    refine EW.i2f dX8_full_31 ?_
    refine EW.iload_n dX8_full_32 rfl rfl ?_
    refine EW.i2f dX8_full_33 ?_
    refine EW.fdiv dX8_full_34 hne ?_
    refine EW.fret rfl dX8_full_35 ?_
    exact ⟨rfl, rfl⟩
  · have c19 : ¬ 0 < (szF s.2.2.2.1 6 0 0) * (n + 1) := fun h => c19 ((nI_gt0 (by omega)).mpr h); exact absurd (Nat.mul_pos (Nat.pos_of_ne_zero h) (Nat.succ_pos n)) c19
end C22
