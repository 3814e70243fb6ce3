section C15
variable {cy : Nat → ClassId} {ax : Nat → Nat} {hp0 : Hp} {l : Launch} {D : va_G} {base : Nat} {n : Nat} {tx : Nat → Nat}
/-- how a reading method ends -/
def rdQ (s : CSt) (x : Nat) (ps : List Nat) (r : Pr) : Oc → CSt → Prop := fun o s2 => ∃ qs, rdF s s2 x ps qs r.2 ∧ match r.1 with
  | none => o = .inl (some (va_rf none))
  | some t => ∃ p, o = .inl (some (.ref p)) ∧ layE s2.2.2.2.2.1 t qs p ∧ ∃ np, s2.2.2.2.2.1 p = some np ∧ nNext np = none
theorem rdQ.nx {s s2 : CSt} {x : Nat} {ps : List Nat} {r : Pr} {X : String} (h : rdQ s x ps r (.inr X) s2) : False := by
  obtain ⟨qs, -, h⟩ := h
  cases hr : r.1 with
  | none => rw [hr] at h; cases h
  | some t => rw [hr] at h; obtain ⟨p, e, -⟩ := h; cases e
theorem rdQ.no {s : CSt} {x : Nat} {ps : List Nat} {b : Nat} (h : RJ n tx s x ps) : rdQ s x ps (none, b) (.inl (some (va_rf none))) (atS s b) := ⟨[], rdF.rf h b, rfl⟩
theorem layR {nd : Nat → Option ND} {q lo hi : Nat} {o9 g9 : Int32} (h : nd q = some (nI 1, nI (97 + lo), nI (97 + hi), none, none, none, o9, g9)) : layE nd (xR lo hi) [q] q := ⟨rfl, _, h, rfl, rfl, rfl⟩
theorem layC {nd : Nat → Option ND} {q r : Nat} {a9 o9 g9 : Int32} (h : nd q = some (nI 2, nI r, a9, none, none, none, o9, g9)) : layE nd (xC r) [q] q := ⟨rfl, _, h, rfl, rfl⟩
set_option maxHeartbeats 4000000 in
theorem C_range1 (hl : l.stackTraces = false) (s : CSt) (x : Nat) (ps : List Nat) (a : Nat) (hRJ : RJ n tx s x ps) (ha : a ≤ n) (h1 : ¬ isL (tx (a + 1))) (dd mc ms : Nat) (hdd : 3 ≤ dd) (hmc : 0 ≤ mc) (hms : 0 ≤ ms) : MtW (IC cy ax hp0) l D cy base mX6_readRange dd mc ms [.ref (ax 5)] (atS s a) (rdQ s x ps (none, a + 1)) := by
  refine MtW.of hl mfX6_readRange rfl (Nat.le_of_ble_eq_true rfl) ?_
  refine EW.more (bc' := 0) (bs' := 0) hmc hms ?_
  have hn24 := hRJ.1.2.1
  have hT4 := hRJ.1.2.2.2.1
  obtain ⟨e9, he, -⟩ := hRJ.2.2.1
  refine EW.aload_n dX6_readRange_0 rfl rfl ?_
  refine EW.dup dX6_readRange_1 rfl ?_
  refine EC.get (k := 5) f_X6_22 dX6_readRange_2 (by decide) rfl rfl ?_
  refine EW.top atS_2 ?_
  refine EW.ic 1 dX6_readRange_5 ?_
  refine EW.iadd dX6_readRange_6 ?_
  refine EW.top (nI_add _ _) ?_
  refine EC.put2 f_X6_22 dX6_readRange_7 ?_
  refine EW.eqs (s' := atS s (a + 1)) atS_at ?_
  refine EW.aload_n dX6_readRange_10 rfl rfl ?_
  refine EC.get (k := 5) f_X6_9 dX6_readRange_11 (by decide) rfl rfl ?_
  refine EW.aload_n dX6_readRange_14 rfl rfl ?_
  refine EC.get (k := 5) f_X6_22 dX6_readRange_15 (by decide) rfl rfl ?_
  refine EW.top atS_2 ?_
  refine EC.callV (bc := 0) (bs := 0) (mc' := 0) (ms' := 0) (k := 1) (C_atx hl 0 (atS s (a + 1)) n tx (hRJ.at).1 (a + 1) (by omega)) mfX0_at l_X6_29 mvX0_at (by omega) dX6_readRange_18 rfl rfl (by decide) rfl rfl rfl (Nat.le_of_ble_eq_true rfl) (fun v18 s18 q18 => ?_) (fun _ _ q => nomatch q.1)
  obtain ⟨e18, h18⟩ := q18; cases e18; replace h18 := h18.symm; subst h18
  refine EW.istore_n dX6_readRange_21 rfl (by decide) ?_
  refine EW.iload_n dX6_readRange_22 rfl rfl ?_
  refine EW.callSN (bc := 0) (bs := 0) (mc' := 0) (ms' := 0) (C_isL hl _ 0 (atS s (a + 1)) (tx (a + 1)) (Nat.lt_trans (hT4 _) (by decide))) mfX8_isLetter rfl l_X6_85 mvX8_isLetter (by omega) dX6_readRange_23 rfl rfl (Nat.le_of_ble_eq_true rfl) (fun _ _ q => nomatch q.1) (fun v23 s23 q23 => ?_)
  obtain ⟨e23, h23⟩ := q23; cases e23; replace h23 := h23.symm; subst h23
  refine EW.top (y := nI 0) (by rw [if_neg h1]) ?_
  refine EW.if_ne 31 dX6_readRange_26 (by decide) (fun c26 => ?_) (fun c26 => ?_)
  · exact absurd c26 (by decide +kernel)
  · refine EW.null dX6_readRange_29 ?_
    refine EW.aret (r := none) rfl dX6_readRange_30 ?_
    exact rdQ.no hRJ
set_option maxHeartbeats 4000000 in
theorem C_range2 (hl : l.stackTraces = false) (s : CSt) (x : Nat) (ps : List Nat) (a : Nat) (hRJ : RJ n tx s x ps) (ha : a ≤ n) (h1 : isL (tx (a + 1))) (h2 : ¬ tx (a + 2) = 45) (dd mc ms : Nat) (hdd : 3 ≤ dd) (hmc : 0 ≤ mc) (hms : 0 ≤ ms) : MtW (IC cy ax hp0) l D cy base mX6_readRange dd mc ms [.ref (ax 5)] (atS s a) (rdQ s x ps (none, a + 2)) := by
  refine MtW.of hl mfX6_readRange rfl (Nat.le_of_ble_eq_true rfl) ?_
  refine EW.more (bc' := 0) (bs' := 0) hmc hms ?_
  have hn24 := hRJ.1.2.1
  have hT4 := hRJ.1.2.2.2.1
  obtain ⟨e9, he, -⟩ := hRJ.2.2.1
  refine EW.aload_n dX6_readRange_0 rfl rfl ?_
  refine EW.dup dX6_readRange_1 rfl ?_
  refine EC.get (k := 5) f_X6_22 dX6_readRange_2 (by decide) rfl rfl ?_
  refine EW.top atS_2 ?_
  refine EW.ic 1 dX6_readRange_5 ?_
  refine EW.iadd dX6_readRange_6 ?_
  refine EW.top (nI_add _ _) ?_
  refine EC.put2 f_X6_22 dX6_readRange_7 ?_
  refine EW.eqs (s' := atS s (a + 1)) atS_at ?_
  refine EW.aload_n dX6_readRange_10 rfl rfl ?_
  refine EC.get (k := 5) f_X6_9 dX6_readRange_11 (by decide) rfl rfl ?_
  refine EW.aload_n dX6_readRange_14 rfl rfl ?_
  refine EC.get (k := 5) f_X6_22 dX6_readRange_15 (by decide) rfl rfl ?_
  refine EW.top atS_2 ?_
  refine EC.callV (bc := 0) (bs := 0) (mc' := 0) (ms' := 0) (k := 1) (C_atx hl 0 (atS s (a + 1)) n tx (hRJ.at).1 (a + 1) (by omega)) mfX0_at l_X6_29 mvX0_at (by omega) dX6_readRange_18 rfl rfl (by decide) rfl rfl rfl (Nat.le_of_ble_eq_true rfl) (fun v18 s18 q18 => ?_) (fun _ _ q => nomatch q.1)
  obtain ⟨e18, h18⟩ := q18; cases e18; replace h18 := h18.symm; subst h18
  refine EW.istore_n dX6_readRange_21 rfl (by decide) ?_
  refine EW.iload_n dX6_readRange_22 rfl rfl ?_
  refine EW.callSN (bc := 0) (bs := 0) (mc' := 0) (ms' := 0) (C_isL hl _ 0 (atS s (a + 1)) (tx (a + 1)) (Nat.lt_trans (hT4 _) (by decide))) mfX8_isLetter rfl l_X6_85 mvX8_isLetter (by omega) dX6_readRange_23 rfl rfl (Nat.le_of_ble_eq_true rfl) (fun _ _ q => nomatch q.1) (fun v23 s23 q23 => ?_)
  obtain ⟨e23, h23⟩ := q23; cases e23; replace h23 := h23.symm; subst h23
  refine EW.top (y := nI 1) (by rw [if_pos h1]) ?_
  refine EW.if_ne 31 dX6_readRange_26 (by decide) (fun c26 => ?_) (fun c26 => ?_)
  · refine EW.aload_n dX6_readRange_31 rfl rfl ?_
    refine EW.dup dX6_readRange_32 rfl ?_
    refine EC.get (k := 5) f_X6_22 dX6_readRange_33 (by decide) rfl rfl ?_
    refine EW.top atS_2 ?_
    refine EW.ic 1 dX6_readRange_36 ?_
    refine EW.iadd dX6_readRange_37 ?_
    refine EW.top (nI_add _ _) ?_
    refine EC.put2 f_X6_22 dX6_readRange_38 ?_
    refine EW.eqs (s' := atS s (a + 2)) atS_at ?_
    refine EW.aload_n dX6_readRange_41 rfl rfl ?_
    refine EW.bp 45 dX6_readRange_42 ?_
    refine EC.callV (bc := 0) (bs := 0) (mc' := 0) (ms' := 0) (k := 5) (C_take0 hl 0 (atS s (a + 2)) n tx (hRJ.at).1 (a + 2) 45 atS_2 (by omega) (by decide) h2) mfX6_take l_X6_38 mvX6_take (by omega) dX6_readRange_44 rfl rfl (by decide) rfl rfl rfl (Nat.le_of_ble_eq_true rfl) (fun v44 s44 q44 => ?_) (fun _ _ q => nomatch q.1)
    obtain ⟨e44, h44⟩ := q44; cases e44; replace h44 := h44.symm; subst h44
    refine EW.if_ne 52 dX6_readRange_47 (by decide) (fun c47 => ?_) (fun c47 => ?_)
    · exact absurd c47 (by decide +kernel)
    · refine EW.null dX6_readRange_50 ?_
      refine EW.aret (r := none) rfl dX6_readRange_51 ?_
      exact rdQ.no hRJ
  · exact absurd c26 (by decide +kernel)
set_option maxHeartbeats 4000000 in
theorem C_range3 (hl : l.stackTraces = false) (s : CSt) (x : Nat) (ps : List Nat) (a : Nat) (hRJ : RJ n tx s x ps) (ha : a ≤ n) (h1 : isL (tx (a + 1)))(h2 : tx (a + 2) = 45) (h3 : ¬ isL (tx (a + 3))) (dd mc ms : Nat) (hdd : 3 ≤ dd) (hmc : 0 ≤ mc) (hms : 0 ≤ ms) : MtW (IC cy ax hp0) l D cy base mX6_readRange dd mc ms [.ref (ax 5)] (atS s a) (rdQ s x ps (none, a + 3)) := by
  refine MtW.of hl mfX6_readRange rfl (Nat.le_of_ble_eq_true rfl) ?_
  refine EW.more (bc' := 0) (bs' := 0) hmc hms ?_
  have hn24 := hRJ.1.2.1
  have hT4 := hRJ.1.2.2.2.1
  obtain ⟨e9, he, -⟩ := hRJ.2.2.1
  refine EW.aload_n dX6_readRange_0 rfl rfl ?_
  refine EW.dup dX6_readRange_1 rfl ?_
  refine EC.get (k := 5) f_X6_22 dX6_readRange_2 (by decide) rfl rfl ?_
  refine EW.top atS_2 ?_
  refine EW.ic 1 dX6_readRange_5 ?_
  refine EW.iadd dX6_readRange_6 ?_
  refine EW.top (nI_add _ _) ?_
  refine EC.put2 f_X6_22 dX6_readRange_7 ?_
  refine EW.eqs (s' := atS s (a + 1)) atS_at ?_
  refine EW.aload_n dX6_readRange_10 rfl rfl ?_
  refine EC.get (k := 5) f_X6_9 dX6_readRange_11 (by decide) rfl rfl ?_
  refine EW.aload_n dX6_readRange_14 rfl rfl ?_
  refine EC.get (k := 5) f_X6_22 dX6_readRange_15 (by decide) rfl rfl ?_
  refine EW.top atS_2 ?_
  refine EC.callV (bc := 0) (bs := 0) (mc' := 0) (ms' := 0) (k := 1) (C_atx hl 0 (atS s (a + 1)) n tx (hRJ.at).1 (a + 1) (by omega)) mfX0_at l_X6_29 mvX0_at (by omega) dX6_readRange_18 rfl rfl (by decide) rfl rfl rfl (Nat.le_of_ble_eq_true rfl) (fun v18 s18 q18 => ?_) (fun _ _ q => nomatch q.1)
  obtain ⟨e18, h18⟩ := q18; cases e18; replace h18 := h18.symm; subst h18
  refine EW.istore_n dX6_readRange_21 rfl (by decide) ?_
  refine EW.iload_n dX6_readRange_22 rfl rfl ?_
  refine EW.callSN (bc := 0) (bs := 0) (mc' := 0) (ms' := 0) (C_isL hl _ 0 (atS s (a + 1)) (tx (a + 1)) (Nat.lt_trans (hT4 _) (by decide))) mfX8_isLetter rfl l_X6_85 mvX8_isLetter (by omega) dX6_readRange_23 rfl rfl (Nat.le_of_ble_eq_true rfl) (fun _ _ q => nomatch q.1) (fun v23 s23 q23 => ?_)
  obtain ⟨e23, h23⟩ := q23; cases e23; replace h23 := h23.symm; subst h23
  refine EW.top (y := nI 1) (by rw [if_pos h1]) ?_
  refine EW.if_ne 31 dX6_readRange_26 (by decide) (fun c26 => ?_) (fun c26 => ?_)
  · refine EW.aload_n dX6_readRange_31 rfl rfl ?_
    refine EW.dup dX6_readRange_32 rfl ?_
    refine EC.get (k := 5) f_X6_22 dX6_readRange_33 (by decide) rfl rfl ?_
    refine EW.top atS_2 ?_
    refine EW.ic 1 dX6_readRange_36 ?_
    refine EW.iadd dX6_readRange_37 ?_
    refine EW.top (nI_add _ _) ?_
    refine EC.put2 f_X6_22 dX6_readRange_38 ?_
    refine EW.eqs (s' := atS s (a + 2)) atS_at ?_
    refine EW.aload_n dX6_readRange_41 rfl rfl ?_
    refine EW.bp 45 dX6_readRange_42 ?_
    refine EC.callV (bc := 0) (bs := 0) (mc' := 0) (ms' := 0) (k := 5) (C_take1 hl 0 (atS s (a + 2)) n tx (hRJ.at).1 (a + 2) 45 atS_2 (by omega) (by decide) h2) mfX6_take l_X6_38 mvX6_take (by omega) dX6_readRange_44 rfl rfl (by decide) rfl rfl rfl (Nat.le_of_ble_eq_true rfl) (fun v44 s44 q44 => ?_) (fun _ _ q => nomatch q.1)
    obtain ⟨e44, h44⟩ := q44; cases e44; replace h44 := h44.symm; subst h44
    refine EW.eqs (s' := atS s (a + 3)) atS_at ?_
    refine EW.if_ne 52 dX6_readRange_47 (by decide) (fun c47 => ?_) (fun c47 => ?_)
    · refine EW.aload_n dX6_readRange_52 rfl rfl ?_
      refine EC.get (k := 5) f_X6_9 dX6_readRange_53 (by decide) rfl rfl ?_
      refine EW.aload_n dX6_readRange_56 rfl rfl ?_
      refine EC.get (k := 5) f_X6_22 dX6_readRange_57 (by decide) rfl rfl ?_
      refine EW.top atS_2 ?_
      refine EC.callV (bc := 0) (bs := 0) (mc' := 0) (ms' := 0) (k := 1) (C_atx hl 0 (atS s (a + 3)) n tx (hRJ.at).1 (a + 3) (by omega)) mfX0_at l_X6_29 mvX0_at (by omega) dX6_readRange_60 rfl rfl (by decide) rfl rfl rfl (Nat.le_of_ble_eq_true rfl) (fun v60 s60 q60 => ?_) (fun _ _ q => nomatch q.1)
      obtain ⟨e60, h60⟩ := q60; cases e60; replace h60 := h60.symm; subst h60
      refine EW.istore_n dX6_readRange_63 rfl (by decide) ?_
      refine EW.iload_n dX6_readRange_64 rfl rfl ?_
      refine EW.callSN (bc := 0) (bs := 0) (mc' := 0) (ms' := 0) (C_isL hl _ 0 (atS s (a + 3)) (tx (a + 3)) (Nat.lt_trans (hT4 _) (by decide))) mfX8_isLetter rfl l_X6_85 mvX8_isLetter (by omega) dX6_readRange_65 rfl rfl (Nat.le_of_ble_eq_true rfl) (fun _ _ q => nomatch q.1) (fun v65 s65 q65 => ?_)
      obtain ⟨e65, h65⟩ := q65; cases e65; replace h65 := h65.symm; subst h65
      refine EW.top (y := nI 0) (by rw [if_neg h3]) ?_
      refine EW.if_eq 76 dX6_readRange_68 (by decide) (fun c68 => ?_) (fun c68 => ?_)
      · refine EW.null dX6_readRange_76 ?_
        refine EW.aret (r := none) rfl dX6_readRange_77 ?_
        exact rdQ.no hRJ
      · exact absurd c68 (by decide +kernel)
    · exact absurd c47 (by decide +kernel)
  · exact absurd c26 (by decide +kernel)
set_option maxHeartbeats 4000000 in
theorem C_range4 (hl : l.stackTraces = false) (s : CSt) (x : Nat) (ps : List Nat) (a : Nat) (hRJ : RJ n tx s x ps) (ha : a ≤ n) (h1 : isL (tx (a + 1)))(h2 : tx (a + 2) = 45)(h3 : isL (tx (a + 3))) (h3b : ¬ tx (a + 1) ≤ tx (a + 3)) (dd mc ms : Nat) (hdd : 3 ≤ dd) (hmc : 0 ≤ mc) (hms : 0 ≤ ms) : MtW (IC cy ax hp0) l D cy base mX6_readRange dd mc ms [.ref (ax 5)] (atS s a) (rdQ s x ps (none, a + 3)) := by
  refine MtW.of hl mfX6_readRange rfl (Nat.le_of_ble_eq_true rfl) ?_
  refine EW.more (bc' := 0) (bs' := 0) hmc hms ?_
  have hn24 := hRJ.1.2.1
  have hT4 := hRJ.1.2.2.2.1
  obtain ⟨e9, he, -⟩ := hRJ.2.2.1
  have b1 := hT4 (a + 1)
  have b3 := hT4 (a + 3)
  refine EW.aload_n dX6_readRange_0 rfl rfl ?_
  refine EW.dup dX6_readRange_1 rfl ?_
  refine EC.get (k := 5) f_X6_22 dX6_readRange_2 (by decide) rfl rfl ?_
  refine EW.top atS_2 ?_
  refine EW.ic 1 dX6_readRange_5 ?_
  refine EW.iadd dX6_readRange_6 ?_
  refine EW.top (nI_add _ _) ?_
  refine EC.put2 f_X6_22 dX6_readRange_7 ?_
  refine EW.eqs (s' := atS s (a + 1)) atS_at ?_
  refine EW.aload_n dX6_readRange_10 rfl rfl ?_
  refine EC.get (k := 5) f_X6_9 dX6_readRange_11 (by decide) rfl rfl ?_
  refine EW.aload_n dX6_readRange_14 rfl rfl ?_
  refine EC.get (k := 5) f_X6_22 dX6_readRange_15 (by decide) rfl rfl ?_
  refine EW.top atS_2 ?_
  refine EC.callV (bc := 0) (bs := 0) (mc' := 0) (ms' := 0) (k := 1) (C_atx hl 0 (atS s (a + 1)) n tx (hRJ.at).1 (a + 1) (by omega)) mfX0_at l_X6_29 mvX0_at (by omega) dX6_readRange_18 rfl rfl (by decide) rfl rfl rfl (Nat.le_of_ble_eq_true rfl) (fun v18 s18 q18 => ?_) (fun _ _ q => nomatch q.1)
  obtain ⟨e18, h18⟩ := q18; cases e18; replace h18 := h18.symm; subst h18
  refine EW.istore_n dX6_readRange_21 rfl (by decide) ?_
  refine EW.iload_n dX6_readRange_22 rfl rfl ?_
  refine EW.callSN (bc := 0) (bs := 0) (mc' := 0) (ms' := 0) (C_isL hl _ 0 (atS s (a + 1)) (tx (a + 1)) (Nat.lt_trans (hT4 _) (by decide))) mfX8_isLetter rfl l_X6_85 mvX8_isLetter (by omega) dX6_readRange_23 rfl rfl (Nat.le_of_ble_eq_true rfl) (fun _ _ q => nomatch q.1) (fun v23 s23 q23 => ?_)
  obtain ⟨e23, h23⟩ := q23; cases e23; replace h23 := h23.symm; subst h23
  refine EW.top (y := nI 1) (by rw [if_pos h1]) ?_
  refine EW.if_ne 31 dX6_readRange_26 (by decide) (fun c26 => ?_) (fun c26 => ?_)
  · refine EW.aload_n dX6_readRange_31 rfl rfl ?_
    refine EW.dup dX6_readRange_32 rfl ?_
    refine EC.get (k := 5) f_X6_22 dX6_readRange_33 (by decide) rfl rfl ?_
    refine EW.top atS_2 ?_
    refine EW.ic 1 dX6_readRange_36 ?_
    refine EW.iadd dX6_readRange_37 ?_
    refine EW.top (nI_add _ _) ?_
    refine EC.put2 f_X6_22 dX6_readRange_38 ?_
    refine EW.eqs (s' := atS s (a + 2)) atS_at ?_
    refine EW.aload_n dX6_readRange_41 rfl rfl ?_
    refine EW.bp 45 dX6_readRange_42 ?_
    refine EC.callV (bc := 0) (bs := 0) (mc' := 0) (ms' := 0) (k := 5) (C_take1 hl 0 (atS s (a + 2)) n tx (hRJ.at).1 (a + 2) 45 atS_2 (by omega) (by decide) h2) mfX6_take l_X6_38 mvX6_take (by omega) dX6_readRange_44 rfl rfl (by decide) rfl rfl rfl (Nat.le_of_ble_eq_true rfl) (fun v44 s44 q44 => ?_) (fun _ _ q => nomatch q.1)
    obtain ⟨e44, h44⟩ := q44; cases e44; replace h44 := h44.symm; subst h44
    refine EW.eqs (s' := atS s (a + 3)) atS_at ?_
    refine EW.if_ne 52 dX6_readRange_47 (by decide) (fun c47 => ?_) (fun c47 => ?_)
    · refine EW.aload_n dX6_readRange_52 rfl rfl ?_
      refine EC.get (k := 5) f_X6_9 dX6_readRange_53 (by decide) rfl rfl ?_
      refine EW.aload_n dX6_readRange_56 rfl rfl ?_
      refine EC.get (k := 5) f_X6_22 dX6_readRange_57 (by decide) rfl rfl ?_
      refine EW.top atS_2 ?_
      refine EC.callV (bc := 0) (bs := 0) (mc' := 0) (ms' := 0) (k := 1) (C_atx hl 0 (atS s (a + 3)) n tx (hRJ.at).1 (a + 3) (by omega)) mfX0_at l_X6_29 mvX0_at (by omega) dX6_readRange_60 rfl rfl (by decide) rfl rfl rfl (Nat.le_of_ble_eq_true rfl) (fun v60 s60 q60 => ?_) (fun _ _ q => nomatch q.1)
      obtain ⟨e60, h60⟩ := q60; cases e60; replace h60 := h60.symm; subst h60
      refine EW.istore_n dX6_readRange_63 rfl (by decide) ?_
      refine EW.iload_n dX6_readRange_64 rfl rfl ?_
      refine EW.callSN (bc := 0) (bs := 0) (mc' := 0) (ms' := 0) (C_isL hl _ 0 (atS s (a + 3)) (tx (a + 3)) (Nat.lt_trans (hT4 _) (by decide))) mfX8_isLetter rfl l_X6_85 mvX8_isLetter (by omega) dX6_readRange_65 rfl rfl (Nat.le_of_ble_eq_true rfl) (fun _ _ q => nomatch q.1) (fun v65 s65 q65 => ?_)
      obtain ⟨e65, h65⟩ := q65; cases e65; replace h65 := h65.symm; subst h65
      refine EW.top (y := nI 1) (by rw [if_pos h3]) ?_
      refine EW.if_eq 76 dX6_readRange_68 (by decide) (fun c68 => ?_) (fun c68 => ?_)
      · exact absurd c68 (by decide +kernel)
      · refine EW.iload_n dX6_readRange_71 rfl rfl ?_
        refine EW.iload_n dX6_readRange_72 rfl rfl ?_
        refine EW.icmp_ge 78 dX6_readRange_73 (by decide) (fun c73 => ?_) (fun c73 => ?_)
        · have c73 : tx (a + 1) ≤ tx (a + 3) := (nI_leI (by omega) (by omega)).mp c73; exact absurd c73 h3b
        · have c73 : ¬ (tx (a + 1) ≤ tx (a + 3)) := fun h => c73 ((nI_leI (by omega) (by omega)).mpr h)
          refine EW.null dX6_readRange_76 ?_
          refine EW.aret (r := none) rfl dX6_readRange_77 ?_
          exact rdQ.no hRJ
    · exact absurd c47 (by decide +kernel)
  · exact absurd c26 (by decide +kernel)
set_option maxHeartbeats 4000000 in
theorem C_range5 (hl : l.stackTraces = false) (s : CSt) (x : Nat) (ps : List Nat) (a : Nat) (hRJ : RJ n tx s x ps) (ha : a ≤ n) (h1 : isL (tx (a + 1)))(h2 : tx (a + 2) = 45)(h3 : isL (tx (a + 3)))(h3b : tx (a + 1) ≤ tx (a + 3)) (h4 : ¬ tx (a + 4) = 93) (dd mc ms : Nat) (hdd : 3 ≤ dd) (hmc : 0 ≤ mc) (hms : 0 ≤ ms) : MtW (IC cy ax hp0) l D cy base mX6_readRange dd mc ms [.ref (ax 5)] (atS s a) (rdQ s x ps (none, a + 4)) := by
  refine MtW.of hl mfX6_readRange rfl (Nat.le_of_ble_eq_true rfl) ?_
  refine EW.more (bc' := 0) (bs' := 0) hmc hms ?_
  have hn24 := hRJ.1.2.1
  have hT4 := hRJ.1.2.2.2.1
  obtain ⟨e9, he, -⟩ := hRJ.2.2.1
  have b1 := hT4 (a + 1)
  have b3 := hT4 (a + 3)
  refine EW.aload_n dX6_readRange_0 rfl rfl ?_
  refine EW.dup dX6_readRange_1 rfl ?_
  refine EC.get (k := 5) f_X6_22 dX6_readRange_2 (by decide) rfl rfl ?_
  refine EW.top atS_2 ?_
  refine EW.ic 1 dX6_readRange_5 ?_
  refine EW.iadd dX6_readRange_6 ?_
  refine EW.top (nI_add _ _) ?_
  refine EC.put2 f_X6_22 dX6_readRange_7 ?_
  refine EW.eqs (s' := atS s (a + 1)) atS_at ?_
  refine EW.aload_n dX6_readRange_10 rfl rfl ?_
  refine EC.get (k := 5) f_X6_9 dX6_readRange_11 (by decide) rfl rfl ?_
  refine EW.aload_n dX6_readRange_14 rfl rfl ?_
  refine EC.get (k := 5) f_X6_22 dX6_readRange_15 (by decide) rfl rfl ?_
  refine EW.top atS_2 ?_
  refine EC.callV (bc := 0) (bs := 0) (mc' := 0) (ms' := 0) (k := 1) (C_atx hl 0 (atS s (a + 1)) n tx (hRJ.at).1 (a + 1) (by omega)) mfX0_at l_X6_29 mvX0_at (by omega) dX6_readRange_18 rfl rfl (by decide) rfl rfl rfl (Nat.le_of_ble_eq_true rfl) (fun v18 s18 q18 => ?_) (fun _ _ q => nomatch q.1)
  obtain ⟨e18, h18⟩ := q18; cases e18; replace h18 := h18.symm; subst h18
  refine EW.istore_n dX6_readRange_21 rfl (by decide) ?_
  refine EW.iload_n dX6_readRange_22 rfl rfl ?_
  refine EW.callSN (bc := 0) (bs := 0) (mc' := 0) (ms' := 0) (C_isL hl _ 0 (atS s (a + 1)) (tx (a + 1)) (Nat.lt_trans (hT4 _) (by decide))) mfX8_isLetter rfl l_X6_85 mvX8_isLetter (by omega) dX6_readRange_23 rfl rfl (Nat.le_of_ble_eq_true rfl) (fun _ _ q => nomatch q.1) (fun v23 s23 q23 => ?_)
  obtain ⟨e23, h23⟩ := q23; cases e23; replace h23 := h23.symm; subst h23
  refine EW.top (y := nI 1) (by rw [if_pos h1]) ?_
  refine EW.if_ne 31 dX6_readRange_26 (by decide) (fun c26 => ?_) (fun c26 => ?_)
  · refine EW.aload_n dX6_readRange_31 rfl rfl ?_
    refine EW.dup dX6_readRange_32 rfl ?_
    refine EC.get (k := 5) f_X6_22 dX6_readRange_33 (by decide) rfl rfl ?_
    refine EW.top atS_2 ?_
    refine EW.ic 1 dX6_readRange_36 ?_
    refine EW.iadd dX6_readRange_37 ?_
    refine EW.top (nI_add _ _) ?_
    refine EC.put2 f_X6_22 dX6_readRange_38 ?_
    refine EW.eqs (s' := atS s (a + 2)) atS_at ?_
    refine EW.aload_n dX6_readRange_41 rfl rfl ?_
    refine EW.bp 45 dX6_readRange_42 ?_
    refine EC.callV (bc := 0) (bs := 0) (mc' := 0) (ms' := 0) (k := 5) (C_take1 hl 0 (atS s (a + 2)) n tx (hRJ.at).1 (a + 2) 45 atS_2 (by omega) (by decide) h2) mfX6_take l_X6_38 mvX6_take (by omega) dX6_readRange_44 rfl rfl (by decide) rfl rfl rfl (Nat.le_of_ble_eq_true rfl) (fun v44 s44 q44 => ?_) (fun _ _ q => nomatch q.1)
    obtain ⟨e44, h44⟩ := q44; cases e44; replace h44 := h44.symm; subst h44
    refine EW.eqs (s' := atS s (a + 3)) atS_at ?_
    refine EW.if_ne 52 dX6_readRange_47 (by decide) (fun c47 => ?_) (fun c47 => ?_)
    · refine EW.aload_n dX6_readRange_52 rfl rfl ?_
      refine EC.get (k := 5) f_X6_9 dX6_readRange_53 (by decide) rfl rfl ?_
      refine EW.aload_n dX6_readRange_56 rfl rfl ?_
      refine EC.get (k := 5) f_X6_22 dX6_readRange_57 (by decide) rfl rfl ?_
      refine EW.top atS_2 ?_
      refine EC.callV (bc := 0) (bs := 0) (mc' := 0) (ms' := 0) (k := 1) (C_atx hl 0 (atS s (a + 3)) n tx (hRJ.at).1 (a + 3) (by omega)) mfX0_at l_X6_29 mvX0_at (by omega) dX6_readRange_60 rfl rfl (by decide) rfl rfl rfl (Nat.le_of_ble_eq_true rfl) (fun v60 s60 q60 => ?_) (fun _ _ q => nomatch q.1)
      obtain ⟨e60, h60⟩ := q60; cases e60; replace h60 := h60.symm; subst h60
      refine EW.istore_n dX6_readRange_63 rfl (by decide) ?_
      refine EW.iload_n dX6_readRange_64 rfl rfl ?_
      refine EW.callSN (bc := 0) (bs := 0) (mc' := 0) (ms' := 0) (C_isL hl _ 0 (atS s (a + 3)) (tx (a + 3)) (Nat.lt_trans (hT4 _) (by decide))) mfX8_isLetter rfl l_X6_85 mvX8_isLetter (by omega) dX6_readRange_65 rfl rfl (Nat.le_of_ble_eq_true rfl) (fun _ _ q => nomatch q.1) (fun v65 s65 q65 => ?_)
      obtain ⟨e65, h65⟩ := q65; cases e65; replace h65 := h65.symm; subst h65
      refine EW.top (y := nI 1) (by rw [if_pos h3]) ?_
      refine EW.if_eq 76 dX6_readRange_68 (by decide) (fun c68 => ?_) (fun c68 => ?_)
      · exact absurd c68 (by decide +kernel)
      · refine EW.iload_n dX6_readRange_71 rfl rfl ?_
        refine EW.iload_n dX6_readRange_72 rfl rfl ?_
        refine EW.icmp_ge 78 dX6_readRange_73 (by decide) (fun c73 => ?_) (fun c73 => ?_)
        · have c73 : tx (a + 1) ≤ tx (a + 3) := (nI_leI (by omega) (by omega)).mp c73
          refine EW.aload_n dX6_readRange_78 rfl rfl ?_
          refine EW.dup dX6_readRange_79 rfl ?_
          refine EC.get (k := 5) f_X6_22 dX6_readRange_80 (by decide) rfl rfl ?_
          refine EW.top atS_2 ?_
          refine EW.ic 1 dX6_readRange_83 ?_
          refine EW.iadd dX6_readRange_84 ?_
          refine EW.top (nI_add _ _) ?_
          refine EC.put2 f_X6_22 dX6_readRange_85 ?_
          refine EW.eqs (s' := atS s (a + 4)) atS_at ?_
          refine EW.aload_n dX6_readRange_88 rfl rfl ?_
          refine EW.bp 93 dX6_readRange_89 ?_
          refine EC.callV (bc := 0) (bs := 0) (mc' := 0) (ms' := 0) (k := 5) (C_take0 hl 0 (atS s (a + 4)) n tx (hRJ.at).1 (a + 4) 93 atS_2 (by omega) (by decide) h4) mfX6_take l_X6_38 mvX6_take (by omega) dX6_readRange_91 rfl rfl (by decide) rfl rfl rfl (Nat.le_of_ble_eq_true rfl) (fun v91 s91 q91 => ?_) (fun _ _ q => nomatch q.1)
          obtain ⟨e91, h91⟩ := q91; cases e91; replace h91 := h91.symm; subst h91
          refine EW.if_eq 111 dX6_readRange_94 (by decide) (fun c94 => ?_) (fun c94 => ?_)
          · refine EW.null dX6_readRange_111 ?_
            refine EW.aret (r := none) rfl dX6_readRange_112 ?_
            exact rdQ.no hRJ
          · exact absurd c94 (by decide +kernel)
        · have c73 : ¬ (tx (a + 1) ≤ tx (a + 3)) := fun h => c73 ((nI_leI (by omega) (by omega)).mpr h); exact absurd h3b c73
    · exact absurd c47 (by decide +kernel)
  · exact absurd c26 (by decide +kernel)
set_option maxHeartbeats 4000000 in
theorem C_range6 (hl : l.stackTraces = false) (s : CSt) (x : Nat) (ps : List Nat) (a : Nat) (hRJ : RJ n tx s x ps) (ha : a ≤ n) (h1 : isL (tx (a + 1)))(h2 : tx (a + 2) = 45)(h3 : isL (tx (a + 3)))(h3b : tx (a + 1) ≤ tx (a + 3))(h4 : tx (a + 4) = 93) (dd mc ms : Nat) (hdd : 4 ≤ dd) (hmc : 1 ≤ mc) (hms : 8 ≤ ms) : MtW (IC cy ax hp0) l D cy base mX6_readRange dd mc ms [.ref (ax 5)] (atS s a) (rdQ s x ps (some (xR (tx (a + 1) - 97) (tx (a + 3) - 97)), a + 5)) := by
  refine MtW.of hl mfX6_readRange rfl (Nat.le_of_ble_eq_true rfl) ?_
  refine EW.more (bc' := 1) (bs' := 8) hmc hms ?_
  have hn24 := hRJ.1.2.1
  have hT4 := hRJ.1.2.2.2.1
  obtain ⟨e9, he, -⟩ := hRJ.2.2.1
  have b1 := hT4 (a + 1)
  have b3 := hT4 (a + 3)
  refine EW.aload_n dX6_readRange_0 rfl rfl ?_
  refine EW.dup dX6_readRange_1 rfl ?_
  refine EC.get (k := 5) f_X6_22 dX6_readRange_2 (by decide) rfl rfl ?_
  refine EW.top atS_2 ?_
  refine EW.ic 1 dX6_readRange_5 ?_
  refine EW.iadd dX6_readRange_6 ?_
  refine EW.top (nI_add _ _) ?_
  refine EC.put2 f_X6_22 dX6_readRange_7 ?_
  refine EW.eqs (s' := atS s (a + 1)) atS_at ?_
  refine EW.aload_n dX6_readRange_10 rfl rfl ?_
  refine EC.get (k := 5) f_X6_9 dX6_readRange_11 (by decide) rfl rfl ?_
  refine EW.aload_n dX6_readRange_14 rfl rfl ?_
  refine EC.get (k := 5) f_X6_22 dX6_readRange_15 (by decide) rfl rfl ?_
  refine EW.top atS_2 ?_
  refine EC.callV (bc := 1) (bs := 8) (mc' := 0) (ms' := 0) (k := 1) (C_atx hl 0 (atS s (a + 1)) n tx (hRJ.at).1 (a + 1) (by omega)) mfX0_at l_X6_29 mvX0_at (by omega) dX6_readRange_18 rfl rfl (by decide) rfl rfl rfl (Nat.le_of_ble_eq_true rfl) (fun v18 s18 q18 => ?_) (fun _ _ q => nomatch q.1)
  obtain ⟨e18, h18⟩ := q18; cases e18; replace h18 := h18.symm; subst h18
  refine EW.istore_n dX6_readRange_21 rfl (by decide) ?_
  refine EW.iload_n dX6_readRange_22 rfl rfl ?_
  refine EW.callSN (bc := 1) (bs := 8) (mc' := 0) (ms' := 0) (C_isL hl _ 0 (atS s (a + 1)) (tx (a + 1)) (Nat.lt_trans (hT4 _) (by decide))) mfX8_isLetter rfl l_X6_85 mvX8_isLetter (by omega) dX6_readRange_23 rfl rfl (Nat.le_of_ble_eq_true rfl) (fun _ _ q => nomatch q.1) (fun v23 s23 q23 => ?_)
  obtain ⟨e23, h23⟩ := q23; cases e23; replace h23 := h23.symm; subst h23
  refine EW.top (y := nI 1) (by rw [if_pos h1]) ?_
  refine EW.if_ne 31 dX6_readRange_26 (by decide) (fun c26 => ?_) (fun c26 => ?_)
  · refine EW.aload_n dX6_readRange_31 rfl rfl ?_
    refine EW.dup dX6_readRange_32 rfl ?_
    refine EC.get (k := 5) f_X6_22 dX6_readRange_33 (by decide) rfl rfl ?_
    refine EW.top atS_2 ?_
    refine EW.ic 1 dX6_readRange_36 ?_
    refine EW.iadd dX6_readRange_37 ?_
    refine EW.top (nI_add _ _) ?_
    refine EC.put2 f_X6_22 dX6_readRange_38 ?_
    refine EW.eqs (s' := atS s (a + 2)) atS_at ?_
    refine EW.aload_n dX6_readRange_41 rfl rfl ?_
    refine EW.bp 45 dX6_readRange_42 ?_
    refine EC.callV (bc := 1) (bs := 8) (mc' := 0) (ms' := 0) (k := 5) (C_take1 hl 0 (atS s (a + 2)) n tx (hRJ.at).1 (a + 2) 45 atS_2 (by omega) (by decide) h2) mfX6_take l_X6_38 mvX6_take (by omega) dX6_readRange_44 rfl rfl (by decide) rfl rfl rfl (Nat.le_of_ble_eq_true rfl) (fun v44 s44 q44 => ?_) (fun _ _ q => nomatch q.1)
    obtain ⟨e44, h44⟩ := q44; cases e44; replace h44 := h44.symm; subst h44
    refine EW.eqs (s' := atS s (a + 3)) atS_at ?_
    refine EW.if_ne 52 dX6_readRange_47 (by decide) (fun c47 => ?_) (fun c47 => ?_)
    · refine EW.aload_n dX6_readRange_52 rfl rfl ?_
      refine EC.get (k := 5) f_X6_9 dX6_readRange_53 (by decide) rfl rfl ?_
      refine EW.aload_n dX6_readRange_56 rfl rfl ?_
      refine EC.get (k := 5) f_X6_22 dX6_readRange_57 (by decide) rfl rfl ?_
      refine EW.top atS_2 ?_
      refine EC.callV (bc := 1) (bs := 8) (mc' := 0) (ms' := 0) (k := 1) (C_atx hl 0 (atS s (a + 3)) n tx (hRJ.at).1 (a + 3) (by omega)) mfX0_at l_X6_29 mvX0_at (by omega) dX6_readRange_60 rfl rfl (by decide) rfl rfl rfl (Nat.le_of_ble_eq_true rfl) (fun v60 s60 q60 => ?_) (fun _ _ q => nomatch q.1)
      obtain ⟨e60, h60⟩ := q60; cases e60; replace h60 := h60.symm; subst h60
      refine EW.istore_n dX6_readRange_63 rfl (by decide) ?_
      refine EW.iload_n dX6_readRange_64 rfl rfl ?_
      refine EW.callSN (bc := 1) (bs := 8) (mc' := 0) (ms' := 0) (C_isL hl _ 0 (atS s (a + 3)) (tx (a + 3)) (Nat.lt_trans (hT4 _) (by decide))) mfX8_isLetter rfl l_X6_85 mvX8_isLetter (by omega) dX6_readRange_65 rfl rfl (Nat.le_of_ble_eq_true rfl) (fun _ _ q => nomatch q.1) (fun v65 s65 q65 => ?_)
      obtain ⟨e65, h65⟩ := q65; cases e65; replace h65 := h65.symm; subst h65
      refine EW.top (y := nI 1) (by rw [if_pos h3]) ?_
      refine EW.if_eq 76 dX6_readRange_68 (by decide) (fun c68 => ?_) (fun c68 => ?_)
      · exact absurd c68 (by decide +kernel)
      · refine EW.iload_n dX6_readRange_71 rfl rfl ?_
        refine EW.iload_n dX6_readRange_72 rfl rfl ?_
        refine EW.icmp_ge 78 dX6_readRange_73 (by decide) (fun c73 => ?_) (fun c73 => ?_)
        · have c73 : tx (a + 1) ≤ tx (a + 3) := (nI_leI (by omega) (by omega)).mp c73
          refine EW.aload_n dX6_readRange_78 rfl rfl ?_
          refine EW.dup dX6_readRange_79 rfl ?_
          refine EC.get (k := 5) f_X6_22 dX6_readRange_80 (by decide) rfl rfl ?_
          refine EW.top atS_2 ?_
          refine EW.ic 1 dX6_readRange_83 ?_
          refine EW.iadd dX6_readRange_84 ?_
          refine EW.top (nI_add _ _) ?_
          refine EC.put2 f_X6_22 dX6_readRange_85 ?_
          refine EW.eqs (s' := atS s (a + 4)) atS_at ?_
          refine EW.aload_n dX6_readRange_88 rfl rfl ?_
          refine EW.bp 93 dX6_readRange_89 ?_
          refine EC.callV (bc := 1) (bs := 8) (mc' := 0) (ms' := 0) (k := 5) (C_take1 hl 0 (atS s (a + 4)) n tx (hRJ.at).1 (a + 4) 93 atS_2 (by omega) (by decide) h4) mfX6_take l_X6_38 mvX6_take (by omega) dX6_readRange_91 rfl rfl (by decide) rfl rfl rfl (Nat.le_of_ble_eq_true rfl) (fun v91 s91 q91 => ?_) (fun _ _ q => nomatch q.1)
          obtain ⟨e91, h91⟩ := q91; cases e91; replace h91 := h91.symm; subst h91
          refine EW.eqs (s' := atS s (a + 5)) atS_at ?_
          refine EW.if_eq 111 dX6_readRange_94 (by decide) (fun c94 => ?_) (fun c94 => ?_)
          · exact absurd c94 (by decide +kernel)
          · refine EW.aload_n dX6_readRange_97 rfl rfl ?_
            refine EC.get (k := 5) f_X6_18 dX6_readRange_98 (by decide) rfl rfl ?_
            refine EW.rf hRJ.2.1 ?_
            refine EW.ic 1 dX6_readRange_101 ?_
            refine EW.iload_n dX6_readRange_102 rfl rfl ?_
            refine EW.iload_n dX6_readRange_103 rfl rfl ?_
            refine EW.null dX6_readRange_104 ?_
            refine EC.callE (bc := 0) (bs := 0) (mc' := 1) (ms' := 8) (C_addN hl 0 (a + 5) s x ps hRJ (nI (1)) (nI (tx (a + 1))) (nI (tx (a + 3)))) mfX1_add l_X6_58 mvX1_add (by omega) dX6_readRange_105 rfl rfl he rfl rfl (Nat.le_of_ble_eq_true rfl) (fun v105 s105 q105 => ?_) (fun _ _ q => by obtain ⟨_, e, _⟩ := q; cases e)
            obtain ⟨a105, e105, F105, n105⟩ := q105; cases e105
            refine EW.goto 112 dX6_readRange_108 (by decide) ?_
            refine EW.aret (r := some a105) rfl dX6_readRange_112 ?_
            exact ⟨[a105], F105, a105, rfl, layR (by rw [n105, show 97 + (tx (a + 1) - 97) = tx (a + 1) by have := h1.1; omega, show 97 + (tx (a + 3) - 97) = tx (a + 3) by have := h3.1; omega]; rfl), _, n105, rfl⟩
        · have c73 : ¬ (tx (a + 1) ≤ tx (a + 3)) := fun h => c73 ((nI_leI (by omega) (by omega)).mpr h); exact absurd h3b c73
    · exact absurd c47 (by decide +kernel)
  · exact absurd c26 (by decide +kernel)
set_option maxHeartbeats 4000000 in
theorem C_unitP (hl : l.stackTraces = false) (s : CSt) (x : Nat) (ps : List Nat) (a : Nat) (hRJ : RJ n tx s x ps) (ha : a ≤ n) (dp : Nat) (g91 : ¬ tx a = 91) (g40 : ¬ tx a = 40) (h0 : tx a = 46) (dd mc ms : Nat) (hdd : 4 ≤ dd) (hmc : 1 ≤ mc) (hms : 8 ≤ ms) : MtW (IC cy ax hp0) l D cy base mX6_readUnit dd mc ms [.ref (ax 5), .int (nI dp)] (atS s a) (rdQ s x ps (some (xR 0 8), a + 1)) := by
  refine MtW.of hl mfX6_readUnit rfl (Nat.le_of_ble_eq_true rfl) ?_
  refine EW.more (bc' := 1) (bs' := 8) hmc hms ?_
  have hn24 := hRJ.1.2.1
  have hT4 := hRJ.1.2.2.2.1
  obtain ⟨e9, he, -⟩ := hRJ.2.2.1
  have b0 := hT4 a
  refine EW.aload_n dX6_readUnit_0 rfl rfl ?_
  refine EC.get (k := 5) f_X6_9 dX6_readUnit_1 (by decide) rfl rfl ?_
  refine EW.aload_n dX6_readUnit_4 rfl rfl ?_
  refine EC.get (k := 5) f_X6_22 dX6_readUnit_5 (by decide) rfl rfl ?_
  refine EW.top atS_2 ?_
  refine EC.callV (bc := 1) (bs := 8) (mc' := 0) (ms' := 0) (k := 1) (C_atx hl 0 (atS s (a)) n tx (hRJ.at).1 (a) (by omega)) mfX0_at l_X6_29 mvX0_at (by omega) dX6_readUnit_8 rfl rfl (by decide) rfl rfl rfl (Nat.le_of_ble_eq_true rfl) (fun v8 s8 q8 => ?_) (fun _ _ q => nomatch q.1)
  obtain ⟨e8, h8⟩ := q8; cases e8; replace h8 := h8.symm; subst h8
  refine EW.istore_n dX6_readUnit_11 rfl (by decide) ?_
  refine EW.iload_n dX6_readUnit_12 rfl rfl ?_
  refine EW.bp 91 dX6_readUnit_13 ?_
  refine EW.icmp_ne 23 dX6_readUnit_15 (by decide) (fun c15 => ?_) (fun c15 => ?_)
  · have c15 : ¬ (tx (a) = 91) := fun h => c15 ((nI_eq (by omega) (by omega)).mpr h)
    refine EW.iload_n dX6_readUnit_23 rfl rfl ?_
    refine EW.bp 40 dX6_readUnit_24 ?_
    refine EW.icmp_ne 46 dX6_readUnit_26 (by decide) (fun c26 => ?_) (fun c26 => ?_)
    · have c26 : ¬ (tx (a) = 40) := fun h => c26 ((nI_eq (by omega) (by omega)).mpr h)
      refine EW.iload_n dX6_readUnit_46 rfl rfl ?_
      refine EW.bp 46 dX6_readUnit_47 ?_
      refine EW.icmp_ne 76 dX6_readUnit_49 (by decide) (fun c49 => ?_) (fun c49 => ?_)
      · have c49 : ¬ (tx (a) = 46) := fun h => c49 ((nI_eq (by omega) (by omega)).mpr h); exact absurd h0 c49
      · have c49 : tx (a) = 46 := (nI_eq (by omega) (by omega)).mp c49
        refine EW.aload_n dX6_readUnit_52 rfl rfl ?_
        refine EW.dup dX6_readUnit_53 rfl ?_
        refine EC.get (k := 5) f_X6_22 dX6_readUnit_54 (by decide) rfl rfl ?_
        refine EW.top atS_2 ?_
        refine EW.ic 1 dX6_readUnit_57 ?_
        refine EW.iadd dX6_readUnit_58 ?_
        refine EW.top (nI_add _ _) ?_
        refine EC.put2 f_X6_22 dX6_readUnit_59 ?_
        refine EW.eqs (s' := atS s (a + 1)) atS_at ?_
        refine EW.aload_n dX6_readUnit_62 rfl rfl ?_
        refine EC.get (k := 5) f_X6_18 dX6_readUnit_63 (by decide) rfl rfl ?_
        refine EW.rf hRJ.2.1 ?_
        refine EW.ic 1 dX6_readUnit_66 ?_
        refine EW.bp 97 dX6_readUnit_67 ?_
        refine EW.bp 105 dX6_readUnit_69 ?_
        refine EW.null dX6_readUnit_71 ?_
        refine EC.callE (bc := 0) (bs := 0) (mc' := 1) (ms' := 8) (C_addN hl 0 (a + 1) s x ps hRJ (nI (1)) (nI (97)) (nI (105))) mfX1_add l_X6_58 mvX1_add (by omega) dX6_readUnit_72 rfl rfl he rfl rfl (Nat.le_of_ble_eq_true rfl) (fun v72 s72 q72 => ?_) (fun _ _ q => by obtain ⟨_, e, _⟩ := q; cases e)
        obtain ⟨a72, e72, F72, n72⟩ := q72; cases e72
        refine EW.aret (r := some a72) rfl dX6_readUnit_75 ?_
        exact ⟨[a72], F72, a72, rfl, layR (lo := 0) (hi := 8) n72, _, n72, rfl⟩
    · have c26 : tx (a) = 40 := (nI_eq (by omega) (by omega)).mp c26; exact absurd c26 g40
  · have c15 : tx (a) = 91 := (nI_eq (by omega) (by omega)).mp c15; exact absurd c15 g91
set_option maxHeartbeats 4000000 in
theorem C_unitL (hl : l.stackTraces = false) (s : CSt) (x : Nat) (ps : List Nat) (a : Nat) (hRJ : RJ n tx s x ps) (ha : a ≤ n) (dp : Nat) (g91 : ¬ tx a = 91) (g40 : ¬ tx a = 40) (g46 : ¬ tx a = 46) (h0 : isL (tx a)) (dd mc ms : Nat) (hdd : 4 ≤ dd) (hmc : 1 ≤ mc) (hms : 8 ≤ ms) : MtW (IC cy ax hp0) l D cy base mX6_readUnit dd mc ms [.ref (ax 5), .int (nI dp)] (atS s a) (rdQ s x ps (some (xR (tx a - 97) (tx a - 97)), a + 1)) := by
  refine MtW.of hl mfX6_readUnit rfl (Nat.le_of_ble_eq_true rfl) ?_
  refine EW.more (bc' := 1) (bs' := 8) hmc hms ?_
  have hn24 := hRJ.1.2.1
  have hT4 := hRJ.1.2.2.2.1
  obtain ⟨e9, he, -⟩ := hRJ.2.2.1
  have b0 := hT4 a
  refine EW.aload_n dX6_readUnit_0 rfl rfl ?_
  refine EC.get (k := 5) f_X6_9 dX6_readUnit_1 (by decide) rfl rfl ?_
  refine EW.aload_n dX6_readUnit_4 rfl rfl ?_
  refine EC.get (k := 5) f_X6_22 dX6_readUnit_5 (by decide) rfl rfl ?_
  refine EW.top atS_2 ?_
  refine EC.callV (bc := 1) (bs := 8) (mc' := 0) (ms' := 0) (k := 1) (C_atx hl 0 (atS s (a)) n tx (hRJ.at).1 (a) (by omega)) mfX0_at l_X6_29 mvX0_at (by omega) dX6_readUnit_8 rfl rfl (by decide) rfl rfl rfl (Nat.le_of_ble_eq_true rfl) (fun v8 s8 q8 => ?_) (fun _ _ q => nomatch q.1)
  obtain ⟨e8, h8⟩ := q8; cases e8; replace h8 := h8.symm; subst h8
  refine EW.istore_n dX6_readUnit_11 rfl (by decide) ?_
  refine EW.iload_n dX6_readUnit_12 rfl rfl ?_
  refine EW.bp 91 dX6_readUnit_13 ?_
  refine EW.icmp_ne 23 dX6_readUnit_15 (by decide) (fun c15 => ?_) (fun c15 => ?_)
  · have c15 : ¬ (tx (a) = 91) := fun h => c15 ((nI_eq (by omega) (by omega)).mpr h)
    refine EW.iload_n dX6_readUnit_23 rfl rfl ?_
    refine EW.bp 40 dX6_readUnit_24 ?_
    refine EW.icmp_ne 46 dX6_readUnit_26 (by decide) (fun c26 => ?_) (fun c26 => ?_)
    · have c26 : ¬ (tx (a) = 40) := fun h => c26 ((nI_eq (by omega) (by omega)).mpr h)
      refine EW.iload_n dX6_readUnit_46 rfl rfl ?_
      refine EW.bp 46 dX6_readUnit_47 ?_
      refine EW.icmp_ne 76 dX6_readUnit_49 (by decide) (fun c49 => ?_) (fun c49 => ?_)
      · have c49 : ¬ (tx (a) = 46) := fun h => c49 ((nI_eq (by omega) (by omega)).mpr h)
        refine EW.iload_n dX6_readUnit_76 rfl rfl ?_
        refine EW.callSN (bc := 1) (bs := 8) (mc' := 0) (ms' := 0) (C_isL hl _ 0 (atS s (a)) (tx (a)) (Nat.lt_trans (hT4 _) (by decide))) mfX8_isLetter rfl l_X6_85 mvX8_isLetter (by omega) dX6_readUnit_77 rfl rfl (Nat.le_of_ble_eq_true rfl) (fun _ _ q => nomatch q.1) (fun v77 s77 q77 => ?_)
        obtain ⟨e77, h77⟩ := q77; cases e77; replace h77 := h77.symm; subst h77
        refine EW.top (y := nI 1) (by rw [if_pos h0]) ?_
        refine EW.if_eq 105 dX6_readUnit_80 (by decide) (fun c80 => ?_) (fun c80 => ?_)
        · exact absurd c80 (by decide +kernel)
        · refine EW.aload_n dX6_readUnit_83 rfl rfl ?_
          refine EW.dup dX6_readUnit_84 rfl ?_
          refine EC.get (k := 5) f_X6_22 dX6_readUnit_85 (by decide) rfl rfl ?_
          refine EW.top atS_2 ?_
          refine EW.ic 1 dX6_readUnit_88 ?_
          refine EW.iadd dX6_readUnit_89 ?_
          refine EW.top (nI_add _ _) ?_
          refine EC.put2 f_X6_22 dX6_readUnit_90 ?_
          refine EW.eqs (s' := atS s (a + 1)) atS_at ?_
          refine EW.aload_n dX6_readUnit_93 rfl rfl ?_
          refine EC.get (k := 5) f_X6_18 dX6_readUnit_94 (by decide) rfl rfl ?_
          refine EW.rf hRJ.2.1 ?_
          refine EW.ic 1 dX6_readUnit_97 ?_
          refine EW.iload_n dX6_readUnit_98 rfl rfl ?_
          refine EW.iload_n dX6_readUnit_99 rfl rfl ?_
          refine EW.null dX6_readUnit_100 ?_
          refine EC.callE (bc := 0) (bs := 0) (mc' := 1) (ms' := 8) (C_addN hl 0 (a + 1) s x ps hRJ (nI (1)) (nI (tx (a))) (nI (tx (a)))) mfX1_add l_X6_58 mvX1_add (by omega) dX6_readUnit_101 rfl rfl he rfl rfl (Nat.le_of_ble_eq_true rfl) (fun v101 s101 q101 => ?_) (fun _ _ q => by obtain ⟨_, e, _⟩ := q; cases e)
          obtain ⟨a101, e101, F101, n101⟩ := q101; cases e101
          refine EW.aret (r := some a101) rfl dX6_readUnit_104 ?_
          exact ⟨[a101], F101, a101, rfl, layR (by rw [n101, show 97 + (tx a - 97) = tx a by have := h0.1; omega]; rfl), _, n101, rfl⟩
      · have c49 : tx (a) = 46 := (nI_eq (by omega) (by omega)).mp c49; exact absurd c49 g46
    · have c26 : tx (a) = 40 := (nI_eq (by omega) (by omega)).mp c26; exact absurd c26 g40
  · have c15 : tx (a) = 91 := (nI_eq (by omega) (by omega)).mp c15; exact absurd c15 g91
set_option maxHeartbeats 4000000 in
theorem C_unitR (hl : l.stackTraces = false) (s : CSt) (x : Nat) (ps : List Nat) (a : Nat) (hRJ : RJ n tx s x ps) (ha : a ≤ n) (dp : Nat) (g91 : ¬ tx a = 91) (g40 : ¬ tx a = 40) (g46 : ¬ tx a = 46) (h1 : ¬ isL (tx a)) (h0 : isR (tx a)) (dd mc ms : Nat) (hdd : 4 ≤ dd) (hmc : 1 ≤ mc) (hms : 8 ≤ ms) : MtW (IC cy ax hp0) l D cy base mX6_readUnit dd mc ms [.ref (ax 5), .int (nI dp)] (atS s a) (rdQ s x ps (some (xC (tx a - 65)), a + 1)) := by
  refine MtW.of hl mfX6_readUnit rfl (Nat.le_of_ble_eq_true rfl) ?_
  refine EW.more (bc' := 1) (bs' := 8) hmc hms ?_
  have hn24 := hRJ.1.2.1
  have hT4 := hRJ.1.2.2.2.1
  obtain ⟨e9, he, -⟩ := hRJ.2.2.1
  have b0 := hT4 a
  have b65 := h0.1
  refine EW.aload_n dX6_readUnit_0 rfl rfl ?_
  refine EC.get (k := 5) f_X6_9 dX6_readUnit_1 (by decide) rfl rfl ?_
  refine EW.aload_n dX6_readUnit_4 rfl rfl ?_
  refine EC.get (k := 5) f_X6_22 dX6_readUnit_5 (by decide) rfl rfl ?_
  refine EW.top atS_2 ?_
  refine EC.callV (bc := 1) (bs := 8) (mc' := 0) (ms' := 0) (k := 1) (C_atx hl 0 (atS s (a)) n tx (hRJ.at).1 (a) (by omega)) mfX0_at l_X6_29 mvX0_at (by omega) dX6_readUnit_8 rfl rfl (by decide) rfl rfl rfl (Nat.le_of_ble_eq_true rfl) (fun v8 s8 q8 => ?_) (fun _ _ q => nomatch q.1)
  obtain ⟨e8, h8⟩ := q8; cases e8; replace h8 := h8.symm; subst h8
  refine EW.istore_n dX6_readUnit_11 rfl (by decide) ?_
  refine EW.iload_n dX6_readUnit_12 rfl rfl ?_
  refine EW.bp 91 dX6_readUnit_13 ?_
  refine EW.icmp_ne 23 dX6_readUnit_15 (by decide) (fun c15 => ?_) (fun c15 => ?_)
  · have c15 : ¬ (tx (a) = 91) := fun h => c15 ((nI_eq (by omega) (by omega)).mpr h)
    refine EW.iload_n dX6_readUnit_23 rfl rfl ?_
    refine EW.bp 40 dX6_readUnit_24 ?_
    refine EW.icmp_ne 46 dX6_readUnit_26 (by decide) (fun c26 => ?_) (fun c26 => ?_)
    · have c26 : ¬ (tx (a) = 40) := fun h => c26 ((nI_eq (by omega) (by omega)).mpr h)
      refine EW.iload_n dX6_readUnit_46 rfl rfl ?_
      refine EW.bp 46 dX6_readUnit_47 ?_
      refine EW.icmp_ne 76 dX6_readUnit_49 (by decide) (fun c49 => ?_) (fun c49 => ?_)
      · have c49 : ¬ (tx (a) = 46) := fun h => c49 ((nI_eq (by omega) (by omega)).mpr h)
        refine EW.iload_n dX6_readUnit_76 rfl rfl ?_
        refine EW.callSN (bc := 1) (bs := 8) (mc' := 0) (ms' := 0) (C_isL hl _ 0 (atS s (a)) (tx (a)) (Nat.lt_trans (hT4 _) (by decide))) mfX8_isLetter rfl l_X6_85 mvX8_isLetter (by omega) dX6_readUnit_77 rfl rfl (Nat.le_of_ble_eq_true rfl) (fun _ _ q => nomatch q.1) (fun v77 s77 q77 => ?_)
        obtain ⟨e77, h77⟩ := q77; cases e77; replace h77 := h77.symm; subst h77
        refine EW.top (y := nI 0) (by rw [if_neg h1]) ?_
        refine EW.if_eq 105 dX6_readUnit_80 (by decide) (fun c80 => ?_) (fun c80 => ?_)
        · refine EW.iload_n dX6_readUnit_105 rfl rfl ?_
          refine EW.callSN (bc := 1) (bs := 8) (mc' := 0) (ms' := 0) (C_isR hl _ 0 (atS s (a)) (tx (a)) (Nat.lt_trans (hT4 _) (by decide))) mfX8_isRuleLetter rfl l_X6_34 mvX8_isRuleLetter (by omega) dX6_readUnit_106 rfl rfl (Nat.le_of_ble_eq_true rfl) (fun _ _ q => nomatch q.1) (fun v106 s106 q106 => ?_)
          obtain ⟨e106, h106⟩ := q106; cases e106; replace h106 := h106.symm; subst h106
          refine EW.top (y := nI 1) (by rw [if_pos h0]) ?_
          refine EW.if_eq 137 dX6_readUnit_109 (by decide) (fun c109 => ?_) (fun c109 => ?_)
          · exact absurd c109 (by decide +kernel)
          · refine EW.aload_n dX6_readUnit_112 rfl rfl ?_
            refine EW.dup dX6_readUnit_113 rfl ?_
            refine EC.get (k := 5) f_X6_22 dX6_readUnit_114 (by decide) rfl rfl ?_
            refine EW.top atS_2 ?_
            refine EW.ic 1 dX6_readUnit_117 ?_
            refine EW.iadd dX6_readUnit_118 ?_
            refine EW.top (nI_add _ _) ?_
            refine EC.put2 f_X6_22 dX6_readUnit_119 ?_
            refine EW.eqs (s' := atS s (a + 1)) atS_at ?_
            refine EW.aload_n dX6_readUnit_122 rfl rfl ?_
            refine EC.get (k := 5) f_X6_18 dX6_readUnit_123 (by decide) rfl rfl ?_
            refine EW.rf hRJ.2.1 ?_
            refine EW.ic 2 dX6_readUnit_126 ?_
            refine EW.iload_n dX6_readUnit_127 rfl rfl ?_
            refine EW.bp 65 dX6_readUnit_128 ?_
            refine EW.isub dX6_readUnit_130 ?_
            refine EW.top (pk_sub (by omega)) ?_
            refine EW.ic 0 dX6_readUnit_131 ?_
            refine EW.null dX6_readUnit_132 ?_
            refine EC.callE (bc := 0) (bs := 0) (mc' := 1) (ms' := 8) (C_addN hl 0 (a + 1) s x ps hRJ (nI (2)) (nI ((tx (a)) - 65)) (nI (0))) mfX1_add l_X6_58 mvX1_add (by omega) dX6_readUnit_133 rfl rfl he rfl rfl (Nat.le_of_ble_eq_true rfl) (fun v133 s133 q133 => ?_) (fun _ _ q => by obtain ⟨_, e, _⟩ := q; cases e)
            obtain ⟨a133, e133, F133, n133⟩ := q133; cases e133
            refine EW.aret (r := some a133) rfl dX6_readUnit_136 ?_
            exact ⟨[a133], F133, a133, rfl, layC n133, _, n133, rfl⟩
        · exact absurd c80 (by decide +kernel)
      · have c49 : tx (a) = 46 := (nI_eq (by omega) (by omega)).mp c49; exact absurd c49 g46
    · have c26 : tx (a) = 40 := (nI_eq (by omega) (by omega)).mp c26; exact absurd c26 g40
  · have c15 : tx (a) = 91 := (nI_eq (by omega) (by omega)).mp c15; exact absurd c15 g91
set_option maxHeartbeats 4000000 in
theorem C_unitN (hl : l.stackTraces = false) (s : CSt) (x : Nat) (ps : List Nat) (a : Nat) (hRJ : RJ n tx s x ps) (ha : a ≤ n) (dp : Nat) (g91 : ¬ tx a = 91) (g40 : ¬ tx a = 40) (g46 : ¬ tx a = 46) (h1 : ¬ isL (tx a)) (h0 : ¬ isR (tx a)) (dd mc ms : Nat) (hdd : 3 ≤ dd) (hmc : 0 ≤ mc) (hms : 0 ≤ ms) : MtW (IC cy ax hp0) l D cy base mX6_readUnit dd mc ms [.ref (ax 5), .int (nI dp)] (atS s a) (rdQ s x ps (none, a)) := by
  refine MtW.of hl mfX6_readUnit rfl (Nat.le_of_ble_eq_true rfl) ?_
  refine EW.more (bc' := 0) (bs' := 0) hmc hms ?_
  have hn24 := hRJ.1.2.1
  have hT4 := hRJ.1.2.2.2.1
  obtain ⟨e9, he, -⟩ := hRJ.2.2.1
  have b0 := hT4 a
  refine EW.aload_n dX6_readUnit_0 rfl rfl ?_
  refine EC.get (k := 5) f_X6_9 dX6_readUnit_1 (by decide) rfl rfl ?_
  refine EW.aload_n dX6_readUnit_4 rfl rfl ?_
  refine EC.get (k := 5) f_X6_22 dX6_readUnit_5 (by decide) rfl rfl ?_
  refine EW.top atS_2 ?_
  refine EC.callV (bc := 0) (bs := 0) (mc' := 0) (ms' := 0) (k := 1) (C_atx hl 0 (atS s (a)) n tx (hRJ.at).1 (a) (by omega)) mfX0_at l_X6_29 mvX0_at (by omega) dX6_readUnit_8 rfl rfl (by decide) rfl rfl rfl (Nat.le_of_ble_eq_true rfl) (fun v8 s8 q8 => ?_) (fun _ _ q => nomatch q.1)
  obtain ⟨e8, h8⟩ := q8; cases e8; replace h8 := h8.symm; subst h8
  refine EW.istore_n dX6_readUnit_11 rfl (by decide) ?_
  refine EW.iload_n dX6_readUnit_12 rfl rfl ?_
  refine EW.bp 91 dX6_readUnit_13 ?_
  refine EW.icmp_ne 23 dX6_readUnit_15 (by decide) (fun c15 => ?_) (fun c15 => ?_)
  · have c15 : ¬ (tx (a) = 91) := fun h => c15 ((nI_eq (by omega) (by omega)).mpr h)
    refine EW.iload_n dX6_readUnit_23 rfl rfl ?_
    refine EW.bp 40 dX6_readUnit_24 ?_
    refine EW.icmp_ne 46 dX6_readUnit_26 (by decide) (fun c26 => ?_) (fun c26 => ?_)
    · have c26 : ¬ (tx (a) = 40) := fun h => c26 ((nI_eq (by omega) (by omega)).mpr h)
      refine EW.iload_n dX6_readUnit_46 rfl rfl ?_
      refine EW.bp 46 dX6_readUnit_47 ?_
      refine EW.icmp_ne 76 dX6_readUnit_49 (by decide) (fun c49 => ?_) (fun c49 => ?_)
      · have c49 : ¬ (tx (a) = 46) := fun h => c49 ((nI_eq (by omega) (by omega)).mpr h)
        refine EW.iload_n dX6_readUnit_76 rfl rfl ?_
        refine EW.callSN (bc := 0) (bs := 0) (mc' := 0) (ms' := 0) (C_isL hl _ 0 (atS s (a)) (tx (a)) (Nat.lt_trans (hT4 _) (by decide))) mfX8_isLetter rfl l_X6_85 mvX8_isLetter (by omega) dX6_readUnit_77 rfl rfl (Nat.le_of_ble_eq_true rfl) (fun _ _ q => nomatch q.1) (fun v77 s77 q77 => ?_)
        obtain ⟨e77, h77⟩ := q77; cases e77; replace h77 := h77.symm; subst h77
        refine EW.top (y := nI 0) (by rw [if_neg h1]) ?_
        refine EW.if_eq 105 dX6_readUnit_80 (by decide) (fun c80 => ?_) (fun c80 => ?_)
        · refine EW.iload_n dX6_readUnit_105 rfl rfl ?_
          refine EW.callSN (bc := 0) (bs := 0) (mc' := 0) (ms' := 0) (C_isR hl _ 0 (atS s (a)) (tx (a)) (Nat.lt_trans (hT4 _) (by decide))) mfX8_isRuleLetter rfl l_X6_34 mvX8_isRuleLetter (by omega) dX6_readUnit_106 rfl rfl (Nat.le_of_ble_eq_true rfl) (fun _ _ q => nomatch q.1) (fun v106 s106 q106 => ?_)
          obtain ⟨e106, h106⟩ := q106; cases e106; replace h106 := h106.symm; subst h106
          refine EW.top (y := nI 0) (by rw [if_neg h0]) ?_
          refine EW.if_eq 137 dX6_readUnit_109 (by decide) (fun c109 => ?_) (fun c109 => ?_)
          · refine EW.null dX6_readUnit_137 ?_
            refine EW.aret (r := none) rfl dX6_readUnit_138 ?_
            exact rdQ.no hRJ
          · exact absurd c109 (by decide +kernel)
        · exact absurd c80 (by decide +kernel)
      · have c49 : tx (a) = 46 := (nI_eq (by omega) (by omega)).mp c49; exact absurd c49 g46
    · have c26 : tx (a) = 40 := (nI_eq (by omega) (by omega)).mp c26; exact absurd c26 g40
  · have c15 : tx (a) = 91 := (nI_eq (by omega) (by omega)).mp c15; exact absurd c15 g91
set_option maxHeartbeats 4000000 in
theorem C_unitG4 (hl : l.stackTraces = false) (s : CSt) (x : Nat) (ps : List Nat) (a : Nat) (hRJ : RJ n tx s x ps) (ha : a ≤ n) (dp : Nat) (hdp : dp = 4) (g91 : ¬ tx a = 91) (h0 : tx a = 40) (dd mc ms : Nat) (hdd : 3 ≤ dd) (hmc : 0 ≤ mc) (hms : 0 ≤ ms) : MtW (IC cy ax hp0) l D cy base mX6_readUnit dd mc ms [.ref (ax 5), .int (nI dp)] (atS s a) (rdQ s x ps (none, a)) := by
  refine MtW.of hl mfX6_readUnit rfl (Nat.le_of_ble_eq_true rfl) ?_
  refine EW.more (bc' := 0) (bs' := 0) hmc hms ?_
  have hn24 := hRJ.1.2.1
  have hT4 := hRJ.1.2.2.2.1
  obtain ⟨e9, he, -⟩ := hRJ.2.2.1
  have b0 := hT4 a
  refine EW.aload_n dX6_readUnit_0 rfl rfl ?_
  refine EC.get (k := 5) f_X6_9 dX6_readUnit_1 (by decide) rfl rfl ?_
  refine EW.aload_n dX6_readUnit_4 rfl rfl ?_
  refine EC.get (k := 5) f_X6_22 dX6_readUnit_5 (by decide) rfl rfl ?_
  refine EW.top atS_2 ?_
  refine EC.callV (bc := 0) (bs := 0) (mc' := 0) (ms' := 0) (k := 1) (C_atx hl 0 (atS s (a)) n tx (hRJ.at).1 (a) (by omega)) mfX0_at l_X6_29 mvX0_at (by omega) dX6_readUnit_8 rfl rfl (by decide) rfl rfl rfl (Nat.le_of_ble_eq_true rfl) (fun v8 s8 q8 => ?_) (fun _ _ q => nomatch q.1)
  obtain ⟨e8, h8⟩ := q8; cases e8; replace h8 := h8.symm; subst h8
  refine EW.istore_n dX6_readUnit_11 rfl (by decide) ?_
  refine EW.iload_n dX6_readUnit_12 rfl rfl ?_
  refine EW.bp 91 dX6_readUnit_13 ?_
  refine EW.icmp_ne 23 dX6_readUnit_15 (by decide) (fun c15 => ?_) (fun c15 => ?_)
  · have c15 : ¬ (tx (a) = 91) := fun h => c15 ((nI_eq (by omega) (by omega)).mpr h)
    refine EW.iload_n dX6_readUnit_23 rfl rfl ?_
    refine EW.bp 40 dX6_readUnit_24 ?_
    refine EW.icmp_ne 46 dX6_readUnit_26 (by decide) (fun c26 => ?_) (fun c26 => ?_)
    · have c26 : ¬ (tx (a) = 40) := fun h => c26 ((nI_eq (by omega) (by omega)).mpr h); exact absurd h0 c26
    · have c26 : tx (a) = 40 := (nI_eq (by omega) (by omega)).mp c26
      refine EW.iload_n dX6_readUnit_29 rfl rfl ?_
      refine EW.ic 4 dX6_readUnit_30 ?_
      refine EW.icmp_ge 44 dX6_readUnit_31 (by decide) (fun c31 => ?_) (fun c31 => ?_)
      · have c31 : 4 ≤ dp := (nI_leI (by omega) (by omega)).mp c31
        refine EW.null dX6_readUnit_44 ?_
        refine EW.aret (r := none) rfl dX6_readUnit_45 ?_
        exact rdQ.no hRJ
      · have c31 : ¬ (4 ≤ dp) := fun h => c31 ((nI_leI (by omega) (by omega)).mpr h); omega
  · have c15 : tx (a) = 91 := (nI_eq (by omega) (by omega)).mp c15; exact absurd c15 g91
end C15
