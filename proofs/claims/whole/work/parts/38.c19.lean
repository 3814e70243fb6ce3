section C19
variable {cy : Nat → ClassId} {ax : Nat → Nat} {hp0 : Hp} {l : Launch} {D : va_G} {base : Nat} {n : Nat} {tx : Nat → Nat}
/-- with a new expression x to be read, and the rule v -/
def B1 (s : CSt) (x : Nat) : CSt := (s.1, s.2.1, some x, s.2.2.2.1, s.2.2.2.2.1, va_up s.2.2.2.2.2 x (some (none, none)))
def B0 (s : CSt) (v : Int32) (x : Nat) : CSt := B1 (va_up s.1 3 v, s.2) x
theorem va_comm {α : Type} {f : Nat → α} {i j : Nat} {a b : α} (h : i ≠ j) : va_up (va_up f i a) j b = va_up (va_up f j b) i a := by
  funext k
  by_cases h1 : k = j
  · subst h1
    rw [va_up_self, va_up_ne _ _ (fun e => h e.symm), va_up_self]
  · rw [va_up_ne _ _ h1]
    by_cases h2 : k = i
    · subst h2
      rw [va_up_self, va_up_self]
    · rw [va_up_ne _ _ h2, va_up_ne _ _ h2, va_up_ne _ _ h1]
theorem atS_3 {s : CSt} {x i : Nat} {v : Int32} : (va_up (atS (B1 s x) i).1 3 v, (atS (B1 s x) i).2) = atS (B0 s v x) i := by
  show (va_up (va_up s.1 2 (nI i)) 3 v, (B1 s x).2) = (va_up (va_up s.1 3 v) 2 (nI i), (B1 s x).2)
  rw [va_comm (by decide)]
theorem B0_same {s : CSt} {x : Nat} : B1 s x = B0 s (s.1 3) x := by
  unfold B0
  rw [va_same]
def pRead (tx : Nat → Nat) (n : Nat) : Pr := if ¬ isR (tx 0) then (none, 0) else if ¬ tx 1 = 61 then (none, 1) else match pG tx 4 2 with
  | (none, b) => (none, b)
  | (some e, b) => if b < n then (none, b) else (some e, b)
/-- how read ends -/
def reQ (TX : Nat) (s : CSt) (r : Pr) : Oc → CSt → Prop := fun o s2 => ∃ (x : Nat) (v : Int32) (qs : List Nat), s.2.2.2.2.1 x = none ∧ s.2.2.2.2.2 x = none ∧ rdF (B0 s v x) s2 x [] qs r.2 ∧ match r.1 with
  | none => o = .inl (some (va_rf none))
  | some t => o = .inl (some (.ref x)) ∧ v = nI (TX - 65) ∧ ∃ p np, layE s2.2.2.2.2.1 t qs p ∧ s2.2.2.2.2.1 p = some np ∧ nNext np = none
theorem C_exInit (hl : l.stackTraces = false) (d q : Nat) (s : CSt) : MtW (IC cy ax hp0) l D cy base mX1_init (d + 1) 0 0 [.ref q] s (fun o s2 => o = .inl none ∧ s2 = s) := by
  refine MtW.of hl mfX1_init rfl (Nat.le_of_ble_eq_true rfl) ?_
  refine EW.aload_n dX1_init_0 rfl rfl ?_
  refine EW.objInit o_X1_3 (by omega) dX1_init_1 (Nat.le_of_ble_eq_true rfl) ?_
  refine EW.vret rfl dX1_init_4 ?_
  exact ⟨rfl, rfl⟩
set_option maxHeartbeats 4000000 in
theorem C_read1 (hl : l.stackTraces = false) (s : CSt) (hT : TXT s n tx) (h0 : ¬ isR (tx 0)) (dd mc ms : Nat) (hdd : 60 ≤ dd) (hmc : 0 + 1 ≤ mc) (hms : 0 + 2 ≤ ms) : MtW (IC cy ax hp0) l D cy base mX6_read dd mc ms [.ref (ax 5)] s (reQ (tx 0) s (none, 0)) := by
  refine MtW.of hl mfX6_read rfl (Nat.le_of_ble_eq_true rfl) ?_
  refine EW.more (bc' := 0 + 1) (bs' := 0 + 2) hmc hms ?_
  have hz := hT.2.2.2.2
  have hn24 := hT.2.1
  have hT4 := hT.2.2.2.1
  have t0 := hT4 0
  refine EW.aload_n dX6_read_0 rfl rfl ?_
  refine EW.ic 0 dX6_read_1 ?_
  refine EC.put2 f_X6_22 dX6_read_2 ?_
  refine EW.aload_n dX6_read_5 rfl rfl ?_
  refine EC.newExpr n_X6_15 dX6_read_6 (fun x hx1 hx2 => ?_)
  refine EW.dup dX6_read_9 rfl ?_
  refine EW.callI (bc := 0) (bs := 0) (mc' := 0) (ms' := 0) (C_exInit hl 0 x _) mfX1_init rfl (Or.inr l_X6_17) mvX1_init (by omega) dX6_read_10 rfl rfl (Nat.le_of_ble_eq_true rfl) (fun _ _ q => nomatch q.1) (fun v s1 q9 => ?_)
  obtain ⟨e1, e2⟩ := q9
  cases e1
  subst e2
  refine EC.putX (r := some x) f_X6_18 dX6_read_13 ?_
  refine EW.eqs (s' := atS (B1 s x) 0) rfl ?_
  have hJ : RJ n tx (B1 s x) x [] := ⟨hT, rfl, ⟨(none, none), va_up_self _ _ _, rfl, rfl⟩, List.nodup_nil⟩
  have hJ0 : RJ n tx (B0 s (nI (tx 0 - 65)) x) x [] := ⟨⟨(show va_up s.1 3 (nI (tx 0 - 65)) 0 = nI n by rw [va_up_ne _ _ (by decide)]; exact hT.1), hT.2⟩, rfl, ⟨(none, none), va_up_self _ _ _, rfl, rfl⟩, List.nodup_nil⟩
  refine EW.aload_n dX6_read_16 rfl rfl ?_
  refine EC.get (k := 5) f_X6_9 dX6_read_17 (by decide) rfl rfl ?_
  refine EW.aload_n dX6_read_20 rfl rfl ?_
  refine EC.get (k := 5) f_X6_22 dX6_read_21 (by decide) rfl rfl ?_
  refine EW.top atS_2 ?_
  refine EC.callV (bc := 0) (bs := 0) (mc' := 0) (ms' := 0) (k := 1) (C_atx hl 0 (atS (B1 s x) (0)) n tx (hJ.at).1 (0) (by omega)) mfX0_at l_X6_29 mvX0_at (by omega) dX6_read_24 rfl rfl (by decide) rfl rfl rfl (Nat.le_of_ble_eq_true rfl) (fun v24 s24 q24 => ?_) (fun _ _ q => nomatch q.1)
  obtain ⟨e24, h24⟩ := q24; cases e24; replace h24 := h24.symm; subst h24
  refine EW.istore_n dX6_read_27 rfl (by decide) ?_
  refine EW.iload_n dX6_read_28 rfl rfl ?_
  refine EW.callSN (bc := 0) (bs := 0) (mc' := 0) (ms' := 0) (C_isR hl _ 0 (atS (B1 s x) (0)) (tx (0)) (Nat.lt_trans (hT4 _) (by decide))) mfX8_isRuleLetter rfl l_X6_34 mvX8_isRuleLetter (by omega) dX6_read_29 rfl rfl (Nat.le_of_ble_eq_true rfl) (fun _ _ q => nomatch q.1) (fun v29 s29 q29 => ?_)
  obtain ⟨e29, h29⟩ := q29; cases e29; replace h29 := h29.symm; subst h29
  refine EW.top (y := nI 0) (by rw [if_neg h0]) ?_
  refine EW.if_ne 37 dX6_read_32 (by decide) (fun c32 => ?_) (fun c32 => ?_)
  · exact absurd c32 (by decide +kernel)
  · refine EW.null dX6_read_35 ?_
    refine EW.aret (r := none) rfl dX6_read_36 ?_
    exact ⟨x, s.1 3, [], hx1, hx2, by rw [← B0_same]; exact rdF.rf hJ 0, rfl⟩
set_option maxHeartbeats 4000000 in
theorem C_read2 (hl : l.stackTraces = false) (s : CSt) (hT : TXT s n tx) (h0 : isR (tx 0)) (h65 : 65 ≤ tx 0) (h1 : ¬ tx 1 = 61) (dd mc ms : Nat) (hdd : 60 ≤ dd) (hmc : 0 + 1 ≤ mc) (hms : 0 + 2 ≤ ms) : MtW (IC cy ax hp0) l D cy base mX6_read dd mc ms [.ref (ax 5)] s (reQ (tx 0) s (none, 1)) := by
  refine MtW.of hl mfX6_read rfl (Nat.le_of_ble_eq_true rfl) ?_
  refine EW.more (bc' := 0 + 1) (bs' := 0 + 2) hmc hms ?_
  have hz := hT.2.2.2.2
  have hn24 := hT.2.1
  have hT4 := hT.2.2.2.1
  have t0 := hT4 0
  refine EW.aload_n dX6_read_0 rfl rfl ?_
  refine EW.ic 0 dX6_read_1 ?_
  refine EC.put2 f_X6_22 dX6_read_2 ?_
  refine EW.aload_n dX6_read_5 rfl rfl ?_
  refine EC.newExpr n_X6_15 dX6_read_6 (fun x hx1 hx2 => ?_)
  refine EW.dup dX6_read_9 rfl ?_
  refine EW.callI (bc := 0) (bs := 0) (mc' := 0) (ms' := 0) (C_exInit hl 0 x _) mfX1_init rfl (Or.inr l_X6_17) mvX1_init (by omega) dX6_read_10 rfl rfl (Nat.le_of_ble_eq_true rfl) (fun _ _ q => nomatch q.1) (fun v s1 q9 => ?_)
  obtain ⟨e1, e2⟩ := q9
  cases e1
  subst e2
  refine EC.putX (r := some x) f_X6_18 dX6_read_13 ?_
  refine EW.eqs (s' := atS (B1 s x) 0) rfl ?_
  have hJ : RJ n tx (B1 s x) x [] := ⟨hT, rfl, ⟨(none, none), va_up_self _ _ _, rfl, rfl⟩, List.nodup_nil⟩
  have hJ0 : RJ n tx (B0 s (nI (tx 0 - 65)) x) x [] := ⟨⟨(show va_up s.1 3 (nI (tx 0 - 65)) 0 = nI n by rw [va_up_ne _ _ (by decide)]; exact hT.1), hT.2⟩, rfl, ⟨(none, none), va_up_self _ _ _, rfl, rfl⟩, List.nodup_nil⟩
  refine EW.aload_n dX6_read_16 rfl rfl ?_
  refine EC.get (k := 5) f_X6_9 dX6_read_17 (by decide) rfl rfl ?_
  refine EW.aload_n dX6_read_20 rfl rfl ?_
  refine EC.get (k := 5) f_X6_22 dX6_read_21 (by decide) rfl rfl ?_
  refine EW.top atS_2 ?_
  refine EC.callV (bc := 0) (bs := 0) (mc' := 0) (ms' := 0) (k := 1) (C_atx hl 0 (atS (B1 s x) (0)) n tx (hJ.at).1 (0) (by omega)) mfX0_at l_X6_29 mvX0_at (by omega) dX6_read_24 rfl rfl (by decide) rfl rfl rfl (Nat.le_of_ble_eq_true rfl) (fun v24 s24 q24 => ?_) (fun _ _ q => nomatch q.1)
  obtain ⟨e24, h24⟩ := q24; cases e24; replace h24 := h24.symm; subst h24
  refine EW.istore_n dX6_read_27 rfl (by decide) ?_
  refine EW.iload_n dX6_read_28 rfl rfl ?_
  refine EW.callSN (bc := 0) (bs := 0) (mc' := 0) (ms' := 0) (C_isR hl _ 0 (atS (B1 s x) (0)) (tx (0)) (Nat.lt_trans (hT4 _) (by decide))) mfX8_isRuleLetter rfl l_X6_34 mvX8_isRuleLetter (by omega) dX6_read_29 rfl rfl (Nat.le_of_ble_eq_true rfl) (fun _ _ q => nomatch q.1) (fun v29 s29 q29 => ?_)
  obtain ⟨e29, h29⟩ := q29; cases e29; replace h29 := h29.symm; subst h29
  refine EW.top (y := nI 1) (by rw [if_pos h0]) ?_
  refine EW.if_ne 37 dX6_read_32 (by decide) (fun c32 => ?_) (fun c32 => ?_)
  · refine EW.aload_n dX6_read_37 rfl rfl ?_
    refine EW.iload_n dX6_read_38 rfl rfl ?_
    refine EW.bp 65 dX6_read_39 ?_
    refine EW.isub dX6_read_41 ?_
    refine EW.top (pk_sub (by omega)) ?_
    refine EC.put3 f_X6_26 dX6_read_42 ?_
    refine EW.eqs (s' := atS (B0 s (nI (tx 0 - 65)) x) 0) atS_3 ?_
    refine EW.aload_n dX6_read_45 rfl rfl ?_
    refine EW.dup dX6_read_46 rfl ?_
    refine EC.get (k := 5) f_X6_22 dX6_read_47 (by decide) rfl rfl ?_
    refine EW.top atS_2 ?_
    refine EW.ic 1 dX6_read_50 ?_
    refine EW.iadd dX6_read_51 ?_
    refine EW.top (nI_add _ _) ?_
    refine EC.put2 f_X6_22 dX6_read_52 ?_
    refine EW.eqs (s' := atS (B0 s (nI (tx 0 - 65)) x) (1)) atS_at ?_
    refine EW.aload_n dX6_read_55 rfl rfl ?_
    refine EW.bp 61 dX6_read_56 ?_
    refine EC.callV (bc := 0) (bs := 0) (mc' := 0) (ms' := 0) (k := 5) (C_take0 hl 0 (atS (B0 s (nI (tx 0 - 65)) x) (1)) n tx (hJ0.at).1 (1) 61 atS_2 (by omega) (by decide) h1) mfX6_take l_X6_38 mvX6_take (by omega) dX6_read_58 rfl rfl (by decide) rfl rfl rfl (Nat.le_of_ble_eq_true rfl) (fun v58 s58 q58 => ?_) (fun _ _ q => nomatch q.1)
    obtain ⟨e58, h58⟩ := q58; cases e58; replace h58 := h58.symm; subst h58
    refine EW.if_eq 86 dX6_read_61 (by decide) (fun c61 => ?_) (fun c61 => ?_)
    · refine EW.null dX6_read_86 ?_
      refine EW.aret (r := none) rfl dX6_read_87 ?_
      exact ⟨x, nI (tx 0 - 65), [], hx1, hx2, rdF.rf hJ0 1, rfl⟩
    · exact absurd c61 (by decide +kernel)
  · exact absurd c32 (by decide +kernel)
set_option maxHeartbeats 4000000 in
theorem C_read3 (hl : l.stackTraces = false) (s : CSt) (hT : TXT s n tx) (h0 : isR (tx 0)) (h65 : 65 ≤ tx 0) (h1 : tx 1 = 61) (dd : Nat) (c9 m9 b : Nat) (hb : b ≤ n) (hC : ∀ x, RJ n tx (B0 s (nI (tx 0 - 65)) x) x [] → MtW (IC cy ax hp0) l D cy base mX6_readChoice (dd - 1) c9 m9 [.ref (ax 5), .int (nI 0)] (atS (B0 s (nI (tx 0 - 65)) x) 2) (rdQ (B0 s (nI (tx 0 - 65)) x) x [] (none, b))) (mc ms : Nat) (hdd : 60 ≤ dd) (hmc : (0 + c9) + 1 ≤ mc) (hms : (0 + m9) + 2 ≤ ms) : MtW (IC cy ax hp0) l D cy base mX6_read dd mc ms [.ref (ax 5)] s (reQ (tx 0) s (none, b)) := by
  refine MtW.of hl mfX6_read rfl (Nat.le_of_ble_eq_true rfl) ?_
  refine EW.more (bc' := (0 + c9) + 1) (bs' := (0 + m9) + 2) hmc hms ?_
  have hz := hT.2.2.2.2
  have hn24 := hT.2.1
  have hT4 := hT.2.2.2.1
  have t0 := hT4 0
  refine EW.aload_n dX6_read_0 rfl rfl ?_
  refine EW.ic 0 dX6_read_1 ?_
  refine EC.put2 f_X6_22 dX6_read_2 ?_
  refine EW.aload_n dX6_read_5 rfl rfl ?_
  refine EC.newExpr n_X6_15 dX6_read_6 (fun x hx1 hx2 => ?_)
  refine EW.dup dX6_read_9 rfl ?_
  refine EW.callI (bc := (0 + c9)) (bs := (0 + m9)) (mc' := 0) (ms' := 0) (C_exInit hl 0 x _) mfX1_init rfl (Or.inr l_X6_17) mvX1_init (by omega) dX6_read_10 rfl rfl (Nat.le_of_ble_eq_true rfl) (fun _ _ q => nomatch q.1) (fun v s1 q9 => ?_)
  obtain ⟨e1, e2⟩ := q9
  cases e1
  subst e2
  refine EC.putX (r := some x) f_X6_18 dX6_read_13 ?_
  refine EW.eqs (s' := atS (B1 s x) 0) rfl ?_
  have hJ : RJ n tx (B1 s x) x [] := ⟨hT, rfl, ⟨(none, none), va_up_self _ _ _, rfl, rfl⟩, List.nodup_nil⟩
  have hJ0 : RJ n tx (B0 s (nI (tx 0 - 65)) x) x [] := ⟨⟨(show va_up s.1 3 (nI (tx 0 - 65)) 0 = nI n by rw [va_up_ne _ _ (by decide)]; exact hT.1), hT.2⟩, rfl, ⟨(none, none), va_up_self _ _ _, rfl, rfl⟩, List.nodup_nil⟩
  refine EW.aload_n dX6_read_16 rfl rfl ?_
  refine EC.get (k := 5) f_X6_9 dX6_read_17 (by decide) rfl rfl ?_
  refine EW.aload_n dX6_read_20 rfl rfl ?_
  refine EC.get (k := 5) f_X6_22 dX6_read_21 (by decide) rfl rfl ?_
  refine EW.top atS_2 ?_
  refine EC.callV (bc := (0 + c9)) (bs := (0 + m9)) (mc' := 0) (ms' := 0) (k := 1) (C_atx hl 0 (atS (B1 s x) (0)) n tx (hJ.at).1 (0) (by omega)) mfX0_at l_X6_29 mvX0_at (by omega) dX6_read_24 rfl rfl (by decide) rfl rfl rfl (Nat.le_of_ble_eq_true rfl) (fun v24 s24 q24 => ?_) (fun _ _ q => nomatch q.1)
  obtain ⟨e24, h24⟩ := q24; cases e24; replace h24 := h24.symm; subst h24
  refine EW.istore_n dX6_read_27 rfl (by decide) ?_
  refine EW.iload_n dX6_read_28 rfl rfl ?_
  refine EW.callSN (bc := (0 + c9)) (bs := (0 + m9)) (mc' := 0) (ms' := 0) (C_isR hl _ 0 (atS (B1 s x) (0)) (tx (0)) (Nat.lt_trans (hT4 _) (by decide))) mfX8_isRuleLetter rfl l_X6_34 mvX8_isRuleLetter (by omega) dX6_read_29 rfl rfl (Nat.le_of_ble_eq_true rfl) (fun _ _ q => nomatch q.1) (fun v29 s29 q29 => ?_)
  obtain ⟨e29, h29⟩ := q29; cases e29; replace h29 := h29.symm; subst h29
  refine EW.top (y := nI 1) (by rw [if_pos h0]) ?_
  refine EW.if_ne 37 dX6_read_32 (by decide) (fun c32 => ?_) (fun c32 => ?_)
  · refine EW.aload_n dX6_read_37 rfl rfl ?_
    refine EW.iload_n dX6_read_38 rfl rfl ?_
    refine EW.bp 65 dX6_read_39 ?_
    refine EW.isub dX6_read_41 ?_
    refine EW.top (pk_sub (by omega)) ?_
    refine EC.put3 f_X6_26 dX6_read_42 ?_
    refine EW.eqs (s' := atS (B0 s (nI (tx 0 - 65)) x) 0) atS_3 ?_
    refine EW.aload_n dX6_read_45 rfl rfl ?_
    refine EW.dup dX6_read_46 rfl ?_
    refine EC.get (k := 5) f_X6_22 dX6_read_47 (by decide) rfl rfl ?_
    refine EW.top atS_2 ?_
    refine EW.ic 1 dX6_read_50 ?_
    refine EW.iadd dX6_read_51 ?_
    refine EW.top (nI_add _ _) ?_
    refine EC.put2 f_X6_22 dX6_read_52 ?_
    refine EW.eqs (s' := atS (B0 s (nI (tx 0 - 65)) x) (1)) atS_at ?_
    refine EW.aload_n dX6_read_55 rfl rfl ?_
    refine EW.bp 61 dX6_read_56 ?_
    refine EC.callV (bc := (0 + c9)) (bs := (0 + m9)) (mc' := 0) (ms' := 0) (k := 5) (C_take1 hl 0 (atS (B0 s (nI (tx 0 - 65)) x) (1)) n tx (hJ0.at).1 (1) 61 atS_2 (by omega) (by decide) h1) mfX6_take l_X6_38 mvX6_take (by omega) dX6_read_58 rfl rfl (by decide) rfl rfl rfl (Nat.le_of_ble_eq_true rfl) (fun v58 s58 q58 => ?_) (fun _ _ q => nomatch q.1)
    obtain ⟨e58, h58⟩ := q58; cases e58; replace h58 := h58.symm; subst h58
    refine EW.eqs (s' := atS (B0 s (nI (tx 0 - 65)) x) (2)) atS_at ?_
    refine EW.if_eq 86 dX6_read_61 (by decide) (fun c61 => ?_) (fun c61 => ?_)
    · exact absurd c61 (by decide +kernel)
    · refine EW.aload_n dX6_read_64 rfl rfl ?_
      refine EW.ic 0 dX6_read_65 ?_
      refine EC.rdN (bc := 0) (bs := 0) (mc' := c9) (ms' := m9) (hC x hJ0) mfX6_readChoice l_X6_41 mvX6_readChoice (by omega) dX6_read_66 rfl rfl rfl rfl (Nat.le_of_ble_eq_true rfl) (fun s66 qs66 F66 => ?_)
      refine EW.eqs F66.at ?_
      have J66 := F66.rj hJ0
      obtain ⟨e66, he66, -⟩ := J66.2.2.1
      refine EW.ifnull (r := none) 86 dX6_read_69 (by decide) (fun _ => ?_) (fun _ h => nomatch h)
      refine EW.null dX6_read_86 ?_
      refine EW.aret (r := none) rfl dX6_read_87 ?_
      exact ⟨x, nI (tx 0 - 65), qs66, hx1, hx2, F66.mv b, rfl⟩
  · exact absurd c32 (by decide +kernel)
set_option maxHeartbeats 4000000 in
theorem C_read4 (hl : l.stackTraces = false) (s : CSt) (hT : TXT s n tx) (h0 : isR (tx 0)) (h65 : 65 ≤ tx 0) (h1 : tx 1 = 61) (dd : Nat) (c9 m9 b : Nat) (hb : b ≤ n) (t : Ex) (hlt : b < n) (hC : ∀ x, RJ n tx (B0 s (nI (tx 0 - 65)) x) x [] → MtW (IC cy ax hp0) l D cy base mX6_readChoice (dd - 1) c9 m9 [.ref (ax 5), .int (nI 0)] (atS (B0 s (nI (tx 0 - 65)) x) 2) (rdQ (B0 s (nI (tx 0 - 65)) x) x [] (some t, b))) (mc ms : Nat) (hdd : 60 ≤ dd) (hmc : (0 + c9) + 1 ≤ mc) (hms : (0 + m9) + 2 ≤ ms) : MtW (IC cy ax hp0) l D cy base mX6_read dd mc ms [.ref (ax 5)] s (reQ (tx 0) s (none, b)) := by
  refine MtW.of hl mfX6_read rfl (Nat.le_of_ble_eq_true rfl) ?_
  refine EW.more (bc' := (0 + c9) + 1) (bs' := (0 + m9) + 2) hmc hms ?_
  have hz := hT.2.2.2.2
  have hn24 := hT.2.1
  have hT4 := hT.2.2.2.1
  have t0 := hT4 0
  refine EW.aload_n dX6_read_0 rfl rfl ?_
  refine EW.ic 0 dX6_read_1 ?_
  refine EC.put2 f_X6_22 dX6_read_2 ?_
  refine EW.aload_n dX6_read_5 rfl rfl ?_
  refine EC.newExpr n_X6_15 dX6_read_6 (fun x hx1 hx2 => ?_)
  refine EW.dup dX6_read_9 rfl ?_
  refine EW.callI (bc := (0 + c9)) (bs := (0 + m9)) (mc' := 0) (ms' := 0) (C_exInit hl 0 x _) mfX1_init rfl (Or.inr l_X6_17) mvX1_init (by omega) dX6_read_10 rfl rfl (Nat.le_of_ble_eq_true rfl) (fun _ _ q => nomatch q.1) (fun v s1 q9 => ?_)
  obtain ⟨e1, e2⟩ := q9
  cases e1
  subst e2
  refine EC.putX (r := some x) f_X6_18 dX6_read_13 ?_
  refine EW.eqs (s' := atS (B1 s x) 0) rfl ?_
  have hJ : RJ n tx (B1 s x) x [] := ⟨hT, rfl, ⟨(none, none), va_up_self _ _ _, rfl, rfl⟩, List.nodup_nil⟩
  have hJ0 : RJ n tx (B0 s (nI (tx 0 - 65)) x) x [] := ⟨⟨(show va_up s.1 3 (nI (tx 0 - 65)) 0 = nI n by rw [va_up_ne _ _ (by decide)]; exact hT.1), hT.2⟩, rfl, ⟨(none, none), va_up_self _ _ _, rfl, rfl⟩, List.nodup_nil⟩
  refine EW.aload_n dX6_read_16 rfl rfl ?_
  refine EC.get (k := 5) f_X6_9 dX6_read_17 (by decide) rfl rfl ?_
  refine EW.aload_n dX6_read_20 rfl rfl ?_
  refine EC.get (k := 5) f_X6_22 dX6_read_21 (by decide) rfl rfl ?_
  refine EW.top atS_2 ?_
  refine EC.callV (bc := (0 + c9)) (bs := (0 + m9)) (mc' := 0) (ms' := 0) (k := 1) (C_atx hl 0 (atS (B1 s x) (0)) n tx (hJ.at).1 (0) (by omega)) mfX0_at l_X6_29 mvX0_at (by omega) dX6_read_24 rfl rfl (by decide) rfl rfl rfl (Nat.le_of_ble_eq_true rfl) (fun v24 s24 q24 => ?_) (fun _ _ q => nomatch q.1)
  obtain ⟨e24, h24⟩ := q24; cases e24; replace h24 := h24.symm; subst h24
  refine EW.istore_n dX6_read_27 rfl (by decide) ?_
  refine EW.iload_n dX6_read_28 rfl rfl ?_
  refine EW.callSN (bc := (0 + c9)) (bs := (0 + m9)) (mc' := 0) (ms' := 0) (C_isR hl _ 0 (atS (B1 s x) (0)) (tx (0)) (Nat.lt_trans (hT4 _) (by decide))) mfX8_isRuleLetter rfl l_X6_34 mvX8_isRuleLetter (by omega) dX6_read_29 rfl rfl (Nat.le_of_ble_eq_true rfl) (fun _ _ q => nomatch q.1) (fun v29 s29 q29 => ?_)
  obtain ⟨e29, h29⟩ := q29; cases e29; replace h29 := h29.symm; subst h29
  refine EW.top (y := nI 1) (by rw [if_pos h0]) ?_
  refine EW.if_ne 37 dX6_read_32 (by decide) (fun c32 => ?_) (fun c32 => ?_)
  · refine EW.aload_n dX6_read_37 rfl rfl ?_
    refine EW.iload_n dX6_read_38 rfl rfl ?_
    refine EW.bp 65 dX6_read_39 ?_
    refine EW.isub dX6_read_41 ?_
    refine EW.top (pk_sub (by omega)) ?_
    refine EC.put3 f_X6_26 dX6_read_42 ?_
    refine EW.eqs (s' := atS (B0 s (nI (tx 0 - 65)) x) 0) atS_3 ?_
    refine EW.aload_n dX6_read_45 rfl rfl ?_
    refine EW.dup dX6_read_46 rfl ?_
    refine EC.get (k := 5) f_X6_22 dX6_read_47 (by decide) rfl rfl ?_
    refine EW.top atS_2 ?_
    refine EW.ic 1 dX6_read_50 ?_
    refine EW.iadd dX6_read_51 ?_
    refine EW.top (nI_add _ _) ?_
    refine EC.put2 f_X6_22 dX6_read_52 ?_
    refine EW.eqs (s' := atS (B0 s (nI (tx 0 - 65)) x) (1)) atS_at ?_
    refine EW.aload_n dX6_read_55 rfl rfl ?_
    refine EW.bp 61 dX6_read_56 ?_
    refine EC.callV (bc := (0 + c9)) (bs := (0 + m9)) (mc' := 0) (ms' := 0) (k := 5) (C_take1 hl 0 (atS (B0 s (nI (tx 0 - 65)) x) (1)) n tx (hJ0.at).1 (1) 61 atS_2 (by omega) (by decide) h1) mfX6_take l_X6_38 mvX6_take (by omega) dX6_read_58 rfl rfl (by decide) rfl rfl rfl (Nat.le_of_ble_eq_true rfl) (fun v58 s58 q58 => ?_) (fun _ _ q => nomatch q.1)
    obtain ⟨e58, h58⟩ := q58; cases e58; replace h58 := h58.symm; subst h58
    refine EW.eqs (s' := atS (B0 s (nI (tx 0 - 65)) x) (2)) atS_at ?_
    refine EW.if_eq 86 dX6_read_61 (by decide) (fun c61 => ?_) (fun c61 => ?_)
    · exact absurd c61 (by decide +kernel)
    · refine EW.aload_n dX6_read_64 rfl rfl ?_
      refine EW.ic 0 dX6_read_65 ?_
      refine EC.rdS (bc := 0) (bs := 0) (mc' := c9) (ms' := m9) (hC x hJ0) mfX6_readChoice l_X6_41 mvX6_readChoice (by omega) dX6_read_66 rfl rfl rfl rfl (Nat.le_of_ble_eq_true rfl) (fun s66 qs66 p66 np66 F66 hl66 hp66 hx66 => ?_)
      refine EW.eqs F66.at ?_
      have J66 := F66.rj hJ0
      obtain ⟨e66, he66, -⟩ := J66.2.2.1
      refine EW.ifnull (r := some p66) 86 dX6_read_69 (by decide) (fun h => nomatch h) (fun _ _ => ?_)
      refine EW.aload_n dX6_read_72 rfl rfl ?_
      refine EC.get (k := 5) f_X6_22 dX6_read_73 (by decide) rfl rfl ?_
      refine EW.top atS_2 ?_
      refine EW.aload_n dX6_read_76 rfl rfl ?_
      refine EC.get (k := 5) f_X6_9 dX6_read_77 (by decide) rfl rfl ?_
      refine EC.callV (bc := 0) (bs := 0) (mc' := 0) (ms' := 0) (k := 1) (C_size_pad hl 0 (atS s66 b)) mfX0_size l_X6_45 mvX0_size (by omega) dX6_read_80 rfl rfl (by decide) rfl rfl rfl (Nat.le_of_ble_eq_true rfl) (fun v80 s80 q80 => ?_) (fun _ _ q => nomatch q.1)
      obtain ⟨e80, h80⟩ := q80; cases e80; replace h80 := h80.symm; subst h80
      refine EW.top (y := nI n) J66.1.1 ?_
      refine EW.icmp_ge 88 dX6_read_83 (by decide) (fun c83 => ?_) (fun c83 => ?_)
      · have c83 : n ≤ b := (nI_leI (by omega) (by omega)).mp c83; omega
      · have c83 : ¬ (n ≤ b) := fun h => c83 ((nI_leI (by omega) (by omega)).mpr h)
        refine EW.null dX6_read_86 ?_
        refine EW.aret (r := none) rfl dX6_read_87 ?_
        exact ⟨x, nI (tx 0 - 65), qs66, hx1, hx2, F66.mv b, rfl⟩
  · exact absurd c32 (by decide +kernel)
set_option maxHeartbeats 4000000 in
theorem C_read5 (hl : l.stackTraces = false) (s : CSt) (hT : TXT s n tx) (h0 : isR (tx 0)) (h65 : 65 ≤ tx 0) (h1 : tx 1 = 61) (dd : Nat) (c9 m9 b : Nat) (hb : b ≤ n) (t : Ex) (hlt : ¬ b < n) (hC : ∀ x, RJ n tx (B0 s (nI (tx 0 - 65)) x) x [] → MtW (IC cy ax hp0) l D cy base mX6_readChoice (dd - 1) c9 m9 [.ref (ax 5), .int (nI 0)] (atS (B0 s (nI (tx 0 - 65)) x) 2) (rdQ (B0 s (nI (tx 0 - 65)) x) x [] (some t, b))) (mc ms : Nat) (hdd : 60 ≤ dd) (hmc : (0 + c9) + 1 ≤ mc) (hms : (0 + m9) + 2 ≤ ms) : MtW (IC cy ax hp0) l D cy base mX6_read dd mc ms [.ref (ax 5)] s (reQ (tx 0) s (some t, b)) := by
  refine MtW.of hl mfX6_read rfl (Nat.le_of_ble_eq_true rfl) ?_
  refine EW.more (bc' := (0 + c9) + 1) (bs' := (0 + m9) + 2) hmc hms ?_
  have hz := hT.2.2.2.2
  have hn24 := hT.2.1
  have hT4 := hT.2.2.2.1
  have t0 := hT4 0
  refine EW.aload_n dX6_read_0 rfl rfl ?_
  refine EW.ic 0 dX6_read_1 ?_
  refine EC.put2 f_X6_22 dX6_read_2 ?_
  refine EW.aload_n dX6_read_5 rfl rfl ?_
  refine EC.newExpr n_X6_15 dX6_read_6 (fun x hx1 hx2 => ?_)
  refine EW.dup dX6_read_9 rfl ?_
  refine EW.callI (bc := (0 + c9)) (bs := (0 + m9)) (mc' := 0) (ms' := 0) (C_exInit hl 0 x _) mfX1_init rfl (Or.inr l_X6_17) mvX1_init (by omega) dX6_read_10 rfl rfl (Nat.le_of_ble_eq_true rfl) (fun _ _ q => nomatch q.1) (fun v s1 q9 => ?_)
  obtain ⟨e1, e2⟩ := q9
  cases e1
  subst e2
  refine EC.putX (r := some x) f_X6_18 dX6_read_13 ?_
  refine EW.eqs (s' := atS (B1 s x) 0) rfl ?_
  have hJ : RJ n tx (B1 s x) x [] := ⟨hT, rfl, ⟨(none, none), va_up_self _ _ _, rfl, rfl⟩, List.nodup_nil⟩
  have hJ0 : RJ n tx (B0 s (nI (tx 0 - 65)) x) x [] := ⟨⟨(show va_up s.1 3 (nI (tx 0 - 65)) 0 = nI n by rw [va_up_ne _ _ (by decide)]; exact hT.1), hT.2⟩, rfl, ⟨(none, none), va_up_self _ _ _, rfl, rfl⟩, List.nodup_nil⟩
  refine EW.aload_n dX6_read_16 rfl rfl ?_
  refine EC.get (k := 5) f_X6_9 dX6_read_17 (by decide) rfl rfl ?_
  refine EW.aload_n dX6_read_20 rfl rfl ?_
  refine EC.get (k := 5) f_X6_22 dX6_read_21 (by decide) rfl rfl ?_
  refine EW.top atS_2 ?_
  refine EC.callV (bc := (0 + c9)) (bs := (0 + m9)) (mc' := 0) (ms' := 0) (k := 1) (C_atx hl 0 (atS (B1 s x) (0)) n tx (hJ.at).1 (0) (by omega)) mfX0_at l_X6_29 mvX0_at (by omega) dX6_read_24 rfl rfl (by decide) rfl rfl rfl (Nat.le_of_ble_eq_true rfl) (fun v24 s24 q24 => ?_) (fun _ _ q => nomatch q.1)
  obtain ⟨e24, h24⟩ := q24; cases e24; replace h24 := h24.symm; subst h24
  refine EW.istore_n dX6_read_27 rfl (by decide) ?_
  refine EW.iload_n dX6_read_28 rfl rfl ?_
  refine EW.callSN (bc := (0 + c9)) (bs := (0 + m9)) (mc' := 0) (ms' := 0) (C_isR hl _ 0 (atS (B1 s x) (0)) (tx (0)) (Nat.lt_trans (hT4 _) (by decide))) mfX8_isRuleLetter rfl l_X6_34 mvX8_isRuleLetter (by omega) dX6_read_29 rfl rfl (Nat.le_of_ble_eq_true rfl) (fun _ _ q => nomatch q.1) (fun v29 s29 q29 => ?_)
  obtain ⟨e29, h29⟩ := q29; cases e29; replace h29 := h29.symm; subst h29
  refine EW.top (y := nI 1) (by rw [if_pos h0]) ?_
  refine EW.if_ne 37 dX6_read_32 (by decide) (fun c32 => ?_) (fun c32 => ?_)
  · refine EW.aload_n dX6_read_37 rfl rfl ?_
    refine EW.iload_n dX6_read_38 rfl rfl ?_
    refine EW.bp 65 dX6_read_39 ?_
    refine EW.isub dX6_read_41 ?_
    refine EW.top (pk_sub (by omega)) ?_
    refine EC.put3 f_X6_26 dX6_read_42 ?_
    refine EW.eqs (s' := atS (B0 s (nI (tx 0 - 65)) x) 0) atS_3 ?_
    refine EW.aload_n dX6_read_45 rfl rfl ?_
    refine EW.dup dX6_read_46 rfl ?_
    refine EC.get (k := 5) f_X6_22 dX6_read_47 (by decide) rfl rfl ?_
    refine EW.top atS_2 ?_
    refine EW.ic 1 dX6_read_50 ?_
    refine EW.iadd dX6_read_51 ?_
    refine EW.top (nI_add _ _) ?_
    refine EC.put2 f_X6_22 dX6_read_52 ?_
    refine EW.eqs (s' := atS (B0 s (nI (tx 0 - 65)) x) (1)) atS_at ?_
    refine EW.aload_n dX6_read_55 rfl rfl ?_
    refine EW.bp 61 dX6_read_56 ?_
    refine EC.callV (bc := (0 + c9)) (bs := (0 + m9)) (mc' := 0) (ms' := 0) (k := 5) (C_take1 hl 0 (atS (B0 s (nI (tx 0 - 65)) x) (1)) n tx (hJ0.at).1 (1) 61 atS_2 (by omega) (by decide) h1) mfX6_take l_X6_38 mvX6_take (by omega) dX6_read_58 rfl rfl (by decide) rfl rfl rfl (Nat.le_of_ble_eq_true rfl) (fun v58 s58 q58 => ?_) (fun _ _ q => nomatch q.1)
    obtain ⟨e58, h58⟩ := q58; cases e58; replace h58 := h58.symm; subst h58
    refine EW.eqs (s' := atS (B0 s (nI (tx 0 - 65)) x) (2)) atS_at ?_
    refine EW.if_eq 86 dX6_read_61 (by decide) (fun c61 => ?_) (fun c61 => ?_)
    · exact absurd c61 (by decide +kernel)
    · refine EW.aload_n dX6_read_64 rfl rfl ?_
      refine EW.ic 0 dX6_read_65 ?_
      refine EC.rdS (bc := 0) (bs := 0) (mc' := c9) (ms' := m9) (hC x hJ0) mfX6_readChoice l_X6_41 mvX6_readChoice (by omega) dX6_read_66 rfl rfl rfl rfl (Nat.le_of_ble_eq_true rfl) (fun s66 qs66 p66 np66 F66 hl66 hp66 hx66 => ?_)
      refine EW.eqs F66.at ?_
      have J66 := F66.rj hJ0
      obtain ⟨e66, he66, -⟩ := J66.2.2.1
      refine EW.ifnull (r := some p66) 86 dX6_read_69 (by decide) (fun h => nomatch h) (fun _ _ => ?_)
      refine EW.aload_n dX6_read_72 rfl rfl ?_
      refine EC.get (k := 5) f_X6_22 dX6_read_73 (by decide) rfl rfl ?_
      refine EW.top atS_2 ?_
      refine EW.aload_n dX6_read_76 rfl rfl ?_
      refine EC.get (k := 5) f_X6_9 dX6_read_77 (by decide) rfl rfl ?_
      refine EC.callV (bc := 0) (bs := 0) (mc' := 0) (ms' := 0) (k := 1) (C_size_pad hl 0 (atS s66 b)) mfX0_size l_X6_45 mvX0_size (by omega) dX6_read_80 rfl rfl (by decide) rfl rfl rfl (Nat.le_of_ble_eq_true rfl) (fun v80 s80 q80 => ?_) (fun _ _ q => nomatch q.1)
      obtain ⟨e80, h80⟩ := q80; cases e80; replace h80 := h80.symm; subst h80
      refine EW.top (y := nI n) J66.1.1 ?_
      refine EW.icmp_ge 88 dX6_read_83 (by decide) (fun c83 => ?_) (fun c83 => ?_)
      · have c83 : n ≤ b := (nI_leI (by omega) (by omega)).mp c83
        refine EW.aload_n dX6_read_88 rfl rfl ?_
        refine EC.get (k := 5) f_X6_18 dX6_read_89 (by decide) rfl rfl ?_
        refine EW.rf J66.2.1 ?_
        refine EW.aret (r := some x) rfl dX6_read_92 ?_
        exact ⟨x, nI (tx 0 - 65), qs66, hx1, hx2, F66.mv b, rfl, rfl, p66, np66, hl66, hp66, hx66⟩
      · have c83 : ¬ (n ≤ b) := fun h => c83 ((nI_leI (by omega) (by omega)).mpr h); omega
  · exact absurd c32 (by decide +kernel)
/-- at most so many cells and slots does a text take -/
theorem C_read (hl : l.stackTraces = false) (s : CSt) (hT : TXT s n tx) (dd : Nat) (hdd : 60 ≤ dd) : MtW (IC cy ax hp0) l D cy base mX6_read dd 50 400 [.ref (ax 5)] s (reQ (tx 0) s (pRead tx n)) := by
  have hz := hT.2.2.2.2
  have hn24 := hT.2.1
  unfold pRead
  by_cases h0 : isR (tx 0)
  · rw [if_neg (fun q => q h0)]
    by_cases h1 : tx 1 = 61
    · rw [if_neg (fun q => q h1)]
      have k1 := tx_lt hz h1 (by decide)
      have hb := pG_b hz 4 2 (by omega)
      have hC := fun x (hJ : RJ n tx (B0 s (nI (tx 0 - 65)) x) x []) => C_read_all (cy := cy) (ax := ax) (hp0 := hp0) (D := D) (base := base) (n := n) hl hz 4 0 rfl (dd - 1) (by omega) (B0 s (nI (tx 0 - 65)) x) x [] 2 hJ (by omega)
      cases hr : pG tx 4 2 with
      | mk e b =>
        rw [hr] at hb hC
        obtain ⟨b1, b2, b3⟩ := hb
        have b2 : b ≤ n := b2
        cases e with
        | none => exact C_read3 hl s hT h0 h0.1 h1 dd _ _ b b2 hC 50 400 hdd (by show 0 + 2 * (b - 2) + 1 ≤ 50; omega) (by show 0 + 8 * (2 * (b - 2)) + 2 ≤ 400; omega)
        | some e =>
          dsimp only
          by_cases h2 : b < n
          · rw [if_pos h2]
            exact C_read4 hl s hT h0 h0.1 h1 dd _ _ b b2 e h2 hC 50 400 hdd (by show 0 + (2 * (b - 2) - 1) + 1 ≤ 50; omega) (by show 0 + 8 * (2 * (b - 2) - 1) + 2 ≤ 400; omega)
          · rw [if_neg h2]
            exact C_read5 hl s hT h0 h0.1 h1 dd _ _ b b2 e h2 hC 50 400 hdd (by show 0 + (2 * (b - 2) - 1) + 1 ≤ 50; omega) (by show 0 + 8 * (2 * (b - 2) - 1) + 2 ≤ 400; omega)
    · rw [if_pos h1]
      exact C_read2 hl s hT h0 h0.1 h1 dd 50 400 hdd (by omega) (by omega)
  · rw [if_pos h0]
    exact C_read1 hl s hT h0 dd 50 400 hdd (by omega) (by omega)
end C19
