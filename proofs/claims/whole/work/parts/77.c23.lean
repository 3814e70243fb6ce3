section C23
variable {cy : Nat → ClassId} {ax : Nat → Nat} {hp0 : Hp} {l : Launch} {D : va_G} {base : Nat}
variable {n : Nat} {tx : Nat → Nat}
set_option maxHeartbeats 4000000 in
theorem C_ruleF (hl : l.stackTraces = false) (dd : Nat) (hdd : 60 ≤ dd) (s : CSt) (hT : TXT s n tx) (f : Nat) (hf : f < 1000) (hP : pRead tx n = (none, f)) : MtW (IC cy ax hp0) l D cy base mX8_rule (dd + 1) 50 400 [.ref (ax 0)] s (fun o s2 => o = .inl (some (.int (nI (1 + f)))) ∧ ∃ sR, reQ (tx 0) s (none, f) (.inl (some (va_rf none))) sR ∧ s2 = (va_up sR.1 0 0, sR.2)) := by
  refine MtW.of hl mfX8_rule rfl (Nat.le_of_ble_eq_true rfl) ?_
  refine EW.aload_n dX8_rule_0 rfl rfl ?_
  refine EC.get (k := 0) f_X8_26 dX8_rule_1 (by decide) rfl rfl ?_
  refine EC.callV (bc := 0) (bs := 0) (mc' := 50) (ms' := 400) (k := 5) (C_read (n := n) (tx := tx) hl s hT dd hdd) mfX6_read l_X8_67 mvX6_read (by omega) dX8_rule_4 rfl rfl (by decide) rfl rfl rfl (Nat.le_of_ble_eq_true rfl) (fun v4 s4 q4 => ?_) (fun X s9 q => by rw [hP] at q; obtain ⟨_, _, _, _, _, _, q⟩ := q; cases q)
  rw [hP] at q4
  have q9 := q4
  obtain ⟨x, v, qs, h1, h2, h3, h4⟩ := q4
  cases h4
  have hf2 : s4.1 2 = nI f := by rw [h3.1, va_up_self]
  refine EW.astoreq_n dX8_rule_7 rfl (by decide) ?_
  refine EW.aload_n dX8_rule_8 rfl rfl ?_
  refine EC.get (k := 0) f_X8_14 dX8_rule_9 (by decide) rfl rfl ?_
  refine EC.callV (bc := 0) (bs := 0) (mc' := 0) (ms' := 0) (k := 1) (C_removeAll_pad hl 0 _) mfX0_removeAll l_X8_71 mvX0_removeAll (by omega) dX8_rule_12 rfl rfl (by decide) rfl rfl rfl (Nat.le_of_ble_eq_true rfl) (fun v12 s12 q12 => ?_) (fun _ _ q => nomatch q.1)
  obtain ⟨e12, h12⟩ := q12; cases e12; replace h12 := h12.symm; subst h12
  refine EW.aloadq_n dX8_rule_15 rfl rfl ?_
  refine EW.ifnonnull (r := none) 29 dX8_rule_16 (by decide) (fun _ h => nomatch h) (fun _ => ?_)
  refine EW.ic 1 dX8_rule_19 ?_
  refine EW.aload_n dX8_rule_20 rfl rfl ?_
  refine EC.get (k := 0) f_X8_26 dX8_rule_21 (by decide) rfl rfl ?_
  refine EC.callV (bc := 0) (bs := 0) (mc' := 0) (ms' := 0) (k := 5) (C_fault hl 0 _) mfX6_fault l_X8_74 mvX6_fault (by omega) dX8_rule_24 rfl rfl (by decide) rfl rfl rfl (Nat.le_of_ble_eq_true rfl) (fun v24 s24 q24 => ?_) (fun _ _ q => nomatch q.1)
  obtain ⟨e24, h24⟩ := q24; cases e24; replace h24 := h24.symm; subst h24
  refine EW.top (y := nI f) ((show va_up s4.1 0 0 2 = s4.1 2 from va_up_ne _ _ (by decide)).trans hf2) ?_
  refine EW.iadd dX8_rule_27 ?_
  refine EW.top (nI_add _ _) ?_
  refine EW.iret rfl dX8_rule_28 ?_
  exact ⟨rfl, s4, q9, rfl⟩
set_option maxHeartbeats 4000000 in
theorem C_ruleS (hl : l.stackTraces = false) (dd : Nat) (hdd : 60 ≤ dd) (s : CSt) (hT : TXT s n tx) (t : Ex) (b9 : Nat) (hR : isR (tx 0)) (hP : pRead tx n = (some t, b9)) (P : CSt → Nat → Int32 → CSt → Prop) (hE : ∀ sR x e9, reQ (tx 0) s (some t, b9) (.inl (some (.ref x))) sR ∧ sR.2.2.2.2.2 x = some e9 ∧ sR.1 3 = nI (tx 0 - 65) → ∃ v s1, MtW (IC cy ax hp0) l D cy base mX2_examine (0 + 5) 0 0 [.ref (ax 6)] (va_up sR.1 0 0, sR.2.1, sR.2.2.1, va_up sR.2.2.2.1 (tx 0 - 65) (some x), sR.2.2.2.2) (fun o s2 => o = .inl (some (.int v)) ∧ s2 = s1) ∧ P sR x v s1) : MtW (IC cy ax hp0) l D cy base mX8_rule (dd + 1) 50 400 [.ref (ax 0)] s (fun o s2 => o = .inl (some (.int (nI 0))) ∧ ∃ sR x v s1 f, P sR x v s1 ∧ s2 = (va_up s1.1 4 v, va_up s1.2.1 9 f, s1.2.2) ∧ ∀ j, j < 126 → f j = -2) := by
  refine MtW.of hl mfX8_rule rfl (Nat.le_of_ble_eq_true rfl) ?_
  refine EW.aload_n dX8_rule_0 rfl rfl ?_
  refine EC.get (k := 0) f_X8_26 dX8_rule_1 (by decide) rfl rfl ?_
  refine EC.callV (bc := 0) (bs := 0) (mc' := 50) (ms' := 400) (k := 5) (C_read (n := n) (tx := tx) hl s hT dd hdd) mfX6_read l_X8_67 mvX6_read (by omega) dX8_rule_4 rfl rfl (by decide) rfl rfl rfl (Nat.le_of_ble_eq_true rfl) (fun v4 s4 q4 => ?_) (fun X s9 q => by rw [hP] at q; obtain ⟨_, _, _, _, _, _, q⟩ := q; cases q.1)
  rw [hP] at q4
  have q9 := q4
  obtain ⟨x, v, qs, h1, h2, h3, h4, h5, h6⟩ := q4
  cases h4
  have hc3 : s4.1 3 = nI (tx 0 - 65) := by rw [h3.1, va_up_ne _ _ (by decide)]; show va_up s.1 3 v 3 = _; rw [va_up_self, h5]
  obtain ⟨e9, he, -⟩ := h3.2.2.2.2.2.1
  obtain ⟨v9, s1, hE1, hP1⟩ := hE s4 x e9 ⟨q9, he, hc3⟩
  refine EW.astore_n dX8_rule_7 rfl (by decide) ?_
  refine EW.aload_n dX8_rule_8 rfl rfl ?_
  refine EC.get (k := 0) f_X8_14 dX8_rule_9 (by decide) rfl rfl ?_
  refine EC.callV (bc := 0) (bs := 0) (mc' := 0) (ms' := 0) (k := 1) (C_removeAll_pad hl 0 _) mfX0_removeAll l_X8_71 mvX0_removeAll (by omega) dX8_rule_12 rfl rfl (by decide) rfl rfl rfl (Nat.le_of_ble_eq_true rfl) (fun v12 s12 q12 => ?_) (fun _ _ q => nomatch q.1)
  obtain ⟨e12, h12⟩ := q12; cases e12; replace h12 := h12.symm; subst h12
  refine EW.aload_n dX8_rule_15 rfl rfl ?_
  refine EW.ifnonnull (r := some x) 29 dX8_rule_16 (by decide) (fun _ _ => ?_) (fun h => nomatch h)
  refine EW.aload_n dX8_rule_29 rfl rfl ?_
  refine EC.get (k := 0) f_X8_33 dX8_rule_30 (by decide) rfl rfl ?_
  refine EW.aload_n dX8_rule_33 rfl rfl ?_
  refine EC.get (k := 0) f_X8_26 dX8_rule_34 (by decide) rfl rfl ?_
  refine EC.callV (bc := 0) (bs := 0) (mc' := 0) (ms' := 0) (k := 5) (C_ruleRead hl 0 _) mfX6_ruleRead l_X8_78 mvX6_ruleRead (by omega) dX8_rule_37 rfl rfl (by decide) rfl rfl rfl (Nat.le_of_ble_eq_true rfl) (fun v37 s37 q37 => ?_) (fun _ _ q => nomatch q.1)
  obtain ⟨e37, h37⟩ := q37; cases e37; replace h37 := h37.symm; subst h37
  refine EW.top (y := nI (tx 0 - 65)) ((show va_up s4.1 0 0 3 = s4.1 3 from va_up_ne _ _ (by decide)).trans hc3) ?_
  refine EW.aload_n dX8_rule_40 rfl rfl ?_
  refine EC.callV (bc := 0) (bs := 0) (mc' := 0) (ms' := 0) (k := 6) (C_putS hl 0 (tx 0 - 65) (va_up s4.1 0 0, s4.2) (by omega) x e9 he v9 s1 hE1) mfX2_put l_X8_81 mvX2_put (by omega) dX8_rule_41 rfl rfl (by decide) rfl rfl rfl (Nat.le_of_ble_eq_true rfl) (fun v41 s41 q41 => ?_) (fun _ _ q => nomatch q.1)
  obtain ⟨e41, h41⟩ := q41; cases e41; replace h41 := h41.symm; subst h41
  refine EW.aload_n dX8_rule_44 rfl rfl ?_
  refine EC.get (k := 0) f_X8_40 dX8_rule_45 (by decide) rfl rfl ?_
  refine EC.callV (bc := 0) (bs := 0) (mc' := 0) (ms' := 0) (k := 8) (C_forget hl 0 _) mfX4_forget l_X8_85 mvX4_forget (by omega) dX8_rule_48 rfl rfl (by decide) rfl rfl rfl (Nat.le_of_ble_eq_true rfl) (fun v48 s48 q48 => ?_) (fun _ _ q => by obtain ⟨f, e, _⟩ := q; cases e)
  obtain ⟨f, e48, h48, hf⟩ := q48; cases e48; replace h48 := h48.symm; subst h48
  refine EW.ic 0 dX8_rule_51 ?_
  refine EW.iret rfl dX8_rule_52 ?_
  exact ⟨rfl, s4, x, v9, s1, f, hP1, rfl, hf⟩
end C23
