section C20
variable {cy : Nat → ClassId} {ax : Nat → Nat} {hp0 : Hp} {l : Launch} {D : va_G} {base : Nat}
theorem ta_X8_110 : ∀ w ∈ (vx_atS RX8 110 "java/lang/IllegalArgumentException" ["java/lang/RuntimeException", "java/lang/Exception"]).filter goodWord, w ∈ gw := gw_ix [18, 549, 558, 563, 566, 568, 550, 551, 31, 32, 552, 557, 564, 584, 539, 585, 541, 586, 543, 553, 555, 545, 580, 581, 583, 545, 616, 617, 618, 574, 574, 575, 576, 577, 577, 578, 579, 580, 615, 606, 608, 560, 609, 610, 611, 612, 548, 547, 613] (by decide +kernel)
theorem tb_X8_110 : ∀ w ∈ (vx_atS RX8 110 "java/lang/IllegalArgumentException" ["java/lang/RuntimeException", "java/lang/Exception"]).filter (fun w => !goodWord w), w ∈ nwl ∧ w.onTables = true := nwl_ix [531, 533, 535, 607] (by decide +kernel) (by decide +kernel)
theorem tc_X8_110 : ∀ w ∈ Cond.classLink RX8 106 "java/lang/IllegalArgumentException" :: Cond.initialized "java/lang/IllegalArgumentException" :: vx_atS RX8 110 "java/lang/IllegalArgumentException" ["java/lang/RuntimeException", "java/lang/Exception"], vx_ot w = true := by decide +kernel
theorem ts_X8_108 : TS RX8 106 108 110 "java/lang/IllegalArgumentException" "it is no letter" := ⟨by decide +kernel, gw_t 605 (by decide +kernel) rfl, gw_t 22 (by decide +kernel) rfl, by decide +kernel, ta_X8_110, tb_X8_110, tc_X8_110⟩
theorem ts_X8_141 : TS RX8 106 141 110 "java/lang/IllegalArgumentException" "there is no such place" := ⟨by decide +kernel, gw_t 605 (by decide +kernel) rfl, gw_t 22 (by decide +kernel) rfl, by decide +kernel, ta_X8_110, tb_X8_110, tc_X8_110⟩
theorem ta_X8_115 : ∀ w ∈ (vx_atS RX8 115 "java/lang/IllegalStateException" ["java/lang/RuntimeException", "java/lang/Exception"]).filter goodWord, w ∈ gw := gw_ix [18, 549, 558, 563, 566, 568, 550, 551, 31, 32, 552, 557, 564, 584, 539, 585, 541, 586, 543, 553, 555, 545, 580, 581, 583, 545, 632, 633, 634, 574, 574, 575, 576, 577, 577, 578, 579, 580, 631, 622, 624, 561, 625, 626, 627, 628, 548, 547, 629] (by decide +kernel)
theorem tb_X8_115 : ∀ w ∈ (vx_atS RX8 115 "java/lang/IllegalStateException" ["java/lang/RuntimeException", "java/lang/Exception"]).filter (fun w => !goodWord w), w ∈ nwl ∧ w.onTables = true := nwl_ix [531, 533, 535, 623] (by decide +kernel) (by decide +kernel)
theorem tc_X8_115 : ∀ w ∈ Cond.classLink RX8 111 "java/lang/IllegalStateException" :: Cond.initialized "java/lang/IllegalStateException" :: vx_atS RX8 115 "java/lang/IllegalStateException" ["java/lang/RuntimeException", "java/lang/Exception"], vx_ot w = true := by decide +kernel
theorem ts_X8_113 : TS RX8 111 113 115 "java/lang/IllegalStateException" "the input is full" := ⟨by decide +kernel, gw_t 621 (by decide +kernel) rfl, gw_t 23 (by decide +kernel) rfl, by decide +kernel, ta_X8_115, tb_X8_115, tc_X8_115⟩
theorem ts_X8_125 : TS RX8 111 125 115 "java/lang/IllegalStateException" "a rule that stands in one has no expression" := ⟨by decide +kernel, gw_t 621 (by decide +kernel) rfl, gw_t 23 (by decide +kernel) rfl, by decide +kernel, ta_X8_115, tb_X8_115, tc_X8_115⟩
theorem ts_X8_143 : TS RX8 111 143 115 "java/lang/IllegalStateException" "the grammar is not sound" := ⟨by decide +kernel, gw_t 621 (by decide +kernel) rfl, gw_t 23 (by decide +kernel) rfl, by decide +kernel, ta_X8_115, tb_X8_115, tc_X8_115⟩
theorem ta_X8_161 : ∀ w ∈ (vx_atS RX8 161 "java/lang/IndexOutOfBoundsException" ["java/lang/RuntimeException", "java/lang/Exception"]).filter goodWord, w ∈ gw := gw_ix [18, 549, 558, 563, 566, 568, 550, 551, 31, 32, 552, 557, 564, 584, 539, 585, 541, 586, 543, 553, 555, 545, 580, 581, 583, 545, 785, 786, 787, 574, 574, 575, 576, 577, 577, 578, 579, 580, 784, 775, 777, 562, 778, 779, 780, 781, 548, 547, 782] (by decide +kernel)
theorem tb_X8_161 : ∀ w ∈ (vx_atS RX8 161 "java/lang/IndexOutOfBoundsException" ["java/lang/RuntimeException", "java/lang/Exception"]).filter (fun w => !goodWord w), w ∈ nwl ∧ w.onTables = true := nwl_ix [531, 533, 535, 776] (by decide +kernel) (by decide +kernel)
theorem tc_X8_161 : ∀ w ∈ Cond.classLink RX8 157 "java/lang/IndexOutOfBoundsException" :: Cond.initialized "java/lang/IndexOutOfBoundsException" :: vx_atS RX8 161 "java/lang/IndexOutOfBoundsException" ["java/lang/RuntimeException", "java/lang/Exception"], vx_ot w = true := by decide +kernel
theorem ts_X8_159 : TS RX8 157 159 161 "java/lang/IndexOutOfBoundsException" "there is no such rule or place" := ⟨by decide +kernel, gw_t 774 (by decide +kernel) rfl, gw_t 24 (by decide +kernel) rfl, by decide +kernel, ta_X8_161, tb_X8_161, tc_X8_161⟩
theorem ts_X8_170 : TS RX8 157 170 161 "java/lang/IndexOutOfBoundsException" "there is no such node or what" := ⟨by decide +kernel, gw_t 774 (by decide +kernel) rfl, gw_t 24 (by decide +kernel) rfl, by decide +kernel, ta_X8_161, tb_X8_161, tc_X8_161⟩
theorem ts_X8_183 : TS RX8 157 183 161 "java/lang/IndexOutOfBoundsException" "none of the counts" := ⟨by decide +kernel, gw_t 774 (by decide +kernel) rfl, gw_t 24 (by decide +kernel) rfl, by decide +kernel, ta_X8_161, tb_X8_161, tc_X8_161⟩
set_option maxHeartbeats 4000000 in
theorem C_fault (hl : l.stackTraces = false) (d : Nat) (s : CSt) : MtW (IC cy ax hp0) l D cy base mX6_fault d 0 0 [.ref (ax 5)] s (fun o s2 => o = .inl (some (.int (s.1 2))) ∧ s2 = s) := by
  refine MtW.of hl mfX6_fault rfl (Nat.le_of_ble_eq_true rfl) ?_
  refine EW.aload_n dX6_fault_0 rfl rfl ?_
  refine EC.get (k := 5) f_X6_22 dX6_fault_1 (by decide) rfl rfl ?_
  refine EW.iret rfl dX6_fault_4 ?_
  exact ⟨rfl, rfl⟩
set_option maxHeartbeats 4000000 in
theorem C_ruleRead (hl : l.stackTraces = false) (d : Nat) (s : CSt) : MtW (IC cy ax hp0) l D cy base mX6_ruleRead d 0 0 [.ref (ax 5)] s (fun o s2 => o = .inl (some (.int (s.1 3))) ∧ s2 = s) := by
  refine MtW.of hl mfX6_ruleRead rfl (Nat.le_of_ble_eq_true rfl) ?_
  refine EW.aload_n dX6_ruleRead_0 rfl rfl ?_
  refine EC.get (k := 5) f_X6_26 dX6_ruleRead_1 (by decide) rfl rfl ?_
  refine EW.iret rfl dX6_ruleRead_4 ?_
  exact ⟨rfl, rfl⟩
set_option maxHeartbeats 4000000 in
theorem C_check (hl : l.stackTraces = false) (d : Nat) (s : CSt) : MtW (IC cy ax hp0) l D cy base mX8_check (d + 1) 0 0 [.ref (ax 0)] s (fun o s2 => o = .inl (some (.int (s.1 4))) ∧ s2 = s) := by
  refine MtW.of hl mfX8_check rfl (Nat.le_of_ble_eq_true rfl) ?_
  refine EW.aload_n dX8_check_0 rfl rfl ?_
  refine EC.get (k := 0) f_X8_33 dX8_check_1 (by decide) rfl rfl ?_
  refine EC.callV (bc := 0) (bs := 0) (mc' := 0) (ms' := 0) (k := 6) (C_verdict hl d s) mfX2_verdict l_X8_132 mvX2_verdict (by omega) dX8_check_4 rfl rfl (by decide) rfl rfl rfl (Nat.le_of_ble_eq_true rfl) (fun v4 s4 q4 => ?_) (fun _ _ q => nomatch q.1)
  obtain ⟨e4, h4⟩ := q4; cases e4; replace h4 := h4.symm; subst h4
  refine EW.iret rfl dX8_check_7 ?_
  exact ⟨rfl, rfl⟩
set_option maxHeartbeats 4000000 in
theorem C_clear0 (hl : l.stackTraces = false) (d : Nat) (s : CSt) (h : s.1 1 = nI 0) : MtW (IC cy ax hp0) l D cy base mX8_clear (d + 3) 0 0 [.ref (ax 0)] s (fun o s2 => o = .inl (some (.int (nI 0))) ∧ s2 = s) := by
  refine MtW.of hl mfX8_clear rfl (Nat.le_of_ble_eq_true rfl) ?_
  refine EW.aload_n dX8_clear_0 rfl rfl ?_
  refine EC.get (k := 0) f_X8_18 dX8_clear_1 (by decide) rfl rfl ?_
  refine EC.callV (bc := 0) (bs := 0) (mc' := 0) (ms' := 0) (k := 3) (C_size_in hl 0 s) mfX0_size l_X8_116 mvX0_size (by omega) dX8_clear_4 rfl rfl (by decide) rfl rfl rfl (Nat.le_of_ble_eq_true rfl) (fun v4 s4 q4 => ?_) (fun _ _ q => nomatch q.1)
  obtain ⟨e4, h4⟩ := q4; cases e4; replace h4 := h4.symm; subst h4
  refine EW.top h ?_
  refine EW.istore_n dX8_clear_7 rfl (by decide) ?_
  refine EW.iload_n dX8_clear_8 rfl rfl ?_
  refine EW.if_le 26 dX8_clear_9 (by decide) (fun c9 => ?_) (fun c9 => ?_)
  · refine EW.iload_n dX8_clear_26 rfl rfl ?_
    refine EW.iret rfl dX8_clear_27 ?_
    exact ⟨rfl, rfl⟩
  · exact absurd c9 (by decide +kernel)
set_option maxHeartbeats 4000000 in
theorem C_clear1 (hl : l.stackTraces = false) (d k : Nat) (s : CSt) (h : s.1 1 = nI k) (hk : 0 < k) (h20 : k ≤ 20) : MtW (IC cy ax hp0) l D cy base mX8_clear (d + 3) 0 0 [.ref (ax 0)] s (fun o s2 => ∃ f, o = .inl (some (.int (nI k))) ∧ s2 = (va_up s.1 1 0, va_up s.2.1 9 f, s.2.2) ∧ ∀ j, j < 126 → f j = -2) := by
  refine MtW.of hl mfX8_clear rfl (Nat.le_of_ble_eq_true rfl) ?_
  refine EW.aload_n dX8_clear_0 rfl rfl ?_
  refine EC.get (k := 0) f_X8_18 dX8_clear_1 (by decide) rfl rfl ?_
  refine EC.callV (bc := 0) (bs := 0) (mc' := 0) (ms' := 0) (k := 3) (C_size_in hl 0 s) mfX0_size l_X8_116 mvX0_size (by omega) dX8_clear_4 rfl rfl (by decide) rfl rfl rfl (Nat.le_of_ble_eq_true rfl) (fun v4 s4 q4 => ?_) (fun _ _ q => nomatch q.1)
  obtain ⟨e4, h4⟩ := q4; cases e4; replace h4 := h4.symm; subst h4
  refine EW.top h ?_
  refine EW.istore_n dX8_clear_7 rfl (by decide) ?_
  refine EW.iload_n dX8_clear_8 rfl rfl ?_
  refine EW.if_le 26 dX8_clear_9 (by decide) (fun c9 => ?_) (fun c9 => ?_)
  · have c9 : k = 0 := (nI_le0 (by omega)).mp c9; omega
  · have c9 : ¬ k = 0 := fun h => c9 ((nI_le0 (by omega)).mpr h)
    refine EW.aload_n dX8_clear_12 rfl rfl ?_
    refine EC.get (k := 0) f_X8_18 dX8_clear_13 (by decide) rfl rfl ?_
    refine EC.callV (bc := 0) (bs := 0) (mc' := 0) (ms' := 0) (k := 3) (C_removeAll_in hl 0 s) mfX0_removeAll l_X8_71 mvX0_removeAll (by omega) dX8_clear_16 rfl rfl (by decide) rfl rfl rfl (Nat.le_of_ble_eq_true rfl) (fun v16 s16 q16 => ?_) (fun _ _ q => nomatch q.1)
    obtain ⟨e16, h16⟩ := q16; cases e16; replace h16 := h16.symm; subst h16
    refine EW.aload_n dX8_clear_19 rfl rfl ?_
    refine EC.get (k := 0) f_X8_40 dX8_clear_20 (by decide) rfl rfl ?_
    refine EC.callV (bc := 0) (bs := 0) (mc' := 0) (ms' := 0) (k := 8) (C_forget hl 0 (va_up s.1 1 0, s.2)) mfX4_forget l_X8_85 mvX4_forget (by omega) dX8_clear_23 rfl rfl (by decide) rfl rfl rfl (Nat.le_of_ble_eq_true rfl) (fun v23 s23 q23 => ?_) (fun _ _ q => by obtain ⟨f, e, _⟩ := q; cases e)
    obtain ⟨f, e23, h23, hf⟩ := q23; cases e23; replace h23 := h23.symm; subst h23
    refine EW.iload_n dX8_clear_26 rfl rfl ?_
    refine EW.iret rfl dX8_clear_27 ?_
    exact ⟨f, rfl, rfl, hf⟩
set_option maxHeartbeats 4000000 in
theorem C_feed1 (hl : l.stackTraces = false) (d c : Nat) (s : CSt) (hc : c < 65536) (h : ¬ isL c) : MtW (IC cy ax hp0) l D cy base mX8_feed (d + 9) 1 6 [.ref (ax 0), .int (nI c)] s (fun o s2 => o = .inr "java/lang/IllegalArgumentException" ∧ s2 = s) := by
  refine MtW.of hl mfX8_feed rfl (Nat.le_of_ble_eq_true rfl) ?_
  refine EW.iload_n dX8_feed_0 rfl rfl ?_
  refine EW.callS (bc := 1) (bs := 6) (mc' := 0) (ms' := 0) (C_isL hl _ 0 s c hc) mfX8_isLetter rfl l_X8_103 mvX8_isLetter (by omega) dX8_feed_1 rfl rfl (Nat.le_of_ble_eq_true rfl) (fun v1 s1 q1 => ?_) (fun _ _ q => nomatch q.1)
  obtain ⟨e1, h1⟩ := q1; cases e1; replace h1 := h1.symm; subst h1
  refine EW.top (y := nI 0) (by rw [if_neg h]) ?_
  refine EW.if_ne 17 dX8_feed_4 (by decide) (fun c4 => ?_) (fun c4 => ?_)
  · exact absurd c4 (by decide +kernel)
  · exact EW.throwS (bc := 0) (bs := 0) ts_X8_108 rfl dX8_feed_7 dX8_feed_10 dX8_feed_11 dX8_feed_13 dX8_feed_16 (by omega) (Nat.le_of_ble_eq_true rfl) ⟨rfl, rfl⟩
set_option maxHeartbeats 4000000 in
theorem C_feed2 (hl : l.stackTraces = false) (d c : Nat) (s : CSt) (hc : c < 65536) (k : Nat) (h : isL c) (hk : s.1 1 = nI k) (h20 : k ≤ 20) (hlt : ¬ k < 20) : MtW (IC cy ax hp0) l D cy base mX8_feed (d + 9) 1 6 [.ref (ax 0), .int (nI c)] s (fun o s2 => o = .inr "java/lang/IllegalStateException" ∧ s2 = s) := by
  refine MtW.of hl mfX8_feed rfl (Nat.le_of_ble_eq_true rfl) ?_
  refine EW.iload_n dX8_feed_0 rfl rfl ?_
  refine EW.callS (bc := 1) (bs := 6) (mc' := 0) (ms' := 0) (C_isL hl _ 0 s c hc) mfX8_isLetter rfl l_X8_103 mvX8_isLetter (by omega) dX8_feed_1 rfl rfl (Nat.le_of_ble_eq_true rfl) (fun v1 s1 q1 => ?_) (fun _ _ q => nomatch q.1)
  obtain ⟨e1, h1⟩ := q1; cases e1; replace h1 := h1.symm; subst h1
  refine EW.top (y := nI 1) (by rw [if_pos h]) ?_
  refine EW.if_ne 17 dX8_feed_4 (by decide) (fun c4 => ?_) (fun c4 => ?_)
  · refine EW.aload_n dX8_feed_17 rfl rfl ?_
    refine EC.get (k := 0) f_X8_18 dX8_feed_18 (by decide) rfl rfl ?_
    refine EW.iload_n dX8_feed_21 rfl rfl ?_
    refine EC.callV (bc := 1) (bs := 6) (mc' := 0) (ms' := 0) (k := 3) (C_add_in hl 0 k s hk h20 (nI c)) mfX0_add l_X8_64 mvX0_add (by omega) dX8_feed_22 rfl rfl (by decide) rfl rfl rfl (Nat.le_of_ble_eq_true rfl) (fun v22 s22 q22 => ?_) (fun _ _ q => by split at q <;> cases q.1)
    rw [if_neg hlt] at q22; obtain ⟨e22, h22⟩ := q22; cases e22; replace h22 := h22.symm; subst h22
    refine EW.if_ne 38 dX8_feed_25 (by decide) (fun c25 => ?_) (fun c25 => ?_)
    · exact absurd c25 (by decide +kernel)
    · exact EW.throwS (bc := 0) (bs := 0) ts_X8_113 rfl dX8_feed_28 dX8_feed_31 dX8_feed_32 dX8_feed_34 dX8_feed_37 (by omega) (Nat.le_of_ble_eq_true rfl) ⟨rfl, rfl⟩
  · exact absurd c4 (by decide +kernel)
set_option maxHeartbeats 4000000 in
theorem C_feed3 (hl : l.stackTraces = false) (d c : Nat) (s : CSt) (hc : c < 65536) (k : Nat) (h : isL c) (hk : s.1 1 = nI k) (h20 : k ≤ 20) (hlt : k < 20) : MtW (IC cy ax hp0) l D cy base mX8_feed (d + 9) 0 0 [.ref (ax 0), .int (nI c)] s (fun o s2 => ∃ f, o = .inl (some (.int (nI (k + 1)))) ∧ s2 = (va_up s.1 1 (nI (k + 1)), va_up (va_up s.2.1 4 (upd (s.2.1 4) k (vp_nar .char (nI c)))) 9 f, s.2.2) ∧ ∀ j, j < 126 → f j = -2) := by
  refine MtW.of hl mfX8_feed rfl (Nat.le_of_ble_eq_true rfl) ?_
  refine EW.iload_n dX8_feed_0 rfl rfl ?_
  refine EW.callS (bc := 0) (bs := 0) (mc' := 0) (ms' := 0) (C_isL hl _ 0 s c hc) mfX8_isLetter rfl l_X8_103 mvX8_isLetter (by omega) dX8_feed_1 rfl rfl (Nat.le_of_ble_eq_true rfl) (fun v1 s1 q1 => ?_) (fun _ _ q => nomatch q.1)
  obtain ⟨e1, h1⟩ := q1; cases e1; replace h1 := h1.symm; subst h1
  refine EW.top (y := nI 1) (by rw [if_pos h]) ?_
  refine EW.if_ne 17 dX8_feed_4 (by decide) (fun c4 => ?_) (fun c4 => ?_)
  · refine EW.aload_n dX8_feed_17 rfl rfl ?_
    refine EC.get (k := 0) f_X8_18 dX8_feed_18 (by decide) rfl rfl ?_
    refine EW.iload_n dX8_feed_21 rfl rfl ?_
    refine EC.callV (bc := 0) (bs := 0) (mc' := 0) (ms' := 0) (k := 3) (C_add_in hl 0 k s hk h20 (nI c)) mfX0_add l_X8_64 mvX0_add (by omega) dX8_feed_22 rfl rfl (by decide) rfl rfl rfl (Nat.le_of_ble_eq_true rfl) (fun v22 s22 q22 => ?_) (fun _ _ q => by split at q <;> cases q.1)
    rw [if_pos hlt] at q22; obtain ⟨e22, h22⟩ := q22; cases e22; replace h22 := h22.symm; subst h22
    refine EW.if_ne 38 dX8_feed_25 (by decide) (fun c25 => ?_) (fun c25 => ?_)
    · refine EW.aload_n dX8_feed_38 rfl rfl ?_
      refine EC.get (k := 0) f_X8_40 dX8_feed_39 (by decide) rfl rfl ?_
      refine EC.callV (bc := 0) (bs := 0) (mc' := 0) (ms' := 0) (k := 8) (C_forget hl 0 (va_up s.1 1 (nI (k + 1)), va_up s.2.1 4 (upd (s.2.1 4) k (vp_nar .char (nI c))), s.2.2)) mfX4_forget l_X8_85 mvX4_forget (by omega) dX8_feed_42 rfl rfl (by decide) rfl rfl rfl (Nat.le_of_ble_eq_true rfl) (fun v42 s42 q42 => ?_) (fun _ _ q => by obtain ⟨f, e, _⟩ := q; cases e)
      obtain ⟨f, e42, h42, hf⟩ := q42; cases e42; replace h42 := h42.symm; subst h42
      refine EW.aload_n dX8_feed_45 rfl rfl ?_
      refine EC.get (k := 0) f_X8_18 dX8_feed_46 (by decide) rfl rfl ?_
      refine EC.callV (bc := 0) (bs := 0) (mc' := 0) (ms' := 0) (k := 3) (C_size_in hl 0 _) mfX0_size l_X8_116 mvX0_size (by omega) dX8_feed_49 rfl rfl (by decide) rfl rfl rfl (Nat.le_of_ble_eq_true rfl) (fun v49 s49 q49 => ?_) (fun _ _ q => nomatch q.1)
      obtain ⟨e49, h49⟩ := q49; cases e49; replace h49 := h49.symm; subst h49
      refine EW.iret rfl dX8_feed_52 ?_
      exact ⟨f, rfl, rfl, hf⟩
    · exact absurd c25 (by decide +kernel)
  · exact absurd c4 (by decide +kernel)
end C20
