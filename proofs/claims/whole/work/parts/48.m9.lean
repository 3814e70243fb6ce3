section M9
variable {cy : Nat → ClassId} {ad : Nat → Nat} {hp0 : Hp} {l : Launch} {D : va_G} {base : Nat}
set_option maxHeartbeats 4000000 in
theorem M_clear0 (hl : l.stackTraces = false) (d : Nat) (s : MSt) (n : Nat) (hn : s.1 3 = nI n) (hn9 : n ≤ 20) (h : n = 0) : MtW (IM cy ad hp0) l D cy base mX9_clear (d + 2) 0 0 [.ref (ad 43)] s (fun o s2 => o = .inl (some (.int (nI n))) ∧ s2 = fU 3 (nI 0) (fU 0 (nI 0) s)) := by
  refine MtW.of hl mfX9_clear rfl (Nat.le_of_ble_eq_true rfl) ?_
  refine EW.aload_n dX9_clear_0 rfl rfl ?_
  refine EW.ic 0 dX9_clear_1 ?_
  refine EM.put f_X9_105 dX9_clear_2 rfl ?_
  refine EW.aload_n dX9_clear_5 rfl rfl ?_
  refine EM.get f_X9_168 dX9_clear_6 rfl ?_
  refine EW.top hn ?_
  refine EW.istore_n dX9_clear_9 rfl (by decide) ?_
  refine EW.aload_n dX9_clear_10 rfl rfl ?_
  refine EW.ic 0 dX9_clear_11 ?_
  refine EM.put f_X9_168 dX9_clear_12 rfl ?_
  refine EW.iload_n dX9_clear_15 rfl rfl ?_
  refine EW.if_le 23 dX9_clear_16 (by decide) (fun c16 => ?_) (fun c16 => ?_)
  · have c16 : n = 0 := (nI_le0 (by omega)).mp c16
    refine EW.iload_n dX9_clear_23 rfl rfl ?_
    refine EW.iret rfl dX9_clear_24 ?_
    exact ⟨rfl, rfl⟩
  · have c16 : ¬ n = 0 := fun h => c16 ((nI_le0 (by omega)).mpr h); exact absurd h c16
set_option maxHeartbeats 4000000 in
theorem M_clear1 (hl : l.stackTraces = false) (d : Nat) (s : MSt) (n : Nat) (hn : s.1 3 = nI n) (hn9 : n ≤ 20) (h : ¬ n = 0) : MtW (IM cy ad hp0) l D cy base mX9_clear (d + 2) 0 0 [.ref (ad 43)] s (fun o s2 => ∃ f, o = .inl (some (.int (nI n))) ∧ s2 = (va_up (va_up s.1 0 (nI 0)) 3 (nI 0), va_up s.2 13 f) ∧ ∀ j, j < 126 → f j = -2) := by
  refine MtW.of hl mfX9_clear rfl (Nat.le_of_ble_eq_true rfl) ?_
  refine EW.aload_n dX9_clear_0 rfl rfl ?_
  refine EW.ic 0 dX9_clear_1 ?_
  refine EM.put f_X9_105 dX9_clear_2 rfl ?_
  refine EW.aload_n dX9_clear_5 rfl rfl ?_
  refine EM.get f_X9_168 dX9_clear_6 rfl ?_
  refine EW.top hn ?_
  refine EW.istore_n dX9_clear_9 rfl (by decide) ?_
  refine EW.aload_n dX9_clear_10 rfl rfl ?_
  refine EW.ic 0 dX9_clear_11 ?_
  refine EM.put f_X9_168 dX9_clear_12 rfl ?_
  refine EW.iload_n dX9_clear_15 rfl rfl ?_
  refine EW.if_le 23 dX9_clear_16 (by decide) (fun c16 => ?_) (fun c16 => ?_)
  · have c16 : n = 0 := (nI_le0 (by omega)).mp c16; exact absurd c16 h
  · have c16 : ¬ n = 0 := fun h => c16 ((nI_le0 (by omega)).mpr h)
    refine EW.aload_n dX9_clear_19 rfl rfl ?_
    refine EM.callV (M_forget hl 0 (fU 3 (nI 0) (fU 0 (nI 0) s))) mfX9_forget l_X9_102 mvX9_forget (by omega) dX9_clear_20 rfl rfl rfl rfl (Nat.le_of_ble_eq_true rfl) (fun _ _ q => by obtain ⟨f, e, _⟩ := q; cases e) (fun v20 s20 q20 => ?_)
    obtain ⟨f, e20, h20, hf⟩ := q20; cases e20; replace h20 := h20.symm; subst h20
    refine EW.iload_n dX9_clear_23 rfl rfl ?_
    refine EW.iret rfl dX9_clear_24 ?_
    exact ⟨f, rfl, rfl, hf⟩
set_option maxHeartbeats 4000000 in
theorem M_feed1 (hl : l.stackTraces = false) (d : Nat) (s : MSt) (n : Nat) (hn : s.1 3 = nI n) (hn9 : n ≤ 20) (c : Nat) (hc : c < 65536) (hL : ¬ (97 ≤ nI c ∧ nI c ≤ 105)) : MtW (IM cy ad hp0) l D cy base mX9_feed (d + 2) 0 0 [.ref (ad 43), .int (nI c)] s (fun o s2 => o = .inl (some (.int (nI 0))) ∧ s2 = fU 0 (nI 1) (fU 0 (nI 0) s)) := by
  refine MtW.of hl mfX9_feed rfl (Nat.le_of_ble_eq_true rfl) ?_
  refine EW.aload_n dX9_feed_0 rfl rfl ?_
  refine EW.ic 0 dX9_feed_1 ?_
  refine EM.put f_X9_105 dX9_feed_2 rfl ?_
  refine EW.iload_n dX9_feed_5 rfl rfl ?_
  refine EW.callS (bc := 0) (bs := 0) (M_isLetter hl _ 0 (fU 0 (nI 0) s) (nI c)) mfX9_isLetter rfl l_X9_113 mvX9_isLetter (by omega) dX9_feed_6 rfl rfl (Nat.le_of_ble_eq_true rfl) (fun v6 s6 q6 => ?_) (fun _ _ q => nomatch q.1)
  obtain ⟨e6, h6⟩ := q6; cases e6; replace h6 := h6.symm; subst h6
  refine EW.top (y := nI 0) ((if_neg hL).trans (by decide +kernel)) ?_
  refine EW.if_ne 18 dX9_feed_9 (by decide) (fun c9 => ?_) (fun c9 => ?_)
  · exact absurd c9 (by decide +kernel)
  · refine EW.aload_n dX9_feed_12 rfl rfl ?_
    refine EW.ic 1 dX9_feed_13 ?_
    refine EM.callV (M_fail hl 0 (fU 0 (nI 0) s) (nI 1)) mfX9_fail l_X9_165 mvX9_fail (by omega) dX9_feed_14 rfl rfl rfl rfl (Nat.le_of_ble_eq_true rfl) (fun _ _ q => nomatch q.1) (fun v14 s14 q14 => ?_)
    obtain ⟨e14, h14⟩ := q14; cases e14; replace h14 := h14.symm; subst h14
    refine EW.iret rfl dX9_feed_17 ?_
    exact ⟨rfl, rfl⟩
set_option maxHeartbeats 4000000 in
theorem M_feed2 (hl : l.stackTraces = false) (d : Nat) (s : MSt) (n : Nat) (hn : s.1 3 = nI n) (hn9 : n ≤ 20) (c : Nat) (hc : c < 65536) (hL : 97 ≤ nI c ∧ nI c ≤ 105) (h : n = 20) : MtW (IM cy ad hp0) l D cy base mX9_feed (d + 2) 0 0 [.ref (ad 43), .int (nI c)] s (fun o s2 => o = .inl (some (.int (nI 0))) ∧ s2 = fU 0 (nI 2) (fU 0 (nI 0) s)) := by
  refine MtW.of hl mfX9_feed rfl (Nat.le_of_ble_eq_true rfl) ?_
  refine EW.aload_n dX9_feed_0 rfl rfl ?_
  refine EW.ic 0 dX9_feed_1 ?_
  refine EM.put f_X9_105 dX9_feed_2 rfl ?_
  refine EW.iload_n dX9_feed_5 rfl rfl ?_
  refine EW.callS (bc := 0) (bs := 0) (M_isLetter hl _ 0 (fU 0 (nI 0) s) (nI c)) mfX9_isLetter rfl l_X9_113 mvX9_isLetter (by omega) dX9_feed_6 rfl rfl (Nat.le_of_ble_eq_true rfl) (fun v6 s6 q6 => ?_) (fun _ _ q => nomatch q.1)
  obtain ⟨e6, h6⟩ := q6; cases e6; replace h6 := h6.symm; subst h6
  refine EW.top (y := nI 1) ((if_pos hL).trans (by decide +kernel)) ?_
  refine EW.if_ne 18 dX9_feed_9 (by decide) (fun c9 => ?_) (fun c9 => ?_)
  · refine EW.aload_n dX9_feed_18 rfl rfl ?_
    refine EM.get f_X9_168 dX9_feed_19 rfl ?_
    refine EW.top hn ?_
    refine EW.bp 20 dX9_feed_22 ?_
    refine EW.icmp_ne 33 dX9_feed_24 (by decide) (fun c24 => ?_) (fun c24 => ?_)
    · have c24 : ¬ (n = 20) := fun h => c24 ((nI_eq (by omega) (by omega)).mpr h); exact absurd h c24
    · have c24 : n = 20 := (nI_eq (by omega) (by omega)).mp c24
      refine EW.aload_n dX9_feed_27 rfl rfl ?_
      refine EW.ic 2 dX9_feed_28 ?_
      refine EM.callV (M_fail hl 0 (fU 0 (nI 0) s) (nI 2)) mfX9_fail l_X9_165 mvX9_fail (by omega) dX9_feed_29 rfl rfl rfl rfl (Nat.le_of_ble_eq_true rfl) (fun _ _ q => nomatch q.1) (fun v29 s29 q29 => ?_)
      obtain ⟨e29, h29⟩ := q29; cases e29; replace h29 := h29.symm; subst h29
      refine EW.iret rfl dX9_feed_32 ?_
      exact ⟨rfl, rfl⟩
  · exact absurd c9 (by decide +kernel)
set_option maxHeartbeats 4000000 in
theorem M_feed3 (hl : l.stackTraces = false) (d : Nat) (s : MSt) (n : Nat) (hn : s.1 3 = nI n) (hn9 : n ≤ 20) (c : Nat) (hc : c < 65536) (hL : 97 ≤ nI c ∧ nI c ≤ 105) (h97 : 97 ≤ c) (h : ¬ n = 20) : MtW (IM cy ad hp0) l D cy base mX9_feed (d + 2) 0 0 [.ref (ad 43), .int (nI c)] s (fun o s2 => ∃ f, o = .inl (some (.int (nI (n + 1)))) ∧ s2 = (va_up (va_up s.1 0 (nI 0)) 3 (nI (n + 1)), va_up (va_up s.2 4 (upd (s.2 4) n (nI (c - 97)))) 13 f) ∧ ∀ j, j < 126 → f j = -2) := by
  refine MtW.of hl mfX9_feed rfl (Nat.le_of_ble_eq_true rfl) ?_
  refine EW.aload_n dX9_feed_0 rfl rfl ?_
  refine EW.ic 0 dX9_feed_1 ?_
  refine EM.put f_X9_105 dX9_feed_2 rfl ?_
  refine EW.iload_n dX9_feed_5 rfl rfl ?_
  refine EW.callS (bc := 0) (bs := 0) (M_isLetter hl _ 0 (fU 0 (nI 0) s) (nI c)) mfX9_isLetter rfl l_X9_113 mvX9_isLetter (by omega) dX9_feed_6 rfl rfl (Nat.le_of_ble_eq_true rfl) (fun v6 s6 q6 => ?_) (fun _ _ q => nomatch q.1)
  obtain ⟨e6, h6⟩ := q6; cases e6; replace h6 := h6.symm; subst h6
  refine EW.top (y := nI 1) ((if_pos hL).trans (by decide +kernel)) ?_
  refine EW.if_ne 18 dX9_feed_9 (by decide) (fun c9 => ?_) (fun c9 => ?_)
  · refine EW.aload_n dX9_feed_18 rfl rfl ?_
    refine EM.get f_X9_168 dX9_feed_19 rfl ?_
    refine EW.top hn ?_
    refine EW.bp 20 dX9_feed_22 ?_
    refine EW.icmp_ne 33 dX9_feed_24 (by decide) (fun c24 => ?_) (fun c24 => ?_)
    · have c24 : ¬ (n = 20) := fun h => c24 ((nI_eq (by omega) (by omega)).mpr h)
      refine EW.aload_n dX9_feed_33 rfl rfl ?_
      refine EM.get f_X9_13 dX9_feed_34 rfl ?_
      refine EW.aload_n dX9_feed_37 rfl rfl ?_
      refine EM.get f_X9_168 dX9_feed_38 rfl ?_
      refine EW.top hn ?_
      refine EW.iload_n dX9_feed_41 rfl rfl ?_
      refine EW.bp 97 dX9_feed_42 ?_
      refine EW.isub dX9_feed_44 ?_
      refine EW.top (pk_sub (by omega)) ?_
      refine EM.iastN (n) dX9_feed_45 rfl rfl (by simp only [mLen]; omega) ?_
      refine EW.aload_n dX9_feed_46 rfl rfl ?_
      refine EW.dup dX9_feed_47 rfl ?_
      refine EM.get f_X9_168 dX9_feed_48 rfl ?_
      refine EW.top hn ?_
      refine EW.ic 1 dX9_feed_51 ?_
      refine EW.iadd dX9_feed_52 ?_
      refine EW.top (nI_add _ _) ?_
      refine EM.put f_X9_168 dX9_feed_53 rfl ?_
      refine EW.aload_n dX9_feed_56 rfl rfl ?_
      refine EM.callV (M_forget hl 0 (fU 3 (nI (n + 1)) (aU 4 n (nI (c - 97)) (fU 0 (nI 0) s)))) mfX9_forget l_X9_102 mvX9_forget (by omega) dX9_feed_57 rfl rfl rfl rfl (Nat.le_of_ble_eq_true rfl) (fun _ _ q => by obtain ⟨f, e, _⟩ := q; cases e) (fun v57 s57 q57 => ?_)
      obtain ⟨f, e57, h57, hf⟩ := q57; cases e57; replace h57 := h57.symm; subst h57
      refine EW.aload_n dX9_feed_60 rfl rfl ?_
      refine EM.get f_X9_168 dX9_feed_61 rfl ?_
      refine EW.top (show va_up (va_up s.1 0 (nI 0)) 3 (nI (n + 1)) 3 = nI (n + 1) from va_up_self _ _ _) ?_
      refine EW.iret rfl dX9_feed_64 ?_
      exact ⟨f, rfl, rfl, hf⟩
    · have c24 : n = 20 := (nI_eq (by omega) (by omega)).mp c24; exact absurd c24 h
  · exact absurd c9 (by decide +kernel)
end M9
