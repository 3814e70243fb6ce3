section M11
variable {cy : Nat → ClassId} {ad : Nat → Nat} {hp0 : Hp} {l : Launch} {D : va_G} {base : Nat}
set_option maxHeartbeats 4000000 in
theorem M_count0 (hl : l.stackTraces = false) (d : Nat) (s : MSt) : MtW (IM cy ad hp0) l D cy base mX9_count (d + 2) 0 0 [.ref (ad 43), .int (nI 0)] s (fun o s2 => o = .inl (some (.int (nI (rlF (s.2 10) 6 0 0)))) ∧ s2 = fU 0 (nI 0) s) := by
  refine MtW.of hl mfX9_count rfl (Nat.le_of_ble_eq_true rfl) ?_
  refine EW.aload_n dX9_count_0 rfl rfl ?_
  refine EW.iload_n dX9_count_1 rfl rfl ?_
  refine EW.ic 0 dX9_count_2 ?_
  refine EW.ic 5 dX9_count_3 ?_
  refine EW.callS (bc := 0) (bs := 0) (M_in hl _ 0 s (nI 0) (nI 0) (nI 5)) mfX9_in rfl l_X9_109 mvX9_in (by omega) dX9_count_4 rfl rfl (Nat.le_of_ble_eq_true rfl) (fun v4 s4 q4 => ?_) (fun _ _ q => nomatch q.1)
  obtain ⟨e4, h4⟩ := q4; cases e4; replace h4 := h4.symm; subst h4
  refine EW.top (y := nI 1) (by decide +kernel) ?_
  refine EW.if_eq 14 dX9_count_7 (by decide) (fun c7 => ?_) (fun c7 => ?_)
  · exact absurd c7 (by decide +kernel)
  · refine EW.ic 0 dX9_count_10 ?_
    refine EW.goto 15 dX9_count_11 (by decide) ?_
    refine EM.put f_X9_105 dX9_count_15 rfl ?_
    refine EW.iload_n dX9_count_18 rfl rfl ?_
    refine EW.tableIn (off := 37) 56 dX9_count_19 (by decide +kernel) (by decide +kernel) (by decide +kernel) (by decide) ?_
    refine EW.aload_n dX9_count_56 rfl rfl ?_
    refine EM.callV (M_rules hl 0 (fU 0 (nI 0) s)) mfX9_rules l_X9_201 mvX9_rules (by omega) dX9_count_57 rfl rfl rfl rfl (Nat.le_of_ble_eq_true rfl) (fun _ _ q => nomatch q.1) (fun v57 s57 q57 => ?_)
    obtain ⟨e57, h57⟩ := q57; cases e57; replace h57 := h57.symm; subst h57
    refine EW.iret rfl dX9_count_60 ?_
    exact ⟨rfl, rfl⟩
set_option maxHeartbeats 4000000 in
theorem M_count1 (hl : l.stackTraces = false) (d : Nat) (s : MSt) : MtW (IM cy ad hp0) l D cy base mX9_count (d + 2) 0 0 [.ref (ad 43), .int (nI 1)] s (fun o s2 => o = .inl (some (.int (s.1 1))) ∧ s2 = fU 0 (nI 0) s) := by
  refine MtW.of hl mfX9_count rfl (Nat.le_of_ble_eq_true rfl) ?_
  refine EW.aload_n dX9_count_0 rfl rfl ?_
  refine EW.iload_n dX9_count_1 rfl rfl ?_
  refine EW.ic 0 dX9_count_2 ?_
  refine EW.ic 5 dX9_count_3 ?_
  refine EW.callS (bc := 0) (bs := 0) (M_in hl _ 0 s (nI 1) (nI 0) (nI 5)) mfX9_in rfl l_X9_109 mvX9_in (by omega) dX9_count_4 rfl rfl (Nat.le_of_ble_eq_true rfl) (fun v4 s4 q4 => ?_) (fun _ _ q => nomatch q.1)
  obtain ⟨e4, h4⟩ := q4; cases e4; replace h4 := h4.symm; subst h4
  refine EW.top (y := nI 1) (by decide +kernel) ?_
  refine EW.if_eq 14 dX9_count_7 (by decide) (fun c7 => ?_) (fun c7 => ?_)
  · exact absurd c7 (by decide +kernel)
  · refine EW.ic 0 dX9_count_10 ?_
    refine EW.goto 15 dX9_count_11 (by decide) ?_
    refine EM.put f_X9_105 dX9_count_15 rfl ?_
    refine EW.iload_n dX9_count_18 rfl rfl ?_
    refine EW.tableIn (off := 42) 61 dX9_count_19 (by decide +kernel) (by decide +kernel) (by decide +kernel) (by decide) ?_
    refine EW.aload_n dX9_count_61 rfl rfl ?_
    refine EM.get f_X9_120 dX9_count_62 rfl ?_
    refine EW.iret rfl dX9_count_65 ?_
    exact ⟨rfl, rfl⟩
set_option maxHeartbeats 4000000 in
theorem M_count2 (hl : l.stackTraces = false) (d : Nat) (s : MSt) : MtW (IM cy ad hp0) l D cy base mX9_count (d + 2) 0 0 [.ref (ad 43), .int (nI 2)] s (fun o s2 => o = .inl (some (.int (s.1 3))) ∧ s2 = fU 0 (nI 0) s) := by
  refine MtW.of hl mfX9_count rfl (Nat.le_of_ble_eq_true rfl) ?_
  refine EW.aload_n dX9_count_0 rfl rfl ?_
  refine EW.iload_n dX9_count_1 rfl rfl ?_
  refine EW.ic 0 dX9_count_2 ?_
  refine EW.ic 5 dX9_count_3 ?_
  refine EW.callS (bc := 0) (bs := 0) (M_in hl _ 0 s (nI 2) (nI 0) (nI 5)) mfX9_in rfl l_X9_109 mvX9_in (by omega) dX9_count_4 rfl rfl (Nat.le_of_ble_eq_true rfl) (fun v4 s4 q4 => ?_) (fun _ _ q => nomatch q.1)
  obtain ⟨e4, h4⟩ := q4; cases e4; replace h4 := h4.symm; subst h4
  refine EW.top (y := nI 1) (by decide +kernel) ?_
  refine EW.if_eq 14 dX9_count_7 (by decide) (fun c7 => ?_) (fun c7 => ?_)
  · exact absurd c7 (by decide +kernel)
  · refine EW.ic 0 dX9_count_10 ?_
    refine EW.goto 15 dX9_count_11 (by decide) ?_
    refine EM.put f_X9_105 dX9_count_15 rfl ?_
    refine EW.iload_n dX9_count_18 rfl rfl ?_
    refine EW.tableIn (off := 47) 66 dX9_count_19 (by decide +kernel) (by decide +kernel) (by decide +kernel) (by decide) ?_
    refine EW.aload_n dX9_count_66 rfl rfl ?_
    refine EM.get f_X9_168 dX9_count_67 rfl ?_
    refine EW.iret rfl dX9_count_70 ?_
    exact ⟨rfl, rfl⟩
set_option maxHeartbeats 4000000 in
theorem M_count3 (hl : l.stackTraces = false) (d : Nat) (s : MSt) : MtW (IM cy ad hp0) l D cy base mX9_count (d + 2) 0 0 [.ref (ad 43), .int (nI 3)] s (fun o s2 => o = .inl (some (.int (s.1 28))) ∧ s2 = fU 0 (nI 0) s) := by
  refine MtW.of hl mfX9_count rfl (Nat.le_of_ble_eq_true rfl) ?_
  refine EW.aload_n dX9_count_0 rfl rfl ?_
  refine EW.iload_n dX9_count_1 rfl rfl ?_
  refine EW.ic 0 dX9_count_2 ?_
  refine EW.ic 5 dX9_count_3 ?_
  refine EW.callS (bc := 0) (bs := 0) (M_in hl _ 0 s (nI 3) (nI 0) (nI 5)) mfX9_in rfl l_X9_109 mvX9_in (by omega) dX9_count_4 rfl rfl (Nat.le_of_ble_eq_true rfl) (fun v4 s4 q4 => ?_) (fun _ _ q => nomatch q.1)
  obtain ⟨e4, h4⟩ := q4; cases e4; replace h4 := h4.symm; subst h4
  refine EW.top (y := nI 1) (by decide +kernel) ?_
  refine EW.if_eq 14 dX9_count_7 (by decide) (fun c7 => ?_) (fun c7 => ?_)
  · exact absurd c7 (by decide +kernel)
  · refine EW.ic 0 dX9_count_10 ?_
    refine EW.goto 15 dX9_count_11 (by decide) ?_
    refine EM.put f_X9_105 dX9_count_15 rfl ?_
    refine EW.iload_n dX9_count_18 rfl rfl ?_
    refine EW.tableIn (off := 52) 71 dX9_count_19 (by decide +kernel) (by decide +kernel) (by decide +kernel) (by decide) ?_
    refine EW.aload_n dX9_count_71 rfl rfl ?_
    refine EM.get f_X9_246 dX9_count_72 rfl ?_
    refine EW.iret rfl dX9_count_75 ?_
    exact ⟨rfl, rfl⟩
set_option maxHeartbeats 4000000 in
theorem M_count4 (hl : l.stackTraces = false) (d : Nat) (s : MSt) : MtW (IM cy ad hp0) l D cy base mX9_count (d + 2) 0 0 [.ref (ad 43), .int (nI 4)] s (fun o s2 => o = .inl (some (.int (s.1 14))) ∧ s2 = fU 0 (nI 0) s) := by
  refine MtW.of hl mfX9_count rfl (Nat.le_of_ble_eq_true rfl) ?_
  refine EW.aload_n dX9_count_0 rfl rfl ?_
  refine EW.iload_n dX9_count_1 rfl rfl ?_
  refine EW.ic 0 dX9_count_2 ?_
  refine EW.ic 5 dX9_count_3 ?_
  refine EW.callS (bc := 0) (bs := 0) (M_in hl _ 0 s (nI 4) (nI 0) (nI 5)) mfX9_in rfl l_X9_109 mvX9_in (by omega) dX9_count_4 rfl rfl (Nat.le_of_ble_eq_true rfl) (fun v4 s4 q4 => ?_) (fun _ _ q => nomatch q.1)
  obtain ⟨e4, h4⟩ := q4; cases e4; replace h4 := h4.symm; subst h4
  refine EW.top (y := nI 1) (by decide +kernel) ?_
  refine EW.if_eq 14 dX9_count_7 (by decide) (fun c7 => ?_) (fun c7 => ?_)
  · exact absurd c7 (by decide +kernel)
  · refine EW.ic 0 dX9_count_10 ?_
    refine EW.goto 15 dX9_count_11 (by decide) ?_
    refine EM.put f_X9_105 dX9_count_15 rfl ?_
    refine EW.iload_n dX9_count_18 rfl rfl ?_
    refine EW.tableIn (off := 57) 76 dX9_count_19 (by decide +kernel) (by decide +kernel) (by decide +kernel) (by decide) ?_
    refine EW.aload_n dX9_count_76 rfl rfl ?_
    refine EM.get f_X9_231 dX9_count_77 rfl ?_
    refine EW.iret rfl dX9_count_80 ?_
    exact ⟨rfl, rfl⟩
set_option maxHeartbeats 4000000 in
theorem M_count5 (hl : l.stackTraces = false) (d : Nat) (s : MSt) : MtW (IM cy ad hp0) l D cy base mX9_count (d + 2) 0 0 [.ref (ad 43), .int (nI 5)] s (fun o s2 => o = .inl (some (.int (s.1 15))) ∧ s2 = fU 0 (nI 0) s) := by
  refine MtW.of hl mfX9_count rfl (Nat.le_of_ble_eq_true rfl) ?_
  refine EW.aload_n dX9_count_0 rfl rfl ?_
  refine EW.iload_n dX9_count_1 rfl rfl ?_
  refine EW.ic 0 dX9_count_2 ?_
  refine EW.ic 5 dX9_count_3 ?_
  refine EW.callS (bc := 0) (bs := 0) (M_in hl _ 0 s (nI 5) (nI 0) (nI 5)) mfX9_in rfl l_X9_109 mvX9_in (by omega) dX9_count_4 rfl rfl (Nat.le_of_ble_eq_true rfl) (fun v4 s4 q4 => ?_) (fun _ _ q => nomatch q.1)
  obtain ⟨e4, h4⟩ := q4; cases e4; replace h4 := h4.symm; subst h4
  refine EW.top (y := nI 1) (by decide +kernel) ?_
  refine EW.if_eq 14 dX9_count_7 (by decide) (fun c7 => ?_) (fun c7 => ?_)
  · exact absurd c7 (by decide +kernel)
  · refine EW.ic 0 dX9_count_10 ?_
    refine EW.goto 15 dX9_count_11 (by decide) ?_
    refine EM.put f_X9_105 dX9_count_15 rfl ?_
    refine EW.iload_n dX9_count_18 rfl rfl ?_
    refine EW.tableIn (off := 62) 81 dX9_count_19 (by decide +kernel) (by decide +kernel) (by decide +kernel) (by decide) ?_
    refine EW.aload_n dX9_count_81 rfl rfl ?_
    refine EM.get f_X9_225 dX9_count_82 rfl ?_
    refine EW.iret rfl dX9_count_85 ?_
    exact ⟨rfl, rfl⟩
end M11
