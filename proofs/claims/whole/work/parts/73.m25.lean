section M25
variable {cy : Nat → ClassId} {ad : Nat → Nat} {hp0 : Hp} {l : Launch} {D : va_G} {base : Nat}
set_option maxHeartbeats 4000000 in
theorem M_match1 (hl : l.stackTraces = false) (dd : Nat) (hdd : 2 ≤ dd) (s : MSt) (r p : Int32) (hR : MtW (IM cy ad hp0) l D cy base mX9_hasRule (0 + 1) 0 0 [.ref (ad 43), .int r] (fU 28 (nI 0) s) (fun o s2 => o = .inl (some (.int (nI 0))) ∧ s2 = (fU 28 (nI 0) s))) : MtW (IM cy ad hp0) l D cy base mX9_match dd 0 0 [.ref (ad 43), .int r, .int p] s (fun o s2 => o = .inl (some (.int (nI 0))) ∧ s2 = fU 0 (nI 1) (fU 28 (nI 0) s)) := by
  refine MtW.of hl mfX9_match rfl (Nat.le_of_ble_eq_true rfl) ?_
  refine EW.aload_n dX9_match_0 rfl rfl ?_
  refine EW.ic 0 dX9_match_1 ?_
  refine EM.put f_X9_246 dX9_match_2 rfl ?_
  refine EW.aload_n dX9_match_5 rfl rfl ?_
  refine EW.aload_n dX9_match_6 rfl rfl ?_
  refine EW.iload_n dX9_match_7 rfl rfl ?_
  refine EM.callV (hR) mfX9_hasRule l_X9_191 mvX9_hasRule (by omega) dX9_match_8 rfl rfl rfl rfl (Nat.le_of_ble_eq_true rfl) (fun _ _ q => nomatch q.1) (fun v8 s8 q8 => ?_)
  obtain ⟨e8, h8⟩ := q8; cases e8; replace h8 := h8.symm; subst h8
  refine EW.if_ne 18 dX9_match_11 (by decide) (fun c11 => ?_) (fun c11 => ?_)
  · exact absurd c11 (by decide +kernel)
  · refine EW.ic 1 dX9_match_14 ?_
    refine EW.goto 46 dX9_match_15 (by decide) ?_
    refine EM.put f_X9_105 dX9_match_46 rfl ?_
    refine EW.aload_n dX9_match_49 rfl rfl ?_
    refine EM.get f_X9_105 dX9_match_50 rfl ?_
    refine EW.top (show va_up (fU 28 (nI 0) s).1 0 (nI 1) 0 = nI 1 from va_up_self _ _ _) ?_
    refine EW.if_le 58 dX9_match_53 (by decide) (fun c53 => ?_) (fun c53 => ?_)
    · exact absurd c53 (by decide +kernel)
    · refine EW.ic 0 dX9_match_56 ?_
      refine EW.iret rfl dX9_match_57 ?_
      exact ⟨rfl, rfl⟩
set_option maxHeartbeats 4000000 in
theorem M_match2 (hl : l.stackTraces = false) (dd : Nat) (hdd : 2 ≤ dd) (s : MSt) (r p : Int32) (hR : MtW (IM cy ad hp0) l D cy base mX9_hasRule (0 + 1) 0 0 [.ref (ad 43), .int r] (fU 28 (nI 0) s) (fun o s2 => o = .inl (some (.int (nI 1))) ∧ s2 = (fU 28 (nI 0) s))) (hp : ¬ (nI 0 ≤ p ∧ p ≤ s.1 3)) : MtW (IM cy ad hp0) l D cy base mX9_match dd 0 0 [.ref (ad 43), .int r, .int p] s (fun o s2 => o = .inl (some (.int (nI 0))) ∧ s2 = fU 0 (nI 2) (fU 28 (nI 0) s)) := by
  refine MtW.of hl mfX9_match rfl (Nat.le_of_ble_eq_true rfl) ?_
  refine EW.aload_n dX9_match_0 rfl rfl ?_
  refine EW.ic 0 dX9_match_1 ?_
  refine EM.put f_X9_246 dX9_match_2 rfl ?_
  refine EW.aload_n dX9_match_5 rfl rfl ?_
  refine EW.aload_n dX9_match_6 rfl rfl ?_
  refine EW.iload_n dX9_match_7 rfl rfl ?_
  refine EM.callV (hR) mfX9_hasRule l_X9_191 mvX9_hasRule (by omega) dX9_match_8 rfl rfl rfl rfl (Nat.le_of_ble_eq_true rfl) (fun _ _ q => nomatch q.1) (fun v8 s8 q8 => ?_)
  obtain ⟨e8, h8⟩ := q8; cases e8; replace h8 := h8.symm; subst h8
  refine EW.if_ne 18 dX9_match_11 (by decide) (fun c11 => ?_) (fun c11 => ?_)
  · refine EW.iload_n dX9_match_18 rfl rfl ?_
    refine EW.ic 0 dX9_match_19 ?_
    refine EW.aload_n dX9_match_20 rfl rfl ?_
    refine EM.get f_X9_168 dX9_match_21 rfl ?_
    refine EW.callS (bc := 0) (bs := 0) (M_in hl _ 0 (fU 28 (nI 0) s) _ _ _) mfX9_in rfl l_X9_109 mvX9_in (by omega) dX9_match_24 rfl rfl (Nat.le_of_ble_eq_true rfl) (fun v24 s24 q24 => ?_) (fun _ _ q => nomatch q.1)
    obtain ⟨e24, h24⟩ := q24; cases e24; replace h24 := h24.symm; subst h24
    refine EW.top (y := nI 0) ((if_neg hp).trans (by decide +kernel)) ?_
    refine EW.if_ne 34 dX9_match_27 (by decide) (fun c27 => ?_) (fun c27 => ?_)
    · exact absurd c27 (by decide +kernel)
    · refine EW.ic 2 dX9_match_30 ?_
      refine EW.goto 46 dX9_match_31 (by decide) ?_
      refine EM.put f_X9_105 dX9_match_46 rfl ?_
      refine EW.aload_n dX9_match_49 rfl rfl ?_
      refine EM.get f_X9_105 dX9_match_50 rfl ?_
      refine EW.top (show va_up (fU 28 (nI 0) s).1 0 (nI 2) 0 = nI 2 from va_up_self _ _ _) ?_
      refine EW.if_le 58 dX9_match_53 (by decide) (fun c53 => ?_) (fun c53 => ?_)
      · exact absurd c53 (by decide +kernel)
      · refine EW.ic 0 dX9_match_56 ?_
        refine EW.iret rfl dX9_match_57 ?_
        exact ⟨rfl, rfl⟩
  · exact absurd c11 (by decide +kernel)
set_option maxHeartbeats 4000000 in
theorem M_match3 (hl : l.stackTraces = false) (dd : Nat) (hdd : 8 ≤ dd) (s : MSt) (r p v : Int32) (hv : ¬ v = 0) (P : MSt → Prop) (hR : MtW (IM cy ad hp0) l D cy base mX9_hasRule (0 + 1) 0 0 [.ref (ad 43), .int r] (fU 28 (nI 0) s) (fun o s2 => o = .inl (some (.int (nI 1))) ∧ s2 = (fU 28 (nI 0) s))) (hp : nI 0 ≤ p ∧ p ≤ s.1 3) (hF : MtW (IM cy ad hp0) l D cy base mX9_fault (0 + 6) 0 0 [.ref (ad 43)] (fU 28 (nI 0) s) (fun o s2 => o = .inl (some (.int v)) ∧ P s2)) : MtW (IM cy ad hp0) l D cy base mX9_match dd 0 0 [.ref (ad 43), .int r, .int p] s (fun o s2 => o = .inl (some (.int (nI 0))) ∧ ∃ s1, P s1 ∧ s2 = fU 0 (nI 3) s1) := by
  refine MtW.of hl mfX9_match rfl (Nat.le_of_ble_eq_true rfl) ?_
  refine EW.aload_n dX9_match_0 rfl rfl ?_
  refine EW.ic 0 dX9_match_1 ?_
  refine EM.put f_X9_246 dX9_match_2 rfl ?_
  refine EW.aload_n dX9_match_5 rfl rfl ?_
  refine EW.aload_n dX9_match_6 rfl rfl ?_
  refine EW.iload_n dX9_match_7 rfl rfl ?_
  refine EM.callV (hR) mfX9_hasRule l_X9_191 mvX9_hasRule (by omega) dX9_match_8 rfl rfl rfl rfl (Nat.le_of_ble_eq_true rfl) (fun _ _ q => nomatch q.1) (fun v8 s8 q8 => ?_)
  obtain ⟨e8, h8⟩ := q8; cases e8; replace h8 := h8.symm; subst h8
  refine EW.if_ne 18 dX9_match_11 (by decide) (fun c11 => ?_) (fun c11 => ?_)
  · refine EW.iload_n dX9_match_18 rfl rfl ?_
    refine EW.ic 0 dX9_match_19 ?_
    refine EW.aload_n dX9_match_20 rfl rfl ?_
    refine EM.get f_X9_168 dX9_match_21 rfl ?_
    refine EW.callS (bc := 0) (bs := 0) (M_in hl _ 0 (fU 28 (nI 0) s) _ _ _) mfX9_in rfl l_X9_109 mvX9_in (by omega) dX9_match_24 rfl rfl (Nat.le_of_ble_eq_true rfl) (fun v24 s24 q24 => ?_) (fun _ _ q => nomatch q.1)
    obtain ⟨e24, h24⟩ := q24; cases e24; replace h24 := h24.symm; subst h24
    refine EW.top (y := nI 1) ((if_pos hp).trans (by decide +kernel)) ?_
    refine EW.if_ne 34 dX9_match_27 (by decide) (fun c27 => ?_) (fun c27 => ?_)
    · refine EW.aload_n dX9_match_34 rfl rfl ?_
      refine EM.callV (hF) mfX9_fault l_X9_204 mvX9_fault (by omega) dX9_match_35 rfl rfl rfl rfl (Nat.le_of_ble_eq_true rfl) (fun _ _ q => nomatch q.1) (fun v35 s35 q35 => ?_)
      obtain ⟨e35, hP⟩ := q35; cases e35
      refine EW.if_eq 45 dX9_match_38 (by decide) (fun c38 => ?_) (fun c38 => ?_)
      · exact absurd c38 hv
      · refine EW.ic 3 dX9_match_41 ?_
        refine EW.goto 46 dX9_match_42 (by decide) ?_
        refine EM.put f_X9_105 dX9_match_46 rfl ?_
        refine EW.aload_n dX9_match_49 rfl rfl ?_
        refine EM.get f_X9_105 dX9_match_50 rfl ?_
        refine EW.top (show va_up s35.1 0 (nI 3) 0 = nI 3 from va_up_self _ _ _) ?_
        refine EW.if_le 58 dX9_match_53 (by decide) (fun c53 => ?_) (fun c53 => ?_)
        · exact absurd c53 (by decide +kernel)
        · refine EW.ic 0 dX9_match_56 ?_
          refine EW.iret rfl dX9_match_57 ?_
          exact ⟨rfl, s35, hP, rfl⟩
    · exact absurd c27 (by decide +kernel)
  · exact absurd c11 (by decide +kernel)
set_option maxHeartbeats 4000000 in
theorem M_match4 (hl : l.stackTraces = false) (dd : Nat) (hdd : 8 ≤ dd) (s : MSt) (r p : Nat) (hr : r < 6) (P P2 : MSt → Prop) (hR : MtW (IM cy ad hp0) l D cy base mX9_hasRule (0 + 1) 0 0 [.ref (ad 43), .int (nI r)] (fU 28 (nI 0) s) (fun o s2 => o = .inl (some (.int (nI 1))) ∧ s2 = (fU 28 (nI 0) s))) (hp : nI 0 ≤ nI p ∧ nI p ≤ s.1 3) (hF : MtW (IM cy ad hp0) l D cy base mX9_fault (0 + 6) 0 0 [.ref (ad 43)] (fU 28 (nI 0) s) (fun o s2 => o = .inl (some (.int 0)) ∧ P s2)) (hRun : ∀ s1, P s1 → MtW (IM cy ad hp0) l D cy base mX9_run (dd - 1) 0 0 [.ref (ad 43), .int (nI 447), .int (nI p)] (aU 6 447 (nI r) (aU 5 447 (nI 1) (fU 0 (nI 0) s1))) (fun o s2 => o = .inl (some (.int (-3))) ∧ P2 s2)) : MtW (IM cy ad hp0) l D cy base mX9_match dd 0 0 [.ref (ad 43), .int (nI r), .int (nI p)] s (fun o s2 => o = .inl (some (.int (nI 0))) ∧ ∃ s1, P2 s1 ∧ s2 = fU 0 (nI 3) s1) := by
  refine MtW.of hl mfX9_match rfl (Nat.le_of_ble_eq_true rfl) ?_
  refine EW.aload_n dX9_match_0 rfl rfl ?_
  refine EW.ic 0 dX9_match_1 ?_
  refine EM.put f_X9_246 dX9_match_2 rfl ?_
  refine EW.aload_n dX9_match_5 rfl rfl ?_
  refine EW.aload_n dX9_match_6 rfl rfl ?_
  refine EW.iload_n dX9_match_7 rfl rfl ?_
  refine EM.callV (hR) mfX9_hasRule l_X9_191 mvX9_hasRule (by omega) dX9_match_8 rfl rfl rfl rfl (Nat.le_of_ble_eq_true rfl) (fun _ _ q => nomatch q.1) (fun v8 s8 q8 => ?_)
  obtain ⟨e8, h8⟩ := q8; cases e8; replace h8 := h8.symm; subst h8
  refine EW.if_ne 18 dX9_match_11 (by decide) (fun c11 => ?_) (fun c11 => ?_)
  · refine EW.iload_n dX9_match_18 rfl rfl ?_
    refine EW.ic 0 dX9_match_19 ?_
    refine EW.aload_n dX9_match_20 rfl rfl ?_
    refine EM.get f_X9_168 dX9_match_21 rfl ?_
    refine EW.callS (bc := 0) (bs := 0) (M_in hl _ 0 (fU 28 (nI 0) s) _ _ _) mfX9_in rfl l_X9_109 mvX9_in (by omega) dX9_match_24 rfl rfl (Nat.le_of_ble_eq_true rfl) (fun v24 s24 q24 => ?_) (fun _ _ q => nomatch q.1)
    obtain ⟨e24, h24⟩ := q24; cases e24; replace h24 := h24.symm; subst h24
    refine EW.top (y := nI 1) ((if_pos hp).trans (by decide +kernel)) ?_
    refine EW.if_ne 34 dX9_match_27 (by decide) (fun c27 => ?_) (fun c27 => ?_)
    · refine EW.aload_n dX9_match_34 rfl rfl ?_
      refine EM.callV (hF) mfX9_fault l_X9_204 mvX9_fault (by omega) dX9_match_35 rfl rfl rfl rfl (Nat.le_of_ble_eq_true rfl) (fun _ _ q => nomatch q.1) (fun v35 s35 q35 => ?_)
      obtain ⟨e35, hP⟩ := q35; cases e35
      refine EW.if_eq 45 dX9_match_38 (by decide) (fun c38 => ?_) (fun c38 => ?_)
      · refine EW.ic 0 dX9_match_45 ?_
        refine EM.put f_X9_105 dX9_match_46 rfl ?_
        refine EW.aload_n dX9_match_49 rfl rfl ?_
        refine EM.get f_X9_105 dX9_match_50 rfl ?_
        refine EW.top (show va_up s35.1 0 (nI 0) 0 = nI 0 from va_up_self _ _ _) ?_
        refine EW.if_le 58 dX9_match_53 (by decide) (fun c53 => ?_) (fun c53 => ?_)
        · refine EW.aload_n dX9_match_58 rfl rfl ?_
          refine EM.get f_X9_17 dX9_match_59 rfl ?_
          refine EW.sp 447 dX9_match_62 ?_
          refine EW.ic 1 dX9_match_65 ?_
          refine EM.iastN (447) dX9_match_66 rfl rfl (by simp only [mLen]; omega) ?_
          refine EW.aload_n dX9_match_67 rfl rfl ?_
          refine EM.get f_X9_20 dX9_match_68 rfl ?_
          refine EW.sp 447 dX9_match_71 ?_
          refine EW.iload_n dX9_match_74 rfl rfl ?_
          refine EM.iastN (447) dX9_match_75 rfl rfl (by simp only [mLen]; omega) ?_
          refine EW.aload_n dX9_match_76 rfl rfl ?_
          refine EW.sp 447 dX9_match_77 ?_
          refine EW.iload_n dX9_match_80 rfl rfl ?_
          refine EM.callV (hRun _ hP) mfX9_run l_X9_253 mvX9_run (by omega) dX9_match_81 rfl rfl rfl rfl (Nat.le_of_ble_eq_true rfl) (fun _ _ q => nomatch q.1) (fun v81 s81 q81 => ?_)
          obtain ⟨e81, hP2⟩ := q81; cases e81
          refine EW.istore_n dX9_match_84 rfl (by decide) ?_
          refine EW.iload_n dX9_match_85 rfl rfl ?_
          refine EW.bipush (v := -3) dX9_match_86 (by decide +kernel) ?_
          refine EW.icmp_ne 97 dX9_match_88 (by decide) (fun c88 => ?_) (fun c88 => ?_)
          · exact absurd rfl c88
          · refine EW.aload_n dX9_match_91 rfl rfl ?_
            refine EW.ic 3 dX9_match_92 ?_
            refine EM.callV (M_fail hl 0 s81 (nI 3)) mfX9_fail l_X9_165 mvX9_fail (by omega) dX9_match_93 rfl rfl rfl rfl (Nat.le_of_ble_eq_true rfl) (fun _ _ q => nomatch q.1) (fun v93 s93 q93 => ?_)
            obtain ⟨e93, h93⟩ := q93; cases e93; replace h93 := h93.symm; subst h93
            refine EW.iret rfl dX9_match_96 ?_
            exact ⟨rfl, s81, hP2, rfl⟩
        · exact absurd c53 (by decide +kernel)
      · exact absurd rfl c38
    · exact absurd c27 (by decide +kernel)
  · exact absurd c11 (by decide +kernel)
set_option maxHeartbeats 4000000 in
theorem M_match5 (hl : l.stackTraces = false) (dd : Nat) (hdd : 8 ≤ dd) (s : MSt) (r p : Nat) (hr : r < 6) (P P2 : MSt → Prop) (hR : MtW (IM cy ad hp0) l D cy base mX9_hasRule (0 + 1) 0 0 [.ref (ad 43), .int (nI r)] (fU 28 (nI 0) s) (fun o s2 => o = .inl (some (.int (nI 1))) ∧ s2 = (fU 28 (nI 0) s))) (hp : nI 0 ≤ nI p ∧ nI p ≤ s.1 3) (hF : MtW (IM cy ad hp0) l D cy base mX9_fault (0 + 6) 0 0 [.ref (ad 43)] (fU 28 (nI 0) s) (fun o s2 => o = .inl (some (.int 0)) ∧ P s2)) (hRun : ∀ s1, P s1 → MtW (IM cy ad hp0) l D cy base mX9_run (dd - 1) 0 0 [.ref (ad 43), .int (nI 447), .int (nI p)] (aU 6 447 (nI r) (aU 5 447 (nI 1) (fU 0 (nI 0) s1))) (fun o s2 => o = .inl (some (.int (-1))) ∧ P2 s2)) : MtW (IM cy ad hp0) l D cy base mX9_match dd 0 0 [.ref (ad 43), .int (nI r), .int (nI p)] s (fun o s2 => o = .inl (some (.int (-1))) ∧ P2 s2) := by
  refine MtW.of hl mfX9_match rfl (Nat.le_of_ble_eq_true rfl) ?_
  refine EW.aload_n dX9_match_0 rfl rfl ?_
  refine EW.ic 0 dX9_match_1 ?_
  refine EM.put f_X9_246 dX9_match_2 rfl ?_
  refine EW.aload_n dX9_match_5 rfl rfl ?_
  refine EW.aload_n dX9_match_6 rfl rfl ?_
  refine EW.iload_n dX9_match_7 rfl rfl ?_
  refine EM.callV (hR) mfX9_hasRule l_X9_191 mvX9_hasRule (by omega) dX9_match_8 rfl rfl rfl rfl (Nat.le_of_ble_eq_true rfl) (fun _ _ q => nomatch q.1) (fun v8 s8 q8 => ?_)
  obtain ⟨e8, h8⟩ := q8; cases e8; replace h8 := h8.symm; subst h8
  refine EW.if_ne 18 dX9_match_11 (by decide) (fun c11 => ?_) (fun c11 => ?_)
  · refine EW.iload_n dX9_match_18 rfl rfl ?_
    refine EW.ic 0 dX9_match_19 ?_
    refine EW.aload_n dX9_match_20 rfl rfl ?_
    refine EM.get f_X9_168 dX9_match_21 rfl ?_
    refine EW.callS (bc := 0) (bs := 0) (M_in hl _ 0 (fU 28 (nI 0) s) _ _ _) mfX9_in rfl l_X9_109 mvX9_in (by omega) dX9_match_24 rfl rfl (Nat.le_of_ble_eq_true rfl) (fun v24 s24 q24 => ?_) (fun _ _ q => nomatch q.1)
    obtain ⟨e24, h24⟩ := q24; cases e24; replace h24 := h24.symm; subst h24
    refine EW.top (y := nI 1) ((if_pos hp).trans (by decide +kernel)) ?_
    refine EW.if_ne 34 dX9_match_27 (by decide) (fun c27 => ?_) (fun c27 => ?_)
    · refine EW.aload_n dX9_match_34 rfl rfl ?_
      refine EM.callV (hF) mfX9_fault l_X9_204 mvX9_fault (by omega) dX9_match_35 rfl rfl rfl rfl (Nat.le_of_ble_eq_true rfl) (fun _ _ q => nomatch q.1) (fun v35 s35 q35 => ?_)
      obtain ⟨e35, hP⟩ := q35; cases e35
      refine EW.if_eq 45 dX9_match_38 (by decide) (fun c38 => ?_) (fun c38 => ?_)
      · refine EW.ic 0 dX9_match_45 ?_
        refine EM.put f_X9_105 dX9_match_46 rfl ?_
        refine EW.aload_n dX9_match_49 rfl rfl ?_
        refine EM.get f_X9_105 dX9_match_50 rfl ?_
        refine EW.top (show va_up s35.1 0 (nI 0) 0 = nI 0 from va_up_self _ _ _) ?_
        refine EW.if_le 58 dX9_match_53 (by decide) (fun c53 => ?_) (fun c53 => ?_)
        · refine EW.aload_n dX9_match_58 rfl rfl ?_
          refine EM.get f_X9_17 dX9_match_59 rfl ?_
          refine EW.sp 447 dX9_match_62 ?_
          refine EW.ic 1 dX9_match_65 ?_
          refine EM.iastN (447) dX9_match_66 rfl rfl (by simp only [mLen]; omega) ?_
          refine EW.aload_n dX9_match_67 rfl rfl ?_
          refine EM.get f_X9_20 dX9_match_68 rfl ?_
          refine EW.sp 447 dX9_match_71 ?_
          refine EW.iload_n dX9_match_74 rfl rfl ?_
          refine EM.iastN (447) dX9_match_75 rfl rfl (by simp only [mLen]; omega) ?_
          refine EW.aload_n dX9_match_76 rfl rfl ?_
          refine EW.sp 447 dX9_match_77 ?_
          refine EW.iload_n dX9_match_80 rfl rfl ?_
          refine EM.callV (hRun _ hP) mfX9_run l_X9_253 mvX9_run (by omega) dX9_match_81 rfl rfl rfl rfl (Nat.le_of_ble_eq_true rfl) (fun _ _ q => nomatch q.1) (fun v81 s81 q81 => ?_)
          obtain ⟨e81, hP2⟩ := q81; cases e81
          refine EW.istore_n dX9_match_84 rfl (by decide) ?_
          refine EW.iload_n dX9_match_85 rfl rfl ?_
          refine EW.bipush (v := -3) dX9_match_86 (by decide +kernel) ?_
          refine EW.icmp_ne 97 dX9_match_88 (by decide) (fun c88 => ?_) (fun c88 => ?_)
          · refine EW.iload_n dX9_match_97 rfl rfl ?_
            refine EW.if_lt 108 dX9_match_98 (by decide) (fun c98 => ?_) (fun c98 => ?_)
            · refine EW.iload_n dX9_match_108 rfl rfl ?_
              refine EW.iret rfl dX9_match_109 ?_
              exact ⟨rfl, hP2⟩
            · exact absurd (by decide +kernel) c98
          · exact absurd c88 (by decide +kernel)
        · exact absurd c53 (by decide +kernel)
      · exact absurd rfl c38
    · exact absurd c27 (by decide +kernel)
  · exact absurd c11 (by decide +kernel)
set_option maxHeartbeats 4000000 in
theorem M_match6 (hl : l.stackTraces = false) (dd : Nat) (hdd : 8 ≤ dd) (s : MSt) (r p q : Nat) (hr : r < 6) (P P2 : MSt → Prop) (hR : MtW (IM cy ad hp0) l D cy base mX9_hasRule (0 + 1) 0 0 [.ref (ad 43), .int (nI r)] (fU 28 (nI 0) s) (fun o s2 => o = .inl (some (.int (nI 1))) ∧ s2 = (fU 28 (nI 0) s))) (hp : nI 0 ≤ nI p ∧ nI p ≤ s.1 3) (hF : MtW (IM cy ad hp0) l D cy base mX9_fault (0 + 6) 0 0 [.ref (ad 43)] (fU 28 (nI 0) s) (fun o s2 => o = .inl (some (.int 0)) ∧ P s2)) (hRun : ∀ s1, P s1 → MtW (IM cy ad hp0) l D cy base mX9_run (dd - 1) 0 0 [.ref (ad 43), .int (nI 447), .int (nI p)] (aU 6 447 (nI r) (aU 5 447 (nI 1) (fU 0 (nI 0) s1))) (fun o s2 => o = .inl (some (.int (nI q))) ∧ P2 s2)) (hq : q ≤ 20) (P3 : MSt → Prop) (hGrow : ∀ s2, P2 s2 → MtW (IM cy ad hp0) l D cy base mX9_grow (dd - 1) 0 0 [.ref (ad 43), .int (nI r), .int (nI p), .int (nI q)] s2 (fun o s3 => o = .inl none ∧ P3 s3)) : MtW (IM cy ad hp0) l D cy base mX9_match dd 0 0 [.ref (ad 43), .int (nI r), .int (nI p)] s (fun o s2 => o = .inl (some (.int (nI q))) ∧ P3 s2) := by
  refine MtW.of hl mfX9_match rfl (Nat.le_of_ble_eq_true rfl) ?_
  refine EW.aload_n dX9_match_0 rfl rfl ?_
  refine EW.ic 0 dX9_match_1 ?_
  refine EM.put f_X9_246 dX9_match_2 rfl ?_
  refine EW.aload_n dX9_match_5 rfl rfl ?_
  refine EW.aload_n dX9_match_6 rfl rfl ?_
  refine EW.iload_n dX9_match_7 rfl rfl ?_
  refine EM.callV (hR) mfX9_hasRule l_X9_191 mvX9_hasRule (by omega) dX9_match_8 rfl rfl rfl rfl (Nat.le_of_ble_eq_true rfl) (fun _ _ q => nomatch q.1) (fun v8 s8 q8 => ?_)
  obtain ⟨e8, h8⟩ := q8; cases e8; replace h8 := h8.symm; subst h8
  refine EW.if_ne 18 dX9_match_11 (by decide) (fun c11 => ?_) (fun c11 => ?_)
  · refine EW.iload_n dX9_match_18 rfl rfl ?_
    refine EW.ic 0 dX9_match_19 ?_
    refine EW.aload_n dX9_match_20 rfl rfl ?_
    refine EM.get f_X9_168 dX9_match_21 rfl ?_
    refine EW.callS (bc := 0) (bs := 0) (M_in hl _ 0 (fU 28 (nI 0) s) _ _ _) mfX9_in rfl l_X9_109 mvX9_in (by omega) dX9_match_24 rfl rfl (Nat.le_of_ble_eq_true rfl) (fun v24 s24 q24 => ?_) (fun _ _ q => nomatch q.1)
    obtain ⟨e24, h24⟩ := q24; cases e24; replace h24 := h24.symm; subst h24
    refine EW.top (y := nI 1) ((if_pos hp).trans (by decide +kernel)) ?_
    refine EW.if_ne 34 dX9_match_27 (by decide) (fun c27 => ?_) (fun c27 => ?_)
    · refine EW.aload_n dX9_match_34 rfl rfl ?_
      refine EM.callV (hF) mfX9_fault l_X9_204 mvX9_fault (by omega) dX9_match_35 rfl rfl rfl rfl (Nat.le_of_ble_eq_true rfl) (fun _ _ q => nomatch q.1) (fun v35 s35 q35 => ?_)
      obtain ⟨e35, hP⟩ := q35; cases e35
      refine EW.if_eq 45 dX9_match_38 (by decide) (fun c38 => ?_) (fun c38 => ?_)
      · refine EW.ic 0 dX9_match_45 ?_
        refine EM.put f_X9_105 dX9_match_46 rfl ?_
        refine EW.aload_n dX9_match_49 rfl rfl ?_
        refine EM.get f_X9_105 dX9_match_50 rfl ?_
        refine EW.top (show va_up s35.1 0 (nI 0) 0 = nI 0 from va_up_self _ _ _) ?_
        refine EW.if_le 58 dX9_match_53 (by decide) (fun c53 => ?_) (fun c53 => ?_)
        · refine EW.aload_n dX9_match_58 rfl rfl ?_
          refine EM.get f_X9_17 dX9_match_59 rfl ?_
          refine EW.sp 447 dX9_match_62 ?_
          refine EW.ic 1 dX9_match_65 ?_
          refine EM.iastN (447) dX9_match_66 rfl rfl (by simp only [mLen]; omega) ?_
          refine EW.aload_n dX9_match_67 rfl rfl ?_
          refine EM.get f_X9_20 dX9_match_68 rfl ?_
          refine EW.sp 447 dX9_match_71 ?_
          refine EW.iload_n dX9_match_74 rfl rfl ?_
          refine EM.iastN (447) dX9_match_75 rfl rfl (by simp only [mLen]; omega) ?_
          refine EW.aload_n dX9_match_76 rfl rfl ?_
          refine EW.sp 447 dX9_match_77 ?_
          refine EW.iload_n dX9_match_80 rfl rfl ?_
          refine EM.callV (hRun _ hP) mfX9_run l_X9_253 mvX9_run (by omega) dX9_match_81 rfl rfl rfl rfl (Nat.le_of_ble_eq_true rfl) (fun _ _ q => nomatch q.1) (fun v81 s81 q81 => ?_)
          obtain ⟨e81, hP2⟩ := q81; cases e81
          refine EW.istore_n dX9_match_84 rfl (by decide) ?_
          refine EW.iload_n dX9_match_85 rfl rfl ?_
          refine EW.bipush (v := -3) dX9_match_86 (by decide +kernel) ?_
          refine EW.icmp_ne 97 dX9_match_88 (by decide) (fun c88 => ?_) (fun c88 => ?_)
          · refine EW.iload_n dX9_match_97 rfl rfl ?_
            refine EW.if_lt 108 dX9_match_98 (by decide) (fun c98 => ?_) (fun c98 => ?_)
            · exact absurd c98 (nI_pos (by omega))
            · refine EW.aload_n dX9_match_101 rfl rfl ?_
              refine EW.iload_n dX9_match_102 rfl rfl ?_
              refine EW.iload_n dX9_match_103 rfl rfl ?_
              refine EW.iload_n dX9_match_104 rfl rfl ?_
              refine EM.callV (hGrow _ hP2) mfX9_grow l_X9_256 mvX9_grow (by omega) dX9_match_105 rfl rfl rfl rfl (Nat.le_of_ble_eq_true rfl) (fun _ _ q => nomatch q.1) (fun v105 s105 q105 => ?_)
              obtain ⟨e105, hP3⟩ := q105; cases e105
              refine EW.iload_n dX9_match_108 rfl rfl ?_
              refine EW.iret rfl dX9_match_109 ?_
              exact ⟨rfl, hP3⟩
          · exact absurd c88 (m3_nI (by omega))
        · exact absurd c53 (by decide +kernel)
      · exact absurd rfl c38
    · exact absurd c27 (by decide +kernel)
  · exact absurd c11 (by decide +kernel)
end M25
