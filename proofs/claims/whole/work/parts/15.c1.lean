theorem nI_6v : nI 6 = 6 := by decide +kernel
section C1
variable {cy : Nat → ClassId} {ax : Nat → Nat} {hp0 : Hp} {l : Launch} {D : va_G} {base : Nat}
set_option maxHeartbeats 4000000 in
theorem C_isLetter (hl : l.stackTraces = false) {S : Type} (I : S → Hp → Prop) (d : Nat) (s : S) (c : Int32) : MtW I l D cy base mX8_isLetter d 0 0 [.int c] s (fun o s2 => o = .inl (some (.int (if 97 ≤ c ∧ c ≤ 105 then 1 else 0))) ∧ s2 = s) := by
  refine MtW.of hl mfX8_isLetter rfl (Nat.le_of_ble_eq_true rfl) ?_
  refine EW.iload_n dX8_isLetter_0 rfl rfl ?_
  refine EW.bp 97 dX8_isLetter_1 ?_
  refine EW.icmp_lt 16 dX8_isLetter_3 (by decide) (fun c3 => ?_) (fun c3 => ?_)
  · refine EW.ic 0 dX8_isLetter_16 ?_
    refine EW.zret (ty := .boolean) rfl (by decide +kernel) dX8_isLetter_17 ?_
    refine ⟨?_, rfl⟩; simp only [Int32.lt_iff_toInt_lt, Int32.le_iff_toInt_le, nI_1v, nI_0v, nI_lits, nI_6v] at *; split <;> first | rfl | omega
  · refine EW.iload_n dX8_isLetter_6 rfl rfl ?_
    refine EW.bp 105 dX8_isLetter_7 ?_
    refine EW.icmp_gt 16 dX8_isLetter_9 (by decide) (fun c9 => ?_) (fun c9 => ?_)
    · refine EW.ic 0 dX8_isLetter_16 ?_
      refine EW.zret (ty := .boolean) rfl (by decide +kernel) dX8_isLetter_17 ?_
      refine ⟨?_, rfl⟩; simp only [Int32.lt_iff_toInt_lt, Int32.le_iff_toInt_le, nI_1v, nI_0v, nI_lits, nI_6v] at *; split <;> first | rfl | omega
    · refine EW.ic 1 dX8_isLetter_12 ?_
      refine EW.goto 17 dX8_isLetter_13 (by decide) ?_
      refine EW.zret (ty := .boolean) rfl (by decide +kernel) dX8_isLetter_17 ?_
      refine ⟨?_, rfl⟩; simp only [Int32.lt_iff_toInt_lt, Int32.le_iff_toInt_le, nI_1v, nI_0v, nI_lits, nI_6v] at *; split <;> first | rfl | omega
set_option maxHeartbeats 4000000 in
theorem C_isRuleLetter (hl : l.stackTraces = false) {S : Type} (I : S → Hp → Prop) (d : Nat) (s : S) (c : Int32) : MtW I l D cy base mX8_isRuleLetter d 0 0 [.int c] s (fun o s2 => o = .inl (some (.int (if 65 ≤ c ∧ c ≤ 70 then 1 else 0))) ∧ s2 = s) := by
  refine MtW.of hl mfX8_isRuleLetter rfl (Nat.le_of_ble_eq_true rfl) ?_
  refine EW.iload_n dX8_isRuleLetter_0 rfl rfl ?_
  refine EW.bp 65 dX8_isRuleLetter_1 ?_
  refine EW.icmp_lt 16 dX8_isRuleLetter_3 (by decide) (fun c3 => ?_) (fun c3 => ?_)
  · refine EW.ic 0 dX8_isRuleLetter_16 ?_
    refine EW.zret (ty := .boolean) rfl (by decide +kernel) dX8_isRuleLetter_17 ?_
    refine ⟨?_, rfl⟩; simp only [Int32.lt_iff_toInt_lt, Int32.le_iff_toInt_le, nI_1v, nI_0v, nI_lits, nI_6v] at *; split <;> first | rfl | omega
  · refine EW.iload_n dX8_isRuleLetter_6 rfl rfl ?_
    refine EW.bp 70 dX8_isRuleLetter_7 ?_
    refine EW.icmp_gt 16 dX8_isRuleLetter_9 (by decide) (fun c9 => ?_) (fun c9 => ?_)
    · refine EW.ic 0 dX8_isRuleLetter_16 ?_
      refine EW.zret (ty := .boolean) rfl (by decide +kernel) dX8_isRuleLetter_17 ?_
      refine ⟨?_, rfl⟩; simp only [Int32.lt_iff_toInt_lt, Int32.le_iff_toInt_le, nI_1v, nI_0v, nI_lits, nI_6v] at *; split <;> first | rfl | omega
    · refine EW.ic 1 dX8_isRuleLetter_12 ?_
      refine EW.goto 17 dX8_isRuleLetter_13 (by decide) ?_
      refine EW.zret (ty := .boolean) rfl (by decide +kernel) dX8_isRuleLetter_17 ?_
      refine ⟨?_, rfl⟩; simp only [Int32.lt_iff_toInt_lt, Int32.le_iff_toInt_le, nI_1v, nI_0v, nI_lits, nI_6v] at *; split <;> first | rfl | omega
set_option maxHeartbeats 4000000 in
theorem C_isRule (hl : l.stackTraces = false) {S : Type} (I : S → Hp → Prop) (d : Nat) (s : S) (r : Int32) : MtW I l D cy base mX8_isRule d 0 0 [.int r] s (fun o s2 => o = .inl (some (.int (if 0 ≤ r ∧ r < 6 then 1 else 0))) ∧ s2 = s) := by
  refine MtW.of hl mfX8_isRule rfl (Nat.le_of_ble_eq_true rfl) ?_
  refine EW.iload_n dX8_isRule_0 rfl rfl ?_
  refine EW.if_lt 14 dX8_isRule_1 (by decide) (fun c1 => ?_) (fun c1 => ?_)
  · refine EW.ic 0 dX8_isRule_14 ?_
    refine EW.zret (ty := .boolean) rfl (by decide +kernel) dX8_isRule_15 ?_
    refine ⟨?_, rfl⟩; simp only [Int32.lt_iff_toInt_lt, Int32.le_iff_toInt_le, nI_1v, nI_0v, nI_lits, nI_6v] at *; split <;> first | rfl | omega
  · refine EW.iload_n dX8_isRule_4 rfl rfl ?_
    refine EW.bp 6 dX8_isRule_5 ?_
    refine EW.icmp_ge 14 dX8_isRule_7 (by decide) (fun c7 => ?_) (fun c7 => ?_)
    · refine EW.ic 0 dX8_isRule_14 ?_
      refine EW.zret (ty := .boolean) rfl (by decide +kernel) dX8_isRule_15 ?_
      refine ⟨?_, rfl⟩; simp only [Int32.lt_iff_toInt_lt, Int32.le_iff_toInt_le, nI_1v, nI_0v, nI_lits, nI_6v] at *; split <;> first | rfl | omega
    · refine EW.ic 1 dX8_isRule_10 ?_
      refine EW.goto 15 dX8_isRule_11 (by decide) ?_
      refine EW.zret (ty := .boolean) rfl (by decide +kernel) dX8_isRule_15 ?_
      refine ⟨?_, rfl⟩; simp only [Int32.lt_iff_toInt_lt, Int32.le_iff_toInt_le, nI_1v, nI_0v, nI_lits, nI_6v] at *; split <;> first | rfl | omega
set_option maxHeartbeats 4000000 in
theorem C_size_pad (hl : l.stackTraces = false) (d : Nat) (s : CSt) : MtW (IC cy ax hp0) l D cy base mX0_size d 0 0 [.ref (ax 1)] s (fun o s2 => o = .inl (some (.int (s.1 0))) ∧ s2 = s) := by
  refine MtW.of hl mfX0_size rfl (Nat.le_of_ble_eq_true rfl) ?_
  refine EW.aload_n dX0_size_0 rfl rfl ?_
  refine EC.get (k := 1) f_X0_15 dX0_size_1 (by decide) rfl rfl ?_
  refine EW.iret rfl dX0_size_4 ?_
  exact ⟨rfl, rfl⟩
set_option maxHeartbeats 4000000 in
theorem C_removeAll_pad (hl : l.stackTraces = false) (d : Nat) (s : CSt) : MtW (IC cy ax hp0) l D cy base mX0_removeAll d 0 0 [.ref (ax 1)] s (fun o s2 => o = .inl none ∧ s2 = (va_up s.1 0 0, s.2)) := by
  refine MtW.of hl mfX0_removeAll rfl (Nat.le_of_ble_eq_true rfl) ?_
  refine EW.aload_n dX0_removeAll_0 rfl rfl ?_
  refine EW.ic 0 dX0_removeAll_1 ?_
  refine EC.put0 f_X0_15 dX0_removeAll_2 ?_
  refine EW.vret rfl dX0_removeAll_5 ?_
  exact ⟨rfl, rfl⟩
set_option maxHeartbeats 4000000 in
theorem C_add_pad (hl : l.stackTraces = false) (d n : Nat) (s : CSt) (hn : s.1 0 = nI n) (hb : n ≤ 24) (c : Int32) : MtW (IC cy ax hp0) l D cy base mX0_add d 0 0 [.ref (ax 1), .int c] s (fun o s2 => if n < 24 then o = .inl (some (.int 1)) ∧ s2 = (va_up s.1 0 (nI (n + 1)), va_up s.2.1 2 (upd (s.2.1 2) n (vp_nar .char c)), s.2.2) else o = .inl (some (.int 0)) ∧ s2 = s) := by
  refine MtW.of hl mfX0_add rfl (Nat.le_of_ble_eq_true rfl) ?_
  refine EW.aload_n dX0_add_0 rfl rfl ?_
  refine EC.get (k := 1) f_X0_15 dX0_add_1 (by decide) rfl rfl ?_
  refine EW.top hn ?_
  refine EW.if_lt 19 dX0_add_4 (by decide) (fun c4 => ?_) (fun c4 => ?_)
  · exact absurd c4 (nI_pos (by omega))
  · refine EW.aload_n dX0_add_7 rfl rfl ?_
    refine EC.get (k := 1) f_X0_15 dX0_add_8 (by decide) rfl rfl ?_
    refine EW.top hn ?_
    refine EW.aload_n dX0_add_11 rfl rfl ?_
    refine EC.get (k := 1) f_X0_9 dX0_add_12 (by decide) rfl rfl ?_
    refine EC.len2 dX0_add_15 ?_
    refine EW.icmp_lt 21 dX0_add_16 (by decide) (fun c16 => ?_) (fun c16 => ?_)
    · have c16 : n < 24 := (nI_ltI (by omega) (by omega)).mp c16
      refine EW.aload_n dX0_add_21 rfl rfl ?_
      refine EC.get (k := 1) f_X0_9 dX0_add_22 (by decide) rfl rfl ?_
      refine EW.aload_n dX0_add_25 rfl rfl ?_
      refine EC.get (k := 1) f_X0_15 dX0_add_26 (by decide) rfl rfl ?_
      refine EW.top hn ?_
      refine EW.iload_n dX0_add_29 rfl rfl ?_
      refine EC.ast2 (n) dX0_add_30 (by omega) ?_
      refine EW.aload_n dX0_add_31 rfl rfl ?_
      refine EW.dup dX0_add_32 rfl ?_
      refine EC.get (k := 1) f_X0_15 dX0_add_33 (by decide) rfl rfl ?_
      refine EW.top hn ?_
      refine EW.ic 1 dX0_add_36 ?_
      refine EW.iadd dX0_add_37 ?_
      refine EW.top (nI_add _ _) ?_
      refine EC.put0 f_X0_15 dX0_add_38 ?_
      refine EW.ic 1 dX0_add_41 ?_
      refine EW.zret (ty := .boolean) rfl (by decide +kernel) dX0_add_42 ?_
      rw [if_pos (by omega)]; exact ⟨rfl, rfl⟩
    · have c16 : ¬ (n < 24) := fun h => c16 ((nI_ltI (by omega) (by omega)).mpr h)
      refine EW.ic 0 dX0_add_19 ?_
      refine EW.zret (ty := .boolean) rfl (by decide +kernel) dX0_add_20 ?_
      rw [if_neg (by omega)]; exact ⟨rfl, rfl⟩
set_option maxHeartbeats 4000000 in
theorem C_at_pad (hl : l.stackTraces = false) (d n : Nat) (s : CSt) (hn : s.1 0 = nI n) (hb : n ≤ 24) (j : Nat) (hj : j < 2000) (hc : j < n → ∃ q, q < 65536 ∧ s.2.1 2 j = nI q) : MtW (IC cy ax hp0) l D cy base mX0_at d 0 0 [.ref (ax 1), .int (nI j)] s (fun o s2 => o = .inl (some (.int (if j < n then s.2.1 2 j else 0))) ∧ s2 = s) := by
  refine MtW.of hl mfX0_at rfl (Nat.le_of_ble_eq_true rfl) ?_
  refine EW.iload_n dX0_at_0 rfl rfl ?_
  refine EW.if_lt 30 dX0_at_1 (by decide) (fun c1 => ?_) (fun c1 => ?_)
  · exact absurd c1 (nI_pos (by omega))
  · refine EW.iload_n dX0_at_4 rfl rfl ?_
    refine EW.aload_n dX0_at_5 rfl rfl ?_
    refine EC.get (k := 1) f_X0_15 dX0_at_6 (by decide) rfl rfl ?_
    refine EW.top hn ?_
    refine EW.icmp_ge 30 dX0_at_9 (by decide) (fun c9 => ?_) (fun c9 => ?_)
    · have c9 : n ≤ j := (nI_leI (by omega) (by omega)).mp c9
      refine EW.ic 0 dX0_at_30 ?_
      refine EW.zret (ty := .char) rfl (by decide +kernel) dX0_at_31 ?_
      rw [if_neg (by omega)]; exact ⟨rfl, rfl⟩
    · have c9 : ¬ (n ≤ j) := fun h => c9 ((nI_leI (by omega) (by omega)).mpr h)
      refine EW.iload_n dX0_at_12 rfl rfl ?_
      refine EW.aload_n dX0_at_13 rfl rfl ?_
      refine EC.get (k := 1) f_X0_9 dX0_at_14 (by decide) rfl rfl ?_
      refine EC.len2 dX0_at_17 ?_
      refine EW.icmp_ge 30 dX0_at_18 (by decide) (fun c18 => ?_) (fun c18 => ?_)
      · have c18 : 24 ≤ j := (nI_leI (by omega) (by omega)).mp c18
        refine EW.ic 0 dX0_at_30 ?_
        refine EW.zret (ty := .char) rfl (by decide +kernel) dX0_at_31 ?_
        rw [if_neg (by omega)]; exact ⟨rfl, rfl⟩
      · have c18 : ¬ (24 ≤ j) := fun h => c18 ((nI_leI (by omega) (by omega)).mpr h)
        refine EW.aload_n dX0_at_21 rfl rfl ?_
        refine EC.get (k := 1) f_X0_9 dX0_at_22 (by decide) rfl rfl ?_
        refine EW.iload_n dX0_at_25 rfl rfl ?_
        refine EC.ald2 (j) dX0_at_26 (by omega) ?_
        refine EW.goto 31 dX0_at_27 (by decide) ?_
        refine EW.zret (ty := .char) rfl (by obtain ⟨q, hq, e⟩ := hc (by omega); rw [e]; exact (pk_charN hq).1) dX0_at_31 ?_
        rw [if_pos (by omega)]; exact ⟨rfl, rfl⟩
set_option maxHeartbeats 4000000 in
theorem C_size_in (hl : l.stackTraces = false) (d : Nat) (s : CSt) : MtW (IC cy ax hp0) l D cy base mX0_size d 0 0 [.ref (ax 3)] s (fun o s2 => o = .inl (some (.int (s.1 1))) ∧ s2 = s) := by
  refine MtW.of hl mfX0_size rfl (Nat.le_of_ble_eq_true rfl) ?_
  refine EW.aload_n dX0_size_0 rfl rfl ?_
  refine EC.get (k := 3) f_X0_15 dX0_size_1 (by decide) rfl rfl ?_
  refine EW.iret rfl dX0_size_4 ?_
  exact ⟨rfl, rfl⟩
set_option maxHeartbeats 4000000 in
theorem C_removeAll_in (hl : l.stackTraces = false) (d : Nat) (s : CSt) : MtW (IC cy ax hp0) l D cy base mX0_removeAll d 0 0 [.ref (ax 3)] s (fun o s2 => o = .inl none ∧ s2 = (va_up s.1 1 0, s.2)) := by
  refine MtW.of hl mfX0_removeAll rfl (Nat.le_of_ble_eq_true rfl) ?_
  refine EW.aload_n dX0_removeAll_0 rfl rfl ?_
  refine EW.ic 0 dX0_removeAll_1 ?_
  refine EC.put1 f_X0_15 dX0_removeAll_2 ?_
  refine EW.vret rfl dX0_removeAll_5 ?_
  exact ⟨rfl, rfl⟩
set_option maxHeartbeats 4000000 in
theorem C_add_in (hl : l.stackTraces = false) (d n : Nat) (s : CSt) (hn : s.1 1 = nI n) (hb : n ≤ 20) (c : Int32) : MtW (IC cy ax hp0) l D cy base mX0_add d 0 0 [.ref (ax 3), .int c] s (fun o s2 => if n < 20 then o = .inl (some (.int 1)) ∧ s2 = (va_up s.1 1 (nI (n + 1)), va_up s.2.1 4 (upd (s.2.1 4) n (vp_nar .char c)), s.2.2) else o = .inl (some (.int 0)) ∧ s2 = s) := by
  refine MtW.of hl mfX0_add rfl (Nat.le_of_ble_eq_true rfl) ?_
  refine EW.aload_n dX0_add_0 rfl rfl ?_
  refine EC.get (k := 3) f_X0_15 dX0_add_1 (by decide) rfl rfl ?_
  refine EW.top hn ?_
  refine EW.if_lt 19 dX0_add_4 (by decide) (fun c4 => ?_) (fun c4 => ?_)
  · exact absurd c4 (nI_pos (by omega))
  · refine EW.aload_n dX0_add_7 rfl rfl ?_
    refine EC.get (k := 3) f_X0_15 dX0_add_8 (by decide) rfl rfl ?_
    refine EW.top hn ?_
    refine EW.aload_n dX0_add_11 rfl rfl ?_
    refine EC.get (k := 3) f_X0_9 dX0_add_12 (by decide) rfl rfl ?_
    refine EC.len4 dX0_add_15 ?_
    refine EW.icmp_lt 21 dX0_add_16 (by decide) (fun c16 => ?_) (fun c16 => ?_)
    · have c16 : n < 20 := (nI_ltI (by omega) (by omega)).mp c16
      refine EW.aload_n dX0_add_21 rfl rfl ?_
      refine EC.get (k := 3) f_X0_9 dX0_add_22 (by decide) rfl rfl ?_
      refine EW.aload_n dX0_add_25 rfl rfl ?_
      refine EC.get (k := 3) f_X0_15 dX0_add_26 (by decide) rfl rfl ?_
      refine EW.top hn ?_
      refine EW.iload_n dX0_add_29 rfl rfl ?_
      refine EC.ast4 (n) dX0_add_30 (by omega) ?_
      refine EW.aload_n dX0_add_31 rfl rfl ?_
      refine EW.dup dX0_add_32 rfl ?_
      refine EC.get (k := 3) f_X0_15 dX0_add_33 (by decide) rfl rfl ?_
      refine EW.top hn ?_
      refine EW.ic 1 dX0_add_36 ?_
      refine EW.iadd dX0_add_37 ?_
      refine EW.top (nI_add _ _) ?_
      refine EC.put1 f_X0_15 dX0_add_38 ?_
      refine EW.ic 1 dX0_add_41 ?_
      refine EW.zret (ty := .boolean) rfl (by decide +kernel) dX0_add_42 ?_
      rw [if_pos (by omega)]; exact ⟨rfl, rfl⟩
    · have c16 : ¬ (n < 20) := fun h => c16 ((nI_ltI (by omega) (by omega)).mpr h)
      refine EW.ic 0 dX0_add_19 ?_
      refine EW.zret (ty := .boolean) rfl (by decide +kernel) dX0_add_20 ?_
      rw [if_neg (by omega)]; exact ⟨rfl, rfl⟩
set_option maxHeartbeats 4000000 in
theorem C_at_in (hl : l.stackTraces = false) (d n : Nat) (s : CSt) (hn : s.1 1 = nI n) (hb : n ≤ 20) (j : Nat) (hj : j < 2000) (hc : j < n → ∃ q, q < 65536 ∧ s.2.1 4 j = nI q) : MtW (IC cy ax hp0) l D cy base mX0_at d 0 0 [.ref (ax 3), .int (nI j)] s (fun o s2 => o = .inl (some (.int (if j < n then s.2.1 4 j else 0))) ∧ s2 = s) := by
  refine MtW.of hl mfX0_at rfl (Nat.le_of_ble_eq_true rfl) ?_
  refine EW.iload_n dX0_at_0 rfl rfl ?_
  refine EW.if_lt 30 dX0_at_1 (by decide) (fun c1 => ?_) (fun c1 => ?_)
  · exact absurd c1 (nI_pos (by omega))
  · refine EW.iload_n dX0_at_4 rfl rfl ?_
    refine EW.aload_n dX0_at_5 rfl rfl ?_
    refine EC.get (k := 3) f_X0_15 dX0_at_6 (by decide) rfl rfl ?_
    refine EW.top hn ?_
    refine EW.icmp_ge 30 dX0_at_9 (by decide) (fun c9 => ?_) (fun c9 => ?_)
    · have c9 : n ≤ j := (nI_leI (by omega) (by omega)).mp c9
      refine EW.ic 0 dX0_at_30 ?_
      refine EW.zret (ty := .char) rfl (by decide +kernel) dX0_at_31 ?_
      rw [if_neg (by omega)]; exact ⟨rfl, rfl⟩
    · have c9 : ¬ (n ≤ j) := fun h => c9 ((nI_leI (by omega) (by omega)).mpr h)
      refine EW.iload_n dX0_at_12 rfl rfl ?_
      refine EW.aload_n dX0_at_13 rfl rfl ?_
      refine EC.get (k := 3) f_X0_9 dX0_at_14 (by decide) rfl rfl ?_
      refine EC.len4 dX0_at_17 ?_
      refine EW.icmp_ge 30 dX0_at_18 (by decide) (fun c18 => ?_) (fun c18 => ?_)
      · have c18 : 20 ≤ j := (nI_leI (by omega) (by omega)).mp c18
        refine EW.ic 0 dX0_at_30 ?_
        refine EW.zret (ty := .char) rfl (by decide +kernel) dX0_at_31 ?_
        rw [if_neg (by omega)]; exact ⟨rfl, rfl⟩
      · have c18 : ¬ (20 ≤ j) := fun h => c18 ((nI_leI (by omega) (by omega)).mpr h)
        refine EW.aload_n dX0_at_21 rfl rfl ?_
        refine EC.get (k := 3) f_X0_9 dX0_at_22 (by decide) rfl rfl ?_
        refine EW.iload_n dX0_at_25 rfl rfl ?_
        refine EC.ald4 (j) dX0_at_26 (by omega) ?_
        refine EW.goto 31 dX0_at_27 (by decide) ?_
        refine EW.zret (ty := .char) rfl (by obtain ⟨q, hq, e⟩ := hc (by omega); rw [e]; exact (pk_charN hq).1) dX0_at_31 ?_
        rw [if_pos (by omega)]; exact ⟨rfl, rfl⟩
end C1
