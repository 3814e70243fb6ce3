theorem nI_1v : nI 1 = 1 := by decide +kernel
theorem nI_0v : nI 0 = 0 := by decide +kernel
theorem nI_lits : nI 97 = 97 ∧ nI 105 = 105 ∧ nI 65 = 65 ∧ nI 70 = 70 := by decide +kernel
section M1
variable {cy : Nat → ClassId} {ad : Nat → Nat} {hp0 : Hp} {l : Launch} {D : va_G} {base : Nat}
set_option maxHeartbeats 4000000 in
theorem M_in (hl : l.stackTraces = false) {S : Type} (I : S → Hp → Prop) (d : Nat) (s : S) (v lo hi : Int32) : MtW I l D cy base mX9_in d 0 0 [.int v, .int lo, .int hi] s (fun o s2 => o = .inl (some (.int (if lo ≤ v ∧ v ≤ hi then 1 else 0))) ∧ s2 = s) := by
  refine MtW.of hl mfX9_in rfl (Nat.le_of_ble_eq_true rfl) ?_
  refine EW.iload_n dX9_in_0 rfl rfl ?_
  refine EW.iload_n dX9_in_1 rfl rfl ?_
  refine EW.icmp_lt 14 dX9_in_2 (by decide) (fun c2 => ?_) (fun c2 => ?_)
  · refine EW.ic 0 dX9_in_14 ?_
    refine EW.zret (ty := .boolean) rfl (by decide +kernel) dX9_in_15 ?_
    refine ⟨?_, rfl⟩; simp only [Int32.lt_iff_toInt_lt, Int32.le_iff_toInt_le, nI_1v, nI_0v, nI_lits] at *; split <;> first | rfl | omega
  · refine EW.iload_n dX9_in_5 rfl rfl ?_
    refine EW.iload_n dX9_in_6 rfl rfl ?_
    refine EW.icmp_gt 14 dX9_in_7 (by decide) (fun c7 => ?_) (fun c7 => ?_)
    · refine EW.ic 0 dX9_in_14 ?_
      refine EW.zret (ty := .boolean) rfl (by decide +kernel) dX9_in_15 ?_
      refine ⟨?_, rfl⟩; simp only [Int32.lt_iff_toInt_lt, Int32.le_iff_toInt_le, nI_1v, nI_0v, nI_lits] at *; split <;> first | rfl | omega
    · refine EW.ic 1 dX9_in_10 ?_
      refine EW.goto 15 dX9_in_11 (by decide) ?_
      refine EW.zret (ty := .boolean) rfl (by decide +kernel) dX9_in_15 ?_
      refine ⟨?_, rfl⟩; simp only [Int32.lt_iff_toInt_lt, Int32.le_iff_toInt_le, nI_1v, nI_0v, nI_lits] at *; split <;> first | rfl | omega
set_option maxHeartbeats 4000000 in
theorem M_isLetter (hl : l.stackTraces = false) {S : Type} (I : S → Hp → Prop) (d : Nat) (s : S) (c : Int32) : MtW I l D cy base mX9_isLetter d 0 0 [.int c] s (fun o s2 => o = .inl (some (.int (if 97 ≤ c ∧ c ≤ 105 then 1 else 0))) ∧ s2 = s) := by
  refine MtW.of hl mfX9_isLetter rfl (Nat.le_of_ble_eq_true rfl) ?_
  refine EW.iload_n dX9_isLetter_0 rfl rfl ?_
  refine EW.bp 97 dX9_isLetter_1 ?_
  refine EW.icmp_lt 16 dX9_isLetter_3 (by decide) (fun c3 => ?_) (fun c3 => ?_)
  · refine EW.ic 0 dX9_isLetter_16 ?_
    refine EW.zret (ty := .boolean) rfl (by decide +kernel) dX9_isLetter_17 ?_
    refine ⟨?_, rfl⟩; simp only [Int32.lt_iff_toInt_lt, Int32.le_iff_toInt_le, nI_1v, nI_0v, nI_lits] at *; split <;> first | rfl | omega
  · refine EW.iload_n dX9_isLetter_6 rfl rfl ?_
    refine EW.bp 105 dX9_isLetter_7 ?_
    refine EW.icmp_gt 16 dX9_isLetter_9 (by decide) (fun c9 => ?_) (fun c9 => ?_)
    · refine EW.ic 0 dX9_isLetter_16 ?_
      refine EW.zret (ty := .boolean) rfl (by decide +kernel) dX9_isLetter_17 ?_
      refine ⟨?_, rfl⟩; simp only [Int32.lt_iff_toInt_lt, Int32.le_iff_toInt_le, nI_1v, nI_0v, nI_lits] at *; split <;> first | rfl | omega
    · refine EW.ic 1 dX9_isLetter_12 ?_
      refine EW.goto 17 dX9_isLetter_13 (by decide) ?_
      refine EW.zret (ty := .boolean) rfl (by decide +kernel) dX9_isLetter_17 ?_
      refine ⟨?_, rfl⟩; simp only [Int32.lt_iff_toInt_lt, Int32.le_iff_toInt_le, nI_1v, nI_0v, nI_lits] at *; split <;> first | rfl | omega
set_option maxHeartbeats 4000000 in
theorem M_isRule (hl : l.stackTraces = false) {S : Type} (I : S → Hp → Prop) (d : Nat) (s : S) (c : Int32) : MtW I l D cy base mX9_isRule d 0 0 [.int c] s (fun o s2 => o = .inl (some (.int (if 65 ≤ c ∧ c ≤ 70 then 1 else 0))) ∧ s2 = s) := by
  refine MtW.of hl mfX9_isRule rfl (Nat.le_of_ble_eq_true rfl) ?_
  refine EW.iload_n dX9_isRule_0 rfl rfl ?_
  refine EW.bp 65 dX9_isRule_1 ?_
  refine EW.icmp_lt 16 dX9_isRule_3 (by decide) (fun c3 => ?_) (fun c3 => ?_)
  · refine EW.ic 0 dX9_isRule_16 ?_
    refine EW.zret (ty := .boolean) rfl (by decide +kernel) dX9_isRule_17 ?_
    refine ⟨?_, rfl⟩; simp only [Int32.lt_iff_toInt_lt, Int32.le_iff_toInt_le, nI_1v, nI_0v, nI_lits] at *; split <;> first | rfl | omega
  · refine EW.iload_n dX9_isRule_6 rfl rfl ?_
    refine EW.bp 70 dX9_isRule_7 ?_
    refine EW.icmp_gt 16 dX9_isRule_9 (by decide) (fun c9 => ?_) (fun c9 => ?_)
    · refine EW.ic 0 dX9_isRule_16 ?_
      refine EW.zret (ty := .boolean) rfl (by decide +kernel) dX9_isRule_17 ?_
      refine ⟨?_, rfl⟩; simp only [Int32.lt_iff_toInt_lt, Int32.le_iff_toInt_le, nI_1v, nI_0v, nI_lits] at *; split <;> first | rfl | omega
    · refine EW.ic 1 dX9_isRule_12 ?_
      refine EW.goto 17 dX9_isRule_13 (by decide) ?_
      refine EW.zret (ty := .boolean) rfl (by decide +kernel) dX9_isRule_17 ?_
      refine ⟨?_, rfl⟩; simp only [Int32.lt_iff_toInt_lt, Int32.le_iff_toInt_le, nI_1v, nI_0v, nI_lits] at *; split <;> first | rfl | omega
set_option maxHeartbeats 4000000 in
theorem M_bit (hl : l.stackTraces = false) {S : Type} (I : S → Hp → Prop) (d : Nat) (s : S) (b v : Int32) : MtW I l D cy base mX9_bit d 0 0 [.int b, .int v] s (fun o s2 => o = .inl (some (.int (if b = 0 then 0 else v))) ∧ s2 = s) := by
  refine MtW.of hl mfX9_bit rfl (Nat.le_of_ble_eq_true rfl) ?_
  refine EW.iload_n dX9_bit_0 rfl rfl ?_
  refine EW.if_eq 8 dX9_bit_1 (by decide) (fun c1 => ?_) (fun c1 => ?_)
  · refine EW.ic 0 dX9_bit_8 ?_
    refine EW.iret rfl dX9_bit_9 ?_
    exact ⟨by simp_all [nI_1v, nI_0v], rfl⟩
  · refine EW.iload_n dX9_bit_4 rfl rfl ?_
    refine EW.goto 9 dX9_bit_5 (by decide) ?_
    refine EW.iret rfl dX9_bit_9 ?_
    exact ⟨by simp_all [nI_1v, nI_0v], rfl⟩
set_option maxHeartbeats 4000000 in
theorem M_has (hl : l.stackTraces = false) {S : Type} (I : S → Hp → Prop) (d : Nat) (s : S) (o9 b : Int32) : MtW I l D cy base mX9_has d 0 0 [.int o9, .int b] s (fun o s2 => o = .inl (some (.int (if o9 &&& b = 0 then 0 else 1))) ∧ s2 = s) := by
  refine MtW.of hl mfX9_has rfl (Nat.le_of_ble_eq_true rfl) ?_
  refine EW.iload_n dX9_has_0 rfl rfl ?_
  refine EW.iload_n dX9_has_1 rfl rfl ?_
  refine EW.iand dX9_has_2 ?_
  refine EW.if_eq 10 dX9_has_3 (by decide) (fun c3 => ?_) (fun c3 => ?_)
  · refine EW.ic 0 dX9_has_10 ?_
    refine EW.zret (ty := .boolean) rfl (by decide +kernel) dX9_has_11 ?_
    exact ⟨by simp_all [nI_1v, nI_0v], rfl⟩
  · refine EW.ic 1 dX9_has_6 ?_
    refine EW.goto 11 dX9_has_7 (by decide) ?_
    refine EW.zret (ty := .boolean) rfl (by decide +kernel) dX9_has_11 ?_
    exact ⟨by simp_all [nI_1v, nI_0v], rfl⟩
end M1
