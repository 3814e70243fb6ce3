section C11
variable {cy : Nat → ClassId} {ax : Nat → Nat} {hp0 : Hp} {l : Launch} {D : va_G} {base : Nat}
theorem nI_4v : nI 4 = 4 := by decide +kernel
def mzF (f : Nat → Int32) : Nat → Nat → Nat → Nat
  | 0, _, c => c
  | n + 1, i, c => mzF f n (i + 1) (if f i = -2 then c else c + 1)
/-- one element of a row of the tree -/
def ta (k i : Nat) (v : Int32) (s : CSt) : CSt := (s.1, va_up s.2.1 k (upd (s.2.1 k) i v), s.2.2)
def tset (i c : Nat) (a : Int32) (s : CSt) : CSt := ta 18 i a (ta 17 i (s.2.1 9 c) (ta 16 i (nI (c % 21)) (ta 15 i (nI (c / 21)) s)))
def mvr (i m : Nat) (s : CSt) : CSt := ta 18 i (s.2.1 18 (i - m)) (ta 17 i (s.2.1 17 (i - m)) (ta 16 i (s.2.1 16 (i - m)) (ta 15 i (s.2.1 15 (i - m)) s)))
def mvl (f m : Nat) : Nat → CSt → CSt
  | 0, s => s
  | k + 1, s => mvl f m k (mvr (f + m + k) m s)
def szP (z : Int32) (s : CSt) : CSt := (va_up s.1 7 z, s.2)
set_option maxHeartbeats 4000000 in
theorem C_msize_in (d : Nat) : ∀ (n i c : Nat) (s : CSt), i + n = 126 → c ≤ i → EW (IC cy ax hp0) l D cy base mX4_size d 0 0 13 [(0, .ref (ax 8)), (1, .int (nI c)), (2, .ref (ax 9)), (3, .int (nI 126)), (4, .int (nI i))] [] s (fun o s2 => o = .inl (some (.int (nI (mzF (s.2.1 9) n i c)))) ∧ s2 = s) := by
  intro n
  induction n with
  | zero =>
    intro i c s hi hc
    refine EW.iload dX4_size_13 rfl ?_
    refine EW.iload_n dX4_size_15 rfl rfl ?_
    refine EW.icmp_ge 41 dX4_size_16 (by decide) (fun c16 => ?_) (fun c16 => ?_)
    · have c16 : 126 ≤ i := (nI_leI (by omega) (by omega)).mp c16
      refine EW.iload_n dX4_size_41 rfl rfl ?_
      refine EW.iret rfl dX4_size_42 ?_
      exact ⟨rfl, rfl⟩
    · have c16 : ¬ (126 ≤ i) := fun h => c16 ((nI_leI (by omega) (by omega)).mpr h); omega
  | succ n ih =>
    intro i c s hi hc
    refine EW.iload dX4_size_13 rfl ?_
    refine EW.iload_n dX4_size_15 rfl rfl ?_
    refine EW.icmp_ge 41 dX4_size_16 (by decide) (fun c16 => ?_) (fun c16 => ?_)
    · have c16 : 126 ≤ i := (nI_leI (by omega) (by omega)).mp c16; omega
    · have c16 : ¬ (126 ≤ i) := fun h => c16 ((nI_leI (by omega) (by omega)).mpr h)
      refine EW.aload_n dX4_size_19 rfl rfl ?_
      refine EW.iload dX4_size_20 rfl ?_
      refine EC.ald9 (i) dX4_size_22 (by omega) ?_
      refine EW.istore dX4_size_23 (by decide) ?_
      refine EW.iload dX4_size_25 rfl ?_
      refine EW.bipush (v := -2) dX4_size_27 (by decide +kernel) ?_
      refine EW.icmp_eq 35 dX4_size_29 (by decide) (fun c29 => ?_) (fun c29 => ?_)
      · have IHX := ih (i + 1) c s (by omega) (by omega)
        rw [show mzF (s.2.1 9) (n + 1) i c = mzF (s.2.1 9) n (i + 1) c by rw [mzF, if_pos c29]]
        refine EW.iinc dX4_size_35 rfl (nI_inc _) (by decide) ?_
        refine EW.goto 13 dX4_size_38 (by decide) ?_
        exact EW.loc (lv' := [(0, .ref (ax 8)), (1, .int (nI _)), (2, .ref (ax 9)), (3, .int (nI 126)), (4, .int (nI (i + 1)))]) ⟨rfl, rfl, rfl, rfl, rfl, trivial⟩ IHX
      · have IHX := ih (i + 1) (c + 1) s (by omega) (by omega)
        rw [show mzF (s.2.1 9) (n + 1) i c = mzF (s.2.1 9) n (i + 1) (c + 1) by rw [mzF, if_neg c29]]
        refine EW.iinc dX4_size_32 rfl (nI_inc _) (by decide) ?_
        refine EW.iinc dX4_size_35 rfl (nI_inc _) (by decide) ?_
        refine EW.goto 13 dX4_size_38 (by decide) ?_
        exact EW.loc (lv' := [(0, .ref (ax 8)), (1, .int (nI _)), (2, .ref (ax 9)), (3, .int (nI 126)), (4, .int (nI (i + 1)))]) ⟨rfl, rfl, rfl, rfl, rfl, trivial⟩ IHX
set_option maxHeartbeats 4000000 in
theorem C_msize (hl : l.stackTraces = false) (d : Nat) (s : CSt) : MtW (IC cy ax hp0) l D cy base mX4_size d 0 0 [.ref (ax 8)] s (fun o s2 => o = .inl (some (.int (nI (mzF (s.2.1 9) 126 0 0)))) ∧ s2 = s) := by
  refine MtW.of hl mfX4_size rfl (Nat.le_of_ble_eq_true rfl) ?_
  refine EW.ic 0 dX4_size_0 ?_
  refine EW.istore_n dX4_size_1 rfl (by decide) ?_
  refine EW.aload_n dX4_size_2 rfl rfl ?_
  refine EC.get (k := 8) f_X4_9 dX4_size_3 (by decide) rfl rfl ?_
  refine EW.astore_n dX4_size_6 rfl (by decide) ?_
  refine EW.aload_n dX4_size_7 rfl rfl ?_
  refine EC.len9 dX4_size_8 ?_
  refine EW.istore_n dX4_size_9 rfl (by decide) ?_
  refine EW.ic 0 dX4_size_10 ?_
  refine EW.istore dX4_size_11 (by decide) ?_
  exact EW.loc (lv' := [(0, .ref (ax 8)), (1, .int (nI 0)), (2, .ref (ax 9)), (3, .int (nI 126)), (4, .int (nI 0))]) ⟨rfl, rfl, rfl, rfl, rfl, trivial⟩ (C_msize_in d 126 0 0 s rfl (Nat.le_refl 0))
set_option maxHeartbeats 4000000 in
theorem C_begun (hl : l.stackTraces = false) (d : Nat) (s : CSt) : MtW (IC cy ax hp0) l D cy base mX3_begun d 0 0 [.ref (ax 12)] s (fun o s2 => o = .inl (some (.int (s.1 5))) ∧ s2 = s) := by
  refine MtW.of hl mfX3_begun rfl (Nat.le_of_ble_eq_true rfl) ?_
  refine EW.aload_n dX3_begun_0 rfl rfl ?_
  refine EC.get (k := 12) f_X3_23 dX3_begun_1 (by decide) rfl rfl ?_
  refine EW.iret rfl dX3_begun_4 ?_
  exact ⟨rfl, rfl⟩
set_option maxHeartbeats 4000000 in
theorem C_remembered (hl : l.stackTraces = false) (d : Nat) (s : CSt) : MtW (IC cy ax hp0) l D cy base mX3_remembered d 0 0 [.ref (ax 12)] s (fun o s2 => o = .inl (some (.int (s.1 6))) ∧ s2 = s) := by
  refine MtW.of hl mfX3_remembered rfl (Nat.le_of_ble_eq_true rfl) ?_
  refine EW.aload_n dX3_remembered_0 rfl rfl ?_
  refine EC.get (k := 12) f_X3_27 dX3_remembered_1 (by decide) rfl rfl ?_
  refine EW.iret rfl dX3_remembered_4 ?_
  exact ⟨rfl, rfl⟩
set_option maxHeartbeats 4000000 in
theorem C_tsize (hl : l.stackTraces = false) (d : Nat) (s : CSt) : MtW (IC cy ax hp0) l D cy base mX7_size d 0 0 [.ref (ax 13)] s (fun o s2 => o = .inl (some (.int (s.1 7))) ∧ s2 = s) := by
  refine MtW.of hl mfX7_size rfl (Nat.le_of_ble_eq_true rfl) ?_
  refine EW.aload_n dX7_size_0 rfl rfl ?_
  refine EC.get (k := 13) f_X7_16 dX7_size_1 (by decide) rfl rfl ?_
  refine EW.iret rfl dX7_size_4 ?_
  exact ⟨rfl, rfl⟩
set_option maxHeartbeats 4000000 in
theorem C_fell (hl : l.stackTraces = false) (d : Nat) (s : CSt) : MtW (IC cy ax hp0) l D cy base mX7_fell d 0 0 [.ref (ax 13)] s (fun o s2 => o = .inl none ∧ s2 = szP (nI 0) s) := by
  refine MtW.of hl mfX7_fell rfl (Nat.le_of_ble_eq_true rfl) ?_
  refine EW.aload_n dX7_fell_0 rfl rfl ?_
  refine EW.ic 0 dX7_fell_1 ?_
  refine EC.put7 f_X7_16 dX7_fell_2 ?_
  refine EW.vret rfl dX7_fell_5 ?_
  exact ⟨rfl, rfl⟩
set_option maxHeartbeats 4000000 in
theorem C_isPlace (hl : l.stackTraces = false) (d : Nat) (s : CSt) (p : Int32) : MtW (IC cy ax hp0) l D cy base mX8_isPlace (d + 1) 0 0 [.ref (ax 0), .int p] s (fun o s2 => o = .inl (some (.int (if 0 ≤ p ∧ p ≤ s.1 1 then 1 else 0))) ∧ s2 = s) := by
  refine MtW.of hl mfX8_isPlace rfl (Nat.le_of_ble_eq_true rfl) ?_
  refine EW.iload_n dX8_isPlace_0 rfl rfl ?_
  refine EW.if_lt 19 dX8_isPlace_1 (by decide) (fun c1 => ?_) (fun c1 => ?_)
  · refine EW.ic 0 dX8_isPlace_19 ?_
    refine EW.zret (ty := .boolean) rfl (by decide +kernel) dX8_isPlace_20 ?_
    refine ⟨?_, rfl⟩; simp only [Int32.lt_iff_toInt_lt, Int32.le_iff_toInt_le, nI_1v, nI_0v, nI_lits, nI_4v] at *; split <;> first | rfl | omega
  · refine EW.iload_n dX8_isPlace_4 rfl rfl ?_
    refine EW.aload_n dX8_isPlace_5 rfl rfl ?_
    refine EC.get (k := 0) f_X8_18 dX8_isPlace_6 (by decide) rfl rfl ?_
    refine EC.callV (bc := 0) (bs := 0) (mc' := 0) (ms' := 0) (k := 3) (C_size_in hl d s) mfX0_size l_X8_116 mvX0_size (by omega) dX8_isPlace_9 rfl rfl (by decide) rfl rfl rfl (Nat.le_of_ble_eq_true rfl) (fun v9 s9 q9 => ?_) (fun _ _ q => nomatch q.1)
    obtain ⟨e9, h9⟩ := q9; cases e9; replace h9 := h9.symm; subst h9
    refine EW.icmp_gt 19 dX8_isPlace_12 (by decide) (fun c12 => ?_) (fun c12 => ?_)
    · refine EW.ic 0 dX8_isPlace_19 ?_
      refine EW.zret (ty := .boolean) rfl (by decide +kernel) dX8_isPlace_20 ?_
      refine ⟨?_, rfl⟩; simp only [Int32.lt_iff_toInt_lt, Int32.le_iff_toInt_le, nI_1v, nI_0v, nI_lits, nI_4v] at *; split <;> first | rfl | omega
    · refine EW.ic 1 dX8_isPlace_15 ?_
      refine EW.goto 20 dX8_isPlace_16 (by decide) ?_
      refine EW.zret (ty := .boolean) rfl (by decide +kernel) dX8_isPlace_20 ?_
      refine ⟨?_, rfl⟩; simp only [Int32.lt_iff_toInt_lt, Int32.le_iff_toInt_le, nI_1v, nI_0v, nI_lits, nI_4v] at *; split <;> first | rfl | omega
set_option maxHeartbeats 4000000 in
theorem C_thas (hl : l.stackTraces = false) (d : Nat) (s : CSt) (i j : Int32) : MtW (IC cy ax hp0) l D cy base mX7_has d 0 0 [.ref (ax 13), .int i, .int j] s (fun o s2 => o = .inl (some (.int (if 0 ≤ i ∧ i < s.1 7 ∧ 0 ≤ j ∧ j < 4 then 1 else 0))) ∧ s2 = s) := by
  refine MtW.of hl mfX7_has rfl (Nat.le_of_ble_eq_true rfl) ?_
  refine EW.iload_n dX7_has_0 rfl rfl ?_
  refine EW.if_lt 25 dX7_has_1 (by decide) (fun c1 => ?_) (fun c1 => ?_)
  · refine EW.ic 0 dX7_has_25 ?_
    refine EW.zret (ty := .boolean) rfl (by decide +kernel) dX7_has_26 ?_
    refine ⟨?_, rfl⟩; simp only [Int32.lt_iff_toInt_lt, Int32.le_iff_toInt_le, nI_1v, nI_0v, nI_lits, nI_4v] at *; split <;> first | rfl | omega
  · refine EW.iload_n dX7_has_4 rfl rfl ?_
    refine EW.aload_n dX7_has_5 rfl rfl ?_
    refine EC.get (k := 13) f_X7_16 dX7_has_6 (by decide) rfl rfl ?_
    refine EW.icmp_ge 25 dX7_has_9 (by decide) (fun c9 => ?_) (fun c9 => ?_)
    · refine EW.ic 0 dX7_has_25 ?_
      refine EW.zret (ty := .boolean) rfl (by decide +kernel) dX7_has_26 ?_
      refine ⟨?_, rfl⟩; simp only [Int32.lt_iff_toInt_lt, Int32.le_iff_toInt_le, nI_1v, nI_0v, nI_lits, nI_4v] at *; split <;> first | rfl | omega
    · refine EW.iload_n dX7_has_12 rfl rfl ?_
      refine EW.if_lt 25 dX7_has_13 (by decide) (fun c13 => ?_) (fun c13 => ?_)
      · refine EW.ic 0 dX7_has_25 ?_
        refine EW.zret (ty := .boolean) rfl (by decide +kernel) dX7_has_26 ?_
        refine ⟨?_, rfl⟩; simp only [Int32.lt_iff_toInt_lt, Int32.le_iff_toInt_le, nI_1v, nI_0v, nI_lits, nI_4v] at *; split <;> first | rfl | omega
      · refine EW.iload_n dX7_has_16 rfl rfl ?_
        refine EW.ic 4 dX7_has_17 ?_
        refine EW.icmp_ge 25 dX7_has_18 (by decide) (fun c18 => ?_) (fun c18 => ?_)
        · refine EW.ic 0 dX7_has_25 ?_
          refine EW.zret (ty := .boolean) rfl (by decide +kernel) dX7_has_26 ?_
          refine ⟨?_, rfl⟩; simp only [Int32.lt_iff_toInt_lt, Int32.le_iff_toInt_le, nI_1v, nI_0v, nI_lits, nI_4v] at *; split <;> first | rfl | omega
        · refine EW.ic 1 dX7_has_21 ?_
          refine EW.goto 26 dX7_has_22 (by decide) ?_
          refine EW.zret (ty := .boolean) rfl (by decide +kernel) dX7_has_26 ?_
          refine ⟨?_, rfl⟩; simp only [Int32.lt_iff_toInt_lt, Int32.le_iff_toInt_le, nI_1v, nI_0v, nI_lits, nI_4v] at *; split <;> first | rfl | omega
set_option maxHeartbeats 4000000 in
theorem C_tell0 (hl : l.stackTraces = false) (d : Nat) (s : CSt) (i z : Nat) (hz : s.1 7 = nI z) (hi : i < z) (h60 : z ≤ 60) : MtW (IC cy ax hp0) l D cy base mX7_tell (d + 1) 0 0 [.ref (ax 13), .int (nI i), .int (nI 0)] s (fun o s2 => o = .inl (some (.int (s.2.1 15 i))) ∧ s2 = s) := by
  refine MtW.of hl mfX7_tell rfl (Nat.le_of_ble_eq_true rfl) ?_
  refine EW.aload_n dX7_tell_0 rfl rfl ?_
  refine EW.iload_n dX7_tell_1 rfl rfl ?_
  refine EW.iload_n dX7_tell_2 rfl rfl ?_
  refine EC.callV (bc := 0) (bs := 0) (mc' := 0) (ms' := 0) (k := 13) (C_thas hl d s (nI i) (nI 0)) mfX7_has l_X7_20 mvX7_has (by omega) dX7_tell_3 rfl rfl (by decide) rfl rfl rfl (Nat.le_of_ble_eq_true rfl) (fun v3 s3 q3 => ?_) (fun _ _ q => nomatch q.1)
  obtain ⟨e3, h3⟩ := q3; cases e3; replace h3 := h3.symm; subst h3
  refine EW.top (y := nI 1) (if_pos ⟨nI_pos' (by omega), by rw [hz]; exact nI_lt hi (by omega), by decide +kernel, by decide +kernel⟩) ?_
  refine EW.if_eq 26 dX7_tell_6 (by decide) (fun c6 => ?_) (fun c6 => ?_)
  · exact absurd c6 (by decide +kernel)
  · refine EW.iload_n dX7_tell_9 rfl rfl ?_
    refine EW.bp 60 dX7_tell_10 ?_
    refine EW.icmp_ge 26 dX7_tell_12 (by decide) (fun c12 => ?_) (fun c12 => ?_)
    · have c12 : 60 ≤ i := (nI_leI (by omega) (by omega)).mp c12; omega
    · have c12 : ¬ (60 ≤ i) := fun h => c12 ((nI_leI (by omega) (by omega)).mpr h)
      refine EW.aload_n dX7_tell_15 rfl rfl ?_
      refine EC.get (k := 13) f_X7_13 dX7_tell_16 (by decide) rfl rfl ?_
      refine EW.iload_n dX7_tell_19 rfl rfl ?_
      refine EC.ald14 (0) dX7_tell_20 (by omega) ?_
      refine EW.iload_n dX7_tell_21 rfl rfl ?_
      refine EC.ald15 (i) dX7_tell_22 (by omega) ?_
      refine EW.goto 27 dX7_tell_23 (by decide) ?_
      refine EW.iret rfl dX7_tell_27 ?_
      exact ⟨rfl, rfl⟩
set_option maxHeartbeats 4000000 in
theorem C_tell1 (hl : l.stackTraces = false) (d : Nat) (s : CSt) (i z : Nat) (hz : s.1 7 = nI z) (hi : i < z) (h60 : z ≤ 60) : MtW (IC cy ax hp0) l D cy base mX7_tell (d + 1) 0 0 [.ref (ax 13), .int (nI i), .int (nI 1)] s (fun o s2 => o = .inl (some (.int (s.2.1 16 i))) ∧ s2 = s) := by
  refine MtW.of hl mfX7_tell rfl (Nat.le_of_ble_eq_true rfl) ?_
  refine EW.aload_n dX7_tell_0 rfl rfl ?_
  refine EW.iload_n dX7_tell_1 rfl rfl ?_
  refine EW.iload_n dX7_tell_2 rfl rfl ?_
  refine EC.callV (bc := 0) (bs := 0) (mc' := 0) (ms' := 0) (k := 13) (C_thas hl d s (nI i) (nI 1)) mfX7_has l_X7_20 mvX7_has (by omega) dX7_tell_3 rfl rfl (by decide) rfl rfl rfl (Nat.le_of_ble_eq_true rfl) (fun v3 s3 q3 => ?_) (fun _ _ q => nomatch q.1)
  obtain ⟨e3, h3⟩ := q3; cases e3; replace h3 := h3.symm; subst h3
  refine EW.top (y := nI 1) (if_pos ⟨nI_pos' (by omega), by rw [hz]; exact nI_lt hi (by omega), by decide +kernel, by decide +kernel⟩) ?_
  refine EW.if_eq 26 dX7_tell_6 (by decide) (fun c6 => ?_) (fun c6 => ?_)
  · exact absurd c6 (by decide +kernel)
  · refine EW.iload_n dX7_tell_9 rfl rfl ?_
    refine EW.bp 60 dX7_tell_10 ?_
    refine EW.icmp_ge 26 dX7_tell_12 (by decide) (fun c12 => ?_) (fun c12 => ?_)
    · have c12 : 60 ≤ i := (nI_leI (by omega) (by omega)).mp c12; omega
    · have c12 : ¬ (60 ≤ i) := fun h => c12 ((nI_leI (by omega) (by omega)).mpr h)
      refine EW.aload_n dX7_tell_15 rfl rfl ?_
      refine EC.get (k := 13) f_X7_13 dX7_tell_16 (by decide) rfl rfl ?_
      refine EW.iload_n dX7_tell_19 rfl rfl ?_
      refine EC.ald14 (1) dX7_tell_20 (by omega) ?_
      refine EW.iload_n dX7_tell_21 rfl rfl ?_
      refine EC.ald16 (i) dX7_tell_22 (by omega) ?_
      refine EW.goto 27 dX7_tell_23 (by decide) ?_
      refine EW.iret rfl dX7_tell_27 ?_
      exact ⟨rfl, rfl⟩
set_option maxHeartbeats 4000000 in
theorem C_tell2 (hl : l.stackTraces = false) (d : Nat) (s : CSt) (i z : Nat) (hz : s.1 7 = nI z) (hi : i < z) (h60 : z ≤ 60) : MtW (IC cy ax hp0) l D cy base mX7_tell (d + 1) 0 0 [.ref (ax 13), .int (nI i), .int (nI 2)] s (fun o s2 => o = .inl (some (.int (s.2.1 17 i))) ∧ s2 = s) := by
  refine MtW.of hl mfX7_tell rfl (Nat.le_of_ble_eq_true rfl) ?_
  refine EW.aload_n dX7_tell_0 rfl rfl ?_
  refine EW.iload_n dX7_tell_1 rfl rfl ?_
  refine EW.iload_n dX7_tell_2 rfl rfl ?_
  refine EC.callV (bc := 0) (bs := 0) (mc' := 0) (ms' := 0) (k := 13) (C_thas hl d s (nI i) (nI 2)) mfX7_has l_X7_20 mvX7_has (by omega) dX7_tell_3 rfl rfl (by decide) rfl rfl rfl (Nat.le_of_ble_eq_true rfl) (fun v3 s3 q3 => ?_) (fun _ _ q => nomatch q.1)
  obtain ⟨e3, h3⟩ := q3; cases e3; replace h3 := h3.symm; subst h3
  refine EW.top (y := nI 1) (if_pos ⟨nI_pos' (by omega), by rw [hz]; exact nI_lt hi (by omega), by decide +kernel, by decide +kernel⟩) ?_
  refine EW.if_eq 26 dX7_tell_6 (by decide) (fun c6 => ?_) (fun c6 => ?_)
  · exact absurd c6 (by decide +kernel)
  · refine EW.iload_n dX7_tell_9 rfl rfl ?_
    refine EW.bp 60 dX7_tell_10 ?_
    refine EW.icmp_ge 26 dX7_tell_12 (by decide) (fun c12 => ?_) (fun c12 => ?_)
    · have c12 : 60 ≤ i := (nI_leI (by omega) (by omega)).mp c12; omega
    · have c12 : ¬ (60 ≤ i) := fun h => c12 ((nI_leI (by omega) (by omega)).mpr h)
      refine EW.aload_n dX7_tell_15 rfl rfl ?_
      refine EC.get (k := 13) f_X7_13 dX7_tell_16 (by decide) rfl rfl ?_
      refine EW.iload_n dX7_tell_19 rfl rfl ?_
      refine EC.ald14 (2) dX7_tell_20 (by omega) ?_
      refine EW.iload_n dX7_tell_21 rfl rfl ?_
      refine EC.ald17 (i) dX7_tell_22 (by omega) ?_
      refine EW.goto 27 dX7_tell_23 (by decide) ?_
      refine EW.iret rfl dX7_tell_27 ?_
      exact ⟨rfl, rfl⟩
set_option maxHeartbeats 4000000 in
theorem C_tell3 (hl : l.stackTraces = false) (d : Nat) (s : CSt) (i z : Nat) (hz : s.1 7 = nI z) (hi : i < z) (h60 : z ≤ 60) : MtW (IC cy ax hp0) l D cy base mX7_tell (d + 1) 0 0 [.ref (ax 13), .int (nI i), .int (nI 3)] s (fun o s2 => o = .inl (some (.int (s.2.1 18 i))) ∧ s2 = s) := by
  refine MtW.of hl mfX7_tell rfl (Nat.le_of_ble_eq_true rfl) ?_
  refine EW.aload_n dX7_tell_0 rfl rfl ?_
  refine EW.iload_n dX7_tell_1 rfl rfl ?_
  refine EW.iload_n dX7_tell_2 rfl rfl ?_
  refine EC.callV (bc := 0) (bs := 0) (mc' := 0) (ms' := 0) (k := 13) (C_thas hl d s (nI i) (nI 3)) mfX7_has l_X7_20 mvX7_has (by omega) dX7_tell_3 rfl rfl (by decide) rfl rfl rfl (Nat.le_of_ble_eq_true rfl) (fun v3 s3 q3 => ?_) (fun _ _ q => nomatch q.1)
  obtain ⟨e3, h3⟩ := q3; cases e3; replace h3 := h3.symm; subst h3
  refine EW.top (y := nI 1) (if_pos ⟨nI_pos' (by omega), by rw [hz]; exact nI_lt hi (by omega), by decide +kernel, by decide +kernel⟩) ?_
  refine EW.if_eq 26 dX7_tell_6 (by decide) (fun c6 => ?_) (fun c6 => ?_)
  · exact absurd c6 (by decide +kernel)
  · refine EW.iload_n dX7_tell_9 rfl rfl ?_
    refine EW.bp 60 dX7_tell_10 ?_
    refine EW.icmp_ge 26 dX7_tell_12 (by decide) (fun c12 => ?_) (fun c12 => ?_)
    · have c12 : 60 ≤ i := (nI_leI (by omega) (by omega)).mp c12; omega
    · have c12 : ¬ (60 ≤ i) := fun h => c12 ((nI_leI (by omega) (by omega)).mpr h)
      refine EW.aload_n dX7_tell_15 rfl rfl ?_
      refine EC.get (k := 13) f_X7_13 dX7_tell_16 (by decide) rfl rfl ?_
      refine EW.iload_n dX7_tell_19 rfl rfl ?_
      refine EC.ald14 (3) dX7_tell_20 (by omega) ?_
      refine EW.iload_n dX7_tell_21 rfl rfl ?_
      refine EC.ald18 (i) dX7_tell_22 (by omega) ?_
      refine EW.goto 27 dX7_tell_23 (by decide) ?_
      refine EW.iret rfl dX7_tell_27 ?_
      exact ⟨rfl, rfl⟩
set_option maxHeartbeats 4000000 in
theorem C_set (hl : l.stackTraces = false) (d : Nat) (s : CSt) (i c : Nat) (a : Int32) (hi : i < 60) (hc : c < 126) : MtW (IC cy ax hp0) l D cy base mX7_set (d + 2) 0 0 [.ref (ax 13), .int (nI i), .ref (ax 8), .int (nI c), .int a] s (fun o s2 => o = .inl none ∧ s2 = tset i c a s) := by
  refine MtW.of hl mfX7_set rfl (Nat.le_of_ble_eq_true rfl) ?_
  refine EW.iload_n dX7_set_0 rfl rfl ?_
  refine EW.if_lt 57 dX7_set_1 (by decide) (fun c1 => ?_) (fun c1 => ?_)
  · exact absurd c1 (nI_pos (by omega))
  · refine EW.iload_n dX7_set_4 rfl rfl ?_
    refine EW.bp 60 dX7_set_5 ?_
    refine EW.icmp_ge 57 dX7_set_7 (by decide) (fun c7 => ?_) (fun c7 => ?_)
    · have c7 : 60 ≤ i := (nI_leI (by omega) (by omega)).mp c7; omega
    · have c7 : ¬ (60 ≤ i) := fun h => c7 ((nI_leI (by omega) (by omega)).mpr h)
      refine EW.aload_n dX7_set_10 rfl rfl ?_
      refine EC.get (k := 13) f_X7_13 dX7_set_11 (by decide) rfl rfl ?_
      refine EW.ic 0 dX7_set_14 ?_
      refine EC.ald14 (0) dX7_set_15 (by omega) ?_
      refine EW.iload_n dX7_set_16 rfl rfl ?_
      refine EW.iload_n dX7_set_17 rfl rfl ?_
      refine EW.bp 21 dX7_set_18 ?_
      refine EW.idiv dX7_set_20 (by decide +kernel) ?_
      refine EW.top (pk_div (by omega) (by decide) (by decide)) ?_
      refine EC.ast15 (i) dX7_set_21 (by omega) ?_
      refine EW.aload_n dX7_set_22 rfl rfl ?_
      refine EC.get (k := 13) f_X7_13 dX7_set_23 (by decide) rfl rfl ?_
      refine EW.ic 1 dX7_set_26 ?_
      refine EC.ald14 (1) dX7_set_27 (by omega) ?_
      refine EW.iload_n dX7_set_28 rfl rfl ?_
      refine EW.iload_n dX7_set_29 rfl rfl ?_
      refine EW.bp 21 dX7_set_30 ?_
      refine EW.irem dX7_set_32 (by decide +kernel) ?_
      refine EW.top (pk_rem (by omega) (by decide) (by decide)) ?_
      refine EC.ast16 (i) dX7_set_33 (by omega) ?_
      refine EW.aload_n dX7_set_34 rfl rfl ?_
      refine EC.get (k := 13) f_X7_13 dX7_set_35 (by decide) rfl rfl ?_
      refine EW.ic 2 dX7_set_38 ?_
      refine EC.ald14 (2) dX7_set_39 (by omega) ?_
      refine EW.iload_n dX7_set_40 rfl rfl ?_
      refine EW.aload_n dX7_set_41 rfl rfl ?_
      refine EW.iload_n dX7_set_42 rfl rfl ?_
      refine EC.callV (bc := 0) (bs := 0) (mc' := 0) (ms' := 0) (k := 8) (C_recall hl d _ c hc) mfX4_recall l_X7_57 mvX4_recall (by omega) dX7_set_43 rfl rfl (by decide) rfl rfl rfl (Nat.le_of_ble_eq_true rfl) (fun v43 s43 q43 => ?_) (fun _ _ q => nomatch q.1)
      obtain ⟨e43, h43⟩ := q43; cases e43; replace h43 := h43.symm; subst h43
      refine EC.ast17 (i) dX7_set_46 (by omega) ?_
      refine EW.aload_n dX7_set_47 rfl rfl ?_
      refine EC.get (k := 13) f_X7_13 dX7_set_48 (by decide) rfl rfl ?_
      refine EW.ic 3 dX7_set_51 ?_
      refine EC.ald14 (3) dX7_set_52 (by omega) ?_
      refine EW.iload_n dX7_set_53 rfl rfl ?_
      refine EW.iload dX7_set_54 rfl ?_
      refine EC.ast18 (i) dX7_set_56 (by omega) ?_
      refine EW.vret rfl dX7_set_57 ?_
      exact ⟨rfl, rfl⟩
set_option maxHeartbeats 4000000 in
theorem C_putN (hl : l.stackTraces = false) (d r : Nat) (s : CSt) (hr : r < 6) (v : Int32) (s1 : CSt) (hE : MtW (IC cy ax hp0) l D cy base mX2_examine (d + 5) 0 0 [.ref (ax 6)] (s.1, s.2.1, s.2.2.1, va_up s.2.2.2.1 r none, s.2.2.2.2) (fun o s2 => o = .inl (some (.int v)) ∧ s2 = s1)) : MtW (IC cy ax hp0) l D cy base mX2_put (d + 6) 0 0 [.ref (ax 6), .int (nI r), va_rf none] s (fun o s2 => o = .inl none ∧ s2 = (va_up s1.1 4 v, s1.2)) := by
  refine MtW.of hl mfX2_put rfl (Nat.le_of_ble_eq_true rfl) ?_
  refine EW.iload_n dX2_put_0 rfl rfl ?_
  refine EW.callSN (bc := 0) (bs := 0) (mc' := 0) (ms' := 0) (C_isRule hl _ d s (nI r)) mfX8_isRule rfl l_X2_21 mvX8_isRule (by omega) dX2_put_1 rfl rfl (Nat.le_of_ble_eq_true rfl) (fun _ _ q => nomatch q.1) (fun v1 s1 q1 => ?_)
  obtain ⟨e1, h1⟩ := q1; cases e1; replace h1 := h1.symm; subst h1; refine EW.top (y := nI 1) (if_pos ⟨nI_pos' (by omega), by rw [← nI_6v]; exact nI_lt hr (by decide)⟩) ?_
  refine EW.if_eq 22 dX2_put_4 (by decide) (fun c4 => ?_) (fun c4 => ?_)
  · exact absurd c4 (by decide +kernel)
  · refine EW.aload_n dX2_put_7 rfl rfl ?_
    refine EC.get (k := 6) f_X2_11 dX2_put_8 (by decide) rfl rfl ?_
    refine EW.iload_n dX2_put_11 rfl rfl ?_
    refine EW.aloadq_n dX2_put_12 rfl rfl ?_
    refine EC.ast7 (r := none) (r) dX2_put_13 (by omega) (fun b h => nomatch h) ?_
    refine EW.aload_n dX2_put_14 rfl rfl ?_
    refine EW.aload_n dX2_put_15 rfl rfl ?_
    refine EC.callV (bc := 0) (bs := 0) (mc' := 0) (ms' := 0) (k := 6) (hE) mfX2_examine l_X2_25 mvX2_examine (by omega) dX2_put_16 rfl rfl (by decide) rfl rfl rfl (Nat.le_of_ble_eq_true rfl) (fun v16 s16 q16 => ?_) (fun _ _ q => nomatch q.1)
    obtain ⟨e16, h16⟩ := q16; cases e16; replace h16 := h16.symm; subst h16
    refine EC.put4 f_X2_17 dX2_put_19 ?_
    refine EW.vret rfl dX2_put_22 ?_
    exact ⟨rfl, rfl⟩
set_option maxHeartbeats 4000000 in
theorem C_putS (hl : l.stackTraces = false) (d r : Nat) (s : CSt) (hr : r < 6) (b : Nat) (e9 : Option Nat × Option Nat) (hb : s.2.2.2.2.2 b = some e9) (v : Int32) (s1 : CSt) (hE : MtW (IC cy ax hp0) l D cy base mX2_examine (d + 5) 0 0 [.ref (ax 6)] (s.1, s.2.1, s.2.2.1, va_up s.2.2.2.1 r (some b), s.2.2.2.2) (fun o s2 => o = .inl (some (.int v)) ∧ s2 = s1)) : MtW (IC cy ax hp0) l D cy base mX2_put (d + 6) 0 0 [.ref (ax 6), .int (nI r), va_rf (some b)] s (fun o s2 => o = .inl none ∧ s2 = (va_up s1.1 4 v, s1.2)) := by
  refine MtW.of hl mfX2_put rfl (Nat.le_of_ble_eq_true rfl) ?_
  refine EW.iload_n dX2_put_0 rfl rfl ?_
  refine EW.callSN (bc := 0) (bs := 0) (mc' := 0) (ms' := 0) (C_isRule hl _ d s (nI r)) mfX8_isRule rfl l_X2_21 mvX8_isRule (by omega) dX2_put_1 rfl rfl (Nat.le_of_ble_eq_true rfl) (fun _ _ q => nomatch q.1) (fun v1 s1 q1 => ?_)
  obtain ⟨e1, h1⟩ := q1; cases e1; replace h1 := h1.symm; subst h1; refine EW.top (y := nI 1) (if_pos ⟨nI_pos' (by omega), by rw [← nI_6v]; exact nI_lt hr (by decide)⟩) ?_
  refine EW.if_eq 22 dX2_put_4 (by decide) (fun c4 => ?_) (fun c4 => ?_)
  · exact absurd c4 (by decide +kernel)
  · refine EW.aload_n dX2_put_7 rfl rfl ?_
    refine EC.get (k := 6) f_X2_11 dX2_put_8 (by decide) rfl rfl ?_
    refine EW.iload_n dX2_put_11 rfl rfl ?_
    refine EW.aload_n dX2_put_12 rfl rfl ?_
    refine EC.ast7 (r := (some b)) (r) dX2_put_13 (by omega) (fun b9 h => by cases h; exact ⟨e9, hb⟩) ?_
    refine EW.aload_n dX2_put_14 rfl rfl ?_
    refine EW.aload_n dX2_put_15 rfl rfl ?_
    refine EC.callV (bc := 0) (bs := 0) (mc' := 0) (ms' := 0) (k := 6) (hE) mfX2_examine l_X2_25 mvX2_examine (by omega) dX2_put_16 rfl rfl (by decide) rfl rfl rfl (Nat.le_of_ble_eq_true rfl) (fun v16 s16 q16 => ?_) (fun _ _ q => nomatch q.1)
    obtain ⟨e16, h16⟩ := q16; cases e16; replace h16 := h16.symm; subst h16
    refine EC.put4 f_X2_17 dX2_put_19 ?_
    refine EW.vret rfl dX2_put_22 ?_
    exact ⟨rfl, rfl⟩
end C11
