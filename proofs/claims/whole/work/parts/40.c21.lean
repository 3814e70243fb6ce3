section C21
variable {cy : Nat → ClassId} {ax : Nat → Nat} {hp0 : Hp} {l : Launch} {D : va_G} {base : Nat}
set_option maxHeartbeats 4000000 in
theorem C_memory1 (hl : l.stackTraces = false) (d r p k : Nat) (s : CSt) (hr : r < 6) (hk : s.1 1 = nI k) (h20 : k ≤ 20) (hp : p ≤ k) : MtW (IC cy ax hp0) l D cy base mX8_memory (d + 9) 0 0 [.ref (ax 0), .int (nI r), .int (nI p)] s (fun o s2 => o = .inl (some (.int (s.2.1 9 (r * 21 + p)))) ∧ s2 = s) := by
  refine MtW.of hl mfX8_memory rfl (Nat.le_of_ble_eq_true rfl) ?_
  refine EW.iload_n dX8_memory_0 rfl rfl ?_
  refine EW.callS (bc := 0) (bs := 0) (mc' := 0) (ms' := 0) (C_isRule hl _ 0 s (nI r)) mfX8_isRule rfl l_X8_88 mvX8_isRule (by omega) dX8_memory_1 rfl rfl (Nat.le_of_ble_eq_true rfl) (fun v1 s1 q1 => ?_) (fun _ _ q => nomatch q.1)
  obtain ⟨e1, h1⟩ := q1; cases e1; replace h1 := h1.symm; subst h1
  refine EW.top (y := nI 1) ((if_pos ⟨nI_pos' (by omega), by rw [← nI_6v]; exact nI_lt hr (by decide)⟩)) ?_
  refine EW.if_eq 15 dX8_memory_4 (by decide) (fun c4 => ?_) (fun c4 => ?_)
  · exact absurd c4 (by decide +kernel)
  · refine EW.aload_n dX8_memory_7 rfl rfl ?_
    refine EW.iload_n dX8_memory_8 rfl rfl ?_
    refine EC.callV (bc := 0) (bs := 0) (mc' := 0) (ms' := 0) (k := 0) (C_isPlace hl 0 s (nI p)) mfX8_isPlace l_X8_138 mvX8_isPlace (by omega) dX8_memory_9 rfl rfl (by decide) rfl rfl rfl (Nat.le_of_ble_eq_true rfl) (fun v9 s9 q9 => ?_) (fun _ _ q => nomatch q.1)
    obtain ⟨e9, h9⟩ := q9; cases e9; replace h9 := h9.symm; subst h9
    refine EW.top (y := nI 1) ((if_pos ⟨nI_pos' (by omega), by rw [hk]; exact (nI_leI (by omega) (by omega)).mpr hp⟩)) ?_
    refine EW.if_ne 25 dX8_memory_12 (by decide) (fun c12 => ?_) (fun c12 => ?_)
    · refine EW.aload_n dX8_memory_25 rfl rfl ?_
      refine EC.get (k := 0) f_X8_40 dX8_memory_26 (by decide) rfl rfl ?_
      refine EW.iload_n dX8_memory_29 rfl rfl ?_
      refine EW.iload_n dX8_memory_30 rfl rfl ?_
      refine EW.callS (bc := 0) (bs := 0) (mc' := 0) (ms' := 0) (C_cellOf hl _ 0 s r p hr (by omega)) mfX4_cellOf rfl l_X8_149 mvX4_cellOf (by omega) dX8_memory_31 rfl rfl (Nat.le_of_ble_eq_true rfl) (fun v31 s31 q31 => ?_) (fun _ _ q => nomatch q.1)
      obtain ⟨e31, h31⟩ := q31; cases e31; replace h31 := h31.symm; subst h31
      refine EC.callV (bc := 0) (bs := 0) (mc' := 0) (ms' := 0) (k := 8) (C_recall hl 0 s (r * 21 + p) (by omega)) mfX4_recall l_X8_162 mvX4_recall (by omega) dX8_memory_34 rfl rfl (by decide) rfl rfl rfl (Nat.le_of_ble_eq_true rfl) (fun v34 s34 q34 => ?_) (fun _ _ q => nomatch q.1)
      obtain ⟨e34, h34⟩ := q34; cases e34; replace h34 := h34.symm; subst h34
      refine EW.iret rfl dX8_memory_37 ?_
      exact ⟨rfl, rfl⟩
    · exact absurd c12 (by decide +kernel)
set_option maxHeartbeats 4000000 in
theorem C_memory2 (hl : l.stackTraces = false) (d : Nat) (r p : Int32) (s : CSt) (h : ¬ (0 ≤ r ∧ r < 6)) : MtW (IC cy ax hp0) l D cy base mX8_memory (d + 9) 1 6 [.ref (ax 0), .int r, .int p] s (fun o s2 => o = .inr "java/lang/IndexOutOfBoundsException" ∧ s2 = s) := by
  refine MtW.of hl mfX8_memory rfl (Nat.le_of_ble_eq_true rfl) ?_
  refine EW.iload_n dX8_memory_0 rfl rfl ?_
  refine EW.callS (bc := 1) (bs := 6) (mc' := 0) (ms' := 0) (C_isRule hl _ 0 s r) mfX8_isRule rfl l_X8_88 mvX8_isRule (by omega) dX8_memory_1 rfl rfl (Nat.le_of_ble_eq_true rfl) (fun v1 s1 q1 => ?_) (fun _ _ q => nomatch q.1)
  obtain ⟨e1, h1⟩ := q1; cases e1; replace h1 := h1.symm; subst h1
  refine EW.top (y := nI 0) ((if_neg h).trans (by decide +kernel)) ?_
  refine EW.if_eq 15 dX8_memory_4 (by decide) (fun c4 => ?_) (fun c4 => ?_)
  · exact EW.throwS (bc := 0) (bs := 0) ts_X8_159 rfl dX8_memory_15 dX8_memory_18 dX8_memory_19 dX8_memory_21 dX8_memory_24 (by omega) (Nat.le_of_ble_eq_true rfl) ⟨rfl, rfl⟩
  · exact absurd c4 (by decide +kernel)
set_option maxHeartbeats 4000000 in
theorem C_memory3 (hl : l.stackTraces = false) (d : Nat) (r p : Int32) (s : CSt) (h : 0 ≤ r ∧ r < 6) (h2 : ¬ (0 ≤ p ∧ p ≤ s.1 1)) : MtW (IC cy ax hp0) l D cy base mX8_memory (d + 9) 1 6 [.ref (ax 0), .int r, .int p] s (fun o s2 => o = .inr "java/lang/IndexOutOfBoundsException" ∧ s2 = s) := by
  refine MtW.of hl mfX8_memory rfl (Nat.le_of_ble_eq_true rfl) ?_
  refine EW.iload_n dX8_memory_0 rfl rfl ?_
  refine EW.callS (bc := 1) (bs := 6) (mc' := 0) (ms' := 0) (C_isRule hl _ 0 s r) mfX8_isRule rfl l_X8_88 mvX8_isRule (by omega) dX8_memory_1 rfl rfl (Nat.le_of_ble_eq_true rfl) (fun v1 s1 q1 => ?_) (fun _ _ q => nomatch q.1)
  obtain ⟨e1, h1⟩ := q1; cases e1; replace h1 := h1.symm; subst h1
  refine EW.top (y := nI 1) ((if_pos h).trans (by decide +kernel)) ?_
  refine EW.if_eq 15 dX8_memory_4 (by decide) (fun c4 => ?_) (fun c4 => ?_)
  · exact absurd c4 (by decide +kernel)
  · refine EW.aload_n dX8_memory_7 rfl rfl ?_
    refine EW.iload_n dX8_memory_8 rfl rfl ?_
    refine EC.callV (bc := 1) (bs := 6) (mc' := 0) (ms' := 0) (k := 0) (C_isPlace hl 0 s p) mfX8_isPlace l_X8_138 mvX8_isPlace (by omega) dX8_memory_9 rfl rfl (by decide) rfl rfl rfl (Nat.le_of_ble_eq_true rfl) (fun v9 s9 q9 => ?_) (fun _ _ q => nomatch q.1)
    obtain ⟨e9, h9⟩ := q9; cases e9; replace h9 := h9.symm; subst h9
    refine EW.top (y := nI 0) ((if_neg h2).trans (by decide +kernel)) ?_
    refine EW.if_ne 25 dX8_memory_12 (by decide) (fun c12 => ?_) (fun c12 => ?_)
    · exact absurd c12 (by decide +kernel)
    · exact EW.throwS (bc := 0) (bs := 0) ts_X8_159 rfl dX8_memory_15 dX8_memory_18 dX8_memory_19 dX8_memory_21 dX8_memory_24 (by omega) (Nat.le_of_ble_eq_true rfl) ⟨rfl, rfl⟩
set_option maxHeartbeats 4000000 in
theorem C_nodeT (hl : l.stackTraces = false) (d : Nat) (i j : Int32) (s : CSt) (h : ¬ (0 ≤ i ∧ i < s.1 7 ∧ 0 ≤ j ∧ j < 4)) : MtW (IC cy ax hp0) l D cy base mX8_node (d + 9) 1 6 [.ref (ax 0), .int i, .int j] s (fun o s2 => o = .inr "java/lang/IndexOutOfBoundsException" ∧ s2 = s) := by
  refine MtW.of hl mfX8_node rfl (Nat.le_of_ble_eq_true rfl) ?_
  refine EW.aload_n dX8_node_0 rfl rfl ?_
  refine EC.get (k := 0) f_X8_56 dX8_node_1 (by decide) rfl rfl ?_
  refine EW.iload_n dX8_node_4 rfl rfl ?_
  refine EW.iload_n dX8_node_5 rfl rfl ?_
  refine EC.callV (bc := 1) (bs := 6) (mc' := 0) (ms' := 0) (k := 13) (C_thas hl 0 s i j) mfX7_has l_X8_166 mvX7_has (by omega) dX8_node_6 rfl rfl (by decide) rfl rfl rfl (Nat.le_of_ble_eq_true rfl) (fun v6 s6 q6 => ?_) (fun _ _ q => nomatch q.1)
  obtain ⟨e6, h6⟩ := q6; cases e6; replace h6 := h6.symm; subst h6
  refine EW.top (y := nI 0) ((if_neg h).trans (by decide +kernel)) ?_
  refine EW.if_ne 22 dX8_node_9 (by decide) (fun c9 => ?_) (fun c9 => ?_)
  · exact absurd c9 (by decide +kernel)
  · exact EW.throwS (bc := 0) (bs := 0) ts_X8_170 rfl dX8_node_12 dX8_node_15 dX8_node_16 dX8_node_18 dX8_node_21 (by omega) (Nat.le_of_ble_eq_true rfl) ⟨rfl, rfl⟩
set_option maxHeartbeats 4000000 in
theorem C_node0k (hl : l.stackTraces = false) (d i z : Nat) (s : CSt) (hz : s.1 7 = nI z) (hi : i < z) (h60 : z ≤ 60) : MtW (IC cy ax hp0) l D cy base mX8_node (d + 9) 0 0 [.ref (ax 0), .int (nI i), .int (nI 0)] s (fun o s2 => o = .inl (some (.int (s.2.1 15 i))) ∧ s2 = s) := by
  refine MtW.of hl mfX8_node rfl (Nat.le_of_ble_eq_true rfl) ?_
  refine EW.aload_n dX8_node_0 rfl rfl ?_
  refine EC.get (k := 0) f_X8_56 dX8_node_1 (by decide) rfl rfl ?_
  refine EW.iload_n dX8_node_4 rfl rfl ?_
  refine EW.iload_n dX8_node_5 rfl rfl ?_
  refine EC.callV (bc := 0) (bs := 0) (mc' := 0) (ms' := 0) (k := 13) (C_thas hl 0 s (nI i) (nI 0)) mfX7_has l_X8_166 mvX7_has (by omega) dX8_node_6 rfl rfl (by decide) rfl rfl rfl (Nat.le_of_ble_eq_true rfl) (fun v6 s6 q6 => ?_) (fun _ _ q => nomatch q.1)
  obtain ⟨e6, h6⟩ := q6; cases e6; replace h6 := h6.symm; subst h6
  refine EW.top (y := nI 1) (if_pos ⟨nI_pos' (by omega), by rw [hz]; exact nI_lt hi (by omega), by decide +kernel, by decide +kernel⟩) ?_
  refine EW.if_ne 22 dX8_node_9 (by decide) (fun c9 => ?_) (fun c9 => ?_)
  · refine EW.aload_n dX8_node_22 rfl rfl ?_
    refine EC.get (k := 0) f_X8_56 dX8_node_23 (by decide) rfl rfl ?_
    refine EW.iload_n dX8_node_26 rfl rfl ?_
    refine EW.iload_n dX8_node_27 rfl rfl ?_
    refine EC.callV (bc := 0) (bs := 0) (mc' := 0) (ms' := 0) (k := 13) (C_tell0 hl 0 s i z hz hi h60) mfX7_tell l_X8_172 mvX7_tell (by omega) dX8_node_28 rfl rfl (by decide) rfl rfl rfl (Nat.le_of_ble_eq_true rfl) (fun v28 s28 q28 => ?_) (fun _ _ q => nomatch q.1)
    obtain ⟨e28, h28⟩ := q28; cases e28; replace h28 := h28.symm; subst h28
    refine EW.iret rfl dX8_node_31 ?_
    exact ⟨rfl, rfl⟩
  · exact absurd c9 (by decide +kernel)
set_option maxHeartbeats 4000000 in
theorem C_node1k (hl : l.stackTraces = false) (d i z : Nat) (s : CSt) (hz : s.1 7 = nI z) (hi : i < z) (h60 : z ≤ 60) : MtW (IC cy ax hp0) l D cy base mX8_node (d + 9) 0 0 [.ref (ax 0), .int (nI i), .int (nI 1)] s (fun o s2 => o = .inl (some (.int (s.2.1 16 i))) ∧ s2 = s) := by
  refine MtW.of hl mfX8_node rfl (Nat.le_of_ble_eq_true rfl) ?_
  refine EW.aload_n dX8_node_0 rfl rfl ?_
  refine EC.get (k := 0) f_X8_56 dX8_node_1 (by decide) rfl rfl ?_
  refine EW.iload_n dX8_node_4 rfl rfl ?_
  refine EW.iload_n dX8_node_5 rfl rfl ?_
  refine EC.callV (bc := 0) (bs := 0) (mc' := 0) (ms' := 0) (k := 13) (C_thas hl 0 s (nI i) (nI 1)) mfX7_has l_X8_166 mvX7_has (by omega) dX8_node_6 rfl rfl (by decide) rfl rfl rfl (Nat.le_of_ble_eq_true rfl) (fun v6 s6 q6 => ?_) (fun _ _ q => nomatch q.1)
  obtain ⟨e6, h6⟩ := q6; cases e6; replace h6 := h6.symm; subst h6
  refine EW.top (y := nI 1) (if_pos ⟨nI_pos' (by omega), by rw [hz]; exact nI_lt hi (by omega), by decide +kernel, by decide +kernel⟩) ?_
  refine EW.if_ne 22 dX8_node_9 (by decide) (fun c9 => ?_) (fun c9 => ?_)
  · refine EW.aload_n dX8_node_22 rfl rfl ?_
    refine EC.get (k := 0) f_X8_56 dX8_node_23 (by decide) rfl rfl ?_
    refine EW.iload_n dX8_node_26 rfl rfl ?_
    refine EW.iload_n dX8_node_27 rfl rfl ?_
    refine EC.callV (bc := 0) (bs := 0) (mc' := 0) (ms' := 0) (k := 13) (C_tell1 hl 0 s i z hz hi h60) mfX7_tell l_X8_172 mvX7_tell (by omega) dX8_node_28 rfl rfl (by decide) rfl rfl rfl (Nat.le_of_ble_eq_true rfl) (fun v28 s28 q28 => ?_) (fun _ _ q => nomatch q.1)
    obtain ⟨e28, h28⟩ := q28; cases e28; replace h28 := h28.symm; subst h28
    refine EW.iret rfl dX8_node_31 ?_
    exact ⟨rfl, rfl⟩
  · exact absurd c9 (by decide +kernel)
set_option maxHeartbeats 4000000 in
theorem C_node2k (hl : l.stackTraces = false) (d i z : Nat) (s : CSt) (hz : s.1 7 = nI z) (hi : i < z) (h60 : z ≤ 60) : MtW (IC cy ax hp0) l D cy base mX8_node (d + 9) 0 0 [.ref (ax 0), .int (nI i), .int (nI 2)] s (fun o s2 => o = .inl (some (.int (s.2.1 17 i))) ∧ s2 = s) := by
  refine MtW.of hl mfX8_node rfl (Nat.le_of_ble_eq_true rfl) ?_
  refine EW.aload_n dX8_node_0 rfl rfl ?_
  refine EC.get (k := 0) f_X8_56 dX8_node_1 (by decide) rfl rfl ?_
  refine EW.iload_n dX8_node_4 rfl rfl ?_
  refine EW.iload_n dX8_node_5 rfl rfl ?_
  refine EC.callV (bc := 0) (bs := 0) (mc' := 0) (ms' := 0) (k := 13) (C_thas hl 0 s (nI i) (nI 2)) mfX7_has l_X8_166 mvX7_has (by omega) dX8_node_6 rfl rfl (by decide) rfl rfl rfl (Nat.le_of_ble_eq_true rfl) (fun v6 s6 q6 => ?_) (fun _ _ q => nomatch q.1)
  obtain ⟨e6, h6⟩ := q6; cases e6; replace h6 := h6.symm; subst h6
  refine EW.top (y := nI 1) (if_pos ⟨nI_pos' (by omega), by rw [hz]; exact nI_lt hi (by omega), by decide +kernel, by decide +kernel⟩) ?_
  refine EW.if_ne 22 dX8_node_9 (by decide) (fun c9 => ?_) (fun c9 => ?_)
  · refine EW.aload_n dX8_node_22 rfl rfl ?_
    refine EC.get (k := 0) f_X8_56 dX8_node_23 (by decide) rfl rfl ?_
    refine EW.iload_n dX8_node_26 rfl rfl ?_
    refine EW.iload_n dX8_node_27 rfl rfl ?_
    refine EC.callV (bc := 0) (bs := 0) (mc' := 0) (ms' := 0) (k := 13) (C_tell2 hl 0 s i z hz hi h60) mfX7_tell l_X8_172 mvX7_tell (by omega) dX8_node_28 rfl rfl (by decide) rfl rfl rfl (Nat.le_of_ble_eq_true rfl) (fun v28 s28 q28 => ?_) (fun _ _ q => nomatch q.1)
    obtain ⟨e28, h28⟩ := q28; cases e28; replace h28 := h28.symm; subst h28
    refine EW.iret rfl dX8_node_31 ?_
    exact ⟨rfl, rfl⟩
  · exact absurd c9 (by decide +kernel)
set_option maxHeartbeats 4000000 in
theorem C_node3k (hl : l.stackTraces = false) (d i z : Nat) (s : CSt) (hz : s.1 7 = nI z) (hi : i < z) (h60 : z ≤ 60) : MtW (IC cy ax hp0) l D cy base mX8_node (d + 9) 0 0 [.ref (ax 0), .int (nI i), .int (nI 3)] s (fun o s2 => o = .inl (some (.int (s.2.1 18 i))) ∧ s2 = s) := by
  refine MtW.of hl mfX8_node rfl (Nat.le_of_ble_eq_true rfl) ?_
  refine EW.aload_n dX8_node_0 rfl rfl ?_
  refine EC.get (k := 0) f_X8_56 dX8_node_1 (by decide) rfl rfl ?_
  refine EW.iload_n dX8_node_4 rfl rfl ?_
  refine EW.iload_n dX8_node_5 rfl rfl ?_
  refine EC.callV (bc := 0) (bs := 0) (mc' := 0) (ms' := 0) (k := 13) (C_thas hl 0 s (nI i) (nI 3)) mfX7_has l_X8_166 mvX7_has (by omega) dX8_node_6 rfl rfl (by decide) rfl rfl rfl (Nat.le_of_ble_eq_true rfl) (fun v6 s6 q6 => ?_) (fun _ _ q => nomatch q.1)
  obtain ⟨e6, h6⟩ := q6; cases e6; replace h6 := h6.symm; subst h6
  refine EW.top (y := nI 1) (if_pos ⟨nI_pos' (by omega), by rw [hz]; exact nI_lt hi (by omega), by decide +kernel, by decide +kernel⟩) ?_
  refine EW.if_ne 22 dX8_node_9 (by decide) (fun c9 => ?_) (fun c9 => ?_)
  · refine EW.aload_n dX8_node_22 rfl rfl ?_
    refine EC.get (k := 0) f_X8_56 dX8_node_23 (by decide) rfl rfl ?_
    refine EW.iload_n dX8_node_26 rfl rfl ?_
    refine EW.iload_n dX8_node_27 rfl rfl ?_
    refine EC.callV (bc := 0) (bs := 0) (mc' := 0) (ms' := 0) (k := 13) (C_tell3 hl 0 s i z hz hi h60) mfX7_tell l_X8_172 mvX7_tell (by omega) dX8_node_28 rfl rfl (by decide) rfl rfl rfl (Nat.le_of_ble_eq_true rfl) (fun v28 s28 q28 => ?_) (fun _ _ q => nomatch q.1)
    obtain ⟨e28, h28⟩ := q28; cases e28; replace h28 := h28.symm; subst h28
    refine EW.iret rfl dX8_node_31 ?_
    exact ⟨rfl, rfl⟩
  · exact absurd c9 (by decide +kernel)
set_option maxHeartbeats 4000000 in
theorem C_count0 (hl : l.stackTraces = false) (d : Nat) (s : CSt) : MtW (IC cy ax hp0) l D cy base mX8_count (d + 9) 0 0 [.ref (ax 0), .int (nI 0)] s (fun o s2 => o = .inl (some (.int (nI (szF s.2.2.2.1 6 0 0)))) ∧ s2 = s) := by
  refine MtW.of hl mfX8_count rfl (Nat.le_of_ble_eq_true rfl) ?_
  refine EW.iload_n dX8_count_0 rfl rfl ?_
  refine EW.tableIn (off := 39) 40 dX8_count_1 (by decide +kernel) (by decide +kernel) (by decide +kernel) (by decide) ?_
  refine EW.aload_n dX8_count_40 rfl rfl ?_
  refine EC.get (k := 0) f_X8_33 dX8_count_41 (by decide) rfl rfl ?_
  refine EC.callV (bc := 0) (bs := 0) (mc' := 0) (ms' := 0) (k := 6) (C_gsize hl 0 s) mfX2_size l_X8_175 mvX2_size (by omega) dX8_count_44 rfl rfl (by decide) rfl rfl rfl (Nat.le_of_ble_eq_true rfl) (fun v44 s44 q44 => ?_) (fun _ _ q => nomatch q.1)
  obtain ⟨e44, h44⟩ := q44; cases e44; replace h44 := h44.symm; subst h44
  refine EW.iret rfl dX8_count_47 ?_
  exact ⟨rfl, rfl⟩
set_option maxHeartbeats 4000000 in
theorem C_count1 (hl : l.stackTraces = false) (d : Nat) (s : CSt) : MtW (IC cy ax hp0) l D cy base mX8_count (d + 9) 0 0 [.ref (ax 0), .int (nI 1)] s (fun o s2 => o = .inl (some (.int (s.1 0))) ∧ s2 = s) := by
  refine MtW.of hl mfX8_count rfl (Nat.le_of_ble_eq_true rfl) ?_
  refine EW.iload_n dX8_count_0 rfl rfl ?_
  refine EW.tableIn (off := 47) 48 dX8_count_1 (by decide +kernel) (by decide +kernel) (by decide +kernel) (by decide) ?_
  refine EW.aload_n dX8_count_48 rfl rfl ?_
  refine EC.get (k := 0) f_X8_14 dX8_count_49 (by decide) rfl rfl ?_
  refine EC.callV (bc := 0) (bs := 0) (mc' := 0) (ms' := 0) (k := 1) (C_size_pad hl 0 s) mfX0_size l_X8_116 mvX0_size (by omega) dX8_count_52 rfl rfl (by decide) rfl rfl rfl (Nat.le_of_ble_eq_true rfl) (fun v52 s52 q52 => ?_) (fun _ _ q => nomatch q.1)
  obtain ⟨e52, h52⟩ := q52; cases e52; replace h52 := h52.symm; subst h52
  refine EW.iret rfl dX8_count_55 ?_
  exact ⟨rfl, rfl⟩
set_option maxHeartbeats 4000000 in
theorem C_count2 (hl : l.stackTraces = false) (d : Nat) (s : CSt) : MtW (IC cy ax hp0) l D cy base mX8_count (d + 9) 0 0 [.ref (ax 0), .int (nI 2)] s (fun o s2 => o = .inl (some (.int (s.1 1))) ∧ s2 = s) := by
  refine MtW.of hl mfX8_count rfl (Nat.le_of_ble_eq_true rfl) ?_
  refine EW.iload_n dX8_count_0 rfl rfl ?_
  refine EW.tableIn (off := 55) 56 dX8_count_1 (by decide +kernel) (by decide +kernel) (by decide +kernel) (by decide) ?_
  refine EW.aload_n dX8_count_56 rfl rfl ?_
  refine EC.get (k := 0) f_X8_18 dX8_count_57 (by decide) rfl rfl ?_
  refine EC.callV (bc := 0) (bs := 0) (mc' := 0) (ms' := 0) (k := 3) (C_size_in hl 0 s) mfX0_size l_X8_116 mvX0_size (by omega) dX8_count_60 rfl rfl (by decide) rfl rfl rfl (Nat.le_of_ble_eq_true rfl) (fun v60 s60 q60 => ?_) (fun _ _ q => nomatch q.1)
  obtain ⟨e60, h60⟩ := q60; cases e60; replace h60 := h60.symm; subst h60
  refine EW.iret rfl dX8_count_63 ?_
  exact ⟨rfl, rfl⟩
set_option maxHeartbeats 4000000 in
theorem C_count3 (hl : l.stackTraces = false) (d : Nat) (s : CSt) : MtW (IC cy ax hp0) l D cy base mX8_count (d + 9) 0 0 [.ref (ax 0), .int (nI 3)] s (fun o s2 => o = .inl (some (.int (s.1 7))) ∧ s2 = s) := by
  refine MtW.of hl mfX8_count rfl (Nat.le_of_ble_eq_true rfl) ?_
  refine EW.iload_n dX8_count_0 rfl rfl ?_
  refine EW.tableIn (off := 63) 64 dX8_count_1 (by decide +kernel) (by decide +kernel) (by decide +kernel) (by decide) ?_
  refine EW.aload_n dX8_count_64 rfl rfl ?_
  refine EC.get (k := 0) f_X8_56 dX8_count_65 (by decide) rfl rfl ?_
  refine EC.callV (bc := 0) (bs := 0) (mc' := 0) (ms' := 0) (k := 13) (C_tsize hl 0 s) mfX7_size l_X8_176 mvX7_size (by omega) dX8_count_68 rfl rfl (by decide) rfl rfl rfl (Nat.le_of_ble_eq_true rfl) (fun v68 s68 q68 => ?_) (fun _ _ q => nomatch q.1)
  obtain ⟨e68, h68⟩ := q68; cases e68; replace h68 := h68.symm; subst h68
  refine EW.iret rfl dX8_count_71 ?_
  exact ⟨rfl, rfl⟩
set_option maxHeartbeats 4000000 in
theorem C_count4 (hl : l.stackTraces = false) (d : Nat) (s : CSt) : MtW (IC cy ax hp0) l D cy base mX8_count (d + 9) 0 0 [.ref (ax 0), .int (nI 4)] s (fun o s2 => o = .inl (some (.int (s.1 5))) ∧ s2 = s) := by
  refine MtW.of hl mfX8_count rfl (Nat.le_of_ble_eq_true rfl) ?_
  refine EW.iload_n dX8_count_0 rfl rfl ?_
  refine EW.tableIn (off := 71) 72 dX8_count_1 (by decide +kernel) (by decide +kernel) (by decide +kernel) (by decide) ?_
  refine EW.aload_n dX8_count_72 rfl rfl ?_
  refine EC.get (k := 0) f_X8_49 dX8_count_73 (by decide) rfl rfl ?_
  refine EC.callV (bc := 0) (bs := 0) (mc' := 0) (ms' := 0) (k := 12) (C_begun hl 0 s) mfX3_begun l_X8_177 mvX3_begun (by omega) dX8_count_76 rfl rfl (by decide) rfl rfl rfl (Nat.le_of_ble_eq_true rfl) (fun v76 s76 q76 => ?_) (fun _ _ q => nomatch q.1)
  obtain ⟨e76, h76⟩ := q76; cases e76; replace h76 := h76.symm; subst h76
  refine EW.iret rfl dX8_count_79 ?_
  exact ⟨rfl, rfl⟩
set_option maxHeartbeats 4000000 in
theorem C_count5 (hl : l.stackTraces = false) (d : Nat) (s : CSt) : MtW (IC cy ax hp0) l D cy base mX8_count (d + 9) 0 0 [.ref (ax 0), .int (nI 5)] s (fun o s2 => o = .inl (some (.int (s.1 6))) ∧ s2 = s) := by
  refine MtW.of hl mfX8_count rfl (Nat.le_of_ble_eq_true rfl) ?_
  refine EW.iload_n dX8_count_0 rfl rfl ?_
  refine EW.tableIn (off := 79) 80 dX8_count_1 (by decide +kernel) (by decide +kernel) (by decide +kernel) (by decide) ?_
  refine EW.aload_n dX8_count_80 rfl rfl ?_
  refine EC.get (k := 0) f_X8_49 dX8_count_81 (by decide) rfl rfl ?_
  refine EC.callV (bc := 0) (bs := 0) (mc' := 0) (ms' := 0) (k := 12) (C_remembered hl 0 s) mfX3_remembered l_X8_180 mvX3_remembered (by omega) dX8_count_84 rfl rfl (by decide) rfl rfl rfl (Nat.le_of_ble_eq_true rfl) (fun v84 s84 q84 => ?_) (fun _ _ q => nomatch q.1)
  obtain ⟨e84, h84⟩ := q84; cases e84; replace h84 := h84.symm; subst h84
  refine EW.iret rfl dX8_count_87 ?_
  exact ⟨rfl, rfl⟩
set_option maxHeartbeats 4000000 in
theorem C_countT (hl : l.stackTraces = false) (d : Nat) (x : Int32) (s : CSt) (h : x.toInt < 0 ∨ 5 < x.toInt) : MtW (IC cy ax hp0) l D cy base mX8_count (d + 9) 1 6 [.ref (ax 0), .int x] s (fun o s2 => o = .inr "java/lang/IndexOutOfBoundsException" ∧ s2 = s) := by
  refine MtW.of hl mfX8_count rfl (Nat.le_of_ble_eq_true rfl) ?_
  refine EW.iload_n dX8_count_0 rfl rfl ?_
  refine EW.tableOut 88 dX8_count_1 h (by decide) ?_
  exact EW.throwS (bc := 0) (bs := 0) ts_X8_183 rfl dX8_count_88 dX8_count_91 dX8_count_92 dX8_count_94 dX8_count_97 (by omega) (Nat.le_of_ble_eq_true rfl) ⟨rfl, rfl⟩
end C21
