theorem nI_i2b {q : Nat} (h : q < 128) : (nI q).toInt8.toInt32 = nI q := by
  have : ∀ q : Nat, q < 128 → (nI q).toInt8.toInt32 = nI q := by decide +kernel
  exact this q h
theorem nar_b {q : Nat} (h : q < 128) : vp_nar .byte (nI q) = nI q := nI_i2b h
theorem va_same {α : Type} {f : Nat → α} {k : Nat} : va_up f k (f k) = f := by
  funext j
  by_cases h : j = k
  · subst h; rw [va_up_self]
  · rw [va_up_ne _ _ h]
theorem va_uu {α : Type} {f : Nat → α} {k : Nat} {a b : α} : va_up (va_up f k a) k b = va_up f k b := bx_uu f k a b
section C2
variable {cy : Nat → ClassId} {ax : Nat → Nat} {hp0 : Hp} {l : Launch} {D : va_G} {base : Nat}
set_option maxHeartbeats 4000000 in
theorem C_fill_loop (d : Nat) (v : Int32) : ∀ (n i : Nat) (s : CSt), i + n = 126 → (∀ j, j < i → s.2.1 9 j = v) → EW (IC cy ax hp0) l D cy base mJ7_fill_53178 d 0 0 5 [(0, .ref (ax 9)), (1, .int v), (2, .int (nI i)), (3, .int (nI 126))] [] s (fun o s2 => ∃ f, o = .inl none ∧ s2 = (s.1, va_up s.2.1 9 f, s.2.2) ∧ ∀ j, j < 126 → f j = v) := by
  intro n
  induction n with
  | zero =>
    intro i s hi hv
    refine EW.iload_n dJ7_fill_53178_5 rfl rfl ?_
    refine EW.iload_n dJ7_fill_53178_6 rfl rfl ?_
    refine EW.icmp_ge 20 dJ7_fill_53178_7 (by decide) (fun c7 => ?_) (fun c7 => ?_)
    · have c7 : 126 ≤ i := (nI_leI (by omega) (by omega)).mp c7
      refine EW.vret rfl dJ7_fill_53178_20 ?_
      refine ⟨s.2.1 9, rfl, ?_, fun j hj => hv j (by omega)⟩; rw [va_same]
    · have c7 : ¬ (126 ≤ i) := fun h => c7 ((nI_leI (by omega) (by omega)).mpr h); omega
  | succ n ih =>
    intro i s hi hv
    refine EW.iload_n dJ7_fill_53178_5 rfl rfl ?_
    refine EW.iload_n dJ7_fill_53178_6 rfl rfl ?_
    refine EW.icmp_ge 20 dJ7_fill_53178_7 (by decide) (fun c7 => ?_) (fun c7 => ?_)
    · have c7 : 126 ≤ i := (nI_leI (by omega) (by omega)).mp c7; omega
    · have c7 : ¬ (126 ≤ i) := fun h => c7 ((nI_leI (by omega) (by omega)).mpr h)
      refine EW.aload_n dJ7_fill_53178_10 rfl rfl ?_
      refine EW.iload_n dJ7_fill_53178_11 rfl rfl ?_
      refine EW.iload_n dJ7_fill_53178_12 rfl rfl ?_
      refine EC.ast9 (i) dJ7_fill_53178_13 (by omega) ?_
      refine EW.iinc dJ7_fill_53178_14 rfl (nI_inc _) (by decide) ?_
      refine EW.goto 5 dJ7_fill_53178_17 (by decide) ?_
      refine EW.loc (lv' := [(0, .ref (ax 9)), (1, .int v), (2, .int (nI (i + 1))), (3, .int (nI 126))]) ⟨rfl, rfl, rfl, rfl, trivial⟩ ?_
      refine EW.post ?_ (ih (i + 1) _ (by omega) (fun j hj => ?_))
      · intro o s2 ⟨f, h1, h2, h3⟩
        refine ⟨f, h1, ?_, h3⟩
        rw [h2, va_uu]
      · show upd (s.2.1 9) i v j = v
        by_cases h : j = i
        · subst h; exact pk_us
        · rw [pk_un h]; exact hv j (by omega)
set_option maxHeartbeats 4000000 in
theorem C_fill (hl : l.stackTraces = false) (d : Nat) (s : CSt) (v : Int32) : MtW (IC cy ax hp0) l D cy base mJ7_fill_53178 d 0 0 [.ref (ax 9), .int v] s (fun o s2 => ∃ f, o = .inl none ∧ s2 = (s.1, va_up s.2.1 9 f, s.2.2) ∧ ∀ j, j < 126 → f j = v) := by
  refine MtW.of hl mfJ7_fill_53178 rfl (Nat.le_of_ble_eq_true rfl) ?_
  refine EW.ic 0 dJ7_fill_53178_0 ?_
  refine EW.istore_n dJ7_fill_53178_1 rfl (by decide) ?_
  refine EW.aload_n dJ7_fill_53178_2 rfl rfl ?_
  refine EC.len9 dJ7_fill_53178_3 ?_
  refine EW.istore_n dJ7_fill_53178_4 rfl (by decide) ?_
  exact EW.loc (lv' := [(0, .ref (ax 9)), (1, .int v), (2, .int (nI 0)), (3, .int (nI 126))]) ⟨rfl, rfl, rfl, rfl, trivial⟩ (C_fill_loop d v 126 0 s rfl (fun j hj => absurd hj (Nat.not_lt_zero j)))
set_option maxHeartbeats 4000000 in
theorem C_isCell (hl : l.stackTraces = false) {S : Type} (I : S → Hp → Prop) (d : Nat) (s : S) (c : Nat) (hc : c < 126) : MtW I l D cy base mX4_isCell d 0 0 [.int (nI c)] s (fun o s2 => o = .inl (some (.int (nI 1))) ∧ s2 = s) := by
  refine MtW.of hl mfX4_isCell rfl (Nat.le_of_ble_eq_true rfl) ?_
  refine EW.iload_n dX4_isCell_0 rfl rfl ?_
  refine EW.if_lt 14 dX4_isCell_1 (by decide) (fun c1 => ?_) (fun c1 => ?_)
  · exact absurd c1 (nI_pos (by omega))
  · refine EW.iload_n dX4_isCell_4 rfl rfl ?_
    refine EW.bp 126 dX4_isCell_5 ?_
    refine EW.icmp_ge 14 dX4_isCell_7 (by decide) (fun c7 => ?_) (fun c7 => ?_)
    · have c7 : 126 ≤ c := (nI_leI (by omega) (by omega)).mp c7; omega
    · have c7 : ¬ (126 ≤ c) := fun h => c7 ((nI_leI (by omega) (by omega)).mpr h)
      refine EW.ic 1 dX4_isCell_10 ?_
      refine EW.goto 15 dX4_isCell_11 (by decide) ?_
      refine EW.zret (ty := .boolean) rfl (by decide +kernel) dX4_isCell_15 ?_
      exact ⟨rfl, rfl⟩
set_option maxHeartbeats 4000000 in
theorem C_isCellN (hl : l.stackTraces = false) {S : Type} (I : S → Hp → Prop) (d : Nat) (s : S) : MtW I l D cy base mX4_isCell d 0 0 [.int (-1)] s (fun o s2 => o = .inl (some (.int (nI 0))) ∧ s2 = s) := by
  refine MtW.of hl mfX4_isCell rfl (Nat.le_of_ble_eq_true rfl) ?_
  refine EW.iload_n dX4_isCell_0 rfl rfl ?_
  refine EW.if_lt 14 dX4_isCell_1 (by decide) (fun c1 => ?_) (fun c1 => ?_)
  · refine EW.ic 0 dX4_isCell_14 ?_
    refine EW.zret (ty := .boolean) rfl (by decide +kernel) dX4_isCell_15 ?_
    exact ⟨rfl, rfl⟩
  · exact absurd (by decide +kernel) c1
set_option maxHeartbeats 4000000 in
theorem C_recall (hl : l.stackTraces = false) (d : Nat) (s : CSt) (c : Nat) (hc : c < 126) : MtW (IC cy ax hp0) l D cy base mX4_recall (d + 1) 0 0 [.ref (ax 8), .int (nI c)] s (fun o s2 => o = .inl (some (.int (s.2.1 9 c))) ∧ s2 = s) := by
  refine MtW.of hl mfX4_recall rfl (Nat.le_of_ble_eq_true rfl) ?_
  refine EW.iload_n dX4_recall_0 rfl rfl ?_
  refine EW.callS (bc := 0) (bs := 0) (mc' := 0) (ms' := 0) (C_isCell hl _ d s c hc) mfX4_isCell rfl l_X4_32 mvX4_isCell (by omega) dX4_recall_1 rfl rfl (Nat.le_of_ble_eq_true rfl) (fun v1 s1 q1 => ?_) (fun _ _ q => nomatch q.1)
  obtain ⟨e1, h1⟩ := q1; cases e1; replace h1 := h1.symm; subst h1
  refine EW.if_eq 16 dX4_recall_4 (by decide) (fun c4 => ?_) (fun c4 => ?_)
  · exact absurd c4 (by decide +kernel)
  · refine EW.aload_n dX4_recall_7 rfl rfl ?_
    refine EC.get (k := 8) f_X4_9 dX4_recall_8 (by decide) rfl rfl ?_
    refine EW.iload_n dX4_recall_11 rfl rfl ?_
    refine EC.ald9 (c) dX4_recall_12 (by omega) ?_
    refine EW.goto 18 dX4_recall_13 (by decide) ?_
    refine EW.iret rfl dX4_recall_18 ?_
    exact ⟨rfl, rfl⟩
set_option maxHeartbeats 4000000 in
theorem C_keep (hl : l.stackTraces = false) (d : Nat) (s : CSt) (c : Nat) (hc : c < 126) (v : Int32) : MtW (IC cy ax hp0) l D cy base mX4_keep (d + 1) 0 0 [.ref (ax 8), .int (nI c), .int v] s (fun o s2 => o = .inl none ∧ s2 = (s.1, va_up s.2.1 9 (upd (s.2.1 9) c v), s.2.2)) := by
  refine MtW.of hl mfX4_keep rfl (Nat.le_of_ble_eq_true rfl) ?_
  refine EW.iload_n dX4_keep_0 rfl rfl ?_
  refine EW.callS (bc := 0) (bs := 0) (mc' := 0) (ms' := 0) (C_isCell hl _ d s c hc) mfX4_isCell rfl l_X4_32 mvX4_isCell (by omega) dX4_keep_1 rfl rfl (Nat.le_of_ble_eq_true rfl) (fun v1 s1 q1 => ?_) (fun _ _ q => nomatch q.1)
  obtain ⟨e1, h1⟩ := q1; cases e1; replace h1 := h1.symm; subst h1
  refine EW.if_eq 14 dX4_keep_4 (by decide) (fun c4 => ?_) (fun c4 => ?_)
  · exact absurd c4 (by decide +kernel)
  · refine EW.aload_n dX4_keep_7 rfl rfl ?_
    refine EC.get (k := 8) f_X4_9 dX4_keep_8 (by decide) rfl rfl ?_
    refine EW.iload_n dX4_keep_11 rfl rfl ?_
    refine EW.iload_n dX4_keep_12 rfl rfl ?_
    refine EC.ast9 (c) dX4_keep_13 (by omega) ?_
    refine EW.vret rfl dX4_keep_14 ?_
    exact ⟨rfl, rfl⟩
set_option maxHeartbeats 4000000 in
theorem C_belowSize (hl : l.stackTraces = false) (d : Nat) (s : CSt) (c : Nat) (hc : c < 126) : MtW (IC cy ax hp0) l D cy base mX4_belowSize (d + 1) 0 0 [.ref (ax 8), .int (nI c)] s (fun o s2 => o = .inl (some (.int (s.2.1 10 c))) ∧ s2 = s) := by
  refine MtW.of hl mfX4_belowSize rfl (Nat.le_of_ble_eq_true rfl) ?_
  refine EW.iload_n dX4_belowSize_0 rfl rfl ?_
  refine EW.callS (bc := 0) (bs := 0) (mc' := 0) (ms' := 0) (C_isCell hl _ d s c hc) mfX4_isCell rfl l_X4_32 mvX4_isCell (by omega) dX4_belowSize_1 rfl rfl (Nat.le_of_ble_eq_true rfl) (fun v1 s1 q1 => ?_) (fun _ _ q => nomatch q.1)
  obtain ⟨e1, h1⟩ := q1; cases e1; replace h1 := h1.symm; subst h1
  refine EW.if_eq 16 dX4_belowSize_4 (by decide) (fun c4 => ?_) (fun c4 => ?_)
  · exact absurd c4 (by decide +kernel)
  · refine EW.aload_n dX4_belowSize_7 rfl rfl ?_
    refine EC.get (k := 8) f_X4_15 dX4_belowSize_8 (by decide) rfl rfl ?_
    refine EW.iload_n dX4_belowSize_11 rfl rfl ?_
    refine EC.ald10 (c) dX4_belowSize_12 (by omega) ?_
    refine EW.goto 17 dX4_belowSize_13 (by decide) ?_
    refine EW.iret rfl dX4_belowSize_17 ?_
    exact ⟨rfl, rfl⟩
set_option maxHeartbeats 4000000 in
theorem C_belowSizeN (hl : l.stackTraces = false) (d : Nat) (s : CSt) : MtW (IC cy ax hp0) l D cy base mX4_belowSize (d + 1) 0 0 [.ref (ax 8), .int (-1)] s (fun o s2 => o = .inl (some (.int (nI 0))) ∧ s2 = s) := by
  refine MtW.of hl mfX4_belowSize rfl (Nat.le_of_ble_eq_true rfl) ?_
  refine EW.iload_n dX4_belowSize_0 rfl rfl ?_
  refine EW.callS (bc := 0) (bs := 0) (mc' := 0) (ms' := 0) (C_isCellN hl _ d s) mfX4_isCell rfl l_X4_32 mvX4_isCell (by omega) dX4_belowSize_1 rfl rfl (Nat.le_of_ble_eq_true rfl) (fun v1 s1 q1 => ?_) (fun _ _ q => nomatch q.1)
  obtain ⟨e1, h1⟩ := q1; cases e1; replace h1 := h1.symm; subst h1
  refine EW.if_eq 16 dX4_belowSize_4 (by decide) (fun c4 => ?_) (fun c4 => ?_)
  · refine EW.ic 0 dX4_belowSize_16 ?_
    refine EW.iret rfl dX4_belowSize_17 ?_
    exact ⟨rfl, rfl⟩
  · exact absurd c4 (by decide +kernel)
set_option maxHeartbeats 4000000 in
theorem C_cutBelow (hl : l.stackTraces = false) (d : Nat) (s : CSt) (c : Nat) (hc : c < 126) (v : Int32) : MtW (IC cy ax hp0) l D cy base mX4_cutBelow (d + 1) 0 0 [.ref (ax 8), .int (nI c), .int v] s (fun o s2 => o = .inl none ∧ s2 = (s.1, va_up s.2.1 10 (upd (s.2.1 10) c v), s.2.2)) := by
  refine MtW.of hl mfX4_cutBelow rfl (Nat.le_of_ble_eq_true rfl) ?_
  refine EW.iload_n dX4_cutBelow_0 rfl rfl ?_
  refine EW.callS (bc := 0) (bs := 0) (mc' := 0) (ms' := 0) (C_isCell hl _ d s c hc) mfX4_isCell rfl l_X4_32 mvX4_isCell (by omega) dX4_cutBelow_1 rfl rfl (Nat.le_of_ble_eq_true rfl) (fun v1 s1 q1 => ?_) (fun _ _ q => nomatch q.1)
  obtain ⟨e1, h1⟩ := q1; cases e1; replace h1 := h1.symm; subst h1
  refine EW.if_eq 14 dX4_cutBelow_4 (by decide) (fun c4 => ?_) (fun c4 => ?_)
  · exact absurd c4 (by decide +kernel)
  · refine EW.aload_n dX4_cutBelow_7 rfl rfl ?_
    refine EC.get (k := 8) f_X4_15 dX4_cutBelow_8 (by decide) rfl rfl ?_
    refine EW.iload_n dX4_cutBelow_11 rfl rfl ?_
    refine EW.iload_n dX4_cutBelow_12 rfl rfl ?_
    refine EC.ast10 (c) dX4_cutBelow_13 (by omega) ?_
    refine EW.vret rfl dX4_cutBelow_14 ?_
    exact ⟨rfl, rfl⟩
set_option maxHeartbeats 4000000 in
theorem C_cutBelowN (hl : l.stackTraces = false) (d : Nat) (s : CSt) (v : Int32) : MtW (IC cy ax hp0) l D cy base mX4_cutBelow (d + 1) 0 0 [.ref (ax 8), .int (-1), .int v] s (fun o s2 => o = .inl none ∧ s2 = s) := by
  refine MtW.of hl mfX4_cutBelow rfl (Nat.le_of_ble_eq_true rfl) ?_
  refine EW.iload_n dX4_cutBelow_0 rfl rfl ?_
  refine EW.callS (bc := 0) (bs := 0) (mc' := 0) (ms' := 0) (C_isCellN hl _ d s) mfX4_isCell rfl l_X4_32 mvX4_isCell (by omega) dX4_cutBelow_1 rfl rfl (Nat.le_of_ble_eq_true rfl) (fun v1 s1 q1 => ?_) (fun _ _ q => nomatch q.1)
  obtain ⟨e1, h1⟩ := q1; cases e1; replace h1 := h1.symm; subst h1
  refine EW.if_eq 14 dX4_cutBelow_4 (by decide) (fun c4 => ?_) (fun c4 => ?_)
  · refine EW.vret rfl dX4_cutBelow_14 ?_
    exact ⟨rfl, rfl⟩
  · exact absurd c4 (by decide +kernel)
set_option maxHeartbeats 4000000 in
theorem C_addBelowN (hl : l.stackTraces = false) (d : Nat) (s : CSt) (v : Int32) : MtW (IC cy ax hp0) l D cy base mX4_addBelow (d + 1) 0 0 [.ref (ax 8), .int (-1), .int v] s (fun o s2 => o = .inl none ∧ s2 = s) := by
  refine MtW.of hl mfX4_addBelow rfl (Nat.le_of_ble_eq_true rfl) ?_
  refine EW.iload_n dX4_addBelow_0 rfl rfl ?_
  refine EW.callS (bc := 0) (bs := 0) (mc' := 0) (ms' := 0) (C_isCellN hl _ d s) mfX4_isCell rfl l_X4_32 mvX4_isCell (by omega) dX4_addBelow_1 rfl rfl (Nat.le_of_ble_eq_true rfl) (fun v1 s1 q1 => ?_) (fun _ _ q => nomatch q.1)
  obtain ⟨e1, h1⟩ := q1; cases e1; replace h1 := h1.symm; subst h1
  refine EW.if_eq 53 dX4_addBelow_4 (by decide) (fun c4 => ?_) (fun c4 => ?_)
  · refine EW.vret rfl dX4_addBelow_53 ?_
    exact ⟨rfl, rfl⟩
  · exact absurd c4 (by decide +kernel)
set_option maxHeartbeats 4000000 in
theorem C_addBelow (hl : l.stackTraces = false) (d : Nat) (s : CSt) (c : Nat) (hc : c < 126) (q z : Nat) (hq : q < 126) (hz : s.2.1 10 c = nI z) (hzb : z < 2000000) : MtW (IC cy ax hp0) l D cy base mX4_addBelow (d + 1) 0 0 [.ref (ax 8), .int (nI c), .int (nI q)] s (fun o s2 => o = .inl none ∧ s2 = (s.1, va_up (if z < 60 then va_up s.2.1 11 (upd (s.2.1 11) (c * 60 + z) (nI q)) else s.2.1) 10 (upd (s.2.1 10) c (nI (z + 1))), s.2.2)) := by
  refine MtW.of hl mfX4_addBelow rfl (Nat.le_of_ble_eq_true rfl) ?_
  refine EW.iload_n dX4_addBelow_0 rfl rfl ?_
  refine EW.callS (bc := 0) (bs := 0) (mc' := 0) (ms' := 0) (C_isCell hl _ d s c hc) mfX4_isCell rfl l_X4_32 mvX4_isCell (by omega) dX4_addBelow_1 rfl rfl (Nat.le_of_ble_eq_true rfl) (fun v1 s1 q1 => ?_) (fun _ _ q => nomatch q.1)
  obtain ⟨e1, h1⟩ := q1; cases e1; replace h1 := h1.symm; subst h1
  refine EW.if_eq 53 dX4_addBelow_4 (by decide) (fun c4 => ?_) (fun c4 => ?_)
  · exact absurd c4 (by decide +kernel)
  · refine EW.iload_n dX4_addBelow_7 rfl rfl ?_
    refine EW.callS (bc := 0) (bs := 0) (mc' := 0) (ms' := 0) (C_isCell hl _ d s q hq) mfX4_isCell rfl l_X4_32 mvX4_isCell (by omega) dX4_addBelow_8 rfl rfl (Nat.le_of_ble_eq_true rfl) (fun v8 s8 q8 => ?_) (fun _ _ q => nomatch q.1)
    obtain ⟨e8, h8⟩ := q8; cases e8; replace h8 := h8.symm; subst h8
    refine EW.if_eq 53 dX4_addBelow_11 (by decide) (fun c11 => ?_) (fun c11 => ?_)
    · exact absurd c11 (by decide +kernel)
    · refine EW.aload_n dX4_addBelow_14 rfl rfl ?_
      refine EC.get (k := 8) f_X4_15 dX4_addBelow_15 (by decide) rfl rfl ?_
      refine EW.iload_n dX4_addBelow_18 rfl rfl ?_
      refine EC.ald10 (c) dX4_addBelow_19 (by omega) ?_
      refine EW.top hz ?_
      refine EW.istore_n dX4_addBelow_20 rfl (by decide) ?_
      refine EW.iload_n dX4_addBelow_21 rfl rfl ?_
      refine EW.if_lt 44 dX4_addBelow_22 (by decide) (fun c22 => ?_) (fun c22 => ?_)
      · exact absurd c22 (nI_pos (by omega))
      · refine EW.iload_n dX4_addBelow_25 rfl rfl ?_
        refine EW.bp 60 dX4_addBelow_26 ?_
        refine EW.icmp_ge 44 dX4_addBelow_28 (by decide) (fun c28 => ?_) (fun c28 => ?_)
        · have c28 : 60 ≤ z := (nI_leI (by omega) (by omega)).mp c28
          refine EW.aload_n dX4_addBelow_44 rfl rfl ?_
          refine EC.get (k := 8) f_X4_15 dX4_addBelow_45 (by decide) rfl rfl ?_
          refine EW.iload_n dX4_addBelow_48 rfl rfl ?_
          refine EW.iload_n dX4_addBelow_49 rfl rfl ?_
          refine EW.ic 1 dX4_addBelow_50 ?_
          refine EW.iadd dX4_addBelow_51 ?_
          refine EW.top (nI_add _ _) ?_
          refine EC.ast10 (c) dX4_addBelow_52 (by omega) ?_
          refine EW.vret rfl dX4_addBelow_53 ?_
          first | (rw [if_pos (by omega), nar_b (by omega)]; exact ⟨rfl, rfl⟩) | (rw [if_neg (by omega)]; exact ⟨rfl, rfl⟩)
        · have c28 : ¬ (60 ≤ z) := fun h => c28 ((nI_leI (by omega) (by omega)).mpr h)
          refine EW.aload_n dX4_addBelow_31 rfl rfl ?_
          refine EC.get (k := 8) f_X4_18 dX4_addBelow_32 (by decide) rfl rfl ?_
          refine EW.iload_n dX4_addBelow_35 rfl rfl ?_
          refine EW.bp 60 dX4_addBelow_36 ?_
          refine EW.imul dX4_addBelow_38 ?_
          refine EW.top (pk_mul _ _) ?_
          refine EW.iload_n dX4_addBelow_39 rfl rfl ?_
          refine EW.iadd dX4_addBelow_40 ?_
          refine EW.top (nI_add _ _) ?_
          refine EW.iload_n dX4_addBelow_41 rfl rfl ?_
          refine EW.i2b dX4_addBelow_42 (nI_i2b (by omega)) ?_
          refine EC.ast11 ((c * 60) + z) dX4_addBelow_43 (by omega) ?_
          refine EW.aload_n dX4_addBelow_44 rfl rfl ?_
          refine EC.get (k := 8) f_X4_15 dX4_addBelow_45 (by decide) rfl rfl ?_
          refine EW.iload_n dX4_addBelow_48 rfl rfl ?_
          refine EW.iload_n dX4_addBelow_49 rfl rfl ?_
          refine EW.ic 1 dX4_addBelow_50 ?_
          refine EW.iadd dX4_addBelow_51 ?_
          refine EW.top (nI_add _ _) ?_
          refine EC.ast10 (c) dX4_addBelow_52 (by omega) ?_
          refine EW.vret rfl dX4_addBelow_53 ?_
          first | (rw [if_pos (by omega), nar_b (by omega)]; exact ⟨rfl, rfl⟩) | (rw [if_neg (by omega)]; exact ⟨rfl, rfl⟩)
set_option maxHeartbeats 4000000 in
theorem C_below (hl : l.stackTraces = false) (d : Nat) (s : CSt) (c : Nat) (hc : c < 126) (i : Nat) (hi : i < 60) : MtW (IC cy ax hp0) l D cy base mX4_below (d + 1) 0 0 [.ref (ax 8), .int (nI c), .int (nI i)] s (fun o s2 => o = .inl (some (.int (s.2.1 11 (c * 60 + i)))) ∧ s2 = s) := by
  refine MtW.of hl mfX4_below rfl (Nat.le_of_ble_eq_true rfl) ?_
  refine EW.iload_n dX4_below_0 rfl rfl ?_
  refine EW.callS (bc := 0) (bs := 0) (mc' := 0) (ms' := 0) (C_isCell hl _ d s c hc) mfX4_isCell rfl l_X4_32 mvX4_isCell (by omega) dX4_below_1 rfl rfl (Nat.le_of_ble_eq_true rfl) (fun v1 s1 q1 => ?_) (fun _ _ q => nomatch q.1)
  obtain ⟨e1, h1⟩ := q1; cases e1; replace h1 := h1.symm; subst h1
  refine EW.if_eq 31 dX4_below_4 (by decide) (fun c4 => ?_) (fun c4 => ?_)
  · exact absurd c4 (by decide +kernel)
  · refine EW.iload_n dX4_below_7 rfl rfl ?_
    refine EW.if_lt 31 dX4_below_8 (by decide) (fun c8 => ?_) (fun c8 => ?_)
    · exact absurd c8 (nI_pos (by omega))
    · refine EW.iload_n dX4_below_11 rfl rfl ?_
      refine EW.bp 60 dX4_below_12 ?_
      refine EW.icmp_ge 31 dX4_below_14 (by decide) (fun c14 => ?_) (fun c14 => ?_)
      · have c14 : 60 ≤ i := (nI_leI (by omega) (by omega)).mp c14; omega
      · have c14 : ¬ (60 ≤ i) := fun h => c14 ((nI_leI (by omega) (by omega)).mpr h)
        refine EW.aload_n dX4_below_17 rfl rfl ?_
        refine EC.get (k := 8) f_X4_18 dX4_below_18 (by decide) rfl rfl ?_
        refine EW.iload_n dX4_below_21 rfl rfl ?_
        refine EW.bp 60 dX4_below_22 ?_
        refine EW.imul dX4_below_24 ?_
        refine EW.top (pk_mul _ _) ?_
        refine EW.iload_n dX4_below_25 rfl rfl ?_
        refine EW.iadd dX4_below_26 ?_
        refine EW.top (nI_add _ _) ?_
        refine EC.ald11 ((c * 60) + i) dX4_below_27 (by omega) ?_
        refine EW.goto 32 dX4_below_28 (by decide) ?_
        refine EW.iret rfl dX4_below_32 ?_
        exact ⟨rfl, rfl⟩
set_option maxHeartbeats 4000000 in
theorem C_cellOf (hl : l.stackTraces = false) {S : Type} (I : S → Hp → Prop) (d : Nat) (s : S) (r p : Nat) (hr : r < 6) (hp : p < 21) : MtW I l D cy base mX4_cellOf (d + 1) 0 0 [.int (nI r), .int (nI p)] s (fun o s2 => o = .inl (some (.int (nI (r * 21 + p)))) ∧ s2 = s) := by
  refine MtW.of hl mfX4_cellOf rfl (Nat.le_of_ble_eq_true rfl) ?_
  refine EW.iload_n dX4_cellOf_0 rfl rfl ?_
  refine EW.callSN (bc := 0) (bs := 0) (mc' := 0) (ms' := 0) (C_isRule hl _ d s (nI r)) mfX8_isRule rfl l_X4_28 mvX8_isRule (by omega) dX4_cellOf_1 rfl rfl (Nat.le_of_ble_eq_true rfl) (fun _ _ q => nomatch q.1) (fun v1 s1 q1 => ?_)
  obtain ⟨e1, h1⟩ := q1; cases e1; replace h1 := h1.symm; subst h1; refine EW.top (y := nI 1) (if_pos ⟨nI_pos' (by omega), by rw [← nI_6v]; exact nI_lt hr (by decide)⟩) ?_
  refine EW.if_eq 21 dX4_cellOf_4 (by decide) (fun c4 => ?_) (fun c4 => ?_)
  · exact absurd c4 (by decide +kernel)
  · refine EW.iload_n dX4_cellOf_7 rfl rfl ?_
    refine EW.if_lt 21 dX4_cellOf_8 (by decide) (fun c8 => ?_) (fun c8 => ?_)
    · exact absurd c8 (nI_pos (by omega))
    · refine EW.iload_n dX4_cellOf_11 rfl rfl ?_
      refine EW.bp 21 dX4_cellOf_12 ?_
      refine EW.icmp_ge 21 dX4_cellOf_14 (by decide) (fun c14 => ?_) (fun c14 => ?_)
      · have c14 : 21 ≤ p := (nI_leI (by omega) (by omega)).mp c14; omega
      · have c14 : ¬ (21 ≤ p) := fun h => c14 ((nI_leI (by omega) (by omega)).mpr h)
        refine EW.ic 1 dX4_cellOf_17 ?_
        refine EW.goto 22 dX4_cellOf_18 (by decide) ?_
        refine EW.istore_n dX4_cellOf_22 rfl (by decide) ?_
        refine EW.iload_n dX4_cellOf_23 rfl rfl ?_
        refine EW.if_eq 36 dX4_cellOf_24 (by decide) (fun c24 => ?_) (fun c24 => ?_)
        · exact absurd c24 (by decide +kernel)
        · refine EW.iload_n dX4_cellOf_27 rfl rfl ?_
          refine EW.bp 21 dX4_cellOf_28 ?_
          refine EW.imul dX4_cellOf_30 ?_
          refine EW.top (pk_mul _ _) ?_
          refine EW.iload_n dX4_cellOf_31 rfl rfl ?_
          refine EW.iadd dX4_cellOf_32 ?_
          refine EW.top (nI_add _ _) ?_
          refine EW.goto 37 dX4_cellOf_33 (by decide) ?_
          refine EW.iret rfl dX4_cellOf_37 ?_
          exact ⟨rfl, rfl⟩
set_option maxHeartbeats 4000000 in
theorem C_forget (hl : l.stackTraces = false) (d : Nat) (s : CSt) : MtW (IC cy ax hp0) l D cy base mX4_forget (d + 1) 0 0 [.ref (ax 8)] s (fun o s2 => ∃ f, o = .inl none ∧ s2 = (s.1, va_up s.2.1 9 f, s.2.2) ∧ ∀ j, j < 126 → f j = -2) := by
  refine MtW.of hl mfX4_forget rfl (Nat.le_of_ble_eq_true rfl) ?_
  refine EW.aload_n dX4_forget_0 rfl rfl ?_
  refine EC.get (k := 8) f_X4_9 dX4_forget_1 (by decide) rfl rfl ?_
  refine EW.bipush (v := -2) dX4_forget_4 (by decide +kernel) ?_
  refine EW.callS (bc := 0) (bs := 0) (mc' := 0) (ms' := 0) (C_fill hl d s (-2)) mfJ7_fill_53178 rfl l_X4_22 mvJ7_fill_53178 (by omega) dX4_forget_6 rfl rfl (Nat.le_of_ble_eq_true rfl) (fun v6 s6 q6 => ?_) (fun _ _ q => by obtain ⟨f, e, _⟩ := q; cases e)
  obtain ⟨f, e6, h6, hf⟩ := q6; cases e6; replace h6 := h6.symm; subst h6
  refine EW.vret rfl dX4_forget_9 ?_
  exact ⟨f, rfl, rfl, hf⟩
end C2
