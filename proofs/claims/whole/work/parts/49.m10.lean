section M10
variable {cy : Nat → ClassId} {ad : Nat → Nat} {hp0 : Hp} {l : Launch} {D : va_G} {base : Nat}
set_option maxHeartbeats 4000000 in
theorem M_drop0 (hl : l.stackTraces = false) (d : Nat) (s : MSt) (r : Int32) (h : ¬ (nI 0 ≤ r ∧ r ≤ nI 5)) : MtW (IM cy ad hp0) l D cy base mX9_drop (d + 2) 0 0 [.ref (ad 43), .int r] s (fun o s2 => o = .inl (some (.int (nI 0))) ∧ s2 = fU 0 (nI 1) s) := by
  refine MtW.of hl mfX9_drop rfl (Nat.le_of_ble_eq_true rfl) ?_
  refine EW.aload_n dX9_drop_0 rfl rfl ?_
  refine EW.iload_n dX9_drop_1 rfl rfl ?_
  refine EW.ic 0 dX9_drop_2 ?_
  refine EW.ic 5 dX9_drop_3 ?_
  refine EW.callS (bc := 0) (bs := 0) (M_in hl _ 0 s r (nI 0) (nI 5)) mfX9_in rfl l_X9_109 mvX9_in (by omega) dX9_drop_4 rfl rfl (Nat.le_of_ble_eq_true rfl) (fun v4 s4 q4 => ?_) (fun _ _ q => nomatch q.1)
  obtain ⟨e4, h4⟩ := q4; cases e4; replace h4 := h4.symm; subst h4
  refine EW.top (y := nI 0) ((if_neg h).trans (by decide +kernel)) ?_
  refine EW.if_eq 14 dX9_drop_7 (by decide) (fun c7 => ?_) (fun c7 => ?_)
  · refine EW.ic 1 dX9_drop_14 ?_
    refine EM.put f_X9_105 dX9_drop_15 rfl ?_
    refine EW.aload_n dX9_drop_18 rfl rfl ?_
    refine EM.get f_X9_105 dX9_drop_19 rfl ?_
    refine EW.top (show va_up s.1 0 (nI 1) 0 = nI 1 from va_up_self _ _ _) ?_
    refine EW.if_gt 34 dX9_drop_22 (by decide) (fun c22 => ?_) (fun c22 => ?_)
    · refine EW.ic 0 dX9_drop_34 ?_
      refine EW.zret (ty := .boolean) rfl (by decide +kernel) dX9_drop_35 ?_
      exact ⟨rfl, rfl⟩
    · exact absurd c22 (by decide +kernel)
  · exact absurd c7 (by decide +kernel)
set_option maxHeartbeats 4000000 in
theorem M_drop1 (hl : l.stackTraces = false) (d : Nat) (s : MSt) (r z : Nat) (hr : r < 6) (hz : s.2 10 r = nI z) (hz9 : z < 64) (h : z = 0) : MtW (IM cy ad hp0) l D cy base mX9_drop (d + 2) 0 0 [.ref (ad 43), .int (nI r)] s (fun o s2 => o = .inl (some (.int (nI 0))) ∧ s2 = fU 0 (nI 0) s) := by
  refine MtW.of hl mfX9_drop rfl (Nat.le_of_ble_eq_true rfl) ?_
  refine EW.aload_n dX9_drop_0 rfl rfl ?_
  refine EW.iload_n dX9_drop_1 rfl rfl ?_
  refine EW.ic 0 dX9_drop_2 ?_
  refine EW.ic 5 dX9_drop_3 ?_
  refine EW.callS (bc := 0) (bs := 0) (M_in hl _ 0 s (nI r) (nI 0) (nI 5)) mfX9_in rfl l_X9_109 mvX9_in (by omega) dX9_drop_4 rfl rfl (Nat.le_of_ble_eq_true rfl) (fun v4 s4 q4 => ?_) (fun _ _ q => nomatch q.1)
  obtain ⟨e4, h4⟩ := q4; cases e4; replace h4 := h4.symm; subst h4
  refine EW.top (y := nI 1) ((if_pos ⟨(nI_leI (by decide) (by omega)).mpr (by omega), (nI_leI (by omega) (by decide)).mpr (by omega)⟩).trans (by decide +kernel)) ?_
  refine EW.if_eq 14 dX9_drop_7 (by decide) (fun c7 => ?_) (fun c7 => ?_)
  · exact absurd c7 (by decide +kernel)
  · refine EW.ic 0 dX9_drop_10 ?_
    refine EW.goto 15 dX9_drop_11 (by decide) ?_
    refine EM.put f_X9_105 dX9_drop_15 rfl ?_
    refine EW.aload_n dX9_drop_18 rfl rfl ?_
    refine EM.get f_X9_105 dX9_drop_19 rfl ?_
    refine EW.top (show va_up s.1 0 (nI 0) 0 = nI 0 from va_up_self _ _ _) ?_
    refine EW.if_gt 34 dX9_drop_22 (by decide) (fun c22 => ?_) (fun c22 => ?_)
    · exact absurd c22 (by decide +kernel)
    · refine EW.aload_n dX9_drop_25 rfl rfl ?_
      refine EM.get f_X9_33 dX9_drop_26 rfl ?_
      refine EW.iload_n dX9_drop_29 rfl rfl ?_
      refine EM.ialdN r dX9_drop_30 rfl rfl (by simp only [mLen]; omega) ?_
      refine EW.top hz ?_
      refine EW.if_ne 36 dX9_drop_31 (by decide) (fun c31 => ?_) (fun c31 => ?_)
      · have c31 : ¬ z = 0 := fun h => c31 ((nI_eq0 (by omega)).mpr h); exact absurd h c31
      · have c31 : z = 0 := (nI_eq0 (by omega)).mp c31
        refine EW.ic 0 dX9_drop_34 ?_
        refine EW.zret (ty := .boolean) rfl (by decide +kernel) dX9_drop_35 ?_
        exact ⟨rfl, rfl⟩
set_option maxHeartbeats 4000000 in
theorem M_drop2 (hl : l.stackTraces = false) (d : Nat) (s : MSt) (r z : Nat) (hr : r < 6) (hz : s.2 10 r = nI z) (hz9 : z < 64) (h : ¬ z = 0) : MtW (IM cy ad hp0) l D cy base mX9_drop (d + 2) 0 0 [.ref (ad 43), .int (nI r)] s (fun o s2 => ∃ f, o = .inl (some (.int (nI 1))) ∧ s2 = (va_up s.1 0 (nI 0), va_up (va_up s.2 10 (upd (s.2 10) r (nI 0))) 13 f) ∧ ∀ j, j < 126 → f j = -2) := by
  refine MtW.of hl mfX9_drop rfl (Nat.le_of_ble_eq_true rfl) ?_
  refine EW.aload_n dX9_drop_0 rfl rfl ?_
  refine EW.iload_n dX9_drop_1 rfl rfl ?_
  refine EW.ic 0 dX9_drop_2 ?_
  refine EW.ic 5 dX9_drop_3 ?_
  refine EW.callS (bc := 0) (bs := 0) (M_in hl _ 0 s (nI r) (nI 0) (nI 5)) mfX9_in rfl l_X9_109 mvX9_in (by omega) dX9_drop_4 rfl rfl (Nat.le_of_ble_eq_true rfl) (fun v4 s4 q4 => ?_) (fun _ _ q => nomatch q.1)
  obtain ⟨e4, h4⟩ := q4; cases e4; replace h4 := h4.symm; subst h4
  refine EW.top (y := nI 1) ((if_pos ⟨(nI_leI (by decide) (by omega)).mpr (by omega), (nI_leI (by omega) (by decide)).mpr (by omega)⟩).trans (by decide +kernel)) ?_
  refine EW.if_eq 14 dX9_drop_7 (by decide) (fun c7 => ?_) (fun c7 => ?_)
  · exact absurd c7 (by decide +kernel)
  · refine EW.ic 0 dX9_drop_10 ?_
    refine EW.goto 15 dX9_drop_11 (by decide) ?_
    refine EM.put f_X9_105 dX9_drop_15 rfl ?_
    refine EW.aload_n dX9_drop_18 rfl rfl ?_
    refine EM.get f_X9_105 dX9_drop_19 rfl ?_
    refine EW.top (show va_up s.1 0 (nI 0) 0 = nI 0 from va_up_self _ _ _) ?_
    refine EW.if_gt 34 dX9_drop_22 (by decide) (fun c22 => ?_) (fun c22 => ?_)
    · exact absurd c22 (by decide +kernel)
    · refine EW.aload_n dX9_drop_25 rfl rfl ?_
      refine EM.get f_X9_33 dX9_drop_26 rfl ?_
      refine EW.iload_n dX9_drop_29 rfl rfl ?_
      refine EM.ialdN r dX9_drop_30 rfl rfl (by simp only [mLen]; omega) ?_
      refine EW.top hz ?_
      refine EW.if_ne 36 dX9_drop_31 (by decide) (fun c31 => ?_) (fun c31 => ?_)
      · have c31 : ¬ z = 0 := fun h => c31 ((nI_eq0 (by omega)).mpr h)
        refine EW.aload_n dX9_drop_36 rfl rfl ?_
        refine EM.get f_X9_33 dX9_drop_37 rfl ?_
        refine EW.iload_n dX9_drop_40 rfl rfl ?_
        refine EW.ic 0 dX9_drop_41 ?_
        refine EM.iastN (r) dX9_drop_42 rfl rfl (by simp only [mLen]; omega) ?_
        refine EW.aload_n dX9_drop_43 rfl rfl ?_
        refine EM.callV (M_forget hl 0 (aU 10 r (nI 0) (fU 0 (nI 0) s))) mfX9_forget l_X9_102 mvX9_forget (by omega) dX9_drop_44 rfl rfl rfl rfl (Nat.le_of_ble_eq_true rfl) (fun _ _ q => by obtain ⟨f, e, _⟩ := q; cases e) (fun v44 s44 q44 => ?_)
        obtain ⟨f, e44, h44, hf⟩ := q44; cases e44; replace h44 := h44.symm; subst h44
        refine EW.ic 1 dX9_drop_47 ?_
        refine EW.zret (ty := .boolean) rfl (by decide +kernel) dX9_drop_48 ?_
        exact ⟨f, rfl, rfl, hf⟩
      · have c31 : z = 0 := (nI_eq0 (by omega)).mp c31; exact absurd c31 h
set_option maxHeartbeats 4000000 in
theorem M_memory0 (hl : l.stackTraces = false) (d : Nat) (s : MSt) (r p : Int32) (h : ¬ (nI 0 ≤ r ∧ r ≤ nI 5)) : MtW (IM cy ad hp0) l D cy base mX9_memory (d + 2) 0 0 [.ref (ad 43), .int r, .int p] s (fun o s2 => o = .inl (some (.int (nI 0))) ∧ s2 = fU 0 (nI 1) s) := by
  refine MtW.of hl mfX9_memory rfl (Nat.le_of_ble_eq_true rfl) ?_
  refine EW.aload_n dX9_memory_0 rfl rfl ?_
  refine EW.iload_n dX9_memory_1 rfl rfl ?_
  refine EW.ic 0 dX9_memory_2 ?_
  refine EW.ic 5 dX9_memory_3 ?_
  refine EW.callS (bc := 0) (bs := 0) (M_in hl _ 0 s r (nI 0) (nI 5)) mfX9_in rfl l_X9_109 mvX9_in (by omega) dX9_memory_4 rfl rfl (Nat.le_of_ble_eq_true rfl) (fun v4 s4 q4 => ?_) (fun _ _ q => nomatch q.1)
  obtain ⟨e4, h4⟩ := q4; cases e4; replace h4 := h4.symm; subst h4
  refine EW.top (y := nI 0) ((if_neg h).trans (by decide +kernel)) ?_
  refine EW.if_eq 26 dX9_memory_7 (by decide) (fun c7 => ?_) (fun c7 => ?_)
  · refine EW.ic 1 dX9_memory_26 ?_
    refine EM.put f_X9_105 dX9_memory_27 rfl ?_
    refine EW.aload_n dX9_memory_30 rfl rfl ?_
    refine EM.get f_X9_105 dX9_memory_31 rfl ?_
    refine EW.top (show va_up s.1 0 (nI 1) 0 = nI 1 from va_up_self _ _ _) ?_
    refine EW.if_le 41 dX9_memory_34 (by decide) (fun c34 => ?_) (fun c34 => ?_)
    · exact absurd c34 (by decide +kernel)
    · refine EW.ic 0 dX9_memory_37 ?_
      refine EW.goto 52 dX9_memory_38 (by decide) ?_
      refine EW.iret rfl dX9_memory_52 ?_
      exact ⟨rfl, rfl⟩
  · exact absurd c7 (by decide +kernel)
set_option maxHeartbeats 4000000 in
theorem M_memory1 (hl : l.stackTraces = false) (d : Nat) (s : MSt) (r p : Int32) (h : nI 0 ≤ r ∧ r ≤ nI 5) (h2 : ¬ (nI 0 ≤ p ∧ p ≤ s.1 3)) : MtW (IM cy ad hp0) l D cy base mX9_memory (d + 2) 0 0 [.ref (ad 43), .int r, .int p] s (fun o s2 => o = .inl (some (.int (nI 0))) ∧ s2 = fU 0 (nI 1) s) := by
  refine MtW.of hl mfX9_memory rfl (Nat.le_of_ble_eq_true rfl) ?_
  refine EW.aload_n dX9_memory_0 rfl rfl ?_
  refine EW.iload_n dX9_memory_1 rfl rfl ?_
  refine EW.ic 0 dX9_memory_2 ?_
  refine EW.ic 5 dX9_memory_3 ?_
  refine EW.callS (bc := 0) (bs := 0) (M_in hl _ 0 s r (nI 0) (nI 5)) mfX9_in rfl l_X9_109 mvX9_in (by omega) dX9_memory_4 rfl rfl (Nat.le_of_ble_eq_true rfl) (fun v4 s4 q4 => ?_) (fun _ _ q => nomatch q.1)
  obtain ⟨e4, h4⟩ := q4; cases e4; replace h4 := h4.symm; subst h4
  refine EW.top (y := nI 1) ((if_pos h).trans (by decide +kernel)) ?_
  refine EW.if_eq 26 dX9_memory_7 (by decide) (fun c7 => ?_) (fun c7 => ?_)
  · exact absurd c7 (by decide +kernel)
  · refine EW.iload_n dX9_memory_10 rfl rfl ?_
    refine EW.ic 0 dX9_memory_11 ?_
    refine EW.aload_n dX9_memory_12 rfl rfl ?_
    refine EM.get f_X9_168 dX9_memory_13 rfl ?_
    refine EW.callS (bc := 0) (bs := 0) (M_in hl _ 0 s p (nI 0) (s.1 3)) mfX9_in rfl l_X9_109 mvX9_in (by omega) dX9_memory_16 rfl rfl (Nat.le_of_ble_eq_true rfl) (fun v16 s16 q16 => ?_) (fun _ _ q => nomatch q.1)
    obtain ⟨e16, h16⟩ := q16; cases e16; replace h16 := h16.symm; subst h16
    refine EW.top (y := nI 0) ((if_neg h2).trans (by decide +kernel)) ?_
    refine EW.if_eq 26 dX9_memory_19 (by decide) (fun c19 => ?_) (fun c19 => ?_)
    · refine EW.ic 1 dX9_memory_26 ?_
      refine EM.put f_X9_105 dX9_memory_27 rfl ?_
      refine EW.aload_n dX9_memory_30 rfl rfl ?_
      refine EM.get f_X9_105 dX9_memory_31 rfl ?_
      refine EW.top (show va_up s.1 0 (nI 1) 0 = nI 1 from va_up_self _ _ _) ?_
      refine EW.if_le 41 dX9_memory_34 (by decide) (fun c34 => ?_) (fun c34 => ?_)
      · exact absurd c34 (by decide +kernel)
      · refine EW.ic 0 dX9_memory_37 ?_
        refine EW.goto 52 dX9_memory_38 (by decide) ?_
        refine EW.iret rfl dX9_memory_52 ?_
        exact ⟨rfl, rfl⟩
    · exact absurd c19 (by decide +kernel)
set_option maxHeartbeats 4000000 in
theorem M_memory2 (hl : l.stackTraces = false) (d : Nat) (s : MSt) (r p n : Nat) (hr : r < 6) (hn : s.1 3 = nI n) (hn9 : n ≤ 20) (hp : p ≤ n) : MtW (IM cy ad hp0) l D cy base mX9_memory (d + 2) 0 0 [.ref (ad 43), .int (nI r), .int (nI p)] s (fun o s2 => o = .inl (some (.int (s.2 13 (21 * r + p)))) ∧ s2 = fU 0 (nI 0) s) := by
  refine MtW.of hl mfX9_memory rfl (Nat.le_of_ble_eq_true rfl) ?_
  refine EW.aload_n dX9_memory_0 rfl rfl ?_
  refine EW.iload_n dX9_memory_1 rfl rfl ?_
  refine EW.ic 0 dX9_memory_2 ?_
  refine EW.ic 5 dX9_memory_3 ?_
  refine EW.callS (bc := 0) (bs := 0) (M_in hl _ 0 s (nI r) (nI 0) (nI 5)) mfX9_in rfl l_X9_109 mvX9_in (by omega) dX9_memory_4 rfl rfl (Nat.le_of_ble_eq_true rfl) (fun v4 s4 q4 => ?_) (fun _ _ q => nomatch q.1)
  obtain ⟨e4, h4⟩ := q4; cases e4; replace h4 := h4.symm; subst h4
  refine EW.top (y := nI 1) ((if_pos ⟨(nI_leI (by decide) (by omega)).mpr (by omega), (nI_leI (by omega) (by decide)).mpr (by omega)⟩).trans (by decide +kernel)) ?_
  refine EW.if_eq 26 dX9_memory_7 (by decide) (fun c7 => ?_) (fun c7 => ?_)
  · exact absurd c7 (by decide +kernel)
  · refine EW.iload_n dX9_memory_10 rfl rfl ?_
    refine EW.ic 0 dX9_memory_11 ?_
    refine EW.aload_n dX9_memory_12 rfl rfl ?_
    refine EM.get f_X9_168 dX9_memory_13 rfl ?_
    refine EW.top hn ?_
    refine EW.callS (bc := 0) (bs := 0) (M_in hl _ 0 s (nI p) (nI 0) (nI n)) mfX9_in rfl l_X9_109 mvX9_in (by omega) dX9_memory_16 rfl rfl (Nat.le_of_ble_eq_true rfl) (fun v16 s16 q16 => ?_) (fun _ _ q => nomatch q.1)
    obtain ⟨e16, h16⟩ := q16; cases e16; replace h16 := h16.symm; subst h16
    refine EW.top (y := nI 1) ((if_pos ⟨(nI_leI (by decide) (by omega)).mpr (by omega), (nI_leI (by omega) (by omega)).mpr hp⟩).trans (by decide +kernel)) ?_
    refine EW.if_eq 26 dX9_memory_19 (by decide) (fun c19 => ?_) (fun c19 => ?_)
    · exact absurd c19 (by decide +kernel)
    · refine EW.ic 0 dX9_memory_22 ?_
      refine EW.goto 27 dX9_memory_23 (by decide) ?_
      refine EM.put f_X9_105 dX9_memory_27 rfl ?_
      refine EW.aload_n dX9_memory_30 rfl rfl ?_
      refine EM.get f_X9_105 dX9_memory_31 rfl ?_
      refine EW.top (show va_up s.1 0 (nI 0) 0 = nI 0 from va_up_self _ _ _) ?_
      refine EW.if_le 41 dX9_memory_34 (by decide) (fun c34 => ?_) (fun c34 => ?_)
      · refine EW.aload_n dX9_memory_41 rfl rfl ?_
        refine EM.get f_X9_42 dX9_memory_42 rfl ?_
        refine EW.bp 21 dX9_memory_45 ?_
        refine EW.iload_n dX9_memory_47 rfl rfl ?_
        refine EW.imul dX9_memory_48 ?_
        refine EW.top (pk_mul _ _) ?_
        refine EW.iload_n dX9_memory_49 rfl rfl ?_
        refine EW.iadd dX9_memory_50 ?_
        refine EW.top (nI_add _ _) ?_
        refine EM.ialdN ((21 * r) + p) dX9_memory_51 rfl rfl (by simp only [mLen]; omega) ?_
        refine EW.iret rfl dX9_memory_52 ?_
        exact ⟨rfl, rfl⟩
      · exact absurd c34 (by decide +kernel)
end M10
