section M8
variable {cy : Nat → ClassId} {ad : Nat → Nat} {hp0 : Hp} {l : Launch} {D : va_G} {base : Nat}
set_option maxHeartbeats 4000000 in
theorem M_god0 (hl : l.stackTraces = false) (d : Nat) (s : MSt) (k B : Nat) (hk9 : k < 384) (hB : B ≤ 320) (hkd : s.2 5 k = nI 0) : MtW (IM cy ad hp0) l D cy base mX9_goodOf (d + 2) 0 0 [.ref (ad 43), .int (nI k), .int (nI B)] s (fun o s2 => o = .inl (some (.int (nI 1))) ∧ s2 = s) := by
  refine MtW.of hl mfX9_goodOf rfl (Nat.le_of_ble_eq_true rfl) ?_
  refine EW.aload_n dX9_goodOf_0 rfl rfl ?_
  refine EM.get f_X9_17 dX9_goodOf_1 rfl ?_
  refine EW.iload_n dX9_goodOf_4 rfl rfl ?_
  refine EM.ialdN k dX9_goodOf_5 rfl rfl (by simp only [mLen]; omega) ?_
  refine EW.top hkd ?_
  refine EW.if_ne 11 dX9_goodOf_6 (by decide) (fun c6 => ?_) (fun c6 => ?_)
  · exact absurd c6 (by decide +kernel)
  · refine EW.ic 1 dX9_goodOf_9 ?_
    refine EW.zret (ty := .boolean) rfl (by decide +kernel) dX9_goodOf_10 ?_
    exact ⟨rfl, rfl⟩
set_option maxHeartbeats 4000000 in
theorem M_god1z (hl : l.stackTraces = false) (d : Nat) (s : MSt) (k B : Nat) (hk9 : k < 384) (hB : B ≤ 320) (r z : Nat) (hkd : s.2 5 k = nI 1) (hr : s.2 6 k = nI r) (hr6 : r < 6) (hz : s.2 10 r = nI z) (hz9 : z < 64) (h : z = 0) : MtW (IM cy ad hp0) l D cy base mX9_goodOf (d + 2) 0 0 [.ref (ad 43), .int (nI k), .int (nI B)] s (fun o s2 => o = .inl (some (.int (nI 0))) ∧ s2 = s) := by
  refine MtW.of hl mfX9_goodOf rfl (Nat.le_of_ble_eq_true rfl) ?_
  refine EW.aload_n dX9_goodOf_0 rfl rfl ?_
  refine EM.get f_X9_17 dX9_goodOf_1 rfl ?_
  refine EW.iload_n dX9_goodOf_4 rfl rfl ?_
  refine EM.ialdN k dX9_goodOf_5 rfl rfl (by simp only [mLen]; omega) ?_
  refine EW.top hkd ?_
  refine EW.if_ne 11 dX9_goodOf_6 (by decide) (fun c6 => ?_) (fun c6 => ?_)
  · refine EW.aload_n dX9_goodOf_11 rfl rfl ?_
    refine EM.get f_X9_17 dX9_goodOf_12 rfl ?_
    refine EW.iload_n dX9_goodOf_15 rfl rfl ?_
    refine EM.ialdN k dX9_goodOf_16 rfl rfl (by simp only [mLen]; omega) ?_
    refine EW.top hkd ?_
    refine EW.ic 1 dX9_goodOf_17 ?_
    refine EW.icmp_ne 64 dX9_goodOf_18 (by decide) (fun c18 => ?_) (fun c18 => ?_)
    · exact absurd c18 (by decide +kernel)
    · refine EW.aload_n dX9_goodOf_21 rfl rfl ?_
      refine EM.get f_X9_20 dX9_goodOf_22 rfl ?_
      refine EW.iload_n dX9_goodOf_25 rfl rfl ?_
      refine EM.ialdN k dX9_goodOf_26 rfl rfl (by simp only [mLen]; omega) ?_
      refine EW.top hr ?_
      refine EW.istore_n dX9_goodOf_27 rfl (by decide) ?_
      refine EW.aload_n dX9_goodOf_28 rfl rfl ?_
      refine EM.get f_X9_33 dX9_goodOf_29 rfl ?_
      refine EW.iload_n dX9_goodOf_32 rfl rfl ?_
      refine EM.ialdN r dX9_goodOf_33 rfl rfl (by simp only [mLen]; omega) ?_
      refine EW.top hz ?_
      refine EW.if_le 62 dX9_goodOf_34 (by decide) (fun c34 => ?_) (fun c34 => ?_)
      · have c34 : z = 0 := (nI_le0 (by omega)).mp c34
        refine EW.ic 0 dX9_goodOf_62 ?_
        refine EW.zret (ty := .boolean) rfl (by decide +kernel) dX9_goodOf_63 ?_
        exact ⟨rfl, rfl⟩
      · have c34 : ¬ z = 0 := fun h => c34 ((nI_le0 (by omega)).mpr h); exact absurd h c34
  · exact absurd c6 (by decide +kernel)
set_option maxHeartbeats 4000000 in
theorem M_god1 (hl : l.stackTraces = false) (d : Nat) (s : MSt) (k B : Nat) (hk9 : k < 384) (hB : B ≤ 320) (r z : Nat) (hkd : s.2 5 k = nI 1) (hr : s.2 6 k = nI r) (hr6 : r < 6) (hz : s.2 10 r = nI z) (hz9 : z < 64) (h : ¬ z = 0) : MtW (IM cy ad hp0) l D cy base mX9_goodOf (d + 2) 0 0 [.ref (ad 43), .int (nI k), .int (nI B)] s (fun o s2 => o = .inl (some (.int (if s.2 12 (64 * r + z - 1) = 0 then nI 0 else nI 1))) ∧ s2 = s) := by
  refine MtW.of hl mfX9_goodOf rfl (Nat.le_of_ble_eq_true rfl) ?_
  refine EW.aload_n dX9_goodOf_0 rfl rfl ?_
  refine EM.get f_X9_17 dX9_goodOf_1 rfl ?_
  refine EW.iload_n dX9_goodOf_4 rfl rfl ?_
  refine EM.ialdN k dX9_goodOf_5 rfl rfl (by simp only [mLen]; omega) ?_
  refine EW.top hkd ?_
  refine EW.if_ne 11 dX9_goodOf_6 (by decide) (fun c6 => ?_) (fun c6 => ?_)
  · refine EW.aload_n dX9_goodOf_11 rfl rfl ?_
    refine EM.get f_X9_17 dX9_goodOf_12 rfl ?_
    refine EW.iload_n dX9_goodOf_15 rfl rfl ?_
    refine EM.ialdN k dX9_goodOf_16 rfl rfl (by simp only [mLen]; omega) ?_
    refine EW.top hkd ?_
    refine EW.ic 1 dX9_goodOf_17 ?_
    refine EW.icmp_ne 64 dX9_goodOf_18 (by decide) (fun c18 => ?_) (fun c18 => ?_)
    · exact absurd c18 (by decide +kernel)
    · refine EW.aload_n dX9_goodOf_21 rfl rfl ?_
      refine EM.get f_X9_20 dX9_goodOf_22 rfl ?_
      refine EW.iload_n dX9_goodOf_25 rfl rfl ?_
      refine EM.ialdN k dX9_goodOf_26 rfl rfl (by simp only [mLen]; omega) ?_
      refine EW.top hr ?_
      refine EW.istore_n dX9_goodOf_27 rfl (by decide) ?_
      refine EW.aload_n dX9_goodOf_28 rfl rfl ?_
      refine EM.get f_X9_33 dX9_goodOf_29 rfl ?_
      refine EW.iload_n dX9_goodOf_32 rfl rfl ?_
      refine EM.ialdN r dX9_goodOf_33 rfl rfl (by simp only [mLen]; omega) ?_
      refine EW.top hz ?_
      refine EW.if_le 62 dX9_goodOf_34 (by decide) (fun c34 => ?_) (fun c34 => ?_)
      · have c34 : z = 0 := (nI_le0 (by omega)).mp c34; exact absurd c34 h
      · have c34 : ¬ z = 0 := fun h => c34 ((nI_le0 (by omega)).mpr h)
        refine EW.aload_n dX9_goodOf_37 rfl rfl ?_
        refine EM.get f_X9_39 dX9_goodOf_38 rfl ?_
        refine EW.bp 64 dX9_goodOf_41 ?_
        refine EW.iload_n dX9_goodOf_43 rfl rfl ?_
        refine EW.imul dX9_goodOf_44 ?_
        refine EW.top (pk_mul _ _) ?_
        refine EW.aload_n dX9_goodOf_45 rfl rfl ?_
        refine EM.get f_X9_33 dX9_goodOf_46 rfl ?_
        refine EW.iload_n dX9_goodOf_49 rfl rfl ?_
        refine EM.ialdN r dX9_goodOf_50 rfl rfl (by simp only [mLen]; omega) ?_
        refine EW.top hz ?_
        refine EW.iadd dX9_goodOf_51 ?_
        refine EW.top (nI_add _ _) ?_
        refine EW.ic 1 dX9_goodOf_52 ?_
        refine EW.isub dX9_goodOf_53 ?_
        refine EW.top (pk_sub (by omega)) ?_
        refine EM.zaldN (((64 * r) + z) - 1) dX9_goodOf_54 rfl rfl (by simp only [mLen]; omega) ?_
        refine EW.if_eq 62 dX9_goodOf_55 (by decide) (fun c55 => ?_) (fun c55 => ?_)
        · refine EW.ic 0 dX9_goodOf_62 ?_
          refine EW.zret (ty := .boolean) rfl (by decide +kernel) dX9_goodOf_63 ?_
          first | (rw [if_pos c55]; exact ⟨rfl, rfl⟩) | (rw [if_neg c55]; exact ⟨rfl, rfl⟩)
        · refine EW.ic 1 dX9_goodOf_58 ?_
          refine EW.goto 63 dX9_goodOf_59 (by decide) ?_
          refine EW.zret (ty := .boolean) rfl (by decide +kernel) dX9_goodOf_63 ?_
          first | (rw [if_pos c55]; exact ⟨rfl, rfl⟩) | (rw [if_neg c55]; exact ⟨rfl, rfl⟩)
  · exact absurd c6 (by decide +kernel)
set_option maxHeartbeats 4000000 in
theorem M_god2 (hl : l.stackTraces = false) (d : Nat) (s : MSt) (k B : Nat) (hk9 : k < 384) (hB : B ≤ 320) (f g : Nat) (hf : s.2 6 k = nI f) (hg : s.2 7 k = nI g) (hf9 : f < 64) (hg9 : g < 64) (hkd : s.2 5 k = nI 2) : MtW (IM cy ad hp0) l D cy base mX9_goodOf (d + 3) 0 0 [.ref (ad 43), .int (nI k), .int (nI B)] s (fun o s2 => o = .inl (some (.int (if ¬ s.2 12 (B + f) = 0 ∧ (s.2 11 (B + f) &&& nI 1 = 0 ∨ ¬ s.2 12 (B + g) = 0) then nI 1 else nI 0))) ∧ s2 = s) := by
  refine MtW.of hl mfX9_goodOf rfl (Nat.le_of_ble_eq_true rfl) ?_
  refine EW.aload_n dX9_goodOf_0 rfl rfl ?_
  refine EM.get f_X9_17 dX9_goodOf_1 rfl ?_
  refine EW.iload_n dX9_goodOf_4 rfl rfl ?_
  refine EM.ialdN k dX9_goodOf_5 rfl rfl (by simp only [mLen]; omega) ?_
  refine EW.top hkd ?_
  refine EW.if_ne 11 dX9_goodOf_6 (by decide) (fun c6 => ?_) (fun c6 => ?_)
  · refine EW.aload_n dX9_goodOf_11 rfl rfl ?_
    refine EM.get f_X9_17 dX9_goodOf_12 rfl ?_
    refine EW.iload_n dX9_goodOf_15 rfl rfl ?_
    refine EM.ialdN k dX9_goodOf_16 rfl rfl (by simp only [mLen]; omega) ?_
    refine EW.top hkd ?_
    refine EW.ic 1 dX9_goodOf_17 ?_
    refine EW.icmp_ne 64 dX9_goodOf_18 (by decide) (fun c18 => ?_) (fun c18 => ?_)
    · refine EW.aload_n dX9_goodOf_64 rfl rfl ?_
      refine EM.get f_X9_39 dX9_goodOf_65 rfl ?_
      refine EW.iload_n dX9_goodOf_68 rfl rfl ?_
      refine EW.aload_n dX9_goodOf_69 rfl rfl ?_
      refine EM.get f_X9_20 dX9_goodOf_70 rfl ?_
      refine EW.iload_n dX9_goodOf_73 rfl rfl ?_
      refine EM.ialdN k dX9_goodOf_74 rfl rfl (by simp only [mLen]; omega) ?_
      refine EW.top hf ?_
      refine EW.iadd dX9_goodOf_75 ?_
      refine EW.top (nI_add _ _) ?_
      refine EM.zaldN (B + f) dX9_goodOf_76 rfl rfl (by simp only [mLen]; omega) ?_
      refine EW.istore_n dX9_goodOf_77 rfl (by decide) ?_
      refine EW.aload_n dX9_goodOf_78 rfl rfl ?_
      refine EM.get f_X9_36 dX9_goodOf_79 rfl ?_
      refine EW.iload_n dX9_goodOf_82 rfl rfl ?_
      refine EW.aload_n dX9_goodOf_83 rfl rfl ?_
      refine EM.get f_X9_20 dX9_goodOf_84 rfl ?_
      refine EW.iload_n dX9_goodOf_87 rfl rfl ?_
      refine EM.ialdN k dX9_goodOf_88 rfl rfl (by simp only [mLen]; omega) ?_
      refine EW.top hf ?_
      refine EW.iadd dX9_goodOf_89 ?_
      refine EW.top (nI_add _ _) ?_
      refine EM.ialdN (B + f) dX9_goodOf_90 rfl rfl (by simp only [mLen]; omega) ?_
      refine EW.ic 1 dX9_goodOf_91 ?_
      refine EW.callS (bc := 0) (bs := 0) (M_has hl _ 0 s _ (nI 1)) mfX9_has rfl l_X9_171 mvX9_has (by omega) dX9_goodOf_92 rfl rfl (Nat.le_of_ble_eq_true rfl) (fun v92 s92 q92 => ?_) (fun _ _ q => nomatch q.1)
      obtain ⟨e92, h92⟩ := q92; cases e92; replace h92 := h92.symm; subst h92
      refine EW.istore dX9_goodOf_95 (by decide) ?_
      refine EW.aload_n dX9_goodOf_97 rfl rfl ?_
      refine EM.get f_X9_17 dX9_goodOf_98 rfl ?_
      refine EW.iload_n dX9_goodOf_101 rfl rfl ?_
      refine EM.ialdN k dX9_goodOf_102 rfl rfl (by simp only [mLen]; omega) ?_
      refine EW.top hkd ?_
      refine EW.tableIn (off := 29) 132 dX9_goodOf_103 (by decide +kernel) (by decide +kernel) (by decide +kernel) (by decide) ?_
      refine EW.iload_n dX9_goodOf_132 rfl rfl ?_
      refine EW.if_eq 161 dX9_goodOf_133 (by decide) (fun c133 => ?_) (fun c133 => ?_)
      · refine EW.ic 0 dX9_goodOf_161 ?_
        refine EW.zret (ty := .boolean) rfl (by decide +kernel) dX9_goodOf_162 ?_
        refine ⟨?_, rfl⟩; simp only [*, not_true_eq_false, not_false_eq_true, and_true, true_and, and_false, false_and, or_true, true_or, or_false, false_or, if_true, if_false, and_self, or_self]
      · refine EW.iload dX9_goodOf_136 rfl ?_
        refine EW.if_eq 157 dX9_goodOf_138 (by decide) (fun c138 => ?_) (fun c138 => ?_)
        · have c138 := hs0 c138
          refine EW.ic 1 dX9_goodOf_157 ?_
          refine EW.goto 162 dX9_goodOf_158 (by decide) ?_
          refine EW.zret (ty := .boolean) rfl (by decide +kernel) dX9_goodOf_162 ?_
          refine ⟨?_, rfl⟩; simp only [*, not_true_eq_false, not_false_eq_true, and_true, true_and, and_false, false_and, or_true, true_or, or_false, false_or, if_true, if_false, and_self, or_self]
        · have c138 := hs1 c138
          refine EW.aload_n dX9_goodOf_141 rfl rfl ?_
          refine EM.get f_X9_39 dX9_goodOf_142 rfl ?_
          refine EW.iload_n dX9_goodOf_145 rfl rfl ?_
          refine EW.aload_n dX9_goodOf_146 rfl rfl ?_
          refine EM.get f_X9_23 dX9_goodOf_147 rfl ?_
          refine EW.iload_n dX9_goodOf_150 rfl rfl ?_
          refine EM.ialdN k dX9_goodOf_151 rfl rfl (by simp only [mLen]; omega) ?_
          refine EW.top hg ?_
          refine EW.iadd dX9_goodOf_152 ?_
          refine EW.top (nI_add _ _) ?_
          refine EM.zaldN (B + g) dX9_goodOf_153 rfl rfl (by simp only [mLen]; omega) ?_
          refine EW.if_eq 161 dX9_goodOf_154 (by decide) (fun c154 => ?_) (fun c154 => ?_)
          · refine EW.ic 0 dX9_goodOf_161 ?_
            refine EW.zret (ty := .boolean) rfl (by decide +kernel) dX9_goodOf_162 ?_
            refine ⟨?_, rfl⟩; simp only [*, not_true_eq_false, not_false_eq_true, and_true, true_and, and_false, false_and, or_true, true_or, or_false, false_or, if_true, if_false, and_self, or_self]
          · refine EW.ic 1 dX9_goodOf_157 ?_
            refine EW.goto 162 dX9_goodOf_158 (by decide) ?_
            refine EW.zret (ty := .boolean) rfl (by decide +kernel) dX9_goodOf_162 ?_
            refine ⟨?_, rfl⟩; simp only [*, not_true_eq_false, not_false_eq_true, and_true, true_and, and_false, false_and, or_true, true_or, or_false, false_or, if_true, if_false, and_self, or_self]
    · exact absurd c18 (by decide +kernel)
  · exact absurd c6 (by decide +kernel)
set_option maxHeartbeats 4000000 in
theorem M_god3 (hl : l.stackTraces = false) (d : Nat) (s : MSt) (k B : Nat) (hk9 : k < 384) (hB : B ≤ 320) (f g : Nat) (hf : s.2 6 k = nI f) (hg : s.2 7 k = nI g) (hf9 : f < 64) (hg9 : g < 64) (hkd : s.2 5 k = nI 3) : MtW (IM cy ad hp0) l D cy base mX9_goodOf (d + 3) 0 0 [.ref (ad 43), .int (nI k), .int (nI B)] s (fun o s2 => o = .inl (some (.int (if ¬ s.2 12 (B + f) = 0 ∧ ¬ s.2 12 (B + g) = 0 then nI 1 else nI 0))) ∧ s2 = s) := by
  refine MtW.of hl mfX9_goodOf rfl (Nat.le_of_ble_eq_true rfl) ?_
  refine EW.aload_n dX9_goodOf_0 rfl rfl ?_
  refine EM.get f_X9_17 dX9_goodOf_1 rfl ?_
  refine EW.iload_n dX9_goodOf_4 rfl rfl ?_
  refine EM.ialdN k dX9_goodOf_5 rfl rfl (by simp only [mLen]; omega) ?_
  refine EW.top hkd ?_
  refine EW.if_ne 11 dX9_goodOf_6 (by decide) (fun c6 => ?_) (fun c6 => ?_)
  · refine EW.aload_n dX9_goodOf_11 rfl rfl ?_
    refine EM.get f_X9_17 dX9_goodOf_12 rfl ?_
    refine EW.iload_n dX9_goodOf_15 rfl rfl ?_
    refine EM.ialdN k dX9_goodOf_16 rfl rfl (by simp only [mLen]; omega) ?_
    refine EW.top hkd ?_
    refine EW.ic 1 dX9_goodOf_17 ?_
    refine EW.icmp_ne 64 dX9_goodOf_18 (by decide) (fun c18 => ?_) (fun c18 => ?_)
    · refine EW.aload_n dX9_goodOf_64 rfl rfl ?_
      refine EM.get f_X9_39 dX9_goodOf_65 rfl ?_
      refine EW.iload_n dX9_goodOf_68 rfl rfl ?_
      refine EW.aload_n dX9_goodOf_69 rfl rfl ?_
      refine EM.get f_X9_20 dX9_goodOf_70 rfl ?_
      refine EW.iload_n dX9_goodOf_73 rfl rfl ?_
      refine EM.ialdN k dX9_goodOf_74 rfl rfl (by simp only [mLen]; omega) ?_
      refine EW.top hf ?_
      refine EW.iadd dX9_goodOf_75 ?_
      refine EW.top (nI_add _ _) ?_
      refine EM.zaldN (B + f) dX9_goodOf_76 rfl rfl (by simp only [mLen]; omega) ?_
      refine EW.istore_n dX9_goodOf_77 rfl (by decide) ?_
      refine EW.aload_n dX9_goodOf_78 rfl rfl ?_
      refine EM.get f_X9_36 dX9_goodOf_79 rfl ?_
      refine EW.iload_n dX9_goodOf_82 rfl rfl ?_
      refine EW.aload_n dX9_goodOf_83 rfl rfl ?_
      refine EM.get f_X9_20 dX9_goodOf_84 rfl ?_
      refine EW.iload_n dX9_goodOf_87 rfl rfl ?_
      refine EM.ialdN k dX9_goodOf_88 rfl rfl (by simp only [mLen]; omega) ?_
      refine EW.top hf ?_
      refine EW.iadd dX9_goodOf_89 ?_
      refine EW.top (nI_add _ _) ?_
      refine EM.ialdN (B + f) dX9_goodOf_90 rfl rfl (by simp only [mLen]; omega) ?_
      refine EW.ic 1 dX9_goodOf_91 ?_
      refine EW.callS (bc := 0) (bs := 0) (M_has hl _ 0 s _ (nI 1)) mfX9_has rfl l_X9_171 mvX9_has (by omega) dX9_goodOf_92 rfl rfl (Nat.le_of_ble_eq_true rfl) (fun v92 s92 q92 => ?_) (fun _ _ q => nomatch q.1)
      obtain ⟨e92, h92⟩ := q92; cases e92; replace h92 := h92.symm; subst h92
      refine EW.istore dX9_goodOf_95 (by decide) ?_
      refine EW.aload_n dX9_goodOf_97 rfl rfl ?_
      refine EM.get f_X9_17 dX9_goodOf_98 rfl ?_
      refine EW.iload_n dX9_goodOf_101 rfl rfl ?_
      refine EM.ialdN k dX9_goodOf_102 rfl rfl (by simp only [mLen]; omega) ?_
      refine EW.top hkd ?_
      refine EW.tableIn (off := 60) 163 dX9_goodOf_103 (by decide +kernel) (by decide +kernel) (by decide +kernel) (by decide) ?_
      refine EW.iload_n dX9_goodOf_163 rfl rfl ?_
      refine EW.if_eq 187 dX9_goodOf_164 (by decide) (fun c164 => ?_) (fun c164 => ?_)
      · refine EW.ic 0 dX9_goodOf_187 ?_
        refine EW.zret (ty := .boolean) rfl (by decide +kernel) dX9_goodOf_188 ?_
        refine ⟨?_, rfl⟩; simp only [*, not_true_eq_false, not_false_eq_true, and_true, true_and, and_false, false_and, or_true, true_or, or_false, false_or, if_true, if_false, and_self, or_self]
      · refine EW.aload_n dX9_goodOf_167 rfl rfl ?_
        refine EM.get f_X9_39 dX9_goodOf_168 rfl ?_
        refine EW.iload_n dX9_goodOf_171 rfl rfl ?_
        refine EW.aload_n dX9_goodOf_172 rfl rfl ?_
        refine EM.get f_X9_23 dX9_goodOf_173 rfl ?_
        refine EW.iload_n dX9_goodOf_176 rfl rfl ?_
        refine EM.ialdN k dX9_goodOf_177 rfl rfl (by simp only [mLen]; omega) ?_
        refine EW.top hg ?_
        refine EW.iadd dX9_goodOf_178 ?_
        refine EW.top (nI_add _ _) ?_
        refine EM.zaldN (B + g) dX9_goodOf_179 rfl rfl (by simp only [mLen]; omega) ?_
        refine EW.if_eq 187 dX9_goodOf_180 (by decide) (fun c180 => ?_) (fun c180 => ?_)
        · refine EW.ic 0 dX9_goodOf_187 ?_
          refine EW.zret (ty := .boolean) rfl (by decide +kernel) dX9_goodOf_188 ?_
          refine ⟨?_, rfl⟩; simp only [*, not_true_eq_false, not_false_eq_true, and_true, true_and, and_false, false_and, or_true, true_or, or_false, false_or, if_true, if_false, and_self, or_self]
        · refine EW.ic 1 dX9_goodOf_183 ?_
          refine EW.goto 188 dX9_goodOf_184 (by decide) ?_
          refine EW.zret (ty := .boolean) rfl (by decide +kernel) dX9_goodOf_188 ?_
          refine ⟨?_, rfl⟩; simp only [*, not_true_eq_false, not_false_eq_true, and_true, true_and, and_false, false_and, or_true, true_or, or_false, false_or, if_true, if_false, and_self, or_self]
    · exact absurd c18 (by decide +kernel)
  · exact absurd c6 (by decide +kernel)
set_option maxHeartbeats 4000000 in
theorem M_god4 (hl : l.stackTraces = false) (d : Nat) (s : MSt) (k B : Nat) (hk9 : k < 384) (hB : B ≤ 320) (f g : Nat) (hf : s.2 6 k = nI f) (hg : s.2 7 k = nI g) (hf9 : f < 64) (hg9 : g < 64) (hkd : s.2 5 k = nI 4) : MtW (IM cy ad hp0) l D cy base mX9_goodOf (d + 3) 0 0 [.ref (ad 43), .int (nI k), .int (nI B)] s (fun o s2 => o = .inl (some (.int (if ¬ s.2 12 (B + f) = 0 ∧ s.2 11 (B + f) &&& nI 1 = 0 then nI 1 else nI 0))) ∧ s2 = s) := by
  refine MtW.of hl mfX9_goodOf rfl (Nat.le_of_ble_eq_true rfl) ?_
  refine EW.aload_n dX9_goodOf_0 rfl rfl ?_
  refine EM.get f_X9_17 dX9_goodOf_1 rfl ?_
  refine EW.iload_n dX9_goodOf_4 rfl rfl ?_
  refine EM.ialdN k dX9_goodOf_5 rfl rfl (by simp only [mLen]; omega) ?_
  refine EW.top hkd ?_
  refine EW.if_ne 11 dX9_goodOf_6 (by decide) (fun c6 => ?_) (fun c6 => ?_)
  · refine EW.aload_n dX9_goodOf_11 rfl rfl ?_
    refine EM.get f_X9_17 dX9_goodOf_12 rfl ?_
    refine EW.iload_n dX9_goodOf_15 rfl rfl ?_
    refine EM.ialdN k dX9_goodOf_16 rfl rfl (by simp only [mLen]; omega) ?_
    refine EW.top hkd ?_
    refine EW.ic 1 dX9_goodOf_17 ?_
    refine EW.icmp_ne 64 dX9_goodOf_18 (by decide) (fun c18 => ?_) (fun c18 => ?_)
    · refine EW.aload_n dX9_goodOf_64 rfl rfl ?_
      refine EM.get f_X9_39 dX9_goodOf_65 rfl ?_
      refine EW.iload_n dX9_goodOf_68 rfl rfl ?_
      refine EW.aload_n dX9_goodOf_69 rfl rfl ?_
      refine EM.get f_X9_20 dX9_goodOf_70 rfl ?_
      refine EW.iload_n dX9_goodOf_73 rfl rfl ?_
      refine EM.ialdN k dX9_goodOf_74 rfl rfl (by simp only [mLen]; omega) ?_
      refine EW.top hf ?_
      refine EW.iadd dX9_goodOf_75 ?_
      refine EW.top (nI_add _ _) ?_
      refine EM.zaldN (B + f) dX9_goodOf_76 rfl rfl (by simp only [mLen]; omega) ?_
      refine EW.istore_n dX9_goodOf_77 rfl (by decide) ?_
      refine EW.aload_n dX9_goodOf_78 rfl rfl ?_
      refine EM.get f_X9_36 dX9_goodOf_79 rfl ?_
      refine EW.iload_n dX9_goodOf_82 rfl rfl ?_
      refine EW.aload_n dX9_goodOf_83 rfl rfl ?_
      refine EM.get f_X9_20 dX9_goodOf_84 rfl ?_
      refine EW.iload_n dX9_goodOf_87 rfl rfl ?_
      refine EM.ialdN k dX9_goodOf_88 rfl rfl (by simp only [mLen]; omega) ?_
      refine EW.top hf ?_
      refine EW.iadd dX9_goodOf_89 ?_
      refine EW.top (nI_add _ _) ?_
      refine EM.ialdN (B + f) dX9_goodOf_90 rfl rfl (by simp only [mLen]; omega) ?_
      refine EW.ic 1 dX9_goodOf_91 ?_
      refine EW.callS (bc := 0) (bs := 0) (M_has hl _ 0 s _ (nI 1)) mfX9_has rfl l_X9_171 mvX9_has (by omega) dX9_goodOf_92 rfl rfl (Nat.le_of_ble_eq_true rfl) (fun v92 s92 q92 => ?_) (fun _ _ q => nomatch q.1)
      obtain ⟨e92, h92⟩ := q92; cases e92; replace h92 := h92.symm; subst h92
      refine EW.istore dX9_goodOf_95 (by decide) ?_
      refine EW.aload_n dX9_goodOf_97 rfl rfl ?_
      refine EM.get f_X9_17 dX9_goodOf_98 rfl ?_
      refine EW.iload_n dX9_goodOf_101 rfl rfl ?_
      refine EM.ialdN k dX9_goodOf_102 rfl rfl (by simp only [mLen]; omega) ?_
      refine EW.top hkd ?_
      refine EW.tableIn (off := 86) 189 dX9_goodOf_103 (by decide +kernel) (by decide +kernel) (by decide +kernel) (by decide) ?_
      refine EW.iload_n dX9_goodOf_189 rfl rfl ?_
      refine EW.if_eq 202 dX9_goodOf_190 (by decide) (fun c190 => ?_) (fun c190 => ?_)
      · refine EW.ic 0 dX9_goodOf_202 ?_
        refine EW.zret (ty := .boolean) rfl (by decide +kernel) dX9_goodOf_203 ?_
        refine ⟨?_, rfl⟩; simp only [*, not_true_eq_false, not_false_eq_true, and_true, true_and, and_false, false_and, or_true, true_or, or_false, false_or, if_true, if_false, and_self, or_self]
      · refine EW.iload dX9_goodOf_193 rfl ?_
        refine EW.if_ne 202 dX9_goodOf_195 (by decide) (fun c195 => ?_) (fun c195 => ?_)
        · have c195 := hs1 c195
          refine EW.ic 0 dX9_goodOf_202 ?_
          refine EW.zret (ty := .boolean) rfl (by decide +kernel) dX9_goodOf_203 ?_
          refine ⟨?_, rfl⟩; simp only [*, not_true_eq_false, not_false_eq_true, and_true, true_and, and_false, false_and, or_true, true_or, or_false, false_or, if_true, if_false, and_self, or_self]
        · have c195 := hs0 c195
          refine EW.ic 1 dX9_goodOf_198 ?_
          refine EW.goto 203 dX9_goodOf_199 (by decide) ?_
          refine EW.zret (ty := .boolean) rfl (by decide +kernel) dX9_goodOf_203 ?_
          refine ⟨?_, rfl⟩; simp only [*, not_true_eq_false, not_false_eq_true, and_true, true_and, and_false, false_and, or_true, true_or, or_false, false_or, if_true, if_false, and_self, or_self]
    · exact absurd c18 (by decide +kernel)
  · exact absurd c6 (by decide +kernel)
set_option maxHeartbeats 4000000 in
theorem M_god5 (hl : l.stackTraces = false) (d : Nat) (s : MSt) (k B : Nat) (hk9 : k < 384) (hB : B ≤ 320) (f g : Nat) (hf : s.2 6 k = nI f) (hg : s.2 7 k = nI g) (hf9 : f < 64) (hg9 : g < 64) (hkd : s.2 5 k = nI 5) : MtW (IM cy ad hp0) l D cy base mX9_goodOf (d + 3) 0 0 [.ref (ad 43), .int (nI k), .int (nI B)] s (fun o s2 => o = .inl (some (.int (if ¬ s.2 12 (B + f) = 0 ∧ s.2 11 (B + f) &&& nI 1 = 0 then nI 1 else nI 0))) ∧ s2 = s) := by
  refine MtW.of hl mfX9_goodOf rfl (Nat.le_of_ble_eq_true rfl) ?_
  refine EW.aload_n dX9_goodOf_0 rfl rfl ?_
  refine EM.get f_X9_17 dX9_goodOf_1 rfl ?_
  refine EW.iload_n dX9_goodOf_4 rfl rfl ?_
  refine EM.ialdN k dX9_goodOf_5 rfl rfl (by simp only [mLen]; omega) ?_
  refine EW.top hkd ?_
  refine EW.if_ne 11 dX9_goodOf_6 (by decide) (fun c6 => ?_) (fun c6 => ?_)
  · refine EW.aload_n dX9_goodOf_11 rfl rfl ?_
    refine EM.get f_X9_17 dX9_goodOf_12 rfl ?_
    refine EW.iload_n dX9_goodOf_15 rfl rfl ?_
    refine EM.ialdN k dX9_goodOf_16 rfl rfl (by simp only [mLen]; omega) ?_
    refine EW.top hkd ?_
    refine EW.ic 1 dX9_goodOf_17 ?_
    refine EW.icmp_ne 64 dX9_goodOf_18 (by decide) (fun c18 => ?_) (fun c18 => ?_)
    · refine EW.aload_n dX9_goodOf_64 rfl rfl ?_
      refine EM.get f_X9_39 dX9_goodOf_65 rfl ?_
      refine EW.iload_n dX9_goodOf_68 rfl rfl ?_
      refine EW.aload_n dX9_goodOf_69 rfl rfl ?_
      refine EM.get f_X9_20 dX9_goodOf_70 rfl ?_
      refine EW.iload_n dX9_goodOf_73 rfl rfl ?_
      refine EM.ialdN k dX9_goodOf_74 rfl rfl (by simp only [mLen]; omega) ?_
      refine EW.top hf ?_
      refine EW.iadd dX9_goodOf_75 ?_
      refine EW.top (nI_add _ _) ?_
      refine EM.zaldN (B + f) dX9_goodOf_76 rfl rfl (by simp only [mLen]; omega) ?_
      refine EW.istore_n dX9_goodOf_77 rfl (by decide) ?_
      refine EW.aload_n dX9_goodOf_78 rfl rfl ?_
      refine EM.get f_X9_36 dX9_goodOf_79 rfl ?_
      refine EW.iload_n dX9_goodOf_82 rfl rfl ?_
      refine EW.aload_n dX9_goodOf_83 rfl rfl ?_
      refine EM.get f_X9_20 dX9_goodOf_84 rfl ?_
      refine EW.iload_n dX9_goodOf_87 rfl rfl ?_
      refine EM.ialdN k dX9_goodOf_88 rfl rfl (by simp only [mLen]; omega) ?_
      refine EW.top hf ?_
      refine EW.iadd dX9_goodOf_89 ?_
      refine EW.top (nI_add _ _) ?_
      refine EM.ialdN (B + f) dX9_goodOf_90 rfl rfl (by simp only [mLen]; omega) ?_
      refine EW.ic 1 dX9_goodOf_91 ?_
      refine EW.callS (bc := 0) (bs := 0) (M_has hl _ 0 s _ (nI 1)) mfX9_has rfl l_X9_171 mvX9_has (by omega) dX9_goodOf_92 rfl rfl (Nat.le_of_ble_eq_true rfl) (fun v92 s92 q92 => ?_) (fun _ _ q => nomatch q.1)
      obtain ⟨e92, h92⟩ := q92; cases e92; replace h92 := h92.symm; subst h92
      refine EW.istore dX9_goodOf_95 (by decide) ?_
      refine EW.aload_n dX9_goodOf_97 rfl rfl ?_
      refine EM.get f_X9_17 dX9_goodOf_98 rfl ?_
      refine EW.iload_n dX9_goodOf_101 rfl rfl ?_
      refine EM.ialdN k dX9_goodOf_102 rfl rfl (by simp only [mLen]; omega) ?_
      refine EW.top hkd ?_
      refine EW.tableIn (off := 86) 189 dX9_goodOf_103 (by decide +kernel) (by decide +kernel) (by decide +kernel) (by decide) ?_
      refine EW.iload_n dX9_goodOf_189 rfl rfl ?_
      refine EW.if_eq 202 dX9_goodOf_190 (by decide) (fun c190 => ?_) (fun c190 => ?_)
      · refine EW.ic 0 dX9_goodOf_202 ?_
        refine EW.zret (ty := .boolean) rfl (by decide +kernel) dX9_goodOf_203 ?_
        refine ⟨?_, rfl⟩; simp only [*, not_true_eq_false, not_false_eq_true, and_true, true_and, and_false, false_and, or_true, true_or, or_false, false_or, if_true, if_false, and_self, or_self]
      · refine EW.iload dX9_goodOf_193 rfl ?_
        refine EW.if_ne 202 dX9_goodOf_195 (by decide) (fun c195 => ?_) (fun c195 => ?_)
        · have c195 := hs1 c195
          refine EW.ic 0 dX9_goodOf_202 ?_
          refine EW.zret (ty := .boolean) rfl (by decide +kernel) dX9_goodOf_203 ?_
          refine ⟨?_, rfl⟩; simp only [*, not_true_eq_false, not_false_eq_true, and_true, true_and, and_false, false_and, or_true, true_or, or_false, false_or, if_true, if_false, and_self, or_self]
        · have c195 := hs0 c195
          refine EW.ic 1 dX9_goodOf_198 ?_
          refine EW.goto 203 dX9_goodOf_199 (by decide) ?_
          refine EW.zret (ty := .boolean) rfl (by decide +kernel) dX9_goodOf_203 ?_
          refine ⟨?_, rfl⟩; simp only [*, not_true_eq_false, not_false_eq_true, and_true, true_and, and_false, false_and, or_true, true_or, or_false, false_or, if_true, if_false, and_self, or_self]
    · exact absurd c18 (by decide +kernel)
  · exact absurd c6 (by decide +kernel)
set_option maxHeartbeats 4000000 in
theorem M_god6 (hl : l.stackTraces = false) (d : Nat) (s : MSt) (k B : Nat) (hk9 : k < 384) (hB : B ≤ 320) (f g : Nat) (hf : s.2 6 k = nI f) (hg : s.2 7 k = nI g) (hf9 : f < 64) (hg9 : g < 64) (hkd : s.2 5 k = nI 6) (hg1 : s.2 12 (B + f) = 0 ∨ s.2 12 (B + f) = 1) : MtW (IM cy ad hp0) l D cy base mX9_goodOf (d + 3) 0 0 [.ref (ad 43), .int (nI k), .int (nI B)] s (fun o s2 => o = .inl (some (.int (s.2 12 (B + f)))) ∧ s2 = s) := by
  refine MtW.of hl mfX9_goodOf rfl (Nat.le_of_ble_eq_true rfl) ?_
  refine EW.aload_n dX9_goodOf_0 rfl rfl ?_
  refine EM.get f_X9_17 dX9_goodOf_1 rfl ?_
  refine EW.iload_n dX9_goodOf_4 rfl rfl ?_
  refine EM.ialdN k dX9_goodOf_5 rfl rfl (by simp only [mLen]; omega) ?_
  refine EW.top hkd ?_
  refine EW.if_ne 11 dX9_goodOf_6 (by decide) (fun c6 => ?_) (fun c6 => ?_)
  · refine EW.aload_n dX9_goodOf_11 rfl rfl ?_
    refine EM.get f_X9_17 dX9_goodOf_12 rfl ?_
    refine EW.iload_n dX9_goodOf_15 rfl rfl ?_
    refine EM.ialdN k dX9_goodOf_16 rfl rfl (by simp only [mLen]; omega) ?_
    refine EW.top hkd ?_
    refine EW.ic 1 dX9_goodOf_17 ?_
    refine EW.icmp_ne 64 dX9_goodOf_18 (by decide) (fun c18 => ?_) (fun c18 => ?_)
    · refine EW.aload_n dX9_goodOf_64 rfl rfl ?_
      refine EM.get f_X9_39 dX9_goodOf_65 rfl ?_
      refine EW.iload_n dX9_goodOf_68 rfl rfl ?_
      refine EW.aload_n dX9_goodOf_69 rfl rfl ?_
      refine EM.get f_X9_20 dX9_goodOf_70 rfl ?_
      refine EW.iload_n dX9_goodOf_73 rfl rfl ?_
      refine EM.ialdN k dX9_goodOf_74 rfl rfl (by simp only [mLen]; omega) ?_
      refine EW.top hf ?_
      refine EW.iadd dX9_goodOf_75 ?_
      refine EW.top (nI_add _ _) ?_
      refine EM.zaldN (B + f) dX9_goodOf_76 rfl rfl (by simp only [mLen]; omega) ?_
      refine EW.istore_n dX9_goodOf_77 rfl (by decide) ?_
      refine EW.aload_n dX9_goodOf_78 rfl rfl ?_
      refine EM.get f_X9_36 dX9_goodOf_79 rfl ?_
      refine EW.iload_n dX9_goodOf_82 rfl rfl ?_
      refine EW.aload_n dX9_goodOf_83 rfl rfl ?_
      refine EM.get f_X9_20 dX9_goodOf_84 rfl ?_
      refine EW.iload_n dX9_goodOf_87 rfl rfl ?_
      refine EM.ialdN k dX9_goodOf_88 rfl rfl (by simp only [mLen]; omega) ?_
      refine EW.top hf ?_
      refine EW.iadd dX9_goodOf_89 ?_
      refine EW.top (nI_add _ _) ?_
      refine EM.ialdN (B + f) dX9_goodOf_90 rfl rfl (by simp only [mLen]; omega) ?_
      refine EW.ic 1 dX9_goodOf_91 ?_
      refine EW.callS (bc := 0) (bs := 0) (M_has hl _ 0 s _ (nI 1)) mfX9_has rfl l_X9_171 mvX9_has (by omega) dX9_goodOf_92 rfl rfl (Nat.le_of_ble_eq_true rfl) (fun v92 s92 q92 => ?_) (fun _ _ q => nomatch q.1)
      obtain ⟨e92, h92⟩ := q92; cases e92; replace h92 := h92.symm; subst h92
      refine EW.istore dX9_goodOf_95 (by decide) ?_
      refine EW.aload_n dX9_goodOf_97 rfl rfl ?_
      refine EM.get f_X9_17 dX9_goodOf_98 rfl ?_
      refine EW.iload_n dX9_goodOf_101 rfl rfl ?_
      refine EM.ialdN k dX9_goodOf_102 rfl rfl (by simp only [mLen]; omega) ?_
      refine EW.top hkd ?_
      refine EW.tableOut 204 dX9_goodOf_103 (by decide +kernel) (by decide) ?_
      refine EW.iload_n dX9_goodOf_204 rfl rfl ?_
      refine EW.zret (ty := .boolean) rfl (by rcases hg1 with h | h <;> rw [h] <;> decide +kernel) dX9_goodOf_205 ?_
      exact ⟨rfl, rfl⟩
    · exact absurd c18 (by decide +kernel)
  · exact absurd c6 (by decide +kernel)
set_option maxHeartbeats 4000000 in
theorem M_god7 (hl : l.stackTraces = false) (d : Nat) (s : MSt) (k B : Nat) (hk9 : k < 384) (hB : B ≤ 320) (f g : Nat) (hf : s.2 6 k = nI f) (hg : s.2 7 k = nI g) (hf9 : f < 64) (hg9 : g < 64) (hkd : s.2 5 k = nI 7) (hg1 : s.2 12 (B + f) = 0 ∨ s.2 12 (B + f) = 1) : MtW (IM cy ad hp0) l D cy base mX9_goodOf (d + 3) 0 0 [.ref (ad 43), .int (nI k), .int (nI B)] s (fun o s2 => o = .inl (some (.int (s.2 12 (B + f)))) ∧ s2 = s) := by
  refine MtW.of hl mfX9_goodOf rfl (Nat.le_of_ble_eq_true rfl) ?_
  refine EW.aload_n dX9_goodOf_0 rfl rfl ?_
  refine EM.get f_X9_17 dX9_goodOf_1 rfl ?_
  refine EW.iload_n dX9_goodOf_4 rfl rfl ?_
  refine EM.ialdN k dX9_goodOf_5 rfl rfl (by simp only [mLen]; omega) ?_
  refine EW.top hkd ?_
  refine EW.if_ne 11 dX9_goodOf_6 (by decide) (fun c6 => ?_) (fun c6 => ?_)
  · refine EW.aload_n dX9_goodOf_11 rfl rfl ?_
    refine EM.get f_X9_17 dX9_goodOf_12 rfl ?_
    refine EW.iload_n dX9_goodOf_15 rfl rfl ?_
    refine EM.ialdN k dX9_goodOf_16 rfl rfl (by simp only [mLen]; omega) ?_
    refine EW.top hkd ?_
    refine EW.ic 1 dX9_goodOf_17 ?_
    refine EW.icmp_ne 64 dX9_goodOf_18 (by decide) (fun c18 => ?_) (fun c18 => ?_)
    · refine EW.aload_n dX9_goodOf_64 rfl rfl ?_
      refine EM.get f_X9_39 dX9_goodOf_65 rfl ?_
      refine EW.iload_n dX9_goodOf_68 rfl rfl ?_
      refine EW.aload_n dX9_goodOf_69 rfl rfl ?_
      refine EM.get f_X9_20 dX9_goodOf_70 rfl ?_
      refine EW.iload_n dX9_goodOf_73 rfl rfl ?_
      refine EM.ialdN k dX9_goodOf_74 rfl rfl (by simp only [mLen]; omega) ?_
      refine EW.top hf ?_
      refine EW.iadd dX9_goodOf_75 ?_
      refine EW.top (nI_add _ _) ?_
      refine EM.zaldN (B + f) dX9_goodOf_76 rfl rfl (by simp only [mLen]; omega) ?_
      refine EW.istore_n dX9_goodOf_77 rfl (by decide) ?_
      refine EW.aload_n dX9_goodOf_78 rfl rfl ?_
      refine EM.get f_X9_36 dX9_goodOf_79 rfl ?_
      refine EW.iload_n dX9_goodOf_82 rfl rfl ?_
      refine EW.aload_n dX9_goodOf_83 rfl rfl ?_
      refine EM.get f_X9_20 dX9_goodOf_84 rfl ?_
      refine EW.iload_n dX9_goodOf_87 rfl rfl ?_
      refine EM.ialdN k dX9_goodOf_88 rfl rfl (by simp only [mLen]; omega) ?_
      refine EW.top hf ?_
      refine EW.iadd dX9_goodOf_89 ?_
      refine EW.top (nI_add _ _) ?_
      refine EM.ialdN (B + f) dX9_goodOf_90 rfl rfl (by simp only [mLen]; omega) ?_
      refine EW.ic 1 dX9_goodOf_91 ?_
      refine EW.callS (bc := 0) (bs := 0) (M_has hl _ 0 s _ (nI 1)) mfX9_has rfl l_X9_171 mvX9_has (by omega) dX9_goodOf_92 rfl rfl (Nat.le_of_ble_eq_true rfl) (fun v92 s92 q92 => ?_) (fun _ _ q => nomatch q.1)
      obtain ⟨e92, h92⟩ := q92; cases e92; replace h92 := h92.symm; subst h92
      refine EW.istore dX9_goodOf_95 (by decide) ?_
      refine EW.aload_n dX9_goodOf_97 rfl rfl ?_
      refine EM.get f_X9_17 dX9_goodOf_98 rfl ?_
      refine EW.iload_n dX9_goodOf_101 rfl rfl ?_
      refine EM.ialdN k dX9_goodOf_102 rfl rfl (by simp only [mLen]; omega) ?_
      refine EW.top hkd ?_
      refine EW.tableOut 204 dX9_goodOf_103 (by decide +kernel) (by decide) ?_
      refine EW.iload_n dX9_goodOf_204 rfl rfl ?_
      refine EW.zret (ty := .boolean) rfl (by rcases hg1 with h | h <;> rw [h] <;> decide +kernel) dX9_goodOf_205 ?_
      exact ⟨rfl, rfl⟩
    · exact absurd c18 (by decide +kernel)
  · exact absurd c6 (by decide +kernel)
set_option maxHeartbeats 4000000 in
theorem M_god8 (hl : l.stackTraces = false) (d : Nat) (s : MSt) (k B : Nat) (hk9 : k < 384) (hB : B ≤ 320) (f g : Nat) (hf : s.2 6 k = nI f) (hg : s.2 7 k = nI g) (hf9 : f < 64) (hg9 : g < 64) (hkd : s.2 5 k = nI 8) (hg1 : s.2 12 (B + f) = 0 ∨ s.2 12 (B + f) = 1) : MtW (IM cy ad hp0) l D cy base mX9_goodOf (d + 3) 0 0 [.ref (ad 43), .int (nI k), .int (nI B)] s (fun o s2 => o = .inl (some (.int (s.2 12 (B + f)))) ∧ s2 = s) := by
  refine MtW.of hl mfX9_goodOf rfl (Nat.le_of_ble_eq_true rfl) ?_
  refine EW.aload_n dX9_goodOf_0 rfl rfl ?_
  refine EM.get f_X9_17 dX9_goodOf_1 rfl ?_
  refine EW.iload_n dX9_goodOf_4 rfl rfl ?_
  refine EM.ialdN k dX9_goodOf_5 rfl rfl (by simp only [mLen]; omega) ?_
  refine EW.top hkd ?_
  refine EW.if_ne 11 dX9_goodOf_6 (by decide) (fun c6 => ?_) (fun c6 => ?_)
  · refine EW.aload_n dX9_goodOf_11 rfl rfl ?_
    refine EM.get f_X9_17 dX9_goodOf_12 rfl ?_
    refine EW.iload_n dX9_goodOf_15 rfl rfl ?_
    refine EM.ialdN k dX9_goodOf_16 rfl rfl (by simp only [mLen]; omega) ?_
    refine EW.top hkd ?_
    refine EW.ic 1 dX9_goodOf_17 ?_
    refine EW.icmp_ne 64 dX9_goodOf_18 (by decide) (fun c18 => ?_) (fun c18 => ?_)
    · refine EW.aload_n dX9_goodOf_64 rfl rfl ?_
      refine EM.get f_X9_39 dX9_goodOf_65 rfl ?_
      refine EW.iload_n dX9_goodOf_68 rfl rfl ?_
      refine EW.aload_n dX9_goodOf_69 rfl rfl ?_
      refine EM.get f_X9_20 dX9_goodOf_70 rfl ?_
      refine EW.iload_n dX9_goodOf_73 rfl rfl ?_
      refine EM.ialdN k dX9_goodOf_74 rfl rfl (by simp only [mLen]; omega) ?_
      refine EW.top hf ?_
      refine EW.iadd dX9_goodOf_75 ?_
      refine EW.top (nI_add _ _) ?_
      refine EM.zaldN (B + f) dX9_goodOf_76 rfl rfl (by simp only [mLen]; omega) ?_
      refine EW.istore_n dX9_goodOf_77 rfl (by decide) ?_
      refine EW.aload_n dX9_goodOf_78 rfl rfl ?_
      refine EM.get f_X9_36 dX9_goodOf_79 rfl ?_
      refine EW.iload_n dX9_goodOf_82 rfl rfl ?_
      refine EW.aload_n dX9_goodOf_83 rfl rfl ?_
      refine EM.get f_X9_20 dX9_goodOf_84 rfl ?_
      refine EW.iload_n dX9_goodOf_87 rfl rfl ?_
      refine EM.ialdN k dX9_goodOf_88 rfl rfl (by simp only [mLen]; omega) ?_
      refine EW.top hf ?_
      refine EW.iadd dX9_goodOf_89 ?_
      refine EW.top (nI_add _ _) ?_
      refine EM.ialdN (B + f) dX9_goodOf_90 rfl rfl (by simp only [mLen]; omega) ?_
      refine EW.ic 1 dX9_goodOf_91 ?_
      refine EW.callS (bc := 0) (bs := 0) (M_has hl _ 0 s _ (nI 1)) mfX9_has rfl l_X9_171 mvX9_has (by omega) dX9_goodOf_92 rfl rfl (Nat.le_of_ble_eq_true rfl) (fun v92 s92 q92 => ?_) (fun _ _ q => nomatch q.1)
      obtain ⟨e92, h92⟩ := q92; cases e92; replace h92 := h92.symm; subst h92
      refine EW.istore dX9_goodOf_95 (by decide) ?_
      refine EW.aload_n dX9_goodOf_97 rfl rfl ?_
      refine EM.get f_X9_17 dX9_goodOf_98 rfl ?_
      refine EW.iload_n dX9_goodOf_101 rfl rfl ?_
      refine EM.ialdN k dX9_goodOf_102 rfl rfl (by simp only [mLen]; omega) ?_
      refine EW.top hkd ?_
      refine EW.tableOut 204 dX9_goodOf_103 (by decide +kernel) (by decide) ?_
      refine EW.iload_n dX9_goodOf_204 rfl rfl ?_
      refine EW.zret (ty := .boolean) rfl (by rcases hg1 with h | h <;> rw [h] <;> decide +kernel) dX9_goodOf_205 ?_
      exact ⟨rfl, rfl⟩
    · exact absurd c18 (by decide +kernel)
  · exact absurd c6 (by decide +kernel)
end M8
