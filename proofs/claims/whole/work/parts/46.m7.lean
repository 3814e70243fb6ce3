section M7
variable {cy : Nat → ClassId} {ad : Nat → Nat} {hp0 : Hp} {l : Launch} {D : va_G} {base : Nat}
def mcI (p r : Int32) : Int32 := p &&& nI 3 ||| (if p &&& nI 4 = 0 then nI 0 else r)
def msI (k : Nat) (p : Int32) : Int32 := match k with
  | 4 => p &&& nI 2 ||| (if p &&& nI 4 = 0 then nI 0 else nI 1)
  | 5 => p &&& nI 6 ||| (if p &&& nI 4 = 0 ∨ p &&& nI 1 = 0 then nI 0 else nI 1)
  | 6 => p &&& nI 2 ||| (if p &&& nI 5 = 0 then nI 0 else nI 1)
  | 7 => p &&& nI 4 ||| (if p &&& nI 3 = 0 then nI 0 else nI 1)
  | _ => (if p &&& nI 4 = 0 then nI 0 else nI 1) ||| (if p &&& nI 3 = 0 then nI 0 else nI 4)
theorem bt {x v : Int32} : (if (if x = 0 then 0 else 1 : Int32) = 0 then 0 else v) = if x = 0 then nI 0 else v := by
  by_cases h : x = 0
  · rw [if_pos h, if_pos h, if_pos rfl, nI_0v]
  · rw [if_neg h, if_neg h, if_neg (by decide +kernel)]
set_option maxHeartbeats 4000000 in
theorem M_out0 (hl : l.stackTraces = false) (d : Nat) (s : MSt) (k B : Nat) (hk9 : k < 384) (hB : B ≤ 320) (hkd : s.2 5 k = nI 0) : MtW (IM cy ad hp0) l D cy base mX9_outcomeOf (d + 2) 0 0 [.ref (ad 43), .int (nI k), .int (nI B)] s (fun o s2 => o = .inl (some (.int (nI 6))) ∧ s2 = s) := by
  refine MtW.of hl mfX9_outcomeOf rfl (Nat.le_of_ble_eq_true rfl) ?_
  refine EW.aload_n dX9_outcomeOf_0 rfl rfl ?_
  refine EM.get f_X9_17 dX9_outcomeOf_1 rfl ?_
  refine EW.iload_n dX9_outcomeOf_4 rfl rfl ?_
  refine EM.ialdN k dX9_outcomeOf_5 rfl rfl (by simp only [mLen]; omega) ?_
  refine EW.top hkd ?_
  refine EW.if_ne 12 dX9_outcomeOf_6 (by decide) (fun c6 => ?_) (fun c6 => ?_)
  · exact absurd c6 (by decide +kernel)
  · refine EW.bp 6 dX9_outcomeOf_9 ?_
    refine EW.iret rfl dX9_outcomeOf_11 ?_
    exact ⟨rfl, rfl⟩
set_option maxHeartbeats 4000000 in
theorem M_out1z (hl : l.stackTraces = false) (d : Nat) (s : MSt) (k B : Nat) (hk9 : k < 384) (hB : B ≤ 320) (r z : Nat) (hkd : s.2 5 k = nI 1) (hr : s.2 6 k = nI r) (hr6 : r < 6) (hz : s.2 10 r = nI z) (hz9 : z < 64) (h : z = 0) : MtW (IM cy ad hp0) l D cy base mX9_outcomeOf (d + 2) 0 0 [.ref (ad 43), .int (nI k), .int (nI B)] s (fun o s2 => o = .inl (some (.int (nI 0))) ∧ s2 = s) := by
  refine MtW.of hl mfX9_outcomeOf rfl (Nat.le_of_ble_eq_true rfl) ?_
  refine EW.aload_n dX9_outcomeOf_0 rfl rfl ?_
  refine EM.get f_X9_17 dX9_outcomeOf_1 rfl ?_
  refine EW.iload_n dX9_outcomeOf_4 rfl rfl ?_
  refine EM.ialdN k dX9_outcomeOf_5 rfl rfl (by simp only [mLen]; omega) ?_
  refine EW.top hkd ?_
  refine EW.if_ne 12 dX9_outcomeOf_6 (by decide) (fun c6 => ?_) (fun c6 => ?_)
  · refine EW.aload_n dX9_outcomeOf_12 rfl rfl ?_
    refine EM.get f_X9_17 dX9_outcomeOf_13 rfl ?_
    refine EW.iload_n dX9_outcomeOf_16 rfl rfl ?_
    refine EM.ialdN k dX9_outcomeOf_17 rfl rfl (by simp only [mLen]; omega) ?_
    refine EW.top hkd ?_
    refine EW.ic 1 dX9_outcomeOf_18 ?_
    refine EW.icmp_ne 61 dX9_outcomeOf_19 (by decide) (fun c19 => ?_) (fun c19 => ?_)
    · exact absurd c19 (by decide +kernel)
    · refine EW.aload_n dX9_outcomeOf_22 rfl rfl ?_
      refine EM.get f_X9_20 dX9_outcomeOf_23 rfl ?_
      refine EW.iload_n dX9_outcomeOf_26 rfl rfl ?_
      refine EM.ialdN k dX9_outcomeOf_27 rfl rfl (by simp only [mLen]; omega) ?_
      refine EW.top hr ?_
      refine EW.istore_n dX9_outcomeOf_28 rfl (by decide) ?_
      refine EW.aload_n dX9_outcomeOf_29 rfl rfl ?_
      refine EM.get f_X9_33 dX9_outcomeOf_30 rfl ?_
      refine EW.iload_n dX9_outcomeOf_33 rfl rfl ?_
      refine EM.ialdN r dX9_outcomeOf_34 rfl rfl (by simp only [mLen]; omega) ?_
      refine EW.top hz ?_
      refine EW.if_ne 42 dX9_outcomeOf_35 (by decide) (fun c35 => ?_) (fun c35 => ?_)
      · have c35 : ¬ z = 0 := fun h => c35 ((nI_eq0 (by omega)).mpr h); exact absurd h c35
      · have c35 : z = 0 := (nI_eq0 (by omega)).mp c35
        refine EW.ic 0 dX9_outcomeOf_38 ?_
        refine EW.goto 60 dX9_outcomeOf_39 (by decide) ?_
        refine EW.iret rfl dX9_outcomeOf_60 ?_
        exact ⟨rfl, rfl⟩
  · exact absurd c6 (by decide +kernel)
set_option maxHeartbeats 4000000 in
theorem M_out1 (hl : l.stackTraces = false) (d : Nat) (s : MSt) (k B : Nat) (hk9 : k < 384) (hB : B ≤ 320) (r z : Nat) (hkd : s.2 5 k = nI 1) (hr : s.2 6 k = nI r) (hr6 : r < 6) (hz : s.2 10 r = nI z) (hz9 : z < 64) (h : ¬ z = 0) : MtW (IM cy ad hp0) l D cy base mX9_outcomeOf (d + 2) 0 0 [.ref (ad 43), .int (nI k), .int (nI B)] s (fun o s2 => o = .inl (some (.int (s.2 11 (64 * r + z - 1)))) ∧ s2 = s) := by
  refine MtW.of hl mfX9_outcomeOf rfl (Nat.le_of_ble_eq_true rfl) ?_
  refine EW.aload_n dX9_outcomeOf_0 rfl rfl ?_
  refine EM.get f_X9_17 dX9_outcomeOf_1 rfl ?_
  refine EW.iload_n dX9_outcomeOf_4 rfl rfl ?_
  refine EM.ialdN k dX9_outcomeOf_5 rfl rfl (by simp only [mLen]; omega) ?_
  refine EW.top hkd ?_
  refine EW.if_ne 12 dX9_outcomeOf_6 (by decide) (fun c6 => ?_) (fun c6 => ?_)
  · refine EW.aload_n dX9_outcomeOf_12 rfl rfl ?_
    refine EM.get f_X9_17 dX9_outcomeOf_13 rfl ?_
    refine EW.iload_n dX9_outcomeOf_16 rfl rfl ?_
    refine EM.ialdN k dX9_outcomeOf_17 rfl rfl (by simp only [mLen]; omega) ?_
    refine EW.top hkd ?_
    refine EW.ic 1 dX9_outcomeOf_18 ?_
    refine EW.icmp_ne 61 dX9_outcomeOf_19 (by decide) (fun c19 => ?_) (fun c19 => ?_)
    · exact absurd c19 (by decide +kernel)
    · refine EW.aload_n dX9_outcomeOf_22 rfl rfl ?_
      refine EM.get f_X9_20 dX9_outcomeOf_23 rfl ?_
      refine EW.iload_n dX9_outcomeOf_26 rfl rfl ?_
      refine EM.ialdN k dX9_outcomeOf_27 rfl rfl (by simp only [mLen]; omega) ?_
      refine EW.top hr ?_
      refine EW.istore_n dX9_outcomeOf_28 rfl (by decide) ?_
      refine EW.aload_n dX9_outcomeOf_29 rfl rfl ?_
      refine EM.get f_X9_33 dX9_outcomeOf_30 rfl ?_
      refine EW.iload_n dX9_outcomeOf_33 rfl rfl ?_
      refine EM.ialdN r dX9_outcomeOf_34 rfl rfl (by simp only [mLen]; omega) ?_
      refine EW.top hz ?_
      refine EW.if_ne 42 dX9_outcomeOf_35 (by decide) (fun c35 => ?_) (fun c35 => ?_)
      · have c35 : ¬ z = 0 := fun h => c35 ((nI_eq0 (by omega)).mpr h)
        refine EW.aload_n dX9_outcomeOf_42 rfl rfl ?_
        refine EM.get f_X9_36 dX9_outcomeOf_43 rfl ?_
        refine EW.bp 64 dX9_outcomeOf_46 ?_
        refine EW.iload_n dX9_outcomeOf_48 rfl rfl ?_
        refine EW.imul dX9_outcomeOf_49 ?_
        refine EW.top (pk_mul _ _) ?_
        refine EW.aload_n dX9_outcomeOf_50 rfl rfl ?_
        refine EM.get f_X9_33 dX9_outcomeOf_51 rfl ?_
        refine EW.iload_n dX9_outcomeOf_54 rfl rfl ?_
        refine EM.ialdN r dX9_outcomeOf_55 rfl rfl (by simp only [mLen]; omega) ?_
        refine EW.top hz ?_
        refine EW.iadd dX9_outcomeOf_56 ?_
        refine EW.top (nI_add _ _) ?_
        refine EW.ic 1 dX9_outcomeOf_57 ?_
        refine EW.isub dX9_outcomeOf_58 ?_
        refine EW.top (pk_sub (by omega)) ?_
        refine EM.ialdN (((64 * r) + z) - 1) dX9_outcomeOf_59 rfl rfl (by simp only [mLen]; omega) ?_
        refine EW.iret rfl dX9_outcomeOf_60 ?_
        exact ⟨rfl, rfl⟩
      · have c35 : z = 0 := (nI_eq0 (by omega)).mp c35; exact absurd c35 h
  · exact absurd c6 (by decide +kernel)
set_option maxHeartbeats 4000000 in
theorem M_out2 (hl : l.stackTraces = false) (d : Nat) (s : MSt) (k B : Nat) (hk9 : k < 384) (hB : B ≤ 320) (f g : Nat) (hf : s.2 6 k = nI f) (hg : s.2 7 k = nI g) (hf9 : f < 64) (hg9 : g < 64) (hkd : s.2 5 k = nI 2) : MtW (IM cy ad hp0) l D cy base mX9_outcomeOf (d + 3) 0 0 [.ref (ad 43), .int (nI k), .int (nI B)] s (fun o s2 => o = .inl (some (.int (mrI (s.2 11 (B + f)) (s.2 11 (B + g))))) ∧ s2 = s) := by
  refine MtW.of hl mfX9_outcomeOf rfl (Nat.le_of_ble_eq_true rfl) ?_
  refine EW.aload_n dX9_outcomeOf_0 rfl rfl ?_
  refine EM.get f_X9_17 dX9_outcomeOf_1 rfl ?_
  refine EW.iload_n dX9_outcomeOf_4 rfl rfl ?_
  refine EM.ialdN k dX9_outcomeOf_5 rfl rfl (by simp only [mLen]; omega) ?_
  refine EW.top hkd ?_
  refine EW.if_ne 12 dX9_outcomeOf_6 (by decide) (fun c6 => ?_) (fun c6 => ?_)
  · refine EW.aload_n dX9_outcomeOf_12 rfl rfl ?_
    refine EM.get f_X9_17 dX9_outcomeOf_13 rfl ?_
    refine EW.iload_n dX9_outcomeOf_16 rfl rfl ?_
    refine EM.ialdN k dX9_outcomeOf_17 rfl rfl (by simp only [mLen]; omega) ?_
    refine EW.top hkd ?_
    refine EW.ic 1 dX9_outcomeOf_18 ?_
    refine EW.icmp_ne 61 dX9_outcomeOf_19 (by decide) (fun c19 => ?_) (fun c19 => ?_)
    · refine EW.aload_n dX9_outcomeOf_61 rfl rfl ?_
      refine EM.get f_X9_36 dX9_outcomeOf_62 rfl ?_
      refine EW.iload_n dX9_outcomeOf_65 rfl rfl ?_
      refine EW.aload_n dX9_outcomeOf_66 rfl rfl ?_
      refine EM.get f_X9_20 dX9_outcomeOf_67 rfl ?_
      refine EW.iload_n dX9_outcomeOf_70 rfl rfl ?_
      refine EM.ialdN k dX9_outcomeOf_71 rfl rfl (by simp only [mLen]; omega) ?_
      refine EW.top hf ?_
      refine EW.iadd dX9_outcomeOf_72 ?_
      refine EW.top (nI_add _ _) ?_
      refine EM.ialdN (B + f) dX9_outcomeOf_73 rfl rfl (by simp only [mLen]; omega) ?_
      refine EW.istore_n dX9_outcomeOf_74 rfl (by decide) ?_
      refine EW.aload_n dX9_outcomeOf_75 rfl rfl ?_
      refine EM.get f_X9_36 dX9_outcomeOf_76 rfl ?_
      refine EW.iload_n dX9_outcomeOf_79 rfl rfl ?_
      refine EW.aload_n dX9_outcomeOf_80 rfl rfl ?_
      refine EM.get f_X9_23 dX9_outcomeOf_81 rfl ?_
      refine EW.iload_n dX9_outcomeOf_84 rfl rfl ?_
      refine EM.ialdN k dX9_outcomeOf_85 rfl rfl (by simp only [mLen]; omega) ?_
      refine EW.top hg ?_
      refine EW.iadd dX9_outcomeOf_86 ?_
      refine EW.top (nI_add _ _) ?_
      refine EM.ialdN (B + g) dX9_outcomeOf_87 rfl rfl (by simp only [mLen]; omega) ?_
      refine EW.istore dX9_outcomeOf_88 (by decide) ?_
      refine EW.iload_n dX9_outcomeOf_90 rfl rfl ?_
      refine EW.ic 4 dX9_outcomeOf_91 ?_
      refine EW.callS (bc := 0) (bs := 0) (M_has hl _ 0 s _ (nI 4)) mfX9_has rfl l_X9_171 mvX9_has (by omega) dX9_outcomeOf_92 rfl rfl (Nat.le_of_ble_eq_true rfl) (fun v92 s92 q92 => ?_) (fun _ _ q => nomatch q.1)
      obtain ⟨e92, h92⟩ := q92; cases e92; replace h92 := h92.symm; subst h92
      refine EW.istore dX9_outcomeOf_95 (by decide) ?_
      refine EW.aload_n dX9_outcomeOf_97 rfl rfl ?_
      refine EM.get f_X9_17 dX9_outcomeOf_98 rfl ?_
      refine EW.iload_n dX9_outcomeOf_101 rfl rfl ?_
      refine EM.ialdN k dX9_outcomeOf_102 rfl rfl (by simp only [mLen]; omega) ?_
      refine EW.top hkd ?_
      refine EW.tableIn (off := 37) 140 dX9_outcomeOf_103 (by decide +kernel) (by decide +kernel) (by decide +kernel) (by decide) ?_
      refine EW.iload_n dX9_outcomeOf_140 rfl rfl ?_
      refine EW.iload dX9_outcomeOf_141 rfl ?_
      refine EW.callS (bc := 0) (bs := 0) (M_row hl _ 0 s _ _) mfX9_row rfl l_X9_179 mvX9_row (by omega) dX9_outcomeOf_143 rfl rfl (Nat.le_of_ble_eq_true rfl) (fun v143 s143 q143 => ?_) (fun _ _ q => nomatch q.1)
      obtain ⟨e143, h143⟩ := q143; cases e143; replace h143 := h143.symm; subst h143
      refine EW.iret rfl dX9_outcomeOf_146 ?_
      exact ⟨rfl, rfl⟩
    · exact absurd c19 (by decide +kernel)
  · exact absurd c6 (by decide +kernel)
set_option maxHeartbeats 4000000 in
theorem M_out3 (hl : l.stackTraces = false) (d : Nat) (s : MSt) (k B : Nat) (hk9 : k < 384) (hB : B ≤ 320) (f g : Nat) (hf : s.2 6 k = nI f) (hg : s.2 7 k = nI g) (hf9 : f < 64) (hg9 : g < 64) (hkd : s.2 5 k = nI 3) : MtW (IM cy ad hp0) l D cy base mX9_outcomeOf (d + 3) 0 0 [.ref (ad 43), .int (nI k), .int (nI B)] s (fun o s2 => o = .inl (some (.int (mcI (s.2 11 (B + f)) (s.2 11 (B + g))))) ∧ s2 = s) := by
  refine MtW.of hl mfX9_outcomeOf rfl (Nat.le_of_ble_eq_true rfl) ?_
  refine EW.aload_n dX9_outcomeOf_0 rfl rfl ?_
  refine EM.get f_X9_17 dX9_outcomeOf_1 rfl ?_
  refine EW.iload_n dX9_outcomeOf_4 rfl rfl ?_
  refine EM.ialdN k dX9_outcomeOf_5 rfl rfl (by simp only [mLen]; omega) ?_
  refine EW.top hkd ?_
  refine EW.if_ne 12 dX9_outcomeOf_6 (by decide) (fun c6 => ?_) (fun c6 => ?_)
  · refine EW.aload_n dX9_outcomeOf_12 rfl rfl ?_
    refine EM.get f_X9_17 dX9_outcomeOf_13 rfl ?_
    refine EW.iload_n dX9_outcomeOf_16 rfl rfl ?_
    refine EM.ialdN k dX9_outcomeOf_17 rfl rfl (by simp only [mLen]; omega) ?_
    refine EW.top hkd ?_
    refine EW.ic 1 dX9_outcomeOf_18 ?_
    refine EW.icmp_ne 61 dX9_outcomeOf_19 (by decide) (fun c19 => ?_) (fun c19 => ?_)
    · refine EW.aload_n dX9_outcomeOf_61 rfl rfl ?_
      refine EM.get f_X9_36 dX9_outcomeOf_62 rfl ?_
      refine EW.iload_n dX9_outcomeOf_65 rfl rfl ?_
      refine EW.aload_n dX9_outcomeOf_66 rfl rfl ?_
      refine EM.get f_X9_20 dX9_outcomeOf_67 rfl ?_
      refine EW.iload_n dX9_outcomeOf_70 rfl rfl ?_
      refine EM.ialdN k dX9_outcomeOf_71 rfl rfl (by simp only [mLen]; omega) ?_
      refine EW.top hf ?_
      refine EW.iadd dX9_outcomeOf_72 ?_
      refine EW.top (nI_add _ _) ?_
      refine EM.ialdN (B + f) dX9_outcomeOf_73 rfl rfl (by simp only [mLen]; omega) ?_
      refine EW.istore_n dX9_outcomeOf_74 rfl (by decide) ?_
      refine EW.aload_n dX9_outcomeOf_75 rfl rfl ?_
      refine EM.get f_X9_36 dX9_outcomeOf_76 rfl ?_
      refine EW.iload_n dX9_outcomeOf_79 rfl rfl ?_
      refine EW.aload_n dX9_outcomeOf_80 rfl rfl ?_
      refine EM.get f_X9_23 dX9_outcomeOf_81 rfl ?_
      refine EW.iload_n dX9_outcomeOf_84 rfl rfl ?_
      refine EM.ialdN k dX9_outcomeOf_85 rfl rfl (by simp only [mLen]; omega) ?_
      refine EW.top hg ?_
      refine EW.iadd dX9_outcomeOf_86 ?_
      refine EW.top (nI_add _ _) ?_
      refine EM.ialdN (B + g) dX9_outcomeOf_87 rfl rfl (by simp only [mLen]; omega) ?_
      refine EW.istore dX9_outcomeOf_88 (by decide) ?_
      refine EW.iload_n dX9_outcomeOf_90 rfl rfl ?_
      refine EW.ic 4 dX9_outcomeOf_91 ?_
      refine EW.callS (bc := 0) (bs := 0) (M_has hl _ 0 s _ (nI 4)) mfX9_has rfl l_X9_171 mvX9_has (by omega) dX9_outcomeOf_92 rfl rfl (Nat.le_of_ble_eq_true rfl) (fun v92 s92 q92 => ?_) (fun _ _ q => nomatch q.1)
      obtain ⟨e92, h92⟩ := q92; cases e92; replace h92 := h92.symm; subst h92
      refine EW.istore dX9_outcomeOf_95 (by decide) ?_
      refine EW.aload_n dX9_outcomeOf_97 rfl rfl ?_
      refine EM.get f_X9_17 dX9_outcomeOf_98 rfl ?_
      refine EW.iload_n dX9_outcomeOf_101 rfl rfl ?_
      refine EM.ialdN k dX9_outcomeOf_102 rfl rfl (by simp only [mLen]; omega) ?_
      refine EW.top hkd ?_
      refine EW.tableIn (off := 44) 147 dX9_outcomeOf_103 (by decide +kernel) (by decide +kernel) (by decide +kernel) (by decide) ?_
      refine EW.iload_n dX9_outcomeOf_147 rfl rfl ?_
      refine EW.ic 3 dX9_outcomeOf_148 ?_
      refine EW.iand dX9_outcomeOf_149 ?_
      refine EW.iload dX9_outcomeOf_150 rfl ?_
      refine EW.if_eq 160 dX9_outcomeOf_152 (by decide) (fun c152 => ?_) (fun c152 => ?_)
      · have c152 := hs0 c152
        refine EW.ic 0 dX9_outcomeOf_160 ?_
        refine EW.ior dX9_outcomeOf_161 ?_
        refine EW.iret rfl dX9_outcomeOf_162 ?_
        refine ⟨?_, rfl⟩; unfold mcI; first | rw [if_pos c152] | rw [if_neg c152]
      · have c152 := hs1 c152
        refine EW.iload dX9_outcomeOf_155 rfl ?_
        refine EW.goto 161 dX9_outcomeOf_157 (by decide) ?_
        refine EW.ior dX9_outcomeOf_161 ?_
        refine EW.iret rfl dX9_outcomeOf_162 ?_
        refine ⟨?_, rfl⟩; unfold mcI; first | rw [if_pos c152] | rw [if_neg c152]
    · exact absurd c19 (by decide +kernel)
  · exact absurd c6 (by decide +kernel)
set_option maxHeartbeats 4000000 in
theorem M_out4 (hl : l.stackTraces = false) (d : Nat) (s : MSt) (k B : Nat) (hk9 : k < 384) (hB : B ≤ 320) (f g : Nat) (hf : s.2 6 k = nI f) (hg : s.2 7 k = nI g) (hf9 : f < 64) (hg9 : g < 64) (hkd : s.2 5 k = nI 4) : MtW (IM cy ad hp0) l D cy base mX9_outcomeOf (d + 3) 0 0 [.ref (ad 43), .int (nI k), .int (nI B)] s (fun o s2 => o = .inl (some (.int (msI 4 (s.2 11 (B + f))))) ∧ s2 = s) := by
  refine MtW.of hl mfX9_outcomeOf rfl (Nat.le_of_ble_eq_true rfl) ?_
  refine EW.aload_n dX9_outcomeOf_0 rfl rfl ?_
  refine EM.get f_X9_17 dX9_outcomeOf_1 rfl ?_
  refine EW.iload_n dX9_outcomeOf_4 rfl rfl ?_
  refine EM.ialdN k dX9_outcomeOf_5 rfl rfl (by simp only [mLen]; omega) ?_
  refine EW.top hkd ?_
  refine EW.if_ne 12 dX9_outcomeOf_6 (by decide) (fun c6 => ?_) (fun c6 => ?_)
  · refine EW.aload_n dX9_outcomeOf_12 rfl rfl ?_
    refine EM.get f_X9_17 dX9_outcomeOf_13 rfl ?_
    refine EW.iload_n dX9_outcomeOf_16 rfl rfl ?_
    refine EM.ialdN k dX9_outcomeOf_17 rfl rfl (by simp only [mLen]; omega) ?_
    refine EW.top hkd ?_
    refine EW.ic 1 dX9_outcomeOf_18 ?_
    refine EW.icmp_ne 61 dX9_outcomeOf_19 (by decide) (fun c19 => ?_) (fun c19 => ?_)
    · refine EW.aload_n dX9_outcomeOf_61 rfl rfl ?_
      refine EM.get f_X9_36 dX9_outcomeOf_62 rfl ?_
      refine EW.iload_n dX9_outcomeOf_65 rfl rfl ?_
      refine EW.aload_n dX9_outcomeOf_66 rfl rfl ?_
      refine EM.get f_X9_20 dX9_outcomeOf_67 rfl ?_
      refine EW.iload_n dX9_outcomeOf_70 rfl rfl ?_
      refine EM.ialdN k dX9_outcomeOf_71 rfl rfl (by simp only [mLen]; omega) ?_
      refine EW.top hf ?_
      refine EW.iadd dX9_outcomeOf_72 ?_
      refine EW.top (nI_add _ _) ?_
      refine EM.ialdN (B + f) dX9_outcomeOf_73 rfl rfl (by simp only [mLen]; omega) ?_
      refine EW.istore_n dX9_outcomeOf_74 rfl (by decide) ?_
      refine EW.aload_n dX9_outcomeOf_75 rfl rfl ?_
      refine EM.get f_X9_36 dX9_outcomeOf_76 rfl ?_
      refine EW.iload_n dX9_outcomeOf_79 rfl rfl ?_
      refine EW.aload_n dX9_outcomeOf_80 rfl rfl ?_
      refine EM.get f_X9_23 dX9_outcomeOf_81 rfl ?_
      refine EW.iload_n dX9_outcomeOf_84 rfl rfl ?_
      refine EM.ialdN k dX9_outcomeOf_85 rfl rfl (by simp only [mLen]; omega) ?_
      refine EW.top hg ?_
      refine EW.iadd dX9_outcomeOf_86 ?_
      refine EW.top (nI_add _ _) ?_
      refine EM.ialdN (B + g) dX9_outcomeOf_87 rfl rfl (by simp only [mLen]; omega) ?_
      refine EW.istore dX9_outcomeOf_88 (by decide) ?_
      refine EW.iload_n dX9_outcomeOf_90 rfl rfl ?_
      refine EW.ic 4 dX9_outcomeOf_91 ?_
      refine EW.callS (bc := 0) (bs := 0) (M_has hl _ 0 s _ (nI 4)) mfX9_has rfl l_X9_171 mvX9_has (by omega) dX9_outcomeOf_92 rfl rfl (Nat.le_of_ble_eq_true rfl) (fun v92 s92 q92 => ?_) (fun _ _ q => nomatch q.1)
      obtain ⟨e92, h92⟩ := q92; cases e92; replace h92 := h92.symm; subst h92
      refine EW.istore dX9_outcomeOf_95 (by decide) ?_
      refine EW.aload_n dX9_outcomeOf_97 rfl rfl ?_
      refine EM.get f_X9_17 dX9_outcomeOf_98 rfl ?_
      refine EW.iload_n dX9_outcomeOf_101 rfl rfl ?_
      refine EM.ialdN k dX9_outcomeOf_102 rfl rfl (by simp only [mLen]; omega) ?_
      refine EW.top hkd ?_
      refine EW.tableIn (off := 60) 163 dX9_outcomeOf_103 (by decide +kernel) (by decide +kernel) (by decide +kernel) (by decide) ?_
      refine EW.iload_n dX9_outcomeOf_163 rfl rfl ?_
      refine EW.ic 2 dX9_outcomeOf_164 ?_
      refine EW.iand dX9_outcomeOf_165 ?_
      refine EW.iload dX9_outcomeOf_166 rfl ?_
      refine EW.ic 1 dX9_outcomeOf_168 ?_
      refine EW.callS (bc := 0) (bs := 0) (M_bit hl _ 0 s _ (nI 1)) mfX9_bit rfl l_X9_175 mvX9_bit (by omega) dX9_outcomeOf_169 rfl rfl (Nat.le_of_ble_eq_true rfl) (fun v169 s169 q169 => ?_) (fun _ _ q => nomatch q.1)
      obtain ⟨e169, h169⟩ := q169; cases e169; replace h169 := h169.symm; subst h169
      refine EW.ior dX9_outcomeOf_172 ?_
      refine EW.iret rfl dX9_outcomeOf_173 ?_
      refine ⟨?_, rfl⟩; unfold msI; simp only [bt]
    · exact absurd c19 (by decide +kernel)
  · exact absurd c6 (by decide +kernel)
set_option maxHeartbeats 4000000 in
theorem M_out5 (hl : l.stackTraces = false) (d : Nat) (s : MSt) (k B : Nat) (hk9 : k < 384) (hB : B ≤ 320) (f g : Nat) (hf : s.2 6 k = nI f) (hg : s.2 7 k = nI g) (hf9 : f < 64) (hg9 : g < 64) (hkd : s.2 5 k = nI 5) : MtW (IM cy ad hp0) l D cy base mX9_outcomeOf (d + 3) 0 0 [.ref (ad 43), .int (nI k), .int (nI B)] s (fun o s2 => o = .inl (some (.int (msI 5 (s.2 11 (B + f))))) ∧ s2 = s) := by
  refine MtW.of hl mfX9_outcomeOf rfl (Nat.le_of_ble_eq_true rfl) ?_
  refine EW.aload_n dX9_outcomeOf_0 rfl rfl ?_
  refine EM.get f_X9_17 dX9_outcomeOf_1 rfl ?_
  refine EW.iload_n dX9_outcomeOf_4 rfl rfl ?_
  refine EM.ialdN k dX9_outcomeOf_5 rfl rfl (by simp only [mLen]; omega) ?_
  refine EW.top hkd ?_
  refine EW.if_ne 12 dX9_outcomeOf_6 (by decide) (fun c6 => ?_) (fun c6 => ?_)
  · refine EW.aload_n dX9_outcomeOf_12 rfl rfl ?_
    refine EM.get f_X9_17 dX9_outcomeOf_13 rfl ?_
    refine EW.iload_n dX9_outcomeOf_16 rfl rfl ?_
    refine EM.ialdN k dX9_outcomeOf_17 rfl rfl (by simp only [mLen]; omega) ?_
    refine EW.top hkd ?_
    refine EW.ic 1 dX9_outcomeOf_18 ?_
    refine EW.icmp_ne 61 dX9_outcomeOf_19 (by decide) (fun c19 => ?_) (fun c19 => ?_)
    · refine EW.aload_n dX9_outcomeOf_61 rfl rfl ?_
      refine EM.get f_X9_36 dX9_outcomeOf_62 rfl ?_
      refine EW.iload_n dX9_outcomeOf_65 rfl rfl ?_
      refine EW.aload_n dX9_outcomeOf_66 rfl rfl ?_
      refine EM.get f_X9_20 dX9_outcomeOf_67 rfl ?_
      refine EW.iload_n dX9_outcomeOf_70 rfl rfl ?_
      refine EM.ialdN k dX9_outcomeOf_71 rfl rfl (by simp only [mLen]; omega) ?_
      refine EW.top hf ?_
      refine EW.iadd dX9_outcomeOf_72 ?_
      refine EW.top (nI_add _ _) ?_
      refine EM.ialdN (B + f) dX9_outcomeOf_73 rfl rfl (by simp only [mLen]; omega) ?_
      refine EW.istore_n dX9_outcomeOf_74 rfl (by decide) ?_
      refine EW.aload_n dX9_outcomeOf_75 rfl rfl ?_
      refine EM.get f_X9_36 dX9_outcomeOf_76 rfl ?_
      refine EW.iload_n dX9_outcomeOf_79 rfl rfl ?_
      refine EW.aload_n dX9_outcomeOf_80 rfl rfl ?_
      refine EM.get f_X9_23 dX9_outcomeOf_81 rfl ?_
      refine EW.iload_n dX9_outcomeOf_84 rfl rfl ?_
      refine EM.ialdN k dX9_outcomeOf_85 rfl rfl (by simp only [mLen]; omega) ?_
      refine EW.top hg ?_
      refine EW.iadd dX9_outcomeOf_86 ?_
      refine EW.top (nI_add _ _) ?_
      refine EM.ialdN (B + g) dX9_outcomeOf_87 rfl rfl (by simp only [mLen]; omega) ?_
      refine EW.istore dX9_outcomeOf_88 (by decide) ?_
      refine EW.iload_n dX9_outcomeOf_90 rfl rfl ?_
      refine EW.ic 4 dX9_outcomeOf_91 ?_
      refine EW.callS (bc := 0) (bs := 0) (M_has hl _ 0 s _ (nI 4)) mfX9_has rfl l_X9_171 mvX9_has (by omega) dX9_outcomeOf_92 rfl rfl (Nat.le_of_ble_eq_true rfl) (fun v92 s92 q92 => ?_) (fun _ _ q => nomatch q.1)
      obtain ⟨e92, h92⟩ := q92; cases e92; replace h92 := h92.symm; subst h92
      refine EW.istore dX9_outcomeOf_95 (by decide) ?_
      refine EW.aload_n dX9_outcomeOf_97 rfl rfl ?_
      refine EM.get f_X9_17 dX9_outcomeOf_98 rfl ?_
      refine EW.iload_n dX9_outcomeOf_101 rfl rfl ?_
      refine EM.ialdN k dX9_outcomeOf_102 rfl rfl (by simp only [mLen]; omega) ?_
      refine EW.top hkd ?_
      refine EW.tableIn (off := 71) 174 dX9_outcomeOf_103 (by decide +kernel) (by decide +kernel) (by decide +kernel) (by decide) ?_
      refine EW.iload_n dX9_outcomeOf_174 rfl rfl ?_
      refine EW.bp 6 dX9_outcomeOf_175 ?_
      refine EW.iand dX9_outcomeOf_177 ?_
      refine EW.iload dX9_outcomeOf_178 rfl ?_
      refine EW.if_eq 195 dX9_outcomeOf_180 (by decide) (fun c180 => ?_) (fun c180 => ?_)
      · have c180 := hs0 c180
        refine EW.ic 0 dX9_outcomeOf_195 ?_
        refine EW.ic 1 dX9_outcomeOf_196 ?_
        refine EW.callS (bc := 0) (bs := 0) (M_bit hl _ 0 s (nI 0) (nI 1)) mfX9_bit rfl l_X9_175 mvX9_bit (by omega) dX9_outcomeOf_197 rfl rfl (Nat.le_of_ble_eq_true rfl) (fun v197 s197 q197 => ?_) (fun _ _ q => nomatch q.1)
        obtain ⟨e197, h197⟩ := q197; cases e197; replace h197 := h197.symm; subst h197
        refine EW.top (y := nI 0) (by decide +kernel) ?_
        refine EW.ior dX9_outcomeOf_200 ?_
        refine EW.iret rfl dX9_outcomeOf_201 ?_
        refine ⟨?_, rfl⟩; unfold msI; simp only [*, not_true_eq_false, not_false_eq_true, and_true, true_and, and_false, false_and, or_true, true_or, or_false, false_or, if_true, if_false, and_self, or_self]
      · have c180 := hs1 c180
        refine EW.iload_n dX9_outcomeOf_183 rfl rfl ?_
        refine EW.ic 1 dX9_outcomeOf_184 ?_
        refine EW.callS (bc := 0) (bs := 0) (M_has hl _ 0 s _ (nI 1)) mfX9_has rfl l_X9_171 mvX9_has (by omega) dX9_outcomeOf_185 rfl rfl (Nat.le_of_ble_eq_true rfl) (fun v185 s185 q185 => ?_) (fun _ _ q => nomatch q.1)
        obtain ⟨e185, h185⟩ := q185; cases e185; replace h185 := h185.symm; subst h185
        refine EW.if_eq 195 dX9_outcomeOf_188 (by decide) (fun c188 => ?_) (fun c188 => ?_)
        · have c188 := hs0 c188
          refine EW.ic 0 dX9_outcomeOf_195 ?_
          refine EW.ic 1 dX9_outcomeOf_196 ?_
          refine EW.callS (bc := 0) (bs := 0) (M_bit hl _ 0 s (nI 0) (nI 1)) mfX9_bit rfl l_X9_175 mvX9_bit (by omega) dX9_outcomeOf_197 rfl rfl (Nat.le_of_ble_eq_true rfl) (fun v197 s197 q197 => ?_) (fun _ _ q => nomatch q.1)
          obtain ⟨e197, h197⟩ := q197; cases e197; replace h197 := h197.symm; subst h197
          refine EW.top (y := nI 0) (by decide +kernel) ?_
          refine EW.ior dX9_outcomeOf_200 ?_
          refine EW.iret rfl dX9_outcomeOf_201 ?_
          refine ⟨?_, rfl⟩; unfold msI; simp only [*, not_true_eq_false, not_false_eq_true, and_true, true_and, and_false, false_and, or_true, true_or, or_false, false_or, if_true, if_false, and_self, or_self]
        · have c188 := hs1 c188
          refine EW.ic 1 dX9_outcomeOf_191 ?_
          refine EW.goto 196 dX9_outcomeOf_192 (by decide) ?_
          refine EW.ic 1 dX9_outcomeOf_196 ?_
          refine EW.callS (bc := 0) (bs := 0) (M_bit hl _ 0 s (nI 1) (nI 1)) mfX9_bit rfl l_X9_175 mvX9_bit (by omega) dX9_outcomeOf_197 rfl rfl (Nat.le_of_ble_eq_true rfl) (fun v197 s197 q197 => ?_) (fun _ _ q => nomatch q.1)
          obtain ⟨e197, h197⟩ := q197; cases e197; replace h197 := h197.symm; subst h197
          refine EW.top (y := nI 1) (by decide +kernel) ?_
          refine EW.ior dX9_outcomeOf_200 ?_
          refine EW.iret rfl dX9_outcomeOf_201 ?_
          refine ⟨?_, rfl⟩; unfold msI; simp only [*, not_true_eq_false, not_false_eq_true, and_true, true_and, and_false, false_and, or_true, true_or, or_false, false_or, if_true, if_false, and_self, or_self]
    · exact absurd c19 (by decide +kernel)
  · exact absurd c6 (by decide +kernel)
set_option maxHeartbeats 4000000 in
theorem M_out6 (hl : l.stackTraces = false) (d : Nat) (s : MSt) (k B : Nat) (hk9 : k < 384) (hB : B ≤ 320) (f g : Nat) (hf : s.2 6 k = nI f) (hg : s.2 7 k = nI g) (hf9 : f < 64) (hg9 : g < 64) (hkd : s.2 5 k = nI 6) : MtW (IM cy ad hp0) l D cy base mX9_outcomeOf (d + 3) 0 0 [.ref (ad 43), .int (nI k), .int (nI B)] s (fun o s2 => o = .inl (some (.int (msI 6 (s.2 11 (B + f))))) ∧ s2 = s) := by
  refine MtW.of hl mfX9_outcomeOf rfl (Nat.le_of_ble_eq_true rfl) ?_
  refine EW.aload_n dX9_outcomeOf_0 rfl rfl ?_
  refine EM.get f_X9_17 dX9_outcomeOf_1 rfl ?_
  refine EW.iload_n dX9_outcomeOf_4 rfl rfl ?_
  refine EM.ialdN k dX9_outcomeOf_5 rfl rfl (by simp only [mLen]; omega) ?_
  refine EW.top hkd ?_
  refine EW.if_ne 12 dX9_outcomeOf_6 (by decide) (fun c6 => ?_) (fun c6 => ?_)
  · refine EW.aload_n dX9_outcomeOf_12 rfl rfl ?_
    refine EM.get f_X9_17 dX9_outcomeOf_13 rfl ?_
    refine EW.iload_n dX9_outcomeOf_16 rfl rfl ?_
    refine EM.ialdN k dX9_outcomeOf_17 rfl rfl (by simp only [mLen]; omega) ?_
    refine EW.top hkd ?_
    refine EW.ic 1 dX9_outcomeOf_18 ?_
    refine EW.icmp_ne 61 dX9_outcomeOf_19 (by decide) (fun c19 => ?_) (fun c19 => ?_)
    · refine EW.aload_n dX9_outcomeOf_61 rfl rfl ?_
      refine EM.get f_X9_36 dX9_outcomeOf_62 rfl ?_
      refine EW.iload_n dX9_outcomeOf_65 rfl rfl ?_
      refine EW.aload_n dX9_outcomeOf_66 rfl rfl ?_
      refine EM.get f_X9_20 dX9_outcomeOf_67 rfl ?_
      refine EW.iload_n dX9_outcomeOf_70 rfl rfl ?_
      refine EM.ialdN k dX9_outcomeOf_71 rfl rfl (by simp only [mLen]; omega) ?_
      refine EW.top hf ?_
      refine EW.iadd dX9_outcomeOf_72 ?_
      refine EW.top (nI_add _ _) ?_
      refine EM.ialdN (B + f) dX9_outcomeOf_73 rfl rfl (by simp only [mLen]; omega) ?_
      refine EW.istore_n dX9_outcomeOf_74 rfl (by decide) ?_
      refine EW.aload_n dX9_outcomeOf_75 rfl rfl ?_
      refine EM.get f_X9_36 dX9_outcomeOf_76 rfl ?_
      refine EW.iload_n dX9_outcomeOf_79 rfl rfl ?_
      refine EW.aload_n dX9_outcomeOf_80 rfl rfl ?_
      refine EM.get f_X9_23 dX9_outcomeOf_81 rfl ?_
      refine EW.iload_n dX9_outcomeOf_84 rfl rfl ?_
      refine EM.ialdN k dX9_outcomeOf_85 rfl rfl (by simp only [mLen]; omega) ?_
      refine EW.top hg ?_
      refine EW.iadd dX9_outcomeOf_86 ?_
      refine EW.top (nI_add _ _) ?_
      refine EM.ialdN (B + g) dX9_outcomeOf_87 rfl rfl (by simp only [mLen]; omega) ?_
      refine EW.istore dX9_outcomeOf_88 (by decide) ?_
      refine EW.iload_n dX9_outcomeOf_90 rfl rfl ?_
      refine EW.ic 4 dX9_outcomeOf_91 ?_
      refine EW.callS (bc := 0) (bs := 0) (M_has hl _ 0 s _ (nI 4)) mfX9_has rfl l_X9_171 mvX9_has (by omega) dX9_outcomeOf_92 rfl rfl (Nat.le_of_ble_eq_true rfl) (fun v92 s92 q92 => ?_) (fun _ _ q => nomatch q.1)
      obtain ⟨e92, h92⟩ := q92; cases e92; replace h92 := h92.symm; subst h92
      refine EW.istore dX9_outcomeOf_95 (by decide) ?_
      refine EW.aload_n dX9_outcomeOf_97 rfl rfl ?_
      refine EM.get f_X9_17 dX9_outcomeOf_98 rfl ?_
      refine EW.iload_n dX9_outcomeOf_101 rfl rfl ?_
      refine EM.ialdN k dX9_outcomeOf_102 rfl rfl (by simp only [mLen]; omega) ?_
      refine EW.top hkd ?_
      refine EW.tableIn (off := 99) 202 dX9_outcomeOf_103 (by decide +kernel) (by decide +kernel) (by decide +kernel) (by decide) ?_
      refine EW.iload_n dX9_outcomeOf_202 rfl rfl ?_
      refine EW.ic 2 dX9_outcomeOf_203 ?_
      refine EW.iand dX9_outcomeOf_204 ?_
      refine EW.iload_n dX9_outcomeOf_205 rfl rfl ?_
      refine EW.ic 5 dX9_outcomeOf_206 ?_
      refine EW.callS (bc := 0) (bs := 0) (M_has hl _ 0 s _ (nI 5)) mfX9_has rfl l_X9_171 mvX9_has (by omega) dX9_outcomeOf_207 rfl rfl (Nat.le_of_ble_eq_true rfl) (fun v207 s207 q207 => ?_) (fun _ _ q => nomatch q.1)
      obtain ⟨e207, h207⟩ := q207; cases e207; replace h207 := h207.symm; subst h207
      refine EW.ic 1 dX9_outcomeOf_210 ?_
      refine EW.callS (bc := 0) (bs := 0) (M_bit hl _ 0 s _ (nI 1)) mfX9_bit rfl l_X9_175 mvX9_bit (by omega) dX9_outcomeOf_211 rfl rfl (Nat.le_of_ble_eq_true rfl) (fun v211 s211 q211 => ?_) (fun _ _ q => nomatch q.1)
      obtain ⟨e211, h211⟩ := q211; cases e211; replace h211 := h211.symm; subst h211
      refine EW.ior dX9_outcomeOf_214 ?_
      refine EW.iret rfl dX9_outcomeOf_215 ?_
      refine ⟨?_, rfl⟩; unfold msI; simp only [bt]
    · exact absurd c19 (by decide +kernel)
  · exact absurd c6 (by decide +kernel)
set_option maxHeartbeats 4000000 in
theorem M_out7 (hl : l.stackTraces = false) (d : Nat) (s : MSt) (k B : Nat) (hk9 : k < 384) (hB : B ≤ 320) (f g : Nat) (hf : s.2 6 k = nI f) (hg : s.2 7 k = nI g) (hf9 : f < 64) (hg9 : g < 64) (hkd : s.2 5 k = nI 7) : MtW (IM cy ad hp0) l D cy base mX9_outcomeOf (d + 3) 0 0 [.ref (ad 43), .int (nI k), .int (nI B)] s (fun o s2 => o = .inl (some (.int (msI 7 (s.2 11 (B + f))))) ∧ s2 = s) := by
  refine MtW.of hl mfX9_outcomeOf rfl (Nat.le_of_ble_eq_true rfl) ?_
  refine EW.aload_n dX9_outcomeOf_0 rfl rfl ?_
  refine EM.get f_X9_17 dX9_outcomeOf_1 rfl ?_
  refine EW.iload_n dX9_outcomeOf_4 rfl rfl ?_
  refine EM.ialdN k dX9_outcomeOf_5 rfl rfl (by simp only [mLen]; omega) ?_
  refine EW.top hkd ?_
  refine EW.if_ne 12 dX9_outcomeOf_6 (by decide) (fun c6 => ?_) (fun c6 => ?_)
  · refine EW.aload_n dX9_outcomeOf_12 rfl rfl ?_
    refine EM.get f_X9_17 dX9_outcomeOf_13 rfl ?_
    refine EW.iload_n dX9_outcomeOf_16 rfl rfl ?_
    refine EM.ialdN k dX9_outcomeOf_17 rfl rfl (by simp only [mLen]; omega) ?_
    refine EW.top hkd ?_
    refine EW.ic 1 dX9_outcomeOf_18 ?_
    refine EW.icmp_ne 61 dX9_outcomeOf_19 (by decide) (fun c19 => ?_) (fun c19 => ?_)
    · refine EW.aload_n dX9_outcomeOf_61 rfl rfl ?_
      refine EM.get f_X9_36 dX9_outcomeOf_62 rfl ?_
      refine EW.iload_n dX9_outcomeOf_65 rfl rfl ?_
      refine EW.aload_n dX9_outcomeOf_66 rfl rfl ?_
      refine EM.get f_X9_20 dX9_outcomeOf_67 rfl ?_
      refine EW.iload_n dX9_outcomeOf_70 rfl rfl ?_
      refine EM.ialdN k dX9_outcomeOf_71 rfl rfl (by simp only [mLen]; omega) ?_
      refine EW.top hf ?_
      refine EW.iadd dX9_outcomeOf_72 ?_
      refine EW.top (nI_add _ _) ?_
      refine EM.ialdN (B + f) dX9_outcomeOf_73 rfl rfl (by simp only [mLen]; omega) ?_
      refine EW.istore_n dX9_outcomeOf_74 rfl (by decide) ?_
      refine EW.aload_n dX9_outcomeOf_75 rfl rfl ?_
      refine EM.get f_X9_36 dX9_outcomeOf_76 rfl ?_
      refine EW.iload_n dX9_outcomeOf_79 rfl rfl ?_
      refine EW.aload_n dX9_outcomeOf_80 rfl rfl ?_
      refine EM.get f_X9_23 dX9_outcomeOf_81 rfl ?_
      refine EW.iload_n dX9_outcomeOf_84 rfl rfl ?_
      refine EM.ialdN k dX9_outcomeOf_85 rfl rfl (by simp only [mLen]; omega) ?_
      refine EW.top hg ?_
      refine EW.iadd dX9_outcomeOf_86 ?_
      refine EW.top (nI_add _ _) ?_
      refine EM.ialdN (B + g) dX9_outcomeOf_87 rfl rfl (by simp only [mLen]; omega) ?_
      refine EW.istore dX9_outcomeOf_88 (by decide) ?_
      refine EW.iload_n dX9_outcomeOf_90 rfl rfl ?_
      refine EW.ic 4 dX9_outcomeOf_91 ?_
      refine EW.callS (bc := 0) (bs := 0) (M_has hl _ 0 s _ (nI 4)) mfX9_has rfl l_X9_171 mvX9_has (by omega) dX9_outcomeOf_92 rfl rfl (Nat.le_of_ble_eq_true rfl) (fun v92 s92 q92 => ?_) (fun _ _ q => nomatch q.1)
      obtain ⟨e92, h92⟩ := q92; cases e92; replace h92 := h92.symm; subst h92
      refine EW.istore dX9_outcomeOf_95 (by decide) ?_
      refine EW.aload_n dX9_outcomeOf_97 rfl rfl ?_
      refine EM.get f_X9_17 dX9_outcomeOf_98 rfl ?_
      refine EW.iload_n dX9_outcomeOf_101 rfl rfl ?_
      refine EM.ialdN k dX9_outcomeOf_102 rfl rfl (by simp only [mLen]; omega) ?_
      refine EW.top hkd ?_
      refine EW.tableIn (off := 113) 216 dX9_outcomeOf_103 (by decide +kernel) (by decide +kernel) (by decide +kernel) (by decide) ?_
      refine EW.iload_n dX9_outcomeOf_216 rfl rfl ?_
      refine EW.ic 4 dX9_outcomeOf_217 ?_
      refine EW.iand dX9_outcomeOf_218 ?_
      refine EW.iload_n dX9_outcomeOf_219 rfl rfl ?_
      refine EW.ic 3 dX9_outcomeOf_220 ?_
      refine EW.callS (bc := 0) (bs := 0) (M_has hl _ 0 s _ (nI 3)) mfX9_has rfl l_X9_171 mvX9_has (by omega) dX9_outcomeOf_221 rfl rfl (Nat.le_of_ble_eq_true rfl) (fun v221 s221 q221 => ?_) (fun _ _ q => nomatch q.1)
      obtain ⟨e221, h221⟩ := q221; cases e221; replace h221 := h221.symm; subst h221
      refine EW.ic 1 dX9_outcomeOf_224 ?_
      refine EW.callS (bc := 0) (bs := 0) (M_bit hl _ 0 s _ (nI 1)) mfX9_bit rfl l_X9_175 mvX9_bit (by omega) dX9_outcomeOf_225 rfl rfl (Nat.le_of_ble_eq_true rfl) (fun v225 s225 q225 => ?_) (fun _ _ q => nomatch q.1)
      obtain ⟨e225, h225⟩ := q225; cases e225; replace h225 := h225.symm; subst h225
      refine EW.ior dX9_outcomeOf_228 ?_
      refine EW.iret rfl dX9_outcomeOf_229 ?_
      refine ⟨?_, rfl⟩; unfold msI; simp only [bt]
    · exact absurd c19 (by decide +kernel)
  · exact absurd c6 (by decide +kernel)
set_option maxHeartbeats 4000000 in
theorem M_out8 (hl : l.stackTraces = false) (d : Nat) (s : MSt) (k B : Nat) (hk9 : k < 384) (hB : B ≤ 320) (f g : Nat) (hf : s.2 6 k = nI f) (hg : s.2 7 k = nI g) (hf9 : f < 64) (hg9 : g < 64) (hkd : s.2 5 k = nI 8) : MtW (IM cy ad hp0) l D cy base mX9_outcomeOf (d + 3) 0 0 [.ref (ad 43), .int (nI k), .int (nI B)] s (fun o s2 => o = .inl (some (.int (msI 8 (s.2 11 (B + f))))) ∧ s2 = s) := by
  refine MtW.of hl mfX9_outcomeOf rfl (Nat.le_of_ble_eq_true rfl) ?_
  refine EW.aload_n dX9_outcomeOf_0 rfl rfl ?_
  refine EM.get f_X9_17 dX9_outcomeOf_1 rfl ?_
  refine EW.iload_n dX9_outcomeOf_4 rfl rfl ?_
  refine EM.ialdN k dX9_outcomeOf_5 rfl rfl (by simp only [mLen]; omega) ?_
  refine EW.top hkd ?_
  refine EW.if_ne 12 dX9_outcomeOf_6 (by decide) (fun c6 => ?_) (fun c6 => ?_)
  · refine EW.aload_n dX9_outcomeOf_12 rfl rfl ?_
    refine EM.get f_X9_17 dX9_outcomeOf_13 rfl ?_
    refine EW.iload_n dX9_outcomeOf_16 rfl rfl ?_
    refine EM.ialdN k dX9_outcomeOf_17 rfl rfl (by simp only [mLen]; omega) ?_
    refine EW.top hkd ?_
    refine EW.ic 1 dX9_outcomeOf_18 ?_
    refine EW.icmp_ne 61 dX9_outcomeOf_19 (by decide) (fun c19 => ?_) (fun c19 => ?_)
    · refine EW.aload_n dX9_outcomeOf_61 rfl rfl ?_
      refine EM.get f_X9_36 dX9_outcomeOf_62 rfl ?_
      refine EW.iload_n dX9_outcomeOf_65 rfl rfl ?_
      refine EW.aload_n dX9_outcomeOf_66 rfl rfl ?_
      refine EM.get f_X9_20 dX9_outcomeOf_67 rfl ?_
      refine EW.iload_n dX9_outcomeOf_70 rfl rfl ?_
      refine EM.ialdN k dX9_outcomeOf_71 rfl rfl (by simp only [mLen]; omega) ?_
      refine EW.top hf ?_
      refine EW.iadd dX9_outcomeOf_72 ?_
      refine EW.top (nI_add _ _) ?_
      refine EM.ialdN (B + f) dX9_outcomeOf_73 rfl rfl (by simp only [mLen]; omega) ?_
      refine EW.istore_n dX9_outcomeOf_74 rfl (by decide) ?_
      refine EW.aload_n dX9_outcomeOf_75 rfl rfl ?_
      refine EM.get f_X9_36 dX9_outcomeOf_76 rfl ?_
      refine EW.iload_n dX9_outcomeOf_79 rfl rfl ?_
      refine EW.aload_n dX9_outcomeOf_80 rfl rfl ?_
      refine EM.get f_X9_23 dX9_outcomeOf_81 rfl ?_
      refine EW.iload_n dX9_outcomeOf_84 rfl rfl ?_
      refine EM.ialdN k dX9_outcomeOf_85 rfl rfl (by simp only [mLen]; omega) ?_
      refine EW.top hg ?_
      refine EW.iadd dX9_outcomeOf_86 ?_
      refine EW.top (nI_add _ _) ?_
      refine EM.ialdN (B + g) dX9_outcomeOf_87 rfl rfl (by simp only [mLen]; omega) ?_
      refine EW.istore dX9_outcomeOf_88 (by decide) ?_
      refine EW.iload_n dX9_outcomeOf_90 rfl rfl ?_
      refine EW.ic 4 dX9_outcomeOf_91 ?_
      refine EW.callS (bc := 0) (bs := 0) (M_has hl _ 0 s _ (nI 4)) mfX9_has rfl l_X9_171 mvX9_has (by omega) dX9_outcomeOf_92 rfl rfl (Nat.le_of_ble_eq_true rfl) (fun v92 s92 q92 => ?_) (fun _ _ q => nomatch q.1)
      obtain ⟨e92, h92⟩ := q92; cases e92; replace h92 := h92.symm; subst h92
      refine EW.istore dX9_outcomeOf_95 (by decide) ?_
      refine EW.aload_n dX9_outcomeOf_97 rfl rfl ?_
      refine EM.get f_X9_17 dX9_outcomeOf_98 rfl ?_
      refine EW.iload_n dX9_outcomeOf_101 rfl rfl ?_
      refine EM.ialdN k dX9_outcomeOf_102 rfl rfl (by simp only [mLen]; omega) ?_
      refine EW.top hkd ?_
      refine EW.tableOut 230 dX9_outcomeOf_103 (by decide +kernel) (by decide) ?_
      refine EW.iload dX9_outcomeOf_230 rfl ?_
      refine EW.ic 1 dX9_outcomeOf_232 ?_
      refine EW.callS (bc := 0) (bs := 0) (M_bit hl _ 0 s _ (nI 1)) mfX9_bit rfl l_X9_175 mvX9_bit (by omega) dX9_outcomeOf_233 rfl rfl (Nat.le_of_ble_eq_true rfl) (fun v233 s233 q233 => ?_) (fun _ _ q => nomatch q.1)
      obtain ⟨e233, h233⟩ := q233; cases e233; replace h233 := h233.symm; subst h233
      refine EW.iload_n dX9_outcomeOf_236 rfl rfl ?_
      refine EW.ic 3 dX9_outcomeOf_237 ?_
      refine EW.callS (bc := 0) (bs := 0) (M_has hl _ 0 s _ (nI 3)) mfX9_has rfl l_X9_171 mvX9_has (by omega) dX9_outcomeOf_238 rfl rfl (Nat.le_of_ble_eq_true rfl) (fun v238 s238 q238 => ?_) (fun _ _ q => nomatch q.1)
      obtain ⟨e238, h238⟩ := q238; cases e238; replace h238 := h238.symm; subst h238
      refine EW.ic 4 dX9_outcomeOf_241 ?_
      refine EW.callS (bc := 0) (bs := 0) (M_bit hl _ 0 s _ (nI 4)) mfX9_bit rfl l_X9_175 mvX9_bit (by omega) dX9_outcomeOf_242 rfl rfl (Nat.le_of_ble_eq_true rfl) (fun v242 s242 q242 => ?_) (fun _ _ q => nomatch q.1)
      obtain ⟨e242, h242⟩ := q242; cases e242; replace h242 := h242.symm; subst h242
      refine EW.ior dX9_outcomeOf_245 ?_
      refine EW.iret rfl dX9_outcomeOf_246 ?_
      refine ⟨?_, rfl⟩; unfold msI; simp only [bt]
    · exact absurd c19 (by decide +kernel)
  · exact absurd c6 (by decide +kernel)
end M7
