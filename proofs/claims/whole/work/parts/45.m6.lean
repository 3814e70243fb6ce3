section M6
variable {cy : Nat → ClassId} {ad : Nat → Nat} {hp0 : Hp} {l : Launch} {D : va_G} {base : Nat}
def mrI (p r : Int32) : Int32 := p &&& r &&& nI 1 ||| (if (¬ p &&& nI 2 = 0 ∧ ¬ r &&& nI 3 = 0) ∨ (¬ p &&& nI 1 = 0 ∧ ¬ r &&& nI 2 = 0) then nI 2 else nI 0) ||| (if ¬ p &&& nI 4 = 0 ∨ (¬ p &&& nI 3 = 0 ∧ ¬ r &&& nI 4 = 0) then nI 4 else nI 0)
theorem hs0 {x : Int32} (h : (if x = 0 then 0 else 1 : Int32) = 0) : x = 0 := by
  split at h
  · assumption
  · exact absurd h (by decide +kernel)
theorem hs1 {x : Int32} (h : ¬ (if x = 0 then 0 else 1 : Int32) = 0) : ¬ x = 0 := by
  split at h
  · exact absurd rfl h
  · assumption
set_option maxHeartbeats 4000000 in
theorem M_row (hl : l.stackTraces = false) {S : Type} (I : S → Hp → Prop) (d : Nat) (s : S) (p r : Int32) : MtW I l D cy base mX9_row (d + 1) 0 0 [.int p, .int r] s (fun o s2 => o = .inl (some (.int (mrI p r))) ∧ s2 = s) := by
  refine MtW.of hl mfX9_row rfl (Nat.le_of_ble_eq_true rfl) ?_
  refine EW.iload_n dX9_row_0 rfl rfl ?_
  refine EW.ic 2 dX9_row_1 ?_
  refine EW.callS (bc := 0) (bs := 0) (M_has hl _ 0 s p (nI 2)) mfX9_has rfl l_X9_171 mvX9_has (by omega) dX9_row_2 rfl rfl (Nat.le_of_ble_eq_true rfl) (fun v2 s2 q2 => ?_) (fun _ _ q => nomatch q.1)
  obtain ⟨e2, h2⟩ := q2; cases e2; replace h2 := h2.symm; subst h2
  refine EW.if_eq 16 dX9_row_5 (by decide) (fun c5 => ?_) (fun c5 => ?_)
  · have c5 := hs0 c5
    refine EW.iload_n dX9_row_16 rfl rfl ?_
    refine EW.ic 1 dX9_row_17 ?_
    refine EW.callS (bc := 0) (bs := 0) (M_has hl _ 0 s p (nI 1)) mfX9_has rfl l_X9_171 mvX9_has (by omega) dX9_row_18 rfl rfl (Nat.le_of_ble_eq_true rfl) (fun v18 s18 q18 => ?_) (fun _ _ q => nomatch q.1)
    obtain ⟨e18, h18⟩ := q18; cases e18; replace h18 := h18.symm; subst h18
    refine EW.if_eq 36 dX9_row_21 (by decide) (fun c21 => ?_) (fun c21 => ?_)
    · have c21 := hs0 c21
      refine EW.ic 0 dX9_row_36 ?_
      refine EW.istore_n dX9_row_37 rfl (by decide) ?_
      refine EW.iload_n dX9_row_38 rfl rfl ?_
      refine EW.ic 4 dX9_row_39 ?_
      refine EW.callS (bc := 0) (bs := 0) (M_has hl _ 0 s p (nI 4)) mfX9_has rfl l_X9_171 mvX9_has (by omega) dX9_row_40 rfl rfl (Nat.le_of_ble_eq_true rfl) (fun v40 s40 q40 => ?_) (fun _ _ q => nomatch q.1)
      obtain ⟨e40, h40⟩ := q40; cases e40; replace h40 := h40.symm; subst h40
      refine EW.if_ne 62 dX9_row_43 (by decide) (fun c43 => ?_) (fun c43 => ?_)
      · have c43 := hs1 c43
        refine EW.ic 1 dX9_row_62 ?_
        refine EW.goto 67 dX9_row_63 (by decide) ?_
        refine EW.istore_n dX9_row_67 rfl (by decide) ?_
        refine EW.iload_n dX9_row_68 rfl rfl ?_
        refine EW.iload_n dX9_row_69 rfl rfl ?_
        refine EW.iand dX9_row_70 ?_
        refine EW.ic 1 dX9_row_71 ?_
        refine EW.iand dX9_row_72 ?_
        refine EW.iload_n dX9_row_73 rfl rfl ?_
        refine EW.ic 2 dX9_row_74 ?_
        refine EW.callS (bc := 0) (bs := 0) (M_bit hl _ 0 s (nI 0) (nI 2)) mfX9_bit rfl l_X9_175 mvX9_bit (by omega) dX9_row_75 rfl rfl (Nat.le_of_ble_eq_true rfl) (fun v75 s75 q75 => ?_) (fun _ _ q => nomatch q.1)
        obtain ⟨e75, h75⟩ := q75; cases e75; replace h75 := h75.symm; subst h75
        refine EW.top (y := nI 0) (by decide +kernel) ?_
        refine EW.ior dX9_row_78 ?_
        refine EW.iload_n dX9_row_79 rfl rfl ?_
        refine EW.ic 4 dX9_row_80 ?_
        refine EW.callS (bc := 0) (bs := 0) (M_bit hl _ 0 s (nI 1) (nI 4)) mfX9_bit rfl l_X9_175 mvX9_bit (by omega) dX9_row_81 rfl rfl (Nat.le_of_ble_eq_true rfl) (fun v81 s81 q81 => ?_) (fun _ _ q => nomatch q.1)
        obtain ⟨e81, h81⟩ := q81; cases e81; replace h81 := h81.symm; subst h81
        refine EW.top (y := nI 4) (by decide +kernel) ?_
        refine EW.ior dX9_row_84 ?_
        refine EW.iret rfl dX9_row_85 ?_
        refine ⟨?_, rfl⟩; unfold mrI; simp only [*, not_true_eq_false, not_false_eq_true, and_true, true_and, and_false, false_and, or_true, true_or, or_false, false_or, if_true, if_false, and_self, or_self]
      · have c43 := hs0 c43
        refine EW.iload_n dX9_row_46 rfl rfl ?_
        refine EW.ic 3 dX9_row_47 ?_
        refine EW.callS (bc := 0) (bs := 0) (M_has hl _ 0 s p (nI 3)) mfX9_has rfl l_X9_171 mvX9_has (by omega) dX9_row_48 rfl rfl (Nat.le_of_ble_eq_true rfl) (fun v48 s48 q48 => ?_) (fun _ _ q => nomatch q.1)
        obtain ⟨e48, h48⟩ := q48; cases e48; replace h48 := h48.symm; subst h48
        refine EW.if_eq 66 dX9_row_51 (by decide) (fun c51 => ?_) (fun c51 => ?_)
        · have c51 := hs0 c51
          refine EW.ic 0 dX9_row_66 ?_
          refine EW.istore_n dX9_row_67 rfl (by decide) ?_
          refine EW.iload_n dX9_row_68 rfl rfl ?_
          refine EW.iload_n dX9_row_69 rfl rfl ?_
          refine EW.iand dX9_row_70 ?_
          refine EW.ic 1 dX9_row_71 ?_
          refine EW.iand dX9_row_72 ?_
          refine EW.iload_n dX9_row_73 rfl rfl ?_
          refine EW.ic 2 dX9_row_74 ?_
          refine EW.callS (bc := 0) (bs := 0) (M_bit hl _ 0 s (nI 0) (nI 2)) mfX9_bit rfl l_X9_175 mvX9_bit (by omega) dX9_row_75 rfl rfl (Nat.le_of_ble_eq_true rfl) (fun v75 s75 q75 => ?_) (fun _ _ q => nomatch q.1)
          obtain ⟨e75, h75⟩ := q75; cases e75; replace h75 := h75.symm; subst h75
          refine EW.top (y := nI 0) (by decide +kernel) ?_
          refine EW.ior dX9_row_78 ?_
          refine EW.iload_n dX9_row_79 rfl rfl ?_
          refine EW.ic 4 dX9_row_80 ?_
          refine EW.callS (bc := 0) (bs := 0) (M_bit hl _ 0 s (nI 0) (nI 4)) mfX9_bit rfl l_X9_175 mvX9_bit (by omega) dX9_row_81 rfl rfl (Nat.le_of_ble_eq_true rfl) (fun v81 s81 q81 => ?_) (fun _ _ q => nomatch q.1)
          obtain ⟨e81, h81⟩ := q81; cases e81; replace h81 := h81.symm; subst h81
          refine EW.top (y := nI 0) (by decide +kernel) ?_
          refine EW.ior dX9_row_84 ?_
          refine EW.iret rfl dX9_row_85 ?_
          refine ⟨?_, rfl⟩; unfold mrI; simp only [*, not_true_eq_false, not_false_eq_true, and_true, true_and, and_false, false_and, or_true, true_or, or_false, false_or, if_true, if_false, and_self, or_self]
        · have c51 := hs1 c51
          refine EW.iload_n dX9_row_54 rfl rfl ?_
          refine EW.ic 4 dX9_row_55 ?_
          refine EW.callS (bc := 0) (bs := 0) (M_has hl _ 0 s r (nI 4)) mfX9_has rfl l_X9_171 mvX9_has (by omega) dX9_row_56 rfl rfl (Nat.le_of_ble_eq_true rfl) (fun v56 s56 q56 => ?_) (fun _ _ q => nomatch q.1)
          obtain ⟨e56, h56⟩ := q56; cases e56; replace h56 := h56.symm; subst h56
          refine EW.if_eq 66 dX9_row_59 (by decide) (fun c59 => ?_) (fun c59 => ?_)
          · have c59 := hs0 c59
            refine EW.ic 0 dX9_row_66 ?_
            refine EW.istore_n dX9_row_67 rfl (by decide) ?_
            refine EW.iload_n dX9_row_68 rfl rfl ?_
            refine EW.iload_n dX9_row_69 rfl rfl ?_
            refine EW.iand dX9_row_70 ?_
            refine EW.ic 1 dX9_row_71 ?_
            refine EW.iand dX9_row_72 ?_
            refine EW.iload_n dX9_row_73 rfl rfl ?_
            refine EW.ic 2 dX9_row_74 ?_
            refine EW.callS (bc := 0) (bs := 0) (M_bit hl _ 0 s (nI 0) (nI 2)) mfX9_bit rfl l_X9_175 mvX9_bit (by omega) dX9_row_75 rfl rfl (Nat.le_of_ble_eq_true rfl) (fun v75 s75 q75 => ?_) (fun _ _ q => nomatch q.1)
            obtain ⟨e75, h75⟩ := q75; cases e75; replace h75 := h75.symm; subst h75
            refine EW.top (y := nI 0) (by decide +kernel) ?_
            refine EW.ior dX9_row_78 ?_
            refine EW.iload_n dX9_row_79 rfl rfl ?_
            refine EW.ic 4 dX9_row_80 ?_
            refine EW.callS (bc := 0) (bs := 0) (M_bit hl _ 0 s (nI 0) (nI 4)) mfX9_bit rfl l_X9_175 mvX9_bit (by omega) dX9_row_81 rfl rfl (Nat.le_of_ble_eq_true rfl) (fun v81 s81 q81 => ?_) (fun _ _ q => nomatch q.1)
            obtain ⟨e81, h81⟩ := q81; cases e81; replace h81 := h81.symm; subst h81
            refine EW.top (y := nI 0) (by decide +kernel) ?_
            refine EW.ior dX9_row_84 ?_
            refine EW.iret rfl dX9_row_85 ?_
            refine ⟨?_, rfl⟩; unfold mrI; simp only [*, not_true_eq_false, not_false_eq_true, and_true, true_and, and_false, false_and, or_true, true_or, or_false, false_or, if_true, if_false, and_self, or_self]
          · have c59 := hs1 c59
            refine EW.ic 1 dX9_row_62 ?_
            refine EW.goto 67 dX9_row_63 (by decide) ?_
            refine EW.istore_n dX9_row_67 rfl (by decide) ?_
            refine EW.iload_n dX9_row_68 rfl rfl ?_
            refine EW.iload_n dX9_row_69 rfl rfl ?_
            refine EW.iand dX9_row_70 ?_
            refine EW.ic 1 dX9_row_71 ?_
            refine EW.iand dX9_row_72 ?_
            refine EW.iload_n dX9_row_73 rfl rfl ?_
            refine EW.ic 2 dX9_row_74 ?_
            refine EW.callS (bc := 0) (bs := 0) (M_bit hl _ 0 s (nI 0) (nI 2)) mfX9_bit rfl l_X9_175 mvX9_bit (by omega) dX9_row_75 rfl rfl (Nat.le_of_ble_eq_true rfl) (fun v75 s75 q75 => ?_) (fun _ _ q => nomatch q.1)
            obtain ⟨e75, h75⟩ := q75; cases e75; replace h75 := h75.symm; subst h75
            refine EW.top (y := nI 0) (by decide +kernel) ?_
            refine EW.ior dX9_row_78 ?_
            refine EW.iload_n dX9_row_79 rfl rfl ?_
            refine EW.ic 4 dX9_row_80 ?_
            refine EW.callS (bc := 0) (bs := 0) (M_bit hl _ 0 s (nI 1) (nI 4)) mfX9_bit rfl l_X9_175 mvX9_bit (by omega) dX9_row_81 rfl rfl (Nat.le_of_ble_eq_true rfl) (fun v81 s81 q81 => ?_) (fun _ _ q => nomatch q.1)
            obtain ⟨e81, h81⟩ := q81; cases e81; replace h81 := h81.symm; subst h81
            refine EW.top (y := nI 4) (by decide +kernel) ?_
            refine EW.ior dX9_row_84 ?_
            refine EW.iret rfl dX9_row_85 ?_
            refine ⟨?_, rfl⟩; unfold mrI; simp only [*, not_true_eq_false, not_false_eq_true, and_true, true_and, and_false, false_and, or_true, true_or, or_false, false_or, if_true, if_false, and_self, or_self]
    · have c21 := hs1 c21
      refine EW.iload_n dX9_row_24 rfl rfl ?_
      refine EW.ic 2 dX9_row_25 ?_
      refine EW.callS (bc := 0) (bs := 0) (M_has hl _ 0 s r (nI 2)) mfX9_has rfl l_X9_171 mvX9_has (by omega) dX9_row_26 rfl rfl (Nat.le_of_ble_eq_true rfl) (fun v26 s26 q26 => ?_) (fun _ _ q => nomatch q.1)
      obtain ⟨e26, h26⟩ := q26; cases e26; replace h26 := h26.symm; subst h26
      refine EW.if_eq 36 dX9_row_29 (by decide) (fun c29 => ?_) (fun c29 => ?_)
      · have c29 := hs0 c29
        refine EW.ic 0 dX9_row_36 ?_
        refine EW.istore_n dX9_row_37 rfl (by decide) ?_
        refine EW.iload_n dX9_row_38 rfl rfl ?_
        refine EW.ic 4 dX9_row_39 ?_
        refine EW.callS (bc := 0) (bs := 0) (M_has hl _ 0 s p (nI 4)) mfX9_has rfl l_X9_171 mvX9_has (by omega) dX9_row_40 rfl rfl (Nat.le_of_ble_eq_true rfl) (fun v40 s40 q40 => ?_) (fun _ _ q => nomatch q.1)
        obtain ⟨e40, h40⟩ := q40; cases e40; replace h40 := h40.symm; subst h40
        refine EW.if_ne 62 dX9_row_43 (by decide) (fun c43 => ?_) (fun c43 => ?_)
        · have c43 := hs1 c43
          refine EW.ic 1 dX9_row_62 ?_
          refine EW.goto 67 dX9_row_63 (by decide) ?_
          refine EW.istore_n dX9_row_67 rfl (by decide) ?_
          refine EW.iload_n dX9_row_68 rfl rfl ?_
          refine EW.iload_n dX9_row_69 rfl rfl ?_
          refine EW.iand dX9_row_70 ?_
          refine EW.ic 1 dX9_row_71 ?_
          refine EW.iand dX9_row_72 ?_
          refine EW.iload_n dX9_row_73 rfl rfl ?_
          refine EW.ic 2 dX9_row_74 ?_
          refine EW.callS (bc := 0) (bs := 0) (M_bit hl _ 0 s (nI 0) (nI 2)) mfX9_bit rfl l_X9_175 mvX9_bit (by omega) dX9_row_75 rfl rfl (Nat.le_of_ble_eq_true rfl) (fun v75 s75 q75 => ?_) (fun _ _ q => nomatch q.1)
          obtain ⟨e75, h75⟩ := q75; cases e75; replace h75 := h75.symm; subst h75
          refine EW.top (y := nI 0) (by decide +kernel) ?_
          refine EW.ior dX9_row_78 ?_
          refine EW.iload_n dX9_row_79 rfl rfl ?_
          refine EW.ic 4 dX9_row_80 ?_
          refine EW.callS (bc := 0) (bs := 0) (M_bit hl _ 0 s (nI 1) (nI 4)) mfX9_bit rfl l_X9_175 mvX9_bit (by omega) dX9_row_81 rfl rfl (Nat.le_of_ble_eq_true rfl) (fun v81 s81 q81 => ?_) (fun _ _ q => nomatch q.1)
          obtain ⟨e81, h81⟩ := q81; cases e81; replace h81 := h81.symm; subst h81
          refine EW.top (y := nI 4) (by decide +kernel) ?_
          refine EW.ior dX9_row_84 ?_
          refine EW.iret rfl dX9_row_85 ?_
          refine ⟨?_, rfl⟩; unfold mrI; simp only [*, not_true_eq_false, not_false_eq_true, and_true, true_and, and_false, false_and, or_true, true_or, or_false, false_or, if_true, if_false, and_self, or_self]
        · have c43 := hs0 c43
          refine EW.iload_n dX9_row_46 rfl rfl ?_
          refine EW.ic 3 dX9_row_47 ?_
          refine EW.callS (bc := 0) (bs := 0) (M_has hl _ 0 s p (nI 3)) mfX9_has rfl l_X9_171 mvX9_has (by omega) dX9_row_48 rfl rfl (Nat.le_of_ble_eq_true rfl) (fun v48 s48 q48 => ?_) (fun _ _ q => nomatch q.1)
          obtain ⟨e48, h48⟩ := q48; cases e48; replace h48 := h48.symm; subst h48
          refine EW.if_eq 66 dX9_row_51 (by decide) (fun c51 => ?_) (fun c51 => ?_)
          · have c51 := hs0 c51
            refine EW.ic 0 dX9_row_66 ?_
            refine EW.istore_n dX9_row_67 rfl (by decide) ?_
            refine EW.iload_n dX9_row_68 rfl rfl ?_
            refine EW.iload_n dX9_row_69 rfl rfl ?_
            refine EW.iand dX9_row_70 ?_
            refine EW.ic 1 dX9_row_71 ?_
            refine EW.iand dX9_row_72 ?_
            refine EW.iload_n dX9_row_73 rfl rfl ?_
            refine EW.ic 2 dX9_row_74 ?_
            refine EW.callS (bc := 0) (bs := 0) (M_bit hl _ 0 s (nI 0) (nI 2)) mfX9_bit rfl l_X9_175 mvX9_bit (by omega) dX9_row_75 rfl rfl (Nat.le_of_ble_eq_true rfl) (fun v75 s75 q75 => ?_) (fun _ _ q => nomatch q.1)
            obtain ⟨e75, h75⟩ := q75; cases e75; replace h75 := h75.symm; subst h75
            refine EW.top (y := nI 0) (by decide +kernel) ?_
            refine EW.ior dX9_row_78 ?_
            refine EW.iload_n dX9_row_79 rfl rfl ?_
            refine EW.ic 4 dX9_row_80 ?_
            refine EW.callS (bc := 0) (bs := 0) (M_bit hl _ 0 s (nI 0) (nI 4)) mfX9_bit rfl l_X9_175 mvX9_bit (by omega) dX9_row_81 rfl rfl (Nat.le_of_ble_eq_true rfl) (fun v81 s81 q81 => ?_) (fun _ _ q => nomatch q.1)
            obtain ⟨e81, h81⟩ := q81; cases e81; replace h81 := h81.symm; subst h81
            refine EW.top (y := nI 0) (by decide +kernel) ?_
            refine EW.ior dX9_row_84 ?_
            refine EW.iret rfl dX9_row_85 ?_
            refine ⟨?_, rfl⟩; unfold mrI; simp only [*, not_true_eq_false, not_false_eq_true, and_true, true_and, and_false, false_and, or_true, true_or, or_false, false_or, if_true, if_false, and_self, or_self]
          · have c51 := hs1 c51
            refine EW.iload_n dX9_row_54 rfl rfl ?_
            refine EW.ic 4 dX9_row_55 ?_
            refine EW.callS (bc := 0) (bs := 0) (M_has hl _ 0 s r (nI 4)) mfX9_has rfl l_X9_171 mvX9_has (by omega) dX9_row_56 rfl rfl (Nat.le_of_ble_eq_true rfl) (fun v56 s56 q56 => ?_) (fun _ _ q => nomatch q.1)
            obtain ⟨e56, h56⟩ := q56; cases e56; replace h56 := h56.symm; subst h56
            refine EW.if_eq 66 dX9_row_59 (by decide) (fun c59 => ?_) (fun c59 => ?_)
            · have c59 := hs0 c59
              refine EW.ic 0 dX9_row_66 ?_
              refine EW.istore_n dX9_row_67 rfl (by decide) ?_
              refine EW.iload_n dX9_row_68 rfl rfl ?_
              refine EW.iload_n dX9_row_69 rfl rfl ?_
              refine EW.iand dX9_row_70 ?_
              refine EW.ic 1 dX9_row_71 ?_
              refine EW.iand dX9_row_72 ?_
              refine EW.iload_n dX9_row_73 rfl rfl ?_
              refine EW.ic 2 dX9_row_74 ?_
              refine EW.callS (bc := 0) (bs := 0) (M_bit hl _ 0 s (nI 0) (nI 2)) mfX9_bit rfl l_X9_175 mvX9_bit (by omega) dX9_row_75 rfl rfl (Nat.le_of_ble_eq_true rfl) (fun v75 s75 q75 => ?_) (fun _ _ q => nomatch q.1)
              obtain ⟨e75, h75⟩ := q75; cases e75; replace h75 := h75.symm; subst h75
              refine EW.top (y := nI 0) (by decide +kernel) ?_
              refine EW.ior dX9_row_78 ?_
              refine EW.iload_n dX9_row_79 rfl rfl ?_
              refine EW.ic 4 dX9_row_80 ?_
              refine EW.callS (bc := 0) (bs := 0) (M_bit hl _ 0 s (nI 0) (nI 4)) mfX9_bit rfl l_X9_175 mvX9_bit (by omega) dX9_row_81 rfl rfl (Nat.le_of_ble_eq_true rfl) (fun v81 s81 q81 => ?_) (fun _ _ q => nomatch q.1)
              obtain ⟨e81, h81⟩ := q81; cases e81; replace h81 := h81.symm; subst h81
              refine EW.top (y := nI 0) (by decide +kernel) ?_
              refine EW.ior dX9_row_84 ?_
              refine EW.iret rfl dX9_row_85 ?_
              refine ⟨?_, rfl⟩; unfold mrI; simp only [*, not_true_eq_false, not_false_eq_true, and_true, true_and, and_false, false_and, or_true, true_or, or_false, false_or, if_true, if_false, and_self, or_self]
            · have c59 := hs1 c59
              refine EW.ic 1 dX9_row_62 ?_
              refine EW.goto 67 dX9_row_63 (by decide) ?_
              refine EW.istore_n dX9_row_67 rfl (by decide) ?_
              refine EW.iload_n dX9_row_68 rfl rfl ?_
              refine EW.iload_n dX9_row_69 rfl rfl ?_
              refine EW.iand dX9_row_70 ?_
              refine EW.ic 1 dX9_row_71 ?_
              refine EW.iand dX9_row_72 ?_
              refine EW.iload_n dX9_row_73 rfl rfl ?_
              refine EW.ic 2 dX9_row_74 ?_
              refine EW.callS (bc := 0) (bs := 0) (M_bit hl _ 0 s (nI 0) (nI 2)) mfX9_bit rfl l_X9_175 mvX9_bit (by omega) dX9_row_75 rfl rfl (Nat.le_of_ble_eq_true rfl) (fun v75 s75 q75 => ?_) (fun _ _ q => nomatch q.1)
              obtain ⟨e75, h75⟩ := q75; cases e75; replace h75 := h75.symm; subst h75
              refine EW.top (y := nI 0) (by decide +kernel) ?_
              refine EW.ior dX9_row_78 ?_
              refine EW.iload_n dX9_row_79 rfl rfl ?_
              refine EW.ic 4 dX9_row_80 ?_
              refine EW.callS (bc := 0) (bs := 0) (M_bit hl _ 0 s (nI 1) (nI 4)) mfX9_bit rfl l_X9_175 mvX9_bit (by omega) dX9_row_81 rfl rfl (Nat.le_of_ble_eq_true rfl) (fun v81 s81 q81 => ?_) (fun _ _ q => nomatch q.1)
              obtain ⟨e81, h81⟩ := q81; cases e81; replace h81 := h81.symm; subst h81
              refine EW.top (y := nI 4) (by decide +kernel) ?_
              refine EW.ior dX9_row_84 ?_
              refine EW.iret rfl dX9_row_85 ?_
              refine ⟨?_, rfl⟩; unfold mrI; simp only [*, not_true_eq_false, not_false_eq_true, and_true, true_and, and_false, false_and, or_true, true_or, or_false, false_or, if_true, if_false, and_self, or_self]
      · have c29 := hs1 c29
        refine EW.ic 1 dX9_row_32 ?_
        refine EW.goto 37 dX9_row_33 (by decide) ?_
        refine EW.istore_n dX9_row_37 rfl (by decide) ?_
        refine EW.iload_n dX9_row_38 rfl rfl ?_
        refine EW.ic 4 dX9_row_39 ?_
        refine EW.callS (bc := 0) (bs := 0) (M_has hl _ 0 s p (nI 4)) mfX9_has rfl l_X9_171 mvX9_has (by omega) dX9_row_40 rfl rfl (Nat.le_of_ble_eq_true rfl) (fun v40 s40 q40 => ?_) (fun _ _ q => nomatch q.1)
        obtain ⟨e40, h40⟩ := q40; cases e40; replace h40 := h40.symm; subst h40
        refine EW.if_ne 62 dX9_row_43 (by decide) (fun c43 => ?_) (fun c43 => ?_)
        · have c43 := hs1 c43
          refine EW.ic 1 dX9_row_62 ?_
          refine EW.goto 67 dX9_row_63 (by decide) ?_
          refine EW.istore_n dX9_row_67 rfl (by decide) ?_
          refine EW.iload_n dX9_row_68 rfl rfl ?_
          refine EW.iload_n dX9_row_69 rfl rfl ?_
          refine EW.iand dX9_row_70 ?_
          refine EW.ic 1 dX9_row_71 ?_
          refine EW.iand dX9_row_72 ?_
          refine EW.iload_n dX9_row_73 rfl rfl ?_
          refine EW.ic 2 dX9_row_74 ?_
          refine EW.callS (bc := 0) (bs := 0) (M_bit hl _ 0 s (nI 1) (nI 2)) mfX9_bit rfl l_X9_175 mvX9_bit (by omega) dX9_row_75 rfl rfl (Nat.le_of_ble_eq_true rfl) (fun v75 s75 q75 => ?_) (fun _ _ q => nomatch q.1)
          obtain ⟨e75, h75⟩ := q75; cases e75; replace h75 := h75.symm; subst h75
          refine EW.top (y := nI 2) (by decide +kernel) ?_
          refine EW.ior dX9_row_78 ?_
          refine EW.iload_n dX9_row_79 rfl rfl ?_
          refine EW.ic 4 dX9_row_80 ?_
          refine EW.callS (bc := 0) (bs := 0) (M_bit hl _ 0 s (nI 1) (nI 4)) mfX9_bit rfl l_X9_175 mvX9_bit (by omega) dX9_row_81 rfl rfl (Nat.le_of_ble_eq_true rfl) (fun v81 s81 q81 => ?_) (fun _ _ q => nomatch q.1)
          obtain ⟨e81, h81⟩ := q81; cases e81; replace h81 := h81.symm; subst h81
          refine EW.top (y := nI 4) (by decide +kernel) ?_
          refine EW.ior dX9_row_84 ?_
          refine EW.iret rfl dX9_row_85 ?_
          refine ⟨?_, rfl⟩; unfold mrI; simp only [*, not_true_eq_false, not_false_eq_true, and_true, true_and, and_false, false_and, or_true, true_or, or_false, false_or, if_true, if_false, and_self, or_self]
        · have c43 := hs0 c43
          refine EW.iload_n dX9_row_46 rfl rfl ?_
          refine EW.ic 3 dX9_row_47 ?_
          refine EW.callS (bc := 0) (bs := 0) (M_has hl _ 0 s p (nI 3)) mfX9_has rfl l_X9_171 mvX9_has (by omega) dX9_row_48 rfl rfl (Nat.le_of_ble_eq_true rfl) (fun v48 s48 q48 => ?_) (fun _ _ q => nomatch q.1)
          obtain ⟨e48, h48⟩ := q48; cases e48; replace h48 := h48.symm; subst h48
          refine EW.if_eq 66 dX9_row_51 (by decide) (fun c51 => ?_) (fun c51 => ?_)
          · have c51 := hs0 c51
            refine EW.ic 0 dX9_row_66 ?_
            refine EW.istore_n dX9_row_67 rfl (by decide) ?_
            refine EW.iload_n dX9_row_68 rfl rfl ?_
            refine EW.iload_n dX9_row_69 rfl rfl ?_
            refine EW.iand dX9_row_70 ?_
            refine EW.ic 1 dX9_row_71 ?_
            refine EW.iand dX9_row_72 ?_
            refine EW.iload_n dX9_row_73 rfl rfl ?_
            refine EW.ic 2 dX9_row_74 ?_
            refine EW.callS (bc := 0) (bs := 0) (M_bit hl _ 0 s (nI 1) (nI 2)) mfX9_bit rfl l_X9_175 mvX9_bit (by omega) dX9_row_75 rfl rfl (Nat.le_of_ble_eq_true rfl) (fun v75 s75 q75 => ?_) (fun _ _ q => nomatch q.1)
            obtain ⟨e75, h75⟩ := q75; cases e75; replace h75 := h75.symm; subst h75
            refine EW.top (y := nI 2) (by decide +kernel) ?_
            refine EW.ior dX9_row_78 ?_
            refine EW.iload_n dX9_row_79 rfl rfl ?_
            refine EW.ic 4 dX9_row_80 ?_
            refine EW.callS (bc := 0) (bs := 0) (M_bit hl _ 0 s (nI 0) (nI 4)) mfX9_bit rfl l_X9_175 mvX9_bit (by omega) dX9_row_81 rfl rfl (Nat.le_of_ble_eq_true rfl) (fun v81 s81 q81 => ?_) (fun _ _ q => nomatch q.1)
            obtain ⟨e81, h81⟩ := q81; cases e81; replace h81 := h81.symm; subst h81
            refine EW.top (y := nI 0) (by decide +kernel) ?_
            refine EW.ior dX9_row_84 ?_
            refine EW.iret rfl dX9_row_85 ?_
            refine ⟨?_, rfl⟩; unfold mrI; simp only [*, not_true_eq_false, not_false_eq_true, and_true, true_and, and_false, false_and, or_true, true_or, or_false, false_or, if_true, if_false, and_self, or_self]
          · have c51 := hs1 c51
            refine EW.iload_n dX9_row_54 rfl rfl ?_
            refine EW.ic 4 dX9_row_55 ?_
            refine EW.callS (bc := 0) (bs := 0) (M_has hl _ 0 s r (nI 4)) mfX9_has rfl l_X9_171 mvX9_has (by omega) dX9_row_56 rfl rfl (Nat.le_of_ble_eq_true rfl) (fun v56 s56 q56 => ?_) (fun _ _ q => nomatch q.1)
            obtain ⟨e56, h56⟩ := q56; cases e56; replace h56 := h56.symm; subst h56
            refine EW.if_eq 66 dX9_row_59 (by decide) (fun c59 => ?_) (fun c59 => ?_)
            · have c59 := hs0 c59
              refine EW.ic 0 dX9_row_66 ?_
              refine EW.istore_n dX9_row_67 rfl (by decide) ?_
              refine EW.iload_n dX9_row_68 rfl rfl ?_
              refine EW.iload_n dX9_row_69 rfl rfl ?_
              refine EW.iand dX9_row_70 ?_
              refine EW.ic 1 dX9_row_71 ?_
              refine EW.iand dX9_row_72 ?_
              refine EW.iload_n dX9_row_73 rfl rfl ?_
              refine EW.ic 2 dX9_row_74 ?_
              refine EW.callS (bc := 0) (bs := 0) (M_bit hl _ 0 s (nI 1) (nI 2)) mfX9_bit rfl l_X9_175 mvX9_bit (by omega) dX9_row_75 rfl rfl (Nat.le_of_ble_eq_true rfl) (fun v75 s75 q75 => ?_) (fun _ _ q => nomatch q.1)
              obtain ⟨e75, h75⟩ := q75; cases e75; replace h75 := h75.symm; subst h75
              refine EW.top (y := nI 2) (by decide +kernel) ?_
              refine EW.ior dX9_row_78 ?_
              refine EW.iload_n dX9_row_79 rfl rfl ?_
              refine EW.ic 4 dX9_row_80 ?_
              refine EW.callS (bc := 0) (bs := 0) (M_bit hl _ 0 s (nI 0) (nI 4)) mfX9_bit rfl l_X9_175 mvX9_bit (by omega) dX9_row_81 rfl rfl (Nat.le_of_ble_eq_true rfl) (fun v81 s81 q81 => ?_) (fun _ _ q => nomatch q.1)
              obtain ⟨e81, h81⟩ := q81; cases e81; replace h81 := h81.symm; subst h81
              refine EW.top (y := nI 0) (by decide +kernel) ?_
              refine EW.ior dX9_row_84 ?_
              refine EW.iret rfl dX9_row_85 ?_
              refine ⟨?_, rfl⟩; unfold mrI; simp only [*, not_true_eq_false, not_false_eq_true, and_true, true_and, and_false, false_and, or_true, true_or, or_false, false_or, if_true, if_false, and_self, or_self]
            · have c59 := hs1 c59
              refine EW.ic 1 dX9_row_62 ?_
              refine EW.goto 67 dX9_row_63 (by decide) ?_
              refine EW.istore_n dX9_row_67 rfl (by decide) ?_
              refine EW.iload_n dX9_row_68 rfl rfl ?_
              refine EW.iload_n dX9_row_69 rfl rfl ?_
              refine EW.iand dX9_row_70 ?_
              refine EW.ic 1 dX9_row_71 ?_
              refine EW.iand dX9_row_72 ?_
              refine EW.iload_n dX9_row_73 rfl rfl ?_
              refine EW.ic 2 dX9_row_74 ?_
              refine EW.callS (bc := 0) (bs := 0) (M_bit hl _ 0 s (nI 1) (nI 2)) mfX9_bit rfl l_X9_175 mvX9_bit (by omega) dX9_row_75 rfl rfl (Nat.le_of_ble_eq_true rfl) (fun v75 s75 q75 => ?_) (fun _ _ q => nomatch q.1)
              obtain ⟨e75, h75⟩ := q75; cases e75; replace h75 := h75.symm; subst h75
              refine EW.top (y := nI 2) (by decide +kernel) ?_
              refine EW.ior dX9_row_78 ?_
              refine EW.iload_n dX9_row_79 rfl rfl ?_
              refine EW.ic 4 dX9_row_80 ?_
              refine EW.callS (bc := 0) (bs := 0) (M_bit hl _ 0 s (nI 1) (nI 4)) mfX9_bit rfl l_X9_175 mvX9_bit (by omega) dX9_row_81 rfl rfl (Nat.le_of_ble_eq_true rfl) (fun v81 s81 q81 => ?_) (fun _ _ q => nomatch q.1)
              obtain ⟨e81, h81⟩ := q81; cases e81; replace h81 := h81.symm; subst h81
              refine EW.top (y := nI 4) (by decide +kernel) ?_
              refine EW.ior dX9_row_84 ?_
              refine EW.iret rfl dX9_row_85 ?_
              refine ⟨?_, rfl⟩; unfold mrI; simp only [*, not_true_eq_false, not_false_eq_true, and_true, true_and, and_false, false_and, or_true, true_or, or_false, false_or, if_true, if_false, and_self, or_self]
  · have c5 := hs1 c5
    refine EW.iload_n dX9_row_8 rfl rfl ?_
    refine EW.ic 3 dX9_row_9 ?_
    refine EW.callS (bc := 0) (bs := 0) (M_has hl _ 0 s r (nI 3)) mfX9_has rfl l_X9_171 mvX9_has (by omega) dX9_row_10 rfl rfl (Nat.le_of_ble_eq_true rfl) (fun v10 s10 q10 => ?_) (fun _ _ q => nomatch q.1)
    obtain ⟨e10, h10⟩ := q10; cases e10; replace h10 := h10.symm; subst h10
    refine EW.if_ne 32 dX9_row_13 (by decide) (fun c13 => ?_) (fun c13 => ?_)
    · have c13 := hs1 c13
      refine EW.ic 1 dX9_row_32 ?_
      refine EW.goto 37 dX9_row_33 (by decide) ?_
      refine EW.istore_n dX9_row_37 rfl (by decide) ?_
      refine EW.iload_n dX9_row_38 rfl rfl ?_
      refine EW.ic 4 dX9_row_39 ?_
      refine EW.callS (bc := 0) (bs := 0) (M_has hl _ 0 s p (nI 4)) mfX9_has rfl l_X9_171 mvX9_has (by omega) dX9_row_40 rfl rfl (Nat.le_of_ble_eq_true rfl) (fun v40 s40 q40 => ?_) (fun _ _ q => nomatch q.1)
      obtain ⟨e40, h40⟩ := q40; cases e40; replace h40 := h40.symm; subst h40
      refine EW.if_ne 62 dX9_row_43 (by decide) (fun c43 => ?_) (fun c43 => ?_)
      · have c43 := hs1 c43
        refine EW.ic 1 dX9_row_62 ?_
        refine EW.goto 67 dX9_row_63 (by decide) ?_
        refine EW.istore_n dX9_row_67 rfl (by decide) ?_
        refine EW.iload_n dX9_row_68 rfl rfl ?_
        refine EW.iload_n dX9_row_69 rfl rfl ?_
        refine EW.iand dX9_row_70 ?_
        refine EW.ic 1 dX9_row_71 ?_
        refine EW.iand dX9_row_72 ?_
        refine EW.iload_n dX9_row_73 rfl rfl ?_
        refine EW.ic 2 dX9_row_74 ?_
        refine EW.callS (bc := 0) (bs := 0) (M_bit hl _ 0 s (nI 1) (nI 2)) mfX9_bit rfl l_X9_175 mvX9_bit (by omega) dX9_row_75 rfl rfl (Nat.le_of_ble_eq_true rfl) (fun v75 s75 q75 => ?_) (fun _ _ q => nomatch q.1)
        obtain ⟨e75, h75⟩ := q75; cases e75; replace h75 := h75.symm; subst h75
        refine EW.top (y := nI 2) (by decide +kernel) ?_
        refine EW.ior dX9_row_78 ?_
        refine EW.iload_n dX9_row_79 rfl rfl ?_
        refine EW.ic 4 dX9_row_80 ?_
        refine EW.callS (bc := 0) (bs := 0) (M_bit hl _ 0 s (nI 1) (nI 4)) mfX9_bit rfl l_X9_175 mvX9_bit (by omega) dX9_row_81 rfl rfl (Nat.le_of_ble_eq_true rfl) (fun v81 s81 q81 => ?_) (fun _ _ q => nomatch q.1)
        obtain ⟨e81, h81⟩ := q81; cases e81; replace h81 := h81.symm; subst h81
        refine EW.top (y := nI 4) (by decide +kernel) ?_
        refine EW.ior dX9_row_84 ?_
        refine EW.iret rfl dX9_row_85 ?_
        refine ⟨?_, rfl⟩; unfold mrI; simp only [*, not_true_eq_false, not_false_eq_true, and_true, true_and, and_false, false_and, or_true, true_or, or_false, false_or, if_true, if_false, and_self, or_self]
      · have c43 := hs0 c43
        refine EW.iload_n dX9_row_46 rfl rfl ?_
        refine EW.ic 3 dX9_row_47 ?_
        refine EW.callS (bc := 0) (bs := 0) (M_has hl _ 0 s p (nI 3)) mfX9_has rfl l_X9_171 mvX9_has (by omega) dX9_row_48 rfl rfl (Nat.le_of_ble_eq_true rfl) (fun v48 s48 q48 => ?_) (fun _ _ q => nomatch q.1)
        obtain ⟨e48, h48⟩ := q48; cases e48; replace h48 := h48.symm; subst h48
        refine EW.if_eq 66 dX9_row_51 (by decide) (fun c51 => ?_) (fun c51 => ?_)
        · have c51 := hs0 c51
          refine EW.ic 0 dX9_row_66 ?_
          refine EW.istore_n dX9_row_67 rfl (by decide) ?_
          refine EW.iload_n dX9_row_68 rfl rfl ?_
          refine EW.iload_n dX9_row_69 rfl rfl ?_
          refine EW.iand dX9_row_70 ?_
          refine EW.ic 1 dX9_row_71 ?_
          refine EW.iand dX9_row_72 ?_
          refine EW.iload_n dX9_row_73 rfl rfl ?_
          refine EW.ic 2 dX9_row_74 ?_
          refine EW.callS (bc := 0) (bs := 0) (M_bit hl _ 0 s (nI 1) (nI 2)) mfX9_bit rfl l_X9_175 mvX9_bit (by omega) dX9_row_75 rfl rfl (Nat.le_of_ble_eq_true rfl) (fun v75 s75 q75 => ?_) (fun _ _ q => nomatch q.1)
          obtain ⟨e75, h75⟩ := q75; cases e75; replace h75 := h75.symm; subst h75
          refine EW.top (y := nI 2) (by decide +kernel) ?_
          refine EW.ior dX9_row_78 ?_
          refine EW.iload_n dX9_row_79 rfl rfl ?_
          refine EW.ic 4 dX9_row_80 ?_
          refine EW.callS (bc := 0) (bs := 0) (M_bit hl _ 0 s (nI 0) (nI 4)) mfX9_bit rfl l_X9_175 mvX9_bit (by omega) dX9_row_81 rfl rfl (Nat.le_of_ble_eq_true rfl) (fun v81 s81 q81 => ?_) (fun _ _ q => nomatch q.1)
          obtain ⟨e81, h81⟩ := q81; cases e81; replace h81 := h81.symm; subst h81
          refine EW.top (y := nI 0) (by decide +kernel) ?_
          refine EW.ior dX9_row_84 ?_
          refine EW.iret rfl dX9_row_85 ?_
          refine ⟨?_, rfl⟩; unfold mrI; simp only [*, not_true_eq_false, not_false_eq_true, and_true, true_and, and_false, false_and, or_true, true_or, or_false, false_or, if_true, if_false, and_self, or_self]
        · have c51 := hs1 c51
          refine EW.iload_n dX9_row_54 rfl rfl ?_
          refine EW.ic 4 dX9_row_55 ?_
          refine EW.callS (bc := 0) (bs := 0) (M_has hl _ 0 s r (nI 4)) mfX9_has rfl l_X9_171 mvX9_has (by omega) dX9_row_56 rfl rfl (Nat.le_of_ble_eq_true rfl) (fun v56 s56 q56 => ?_) (fun _ _ q => nomatch q.1)
          obtain ⟨e56, h56⟩ := q56; cases e56; replace h56 := h56.symm; subst h56
          refine EW.if_eq 66 dX9_row_59 (by decide) (fun c59 => ?_) (fun c59 => ?_)
          · have c59 := hs0 c59
            refine EW.ic 0 dX9_row_66 ?_
            refine EW.istore_n dX9_row_67 rfl (by decide) ?_
            refine EW.iload_n dX9_row_68 rfl rfl ?_
            refine EW.iload_n dX9_row_69 rfl rfl ?_
            refine EW.iand dX9_row_70 ?_
            refine EW.ic 1 dX9_row_71 ?_
            refine EW.iand dX9_row_72 ?_
            refine EW.iload_n dX9_row_73 rfl rfl ?_
            refine EW.ic 2 dX9_row_74 ?_
            refine EW.callS (bc := 0) (bs := 0) (M_bit hl _ 0 s (nI 1) (nI 2)) mfX9_bit rfl l_X9_175 mvX9_bit (by omega) dX9_row_75 rfl rfl (Nat.le_of_ble_eq_true rfl) (fun v75 s75 q75 => ?_) (fun _ _ q => nomatch q.1)
            obtain ⟨e75, h75⟩ := q75; cases e75; replace h75 := h75.symm; subst h75
            refine EW.top (y := nI 2) (by decide +kernel) ?_
            refine EW.ior dX9_row_78 ?_
            refine EW.iload_n dX9_row_79 rfl rfl ?_
            refine EW.ic 4 dX9_row_80 ?_
            refine EW.callS (bc := 0) (bs := 0) (M_bit hl _ 0 s (nI 0) (nI 4)) mfX9_bit rfl l_X9_175 mvX9_bit (by omega) dX9_row_81 rfl rfl (Nat.le_of_ble_eq_true rfl) (fun v81 s81 q81 => ?_) (fun _ _ q => nomatch q.1)
            obtain ⟨e81, h81⟩ := q81; cases e81; replace h81 := h81.symm; subst h81
            refine EW.top (y := nI 0) (by decide +kernel) ?_
            refine EW.ior dX9_row_84 ?_
            refine EW.iret rfl dX9_row_85 ?_
            refine ⟨?_, rfl⟩; unfold mrI; simp only [*, not_true_eq_false, not_false_eq_true, and_true, true_and, and_false, false_and, or_true, true_or, or_false, false_or, if_true, if_false, and_self, or_self]
          · have c59 := hs1 c59
            refine EW.ic 1 dX9_row_62 ?_
            refine EW.goto 67 dX9_row_63 (by decide) ?_
            refine EW.istore_n dX9_row_67 rfl (by decide) ?_
            refine EW.iload_n dX9_row_68 rfl rfl ?_
            refine EW.iload_n dX9_row_69 rfl rfl ?_
            refine EW.iand dX9_row_70 ?_
            refine EW.ic 1 dX9_row_71 ?_
            refine EW.iand dX9_row_72 ?_
            refine EW.iload_n dX9_row_73 rfl rfl ?_
            refine EW.ic 2 dX9_row_74 ?_
            refine EW.callS (bc := 0) (bs := 0) (M_bit hl _ 0 s (nI 1) (nI 2)) mfX9_bit rfl l_X9_175 mvX9_bit (by omega) dX9_row_75 rfl rfl (Nat.le_of_ble_eq_true rfl) (fun v75 s75 q75 => ?_) (fun _ _ q => nomatch q.1)
            obtain ⟨e75, h75⟩ := q75; cases e75; replace h75 := h75.symm; subst h75
            refine EW.top (y := nI 2) (by decide +kernel) ?_
            refine EW.ior dX9_row_78 ?_
            refine EW.iload_n dX9_row_79 rfl rfl ?_
            refine EW.ic 4 dX9_row_80 ?_
            refine EW.callS (bc := 0) (bs := 0) (M_bit hl _ 0 s (nI 1) (nI 4)) mfX9_bit rfl l_X9_175 mvX9_bit (by omega) dX9_row_81 rfl rfl (Nat.le_of_ble_eq_true rfl) (fun v81 s81 q81 => ?_) (fun _ _ q => nomatch q.1)
            obtain ⟨e81, h81⟩ := q81; cases e81; replace h81 := h81.symm; subst h81
            refine EW.top (y := nI 4) (by decide +kernel) ?_
            refine EW.ior dX9_row_84 ?_
            refine EW.iret rfl dX9_row_85 ?_
            refine ⟨?_, rfl⟩; unfold mrI; simp only [*, not_true_eq_false, not_false_eq_true, and_true, true_and, and_false, false_and, or_true, true_or, or_false, false_or, if_true, if_false, and_self, or_self]
    · have c13 := hs0 c13
      refine EW.iload_n dX9_row_16 rfl rfl ?_
      refine EW.ic 1 dX9_row_17 ?_
      refine EW.callS (bc := 0) (bs := 0) (M_has hl _ 0 s p (nI 1)) mfX9_has rfl l_X9_171 mvX9_has (by omega) dX9_row_18 rfl rfl (Nat.le_of_ble_eq_true rfl) (fun v18 s18 q18 => ?_) (fun _ _ q => nomatch q.1)
      obtain ⟨e18, h18⟩ := q18; cases e18; replace h18 := h18.symm; subst h18
      refine EW.if_eq 36 dX9_row_21 (by decide) (fun c21 => ?_) (fun c21 => ?_)
      · have c21 := hs0 c21
        refine EW.ic 0 dX9_row_36 ?_
        refine EW.istore_n dX9_row_37 rfl (by decide) ?_
        refine EW.iload_n dX9_row_38 rfl rfl ?_
        refine EW.ic 4 dX9_row_39 ?_
        refine EW.callS (bc := 0) (bs := 0) (M_has hl _ 0 s p (nI 4)) mfX9_has rfl l_X9_171 mvX9_has (by omega) dX9_row_40 rfl rfl (Nat.le_of_ble_eq_true rfl) (fun v40 s40 q40 => ?_) (fun _ _ q => nomatch q.1)
        obtain ⟨e40, h40⟩ := q40; cases e40; replace h40 := h40.symm; subst h40
        refine EW.if_ne 62 dX9_row_43 (by decide) (fun c43 => ?_) (fun c43 => ?_)
        · have c43 := hs1 c43
          refine EW.ic 1 dX9_row_62 ?_
          refine EW.goto 67 dX9_row_63 (by decide) ?_
          refine EW.istore_n dX9_row_67 rfl (by decide) ?_
          refine EW.iload_n dX9_row_68 rfl rfl ?_
          refine EW.iload_n dX9_row_69 rfl rfl ?_
          refine EW.iand dX9_row_70 ?_
          refine EW.ic 1 dX9_row_71 ?_
          refine EW.iand dX9_row_72 ?_
          refine EW.iload_n dX9_row_73 rfl rfl ?_
          refine EW.ic 2 dX9_row_74 ?_
          refine EW.callS (bc := 0) (bs := 0) (M_bit hl _ 0 s (nI 0) (nI 2)) mfX9_bit rfl l_X9_175 mvX9_bit (by omega) dX9_row_75 rfl rfl (Nat.le_of_ble_eq_true rfl) (fun v75 s75 q75 => ?_) (fun _ _ q => nomatch q.1)
          obtain ⟨e75, h75⟩ := q75; cases e75; replace h75 := h75.symm; subst h75
          refine EW.top (y := nI 0) (by decide +kernel) ?_
          refine EW.ior dX9_row_78 ?_
          refine EW.iload_n dX9_row_79 rfl rfl ?_
          refine EW.ic 4 dX9_row_80 ?_
          refine EW.callS (bc := 0) (bs := 0) (M_bit hl _ 0 s (nI 1) (nI 4)) mfX9_bit rfl l_X9_175 mvX9_bit (by omega) dX9_row_81 rfl rfl (Nat.le_of_ble_eq_true rfl) (fun v81 s81 q81 => ?_) (fun _ _ q => nomatch q.1)
          obtain ⟨e81, h81⟩ := q81; cases e81; replace h81 := h81.symm; subst h81
          refine EW.top (y := nI 4) (by decide +kernel) ?_
          refine EW.ior dX9_row_84 ?_
          refine EW.iret rfl dX9_row_85 ?_
          refine ⟨?_, rfl⟩; unfold mrI; simp only [*, not_true_eq_false, not_false_eq_true, and_true, true_and, and_false, false_and, or_true, true_or, or_false, false_or, if_true, if_false, and_self, or_self]
        · have c43 := hs0 c43
          refine EW.iload_n dX9_row_46 rfl rfl ?_
          refine EW.ic 3 dX9_row_47 ?_
          refine EW.callS (bc := 0) (bs := 0) (M_has hl _ 0 s p (nI 3)) mfX9_has rfl l_X9_171 mvX9_has (by omega) dX9_row_48 rfl rfl (Nat.le_of_ble_eq_true rfl) (fun v48 s48 q48 => ?_) (fun _ _ q => nomatch q.1)
          obtain ⟨e48, h48⟩ := q48; cases e48; replace h48 := h48.symm; subst h48
          refine EW.if_eq 66 dX9_row_51 (by decide) (fun c51 => ?_) (fun c51 => ?_)
          · have c51 := hs0 c51
            refine EW.ic 0 dX9_row_66 ?_
            refine EW.istore_n dX9_row_67 rfl (by decide) ?_
            refine EW.iload_n dX9_row_68 rfl rfl ?_
            refine EW.iload_n dX9_row_69 rfl rfl ?_
            refine EW.iand dX9_row_70 ?_
            refine EW.ic 1 dX9_row_71 ?_
            refine EW.iand dX9_row_72 ?_
            refine EW.iload_n dX9_row_73 rfl rfl ?_
            refine EW.ic 2 dX9_row_74 ?_
            refine EW.callS (bc := 0) (bs := 0) (M_bit hl _ 0 s (nI 0) (nI 2)) mfX9_bit rfl l_X9_175 mvX9_bit (by omega) dX9_row_75 rfl rfl (Nat.le_of_ble_eq_true rfl) (fun v75 s75 q75 => ?_) (fun _ _ q => nomatch q.1)
            obtain ⟨e75, h75⟩ := q75; cases e75; replace h75 := h75.symm; subst h75
            refine EW.top (y := nI 0) (by decide +kernel) ?_
            refine EW.ior dX9_row_78 ?_
            refine EW.iload_n dX9_row_79 rfl rfl ?_
            refine EW.ic 4 dX9_row_80 ?_
            refine EW.callS (bc := 0) (bs := 0) (M_bit hl _ 0 s (nI 0) (nI 4)) mfX9_bit rfl l_X9_175 mvX9_bit (by omega) dX9_row_81 rfl rfl (Nat.le_of_ble_eq_true rfl) (fun v81 s81 q81 => ?_) (fun _ _ q => nomatch q.1)
            obtain ⟨e81, h81⟩ := q81; cases e81; replace h81 := h81.symm; subst h81
            refine EW.top (y := nI 0) (by decide +kernel) ?_
            refine EW.ior dX9_row_84 ?_
            refine EW.iret rfl dX9_row_85 ?_
            refine ⟨?_, rfl⟩; unfold mrI; simp only [*, not_true_eq_false, not_false_eq_true, and_true, true_and, and_false, false_and, or_true, true_or, or_false, false_or, if_true, if_false, and_self, or_self]
          · have c51 := hs1 c51
            refine EW.iload_n dX9_row_54 rfl rfl ?_
            refine EW.ic 4 dX9_row_55 ?_
            refine EW.callS (bc := 0) (bs := 0) (M_has hl _ 0 s r (nI 4)) mfX9_has rfl l_X9_171 mvX9_has (by omega) dX9_row_56 rfl rfl (Nat.le_of_ble_eq_true rfl) (fun v56 s56 q56 => ?_) (fun _ _ q => nomatch q.1)
            obtain ⟨e56, h56⟩ := q56; cases e56; replace h56 := h56.symm; subst h56
            refine EW.if_eq 66 dX9_row_59 (by decide) (fun c59 => ?_) (fun c59 => ?_)
            · have c59 := hs0 c59
              refine EW.ic 0 dX9_row_66 ?_
              refine EW.istore_n dX9_row_67 rfl (by decide) ?_
              refine EW.iload_n dX9_row_68 rfl rfl ?_
              refine EW.iload_n dX9_row_69 rfl rfl ?_
              refine EW.iand dX9_row_70 ?_
              refine EW.ic 1 dX9_row_71 ?_
              refine EW.iand dX9_row_72 ?_
              refine EW.iload_n dX9_row_73 rfl rfl ?_
              refine EW.ic 2 dX9_row_74 ?_
              refine EW.callS (bc := 0) (bs := 0) (M_bit hl _ 0 s (nI 0) (nI 2)) mfX9_bit rfl l_X9_175 mvX9_bit (by omega) dX9_row_75 rfl rfl (Nat.le_of_ble_eq_true rfl) (fun v75 s75 q75 => ?_) (fun _ _ q => nomatch q.1)
              obtain ⟨e75, h75⟩ := q75; cases e75; replace h75 := h75.symm; subst h75
              refine EW.top (y := nI 0) (by decide +kernel) ?_
              refine EW.ior dX9_row_78 ?_
              refine EW.iload_n dX9_row_79 rfl rfl ?_
              refine EW.ic 4 dX9_row_80 ?_
              refine EW.callS (bc := 0) (bs := 0) (M_bit hl _ 0 s (nI 0) (nI 4)) mfX9_bit rfl l_X9_175 mvX9_bit (by omega) dX9_row_81 rfl rfl (Nat.le_of_ble_eq_true rfl) (fun v81 s81 q81 => ?_) (fun _ _ q => nomatch q.1)
              obtain ⟨e81, h81⟩ := q81; cases e81; replace h81 := h81.symm; subst h81
              refine EW.top (y := nI 0) (by decide +kernel) ?_
              refine EW.ior dX9_row_84 ?_
              refine EW.iret rfl dX9_row_85 ?_
              refine ⟨?_, rfl⟩; unfold mrI; simp only [*, not_true_eq_false, not_false_eq_true, and_true, true_and, and_false, false_and, or_true, true_or, or_false, false_or, if_true, if_false, and_self, or_self]
            · have c59 := hs1 c59
              refine EW.ic 1 dX9_row_62 ?_
              refine EW.goto 67 dX9_row_63 (by decide) ?_
              refine EW.istore_n dX9_row_67 rfl (by decide) ?_
              refine EW.iload_n dX9_row_68 rfl rfl ?_
              refine EW.iload_n dX9_row_69 rfl rfl ?_
              refine EW.iand dX9_row_70 ?_
              refine EW.ic 1 dX9_row_71 ?_
              refine EW.iand dX9_row_72 ?_
              refine EW.iload_n dX9_row_73 rfl rfl ?_
              refine EW.ic 2 dX9_row_74 ?_
              refine EW.callS (bc := 0) (bs := 0) (M_bit hl _ 0 s (nI 0) (nI 2)) mfX9_bit rfl l_X9_175 mvX9_bit (by omega) dX9_row_75 rfl rfl (Nat.le_of_ble_eq_true rfl) (fun v75 s75 q75 => ?_) (fun _ _ q => nomatch q.1)
              obtain ⟨e75, h75⟩ := q75; cases e75; replace h75 := h75.symm; subst h75
              refine EW.top (y := nI 0) (by decide +kernel) ?_
              refine EW.ior dX9_row_78 ?_
              refine EW.iload_n dX9_row_79 rfl rfl ?_
              refine EW.ic 4 dX9_row_80 ?_
              refine EW.callS (bc := 0) (bs := 0) (M_bit hl _ 0 s (nI 1) (nI 4)) mfX9_bit rfl l_X9_175 mvX9_bit (by omega) dX9_row_81 rfl rfl (Nat.le_of_ble_eq_true rfl) (fun v81 s81 q81 => ?_) (fun _ _ q => nomatch q.1)
              obtain ⟨e81, h81⟩ := q81; cases e81; replace h81 := h81.symm; subst h81
              refine EW.top (y := nI 4) (by decide +kernel) ?_
              refine EW.ior dX9_row_84 ?_
              refine EW.iret rfl dX9_row_85 ?_
              refine ⟨?_, rfl⟩; unfold mrI; simp only [*, not_true_eq_false, not_false_eq_true, and_true, true_and, and_false, false_and, or_true, true_or, or_false, false_or, if_true, if_false, and_self, or_self]
      · have c21 := hs1 c21
        refine EW.iload_n dX9_row_24 rfl rfl ?_
        refine EW.ic 2 dX9_row_25 ?_
        refine EW.callS (bc := 0) (bs := 0) (M_has hl _ 0 s r (nI 2)) mfX9_has rfl l_X9_171 mvX9_has (by omega) dX9_row_26 rfl rfl (Nat.le_of_ble_eq_true rfl) (fun v26 s26 q26 => ?_) (fun _ _ q => nomatch q.1)
        obtain ⟨e26, h26⟩ := q26; cases e26; replace h26 := h26.symm; subst h26
        refine EW.if_eq 36 dX9_row_29 (by decide) (fun c29 => ?_) (fun c29 => ?_)
        · have c29 := hs0 c29
          refine EW.ic 0 dX9_row_36 ?_
          refine EW.istore_n dX9_row_37 rfl (by decide) ?_
          refine EW.iload_n dX9_row_38 rfl rfl ?_
          refine EW.ic 4 dX9_row_39 ?_
          refine EW.callS (bc := 0) (bs := 0) (M_has hl _ 0 s p (nI 4)) mfX9_has rfl l_X9_171 mvX9_has (by omega) dX9_row_40 rfl rfl (Nat.le_of_ble_eq_true rfl) (fun v40 s40 q40 => ?_) (fun _ _ q => nomatch q.1)
          obtain ⟨e40, h40⟩ := q40; cases e40; replace h40 := h40.symm; subst h40
          refine EW.if_ne 62 dX9_row_43 (by decide) (fun c43 => ?_) (fun c43 => ?_)
          · have c43 := hs1 c43
            refine EW.ic 1 dX9_row_62 ?_
            refine EW.goto 67 dX9_row_63 (by decide) ?_
            refine EW.istore_n dX9_row_67 rfl (by decide) ?_
            refine EW.iload_n dX9_row_68 rfl rfl ?_
            refine EW.iload_n dX9_row_69 rfl rfl ?_
            refine EW.iand dX9_row_70 ?_
            refine EW.ic 1 dX9_row_71 ?_
            refine EW.iand dX9_row_72 ?_
            refine EW.iload_n dX9_row_73 rfl rfl ?_
            refine EW.ic 2 dX9_row_74 ?_
            refine EW.callS (bc := 0) (bs := 0) (M_bit hl _ 0 s (nI 0) (nI 2)) mfX9_bit rfl l_X9_175 mvX9_bit (by omega) dX9_row_75 rfl rfl (Nat.le_of_ble_eq_true rfl) (fun v75 s75 q75 => ?_) (fun _ _ q => nomatch q.1)
            obtain ⟨e75, h75⟩ := q75; cases e75; replace h75 := h75.symm; subst h75
            refine EW.top (y := nI 0) (by decide +kernel) ?_
            refine EW.ior dX9_row_78 ?_
            refine EW.iload_n dX9_row_79 rfl rfl ?_
            refine EW.ic 4 dX9_row_80 ?_
            refine EW.callS (bc := 0) (bs := 0) (M_bit hl _ 0 s (nI 1) (nI 4)) mfX9_bit rfl l_X9_175 mvX9_bit (by omega) dX9_row_81 rfl rfl (Nat.le_of_ble_eq_true rfl) (fun v81 s81 q81 => ?_) (fun _ _ q => nomatch q.1)
            obtain ⟨e81, h81⟩ := q81; cases e81; replace h81 := h81.symm; subst h81
            refine EW.top (y := nI 4) (by decide +kernel) ?_
            refine EW.ior dX9_row_84 ?_
            refine EW.iret rfl dX9_row_85 ?_
            refine ⟨?_, rfl⟩; unfold mrI; simp only [*, not_true_eq_false, not_false_eq_true, and_true, true_and, and_false, false_and, or_true, true_or, or_false, false_or, if_true, if_false, and_self, or_self]
          · have c43 := hs0 c43
            refine EW.iload_n dX9_row_46 rfl rfl ?_
            refine EW.ic 3 dX9_row_47 ?_
            refine EW.callS (bc := 0) (bs := 0) (M_has hl _ 0 s p (nI 3)) mfX9_has rfl l_X9_171 mvX9_has (by omega) dX9_row_48 rfl rfl (Nat.le_of_ble_eq_true rfl) (fun v48 s48 q48 => ?_) (fun _ _ q => nomatch q.1)
            obtain ⟨e48, h48⟩ := q48; cases e48; replace h48 := h48.symm; subst h48
            refine EW.if_eq 66 dX9_row_51 (by decide) (fun c51 => ?_) (fun c51 => ?_)
            · have c51 := hs0 c51
              refine EW.ic 0 dX9_row_66 ?_
              refine EW.istore_n dX9_row_67 rfl (by decide) ?_
              refine EW.iload_n dX9_row_68 rfl rfl ?_
              refine EW.iload_n dX9_row_69 rfl rfl ?_
              refine EW.iand dX9_row_70 ?_
              refine EW.ic 1 dX9_row_71 ?_
              refine EW.iand dX9_row_72 ?_
              refine EW.iload_n dX9_row_73 rfl rfl ?_
              refine EW.ic 2 dX9_row_74 ?_
              refine EW.callS (bc := 0) (bs := 0) (M_bit hl _ 0 s (nI 0) (nI 2)) mfX9_bit rfl l_X9_175 mvX9_bit (by omega) dX9_row_75 rfl rfl (Nat.le_of_ble_eq_true rfl) (fun v75 s75 q75 => ?_) (fun _ _ q => nomatch q.1)
              obtain ⟨e75, h75⟩ := q75; cases e75; replace h75 := h75.symm; subst h75
              refine EW.top (y := nI 0) (by decide +kernel) ?_
              refine EW.ior dX9_row_78 ?_
              refine EW.iload_n dX9_row_79 rfl rfl ?_
              refine EW.ic 4 dX9_row_80 ?_
              refine EW.callS (bc := 0) (bs := 0) (M_bit hl _ 0 s (nI 0) (nI 4)) mfX9_bit rfl l_X9_175 mvX9_bit (by omega) dX9_row_81 rfl rfl (Nat.le_of_ble_eq_true rfl) (fun v81 s81 q81 => ?_) (fun _ _ q => nomatch q.1)
              obtain ⟨e81, h81⟩ := q81; cases e81; replace h81 := h81.symm; subst h81
              refine EW.top (y := nI 0) (by decide +kernel) ?_
              refine EW.ior dX9_row_84 ?_
              refine EW.iret rfl dX9_row_85 ?_
              refine ⟨?_, rfl⟩; unfold mrI; simp only [*, not_true_eq_false, not_false_eq_true, and_true, true_and, and_false, false_and, or_true, true_or, or_false, false_or, if_true, if_false, and_self, or_self]
            · have c51 := hs1 c51
              refine EW.iload_n dX9_row_54 rfl rfl ?_
              refine EW.ic 4 dX9_row_55 ?_
              refine EW.callS (bc := 0) (bs := 0) (M_has hl _ 0 s r (nI 4)) mfX9_has rfl l_X9_171 mvX9_has (by omega) dX9_row_56 rfl rfl (Nat.le_of_ble_eq_true rfl) (fun v56 s56 q56 => ?_) (fun _ _ q => nomatch q.1)
              obtain ⟨e56, h56⟩ := q56; cases e56; replace h56 := h56.symm; subst h56
              refine EW.if_eq 66 dX9_row_59 (by decide) (fun c59 => ?_) (fun c59 => ?_)
              · have c59 := hs0 c59
                refine EW.ic 0 dX9_row_66 ?_
                refine EW.istore_n dX9_row_67 rfl (by decide) ?_
                refine EW.iload_n dX9_row_68 rfl rfl ?_
                refine EW.iload_n dX9_row_69 rfl rfl ?_
                refine EW.iand dX9_row_70 ?_
                refine EW.ic 1 dX9_row_71 ?_
                refine EW.iand dX9_row_72 ?_
                refine EW.iload_n dX9_row_73 rfl rfl ?_
                refine EW.ic 2 dX9_row_74 ?_
                refine EW.callS (bc := 0) (bs := 0) (M_bit hl _ 0 s (nI 0) (nI 2)) mfX9_bit rfl l_X9_175 mvX9_bit (by omega) dX9_row_75 rfl rfl (Nat.le_of_ble_eq_true rfl) (fun v75 s75 q75 => ?_) (fun _ _ q => nomatch q.1)
                obtain ⟨e75, h75⟩ := q75; cases e75; replace h75 := h75.symm; subst h75
                refine EW.top (y := nI 0) (by decide +kernel) ?_
                refine EW.ior dX9_row_78 ?_
                refine EW.iload_n dX9_row_79 rfl rfl ?_
                refine EW.ic 4 dX9_row_80 ?_
                refine EW.callS (bc := 0) (bs := 0) (M_bit hl _ 0 s (nI 0) (nI 4)) mfX9_bit rfl l_X9_175 mvX9_bit (by omega) dX9_row_81 rfl rfl (Nat.le_of_ble_eq_true rfl) (fun v81 s81 q81 => ?_) (fun _ _ q => nomatch q.1)
                obtain ⟨e81, h81⟩ := q81; cases e81; replace h81 := h81.symm; subst h81
                refine EW.top (y := nI 0) (by decide +kernel) ?_
                refine EW.ior dX9_row_84 ?_
                refine EW.iret rfl dX9_row_85 ?_
                refine ⟨?_, rfl⟩; unfold mrI; simp only [*, not_true_eq_false, not_false_eq_true, and_true, true_and, and_false, false_and, or_true, true_or, or_false, false_or, if_true, if_false, and_self, or_self]
              · have c59 := hs1 c59
                refine EW.ic 1 dX9_row_62 ?_
                refine EW.goto 67 dX9_row_63 (by decide) ?_
                refine EW.istore_n dX9_row_67 rfl (by decide) ?_
                refine EW.iload_n dX9_row_68 rfl rfl ?_
                refine EW.iload_n dX9_row_69 rfl rfl ?_
                refine EW.iand dX9_row_70 ?_
                refine EW.ic 1 dX9_row_71 ?_
                refine EW.iand dX9_row_72 ?_
                refine EW.iload_n dX9_row_73 rfl rfl ?_
                refine EW.ic 2 dX9_row_74 ?_
                refine EW.callS (bc := 0) (bs := 0) (M_bit hl _ 0 s (nI 0) (nI 2)) mfX9_bit rfl l_X9_175 mvX9_bit (by omega) dX9_row_75 rfl rfl (Nat.le_of_ble_eq_true rfl) (fun v75 s75 q75 => ?_) (fun _ _ q => nomatch q.1)
                obtain ⟨e75, h75⟩ := q75; cases e75; replace h75 := h75.symm; subst h75
                refine EW.top (y := nI 0) (by decide +kernel) ?_
                refine EW.ior dX9_row_78 ?_
                refine EW.iload_n dX9_row_79 rfl rfl ?_
                refine EW.ic 4 dX9_row_80 ?_
                refine EW.callS (bc := 0) (bs := 0) (M_bit hl _ 0 s (nI 1) (nI 4)) mfX9_bit rfl l_X9_175 mvX9_bit (by omega) dX9_row_81 rfl rfl (Nat.le_of_ble_eq_true rfl) (fun v81 s81 q81 => ?_) (fun _ _ q => nomatch q.1)
                obtain ⟨e81, h81⟩ := q81; cases e81; replace h81 := h81.symm; subst h81
                refine EW.top (y := nI 4) (by decide +kernel) ?_
                refine EW.ior dX9_row_84 ?_
                refine EW.iret rfl dX9_row_85 ?_
                refine ⟨?_, rfl⟩; unfold mrI; simp only [*, not_true_eq_false, not_false_eq_true, and_true, true_and, and_false, false_and, or_true, true_or, or_false, false_or, if_true, if_false, and_self, or_self]
        · have c29 := hs1 c29
          refine EW.ic 1 dX9_row_32 ?_
          refine EW.goto 37 dX9_row_33 (by decide) ?_
          refine EW.istore_n dX9_row_37 rfl (by decide) ?_
          refine EW.iload_n dX9_row_38 rfl rfl ?_
          refine EW.ic 4 dX9_row_39 ?_
          refine EW.callS (bc := 0) (bs := 0) (M_has hl _ 0 s p (nI 4)) mfX9_has rfl l_X9_171 mvX9_has (by omega) dX9_row_40 rfl rfl (Nat.le_of_ble_eq_true rfl) (fun v40 s40 q40 => ?_) (fun _ _ q => nomatch q.1)
          obtain ⟨e40, h40⟩ := q40; cases e40; replace h40 := h40.symm; subst h40
          refine EW.if_ne 62 dX9_row_43 (by decide) (fun c43 => ?_) (fun c43 => ?_)
          · have c43 := hs1 c43
            refine EW.ic 1 dX9_row_62 ?_
            refine EW.goto 67 dX9_row_63 (by decide) ?_
            refine EW.istore_n dX9_row_67 rfl (by decide) ?_
            refine EW.iload_n dX9_row_68 rfl rfl ?_
            refine EW.iload_n dX9_row_69 rfl rfl ?_
            refine EW.iand dX9_row_70 ?_
            refine EW.ic 1 dX9_row_71 ?_
            refine EW.iand dX9_row_72 ?_
            refine EW.iload_n dX9_row_73 rfl rfl ?_
            refine EW.ic 2 dX9_row_74 ?_
            refine EW.callS (bc := 0) (bs := 0) (M_bit hl _ 0 s (nI 1) (nI 2)) mfX9_bit rfl l_X9_175 mvX9_bit (by omega) dX9_row_75 rfl rfl (Nat.le_of_ble_eq_true rfl) (fun v75 s75 q75 => ?_) (fun _ _ q => nomatch q.1)
            obtain ⟨e75, h75⟩ := q75; cases e75; replace h75 := h75.symm; subst h75
            refine EW.top (y := nI 2) (by decide +kernel) ?_
            refine EW.ior dX9_row_78 ?_
            refine EW.iload_n dX9_row_79 rfl rfl ?_
            refine EW.ic 4 dX9_row_80 ?_
            refine EW.callS (bc := 0) (bs := 0) (M_bit hl _ 0 s (nI 1) (nI 4)) mfX9_bit rfl l_X9_175 mvX9_bit (by omega) dX9_row_81 rfl rfl (Nat.le_of_ble_eq_true rfl) (fun v81 s81 q81 => ?_) (fun _ _ q => nomatch q.1)
            obtain ⟨e81, h81⟩ := q81; cases e81; replace h81 := h81.symm; subst h81
            refine EW.top (y := nI 4) (by decide +kernel) ?_
            refine EW.ior dX9_row_84 ?_
            refine EW.iret rfl dX9_row_85 ?_
            refine ⟨?_, rfl⟩; unfold mrI; simp only [*, not_true_eq_false, not_false_eq_true, and_true, true_and, and_false, false_and, or_true, true_or, or_false, false_or, if_true, if_false, and_self, or_self]
          · have c43 := hs0 c43
            refine EW.iload_n dX9_row_46 rfl rfl ?_
            refine EW.ic 3 dX9_row_47 ?_
            refine EW.callS (bc := 0) (bs := 0) (M_has hl _ 0 s p (nI 3)) mfX9_has rfl l_X9_171 mvX9_has (by omega) dX9_row_48 rfl rfl (Nat.le_of_ble_eq_true rfl) (fun v48 s48 q48 => ?_) (fun _ _ q => nomatch q.1)
            obtain ⟨e48, h48⟩ := q48; cases e48; replace h48 := h48.symm; subst h48
            refine EW.if_eq 66 dX9_row_51 (by decide) (fun c51 => ?_) (fun c51 => ?_)
            · have c51 := hs0 c51
              refine EW.ic 0 dX9_row_66 ?_
              refine EW.istore_n dX9_row_67 rfl (by decide) ?_
              refine EW.iload_n dX9_row_68 rfl rfl ?_
              refine EW.iload_n dX9_row_69 rfl rfl ?_
              refine EW.iand dX9_row_70 ?_
              refine EW.ic 1 dX9_row_71 ?_
              refine EW.iand dX9_row_72 ?_
              refine EW.iload_n dX9_row_73 rfl rfl ?_
              refine EW.ic 2 dX9_row_74 ?_
              refine EW.callS (bc := 0) (bs := 0) (M_bit hl _ 0 s (nI 1) (nI 2)) mfX9_bit rfl l_X9_175 mvX9_bit (by omega) dX9_row_75 rfl rfl (Nat.le_of_ble_eq_true rfl) (fun v75 s75 q75 => ?_) (fun _ _ q => nomatch q.1)
              obtain ⟨e75, h75⟩ := q75; cases e75; replace h75 := h75.symm; subst h75
              refine EW.top (y := nI 2) (by decide +kernel) ?_
              refine EW.ior dX9_row_78 ?_
              refine EW.iload_n dX9_row_79 rfl rfl ?_
              refine EW.ic 4 dX9_row_80 ?_
              refine EW.callS (bc := 0) (bs := 0) (M_bit hl _ 0 s (nI 0) (nI 4)) mfX9_bit rfl l_X9_175 mvX9_bit (by omega) dX9_row_81 rfl rfl (Nat.le_of_ble_eq_true rfl) (fun v81 s81 q81 => ?_) (fun _ _ q => nomatch q.1)
              obtain ⟨e81, h81⟩ := q81; cases e81; replace h81 := h81.symm; subst h81
              refine EW.top (y := nI 0) (by decide +kernel) ?_
              refine EW.ior dX9_row_84 ?_
              refine EW.iret rfl dX9_row_85 ?_
              refine ⟨?_, rfl⟩; unfold mrI; simp only [*, not_true_eq_false, not_false_eq_true, and_true, true_and, and_false, false_and, or_true, true_or, or_false, false_or, if_true, if_false, and_self, or_self]
            · have c51 := hs1 c51
              refine EW.iload_n dX9_row_54 rfl rfl ?_
              refine EW.ic 4 dX9_row_55 ?_
              refine EW.callS (bc := 0) (bs := 0) (M_has hl _ 0 s r (nI 4)) mfX9_has rfl l_X9_171 mvX9_has (by omega) dX9_row_56 rfl rfl (Nat.le_of_ble_eq_true rfl) (fun v56 s56 q56 => ?_) (fun _ _ q => nomatch q.1)
              obtain ⟨e56, h56⟩ := q56; cases e56; replace h56 := h56.symm; subst h56
              refine EW.if_eq 66 dX9_row_59 (by decide) (fun c59 => ?_) (fun c59 => ?_)
              · have c59 := hs0 c59
                refine EW.ic 0 dX9_row_66 ?_
                refine EW.istore_n dX9_row_67 rfl (by decide) ?_
                refine EW.iload_n dX9_row_68 rfl rfl ?_
                refine EW.iload_n dX9_row_69 rfl rfl ?_
                refine EW.iand dX9_row_70 ?_
                refine EW.ic 1 dX9_row_71 ?_
                refine EW.iand dX9_row_72 ?_
                refine EW.iload_n dX9_row_73 rfl rfl ?_
                refine EW.ic 2 dX9_row_74 ?_
                refine EW.callS (bc := 0) (bs := 0) (M_bit hl _ 0 s (nI 1) (nI 2)) mfX9_bit rfl l_X9_175 mvX9_bit (by omega) dX9_row_75 rfl rfl (Nat.le_of_ble_eq_true rfl) (fun v75 s75 q75 => ?_) (fun _ _ q => nomatch q.1)
                obtain ⟨e75, h75⟩ := q75; cases e75; replace h75 := h75.symm; subst h75
                refine EW.top (y := nI 2) (by decide +kernel) ?_
                refine EW.ior dX9_row_78 ?_
                refine EW.iload_n dX9_row_79 rfl rfl ?_
                refine EW.ic 4 dX9_row_80 ?_
                refine EW.callS (bc := 0) (bs := 0) (M_bit hl _ 0 s (nI 0) (nI 4)) mfX9_bit rfl l_X9_175 mvX9_bit (by omega) dX9_row_81 rfl rfl (Nat.le_of_ble_eq_true rfl) (fun v81 s81 q81 => ?_) (fun _ _ q => nomatch q.1)
                obtain ⟨e81, h81⟩ := q81; cases e81; replace h81 := h81.symm; subst h81
                refine EW.top (y := nI 0) (by decide +kernel) ?_
                refine EW.ior dX9_row_84 ?_
                refine EW.iret rfl dX9_row_85 ?_
                refine ⟨?_, rfl⟩; unfold mrI; simp only [*, not_true_eq_false, not_false_eq_true, and_true, true_and, and_false, false_and, or_true, true_or, or_false, false_or, if_true, if_false, and_self, or_self]
              · have c59 := hs1 c59
                refine EW.ic 1 dX9_row_62 ?_
                refine EW.goto 67 dX9_row_63 (by decide) ?_
                refine EW.istore_n dX9_row_67 rfl (by decide) ?_
                refine EW.iload_n dX9_row_68 rfl rfl ?_
                refine EW.iload_n dX9_row_69 rfl rfl ?_
                refine EW.iand dX9_row_70 ?_
                refine EW.ic 1 dX9_row_71 ?_
                refine EW.iand dX9_row_72 ?_
                refine EW.iload_n dX9_row_73 rfl rfl ?_
                refine EW.ic 2 dX9_row_74 ?_
                refine EW.callS (bc := 0) (bs := 0) (M_bit hl _ 0 s (nI 1) (nI 2)) mfX9_bit rfl l_X9_175 mvX9_bit (by omega) dX9_row_75 rfl rfl (Nat.le_of_ble_eq_true rfl) (fun v75 s75 q75 => ?_) (fun _ _ q => nomatch q.1)
                obtain ⟨e75, h75⟩ := q75; cases e75; replace h75 := h75.symm; subst h75
                refine EW.top (y := nI 2) (by decide +kernel) ?_
                refine EW.ior dX9_row_78 ?_
                refine EW.iload_n dX9_row_79 rfl rfl ?_
                refine EW.ic 4 dX9_row_80 ?_
                refine EW.callS (bc := 0) (bs := 0) (M_bit hl _ 0 s (nI 1) (nI 4)) mfX9_bit rfl l_X9_175 mvX9_bit (by omega) dX9_row_81 rfl rfl (Nat.le_of_ble_eq_true rfl) (fun v81 s81 q81 => ?_) (fun _ _ q => nomatch q.1)
                obtain ⟨e81, h81⟩ := q81; cases e81; replace h81 := h81.symm; subst h81
                refine EW.top (y := nI 4) (by decide +kernel) ?_
                refine EW.ior dX9_row_84 ?_
                refine EW.iret rfl dX9_row_85 ?_
                refine ⟨?_, rfl⟩; unfold mrI; simp only [*, not_true_eq_false, not_false_eq_true, and_true, true_and, and_false, false_and, or_true, true_or, or_false, false_or, if_true, if_false, and_self, or_self]
end M6
