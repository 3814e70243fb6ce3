section C4
def anI (p q : Int32) : Int32 := if p &&& q = 0 then nI 0 else nI 1
def jrI (p r : Int32) : Int32 := p &&& r &&& nI 1 ||| (if (¬ p &&& nI 3 = 0 ∧ ¬ r &&& nI 2 = 0) ∨ (¬ p &&& nI 2 = 0 ∧ ¬ r &&& nI 1 = 0) then nI 2 else nI 0) ||| (if ¬ p &&& nI 4 = 0 ∨ (¬ p &&& nI 3 = 0 ∧ ¬ r &&& nI 4 = 0) then nI 4 else nI 0)
def jcI (p r : Int32) : Int32 := if p &&& nI 4 = 0 then p else p &&& nI 3 ||| r
def sgI (k : Nat) (e : Int32) : Int32 := match k with
  | 5 => e &&& nI 2 ||| (if e &&& nI 4 = 0 then nI 0 else nI 1)
  | 6 => e &&& nI 6 ||| (if e &&& nI 4 = 0 then nI 0 else e &&& nI 1)
  | 7 => e &&& nI 2 ||| (if e &&& nI 5 = 0 then nI 0 else nI 1)
  | 8 => e &&& nI 4 ||| (if e &&& nI 3 = 0 then nI 0 else nI 1)
  | _ => (if e &&& nI 4 = 0 then nI 0 else nI 1) ||| (if e &&& nI 3 = 0 then nI 0 else nI 4)
variable {cy : Nat → ClassId} {ax : Nat → Nat} {hp0 : Hp} {l : Launch} {D : va_G} {base : Nat}
set_option maxHeartbeats 4000000 in
theorem C_any (hl : l.stackTraces = false) {S : Type} (I : S → Hp → Prop) (d : Nat) (s : S) (p q : Int32) : MtW I l D cy base mX2_any d 0 0 [.int p, .int q] s (fun o s2 => o = .inl (some (.int (anI p q))) ∧ s2 = s) := by
  refine MtW.of hl mfX2_any rfl (Nat.le_of_ble_eq_true rfl) ?_
  refine EW.iload_n dX2_any_0 rfl rfl ?_
  refine EW.iload_n dX2_any_1 rfl rfl ?_
  refine EW.iand dX2_any_2 ?_
  refine EW.if_eq 10 dX2_any_3 (by decide) (fun c3 => ?_) (fun c3 => ?_)
  · refine EW.ic 0 dX2_any_10 ?_
    refine EW.zret (ty := .boolean) rfl (by decide +kernel) dX2_any_11 ?_
    refine ⟨?_, rfl⟩; unfold anI; first | rw [if_pos c3] | rw [if_neg c3]
  · refine EW.ic 1 dX2_any_6 ?_
    refine EW.goto 11 dX2_any_7 (by decide) ?_
    refine EW.zret (ty := .boolean) rfl (by decide +kernel) dX2_any_11 ?_
    refine ⟨?_, rfl⟩; unfold anI; first | rw [if_pos c3] | rw [if_neg c3]
theorem an0 {p q : Int32} (h : anI p q = 0) : p &&& q = 0 := by
  unfold anI at h
  split at h
  · assumption
  · exact absurd h (by decide +kernel)
theorem an1 {p q : Int32} (h : ¬ anI p q = 0) : ¬ p &&& q = 0 := by
  unfold anI at h
  split at h
  · exact absurd (by decide +kernel) h
  · assumption
set_option maxHeartbeats 4000000 in
theorem C_joinInRow (hl : l.stackTraces = false) {S : Type} (I : S → Hp → Prop) (d : Nat) (s : S) (p r : Int32) : MtW I l D cy base mX2_joinInRow d 0 0 [.int p, .int r] s (fun o s2 => o = .inl (some (.int (jrI p r))) ∧ s2 = s) := by
  refine MtW.of hl mfX2_joinInRow rfl (Nat.le_of_ble_eq_true rfl) ?_
  refine EW.iload_n dX2_joinInRow_0 rfl rfl ?_
  refine EW.iload_n dX2_joinInRow_1 rfl rfl ?_
  refine EW.iand dX2_joinInRow_2 ?_
  refine EW.ic 1 dX2_joinInRow_3 ?_
  refine EW.iand dX2_joinInRow_4 ?_
  refine EW.istore_n dX2_joinInRow_5 rfl (by decide) ?_
  refine EW.iload_n dX2_joinInRow_6 rfl rfl ?_
  refine EW.ic 3 dX2_joinInRow_7 ?_
  refine EW.iand dX2_joinInRow_8 ?_
  refine EW.if_eq 16 dX2_joinInRow_9 (by decide) (fun c9 => ?_) (fun c9 => ?_)
  · refine EW.ic 0 dX2_joinInRow_16 ?_
    refine EW.istore_n dX2_joinInRow_17 rfl (by decide) ?_
    refine EW.iload_n dX2_joinInRow_18 rfl rfl ?_
    refine EW.if_eq 28 dX2_joinInRow_19 (by decide) (fun c19 => ?_) (fun c19 => ?_)
    · refine EW.iload_n dX2_joinInRow_28 rfl rfl ?_
      refine EW.ic 2 dX2_joinInRow_29 ?_
      refine EW.iand dX2_joinInRow_30 ?_
      refine EW.if_eq 44 dX2_joinInRow_31 (by decide) (fun c31 => ?_) (fun c31 => ?_)
      · refine EW.ic 0 dX2_joinInRow_44 ?_
        refine EW.istore dX2_joinInRow_45 (by decide) ?_
        refine EW.iload_n dX2_joinInRow_47 rfl rfl ?_
        refine EW.ic 4 dX2_joinInRow_48 ?_
        refine EW.iand dX2_joinInRow_49 ?_
        refine EW.if_ne 63 dX2_joinInRow_50 (by decide) (fun c50 => ?_) (fun c50 => ?_)
        · refine EW.ic 1 dX2_joinInRow_63 ?_
          refine EW.goto 68 dX2_joinInRow_64 (by decide) ?_
          refine EW.istore dX2_joinInRow_68 (by decide) ?_
          refine EW.iload_n dX2_joinInRow_70 rfl rfl ?_
          refine EW.iload dX2_joinInRow_71 rfl ?_
          refine EW.if_eq 80 dX2_joinInRow_73 (by decide) (fun c73 => ?_) (fun c73 => ?_)
          · refine EW.ic 0 dX2_joinInRow_80 ?_
            refine EW.ior dX2_joinInRow_81 ?_
            refine EW.iload dX2_joinInRow_82 rfl ?_
            refine EW.if_eq 91 dX2_joinInRow_84 (by decide) (fun c84 => ?_) (fun c84 => ?_)
            · exact absurd c84 (by decide +kernel)
            · refine EW.ic 4 dX2_joinInRow_87 ?_
              refine EW.goto 92 dX2_joinInRow_88 (by decide) ?_
              refine EW.ior dX2_joinInRow_92 ?_
              refine EW.iret rfl dX2_joinInRow_93 ?_
              refine ⟨?_, rfl⟩; unfold jrI; simp only [*, not_true_eq_false, not_false_eq_true, and_true, true_and, and_false, false_and, or_true, true_or, or_false, false_or, if_true, if_false, and_self, or_self]
          · exact absurd c73 (by decide +kernel)
        · refine EW.iload_n dX2_joinInRow_53 rfl rfl ?_
          refine EW.if_eq 67 dX2_joinInRow_54 (by decide) (fun c54 => ?_) (fun c54 => ?_)
          · refine EW.ic 0 dX2_joinInRow_67 ?_
            refine EW.istore dX2_joinInRow_68 (by decide) ?_
            refine EW.iload_n dX2_joinInRow_70 rfl rfl ?_
            refine EW.iload dX2_joinInRow_71 rfl ?_
            refine EW.if_eq 80 dX2_joinInRow_73 (by decide) (fun c73 => ?_) (fun c73 => ?_)
            · refine EW.ic 0 dX2_joinInRow_80 ?_
              refine EW.ior dX2_joinInRow_81 ?_
              refine EW.iload dX2_joinInRow_82 rfl ?_
              refine EW.if_eq 91 dX2_joinInRow_84 (by decide) (fun c84 => ?_) (fun c84 => ?_)
              · refine EW.ic 0 dX2_joinInRow_91 ?_
                refine EW.ior dX2_joinInRow_92 ?_
                refine EW.iret rfl dX2_joinInRow_93 ?_
                refine ⟨?_, rfl⟩; unfold jrI; simp only [*, not_true_eq_false, not_false_eq_true, and_true, true_and, and_false, false_and, or_true, true_or, or_false, false_or, if_true, if_false, and_self, or_self]
              · exact absurd c84 (by decide +kernel)
            · exact absurd c73 (by decide +kernel)
          · exact absurd c54 (by decide +kernel)
      · refine EW.iload_n dX2_joinInRow_34 rfl rfl ?_
        refine EW.ic 1 dX2_joinInRow_35 ?_
        refine EW.iand dX2_joinInRow_36 ?_
        refine EW.if_eq 44 dX2_joinInRow_37 (by decide) (fun c37 => ?_) (fun c37 => ?_)
        · refine EW.ic 0 dX2_joinInRow_44 ?_
          refine EW.istore dX2_joinInRow_45 (by decide) ?_
          refine EW.iload_n dX2_joinInRow_47 rfl rfl ?_
          refine EW.ic 4 dX2_joinInRow_48 ?_
          refine EW.iand dX2_joinInRow_49 ?_
          refine EW.if_ne 63 dX2_joinInRow_50 (by decide) (fun c50 => ?_) (fun c50 => ?_)
          · refine EW.ic 1 dX2_joinInRow_63 ?_
            refine EW.goto 68 dX2_joinInRow_64 (by decide) ?_
            refine EW.istore dX2_joinInRow_68 (by decide) ?_
            refine EW.iload_n dX2_joinInRow_70 rfl rfl ?_
            refine EW.iload dX2_joinInRow_71 rfl ?_
            refine EW.if_eq 80 dX2_joinInRow_73 (by decide) (fun c73 => ?_) (fun c73 => ?_)
            · refine EW.ic 0 dX2_joinInRow_80 ?_
              refine EW.ior dX2_joinInRow_81 ?_
              refine EW.iload dX2_joinInRow_82 rfl ?_
              refine EW.if_eq 91 dX2_joinInRow_84 (by decide) (fun c84 => ?_) (fun c84 => ?_)
              · exact absurd c84 (by decide +kernel)
              · refine EW.ic 4 dX2_joinInRow_87 ?_
                refine EW.goto 92 dX2_joinInRow_88 (by decide) ?_
                refine EW.ior dX2_joinInRow_92 ?_
                refine EW.iret rfl dX2_joinInRow_93 ?_
                refine ⟨?_, rfl⟩; unfold jrI; simp only [*, not_true_eq_false, not_false_eq_true, and_true, true_and, and_false, false_and, or_true, true_or, or_false, false_or, if_true, if_false, and_self, or_self]
            · exact absurd c73 (by decide +kernel)
          · refine EW.iload_n dX2_joinInRow_53 rfl rfl ?_
            refine EW.if_eq 67 dX2_joinInRow_54 (by decide) (fun c54 => ?_) (fun c54 => ?_)
            · refine EW.ic 0 dX2_joinInRow_67 ?_
              refine EW.istore dX2_joinInRow_68 (by decide) ?_
              refine EW.iload_n dX2_joinInRow_70 rfl rfl ?_
              refine EW.iload dX2_joinInRow_71 rfl ?_
              refine EW.if_eq 80 dX2_joinInRow_73 (by decide) (fun c73 => ?_) (fun c73 => ?_)
              · refine EW.ic 0 dX2_joinInRow_80 ?_
                refine EW.ior dX2_joinInRow_81 ?_
                refine EW.iload dX2_joinInRow_82 rfl ?_
                refine EW.if_eq 91 dX2_joinInRow_84 (by decide) (fun c84 => ?_) (fun c84 => ?_)
                · refine EW.ic 0 dX2_joinInRow_91 ?_
                  refine EW.ior dX2_joinInRow_92 ?_
                  refine EW.iret rfl dX2_joinInRow_93 ?_
                  refine ⟨?_, rfl⟩; unfold jrI; simp only [*, not_true_eq_false, not_false_eq_true, and_true, true_and, and_false, false_and, or_true, true_or, or_false, false_or, if_true, if_false, and_self, or_self]
                · exact absurd c84 (by decide +kernel)
              · exact absurd c73 (by decide +kernel)
            · exact absurd c54 (by decide +kernel)
        · refine EW.ic 1 dX2_joinInRow_40 ?_
          refine EW.goto 45 dX2_joinInRow_41 (by decide) ?_
          refine EW.istore dX2_joinInRow_45 (by decide) ?_
          refine EW.iload_n dX2_joinInRow_47 rfl rfl ?_
          refine EW.ic 4 dX2_joinInRow_48 ?_
          refine EW.iand dX2_joinInRow_49 ?_
          refine EW.if_ne 63 dX2_joinInRow_50 (by decide) (fun c50 => ?_) (fun c50 => ?_)
          · refine EW.ic 1 dX2_joinInRow_63 ?_
            refine EW.goto 68 dX2_joinInRow_64 (by decide) ?_
            refine EW.istore dX2_joinInRow_68 (by decide) ?_
            refine EW.iload_n dX2_joinInRow_70 rfl rfl ?_
            refine EW.iload dX2_joinInRow_71 rfl ?_
            refine EW.if_eq 80 dX2_joinInRow_73 (by decide) (fun c73 => ?_) (fun c73 => ?_)
            · exact absurd c73 (by decide +kernel)
            · refine EW.ic 2 dX2_joinInRow_76 ?_
              refine EW.goto 81 dX2_joinInRow_77 (by decide) ?_
              refine EW.ior dX2_joinInRow_81 ?_
              refine EW.iload dX2_joinInRow_82 rfl ?_
              refine EW.if_eq 91 dX2_joinInRow_84 (by decide) (fun c84 => ?_) (fun c84 => ?_)
              · exact absurd c84 (by decide +kernel)
              · refine EW.ic 4 dX2_joinInRow_87 ?_
                refine EW.goto 92 dX2_joinInRow_88 (by decide) ?_
                refine EW.ior dX2_joinInRow_92 ?_
                refine EW.iret rfl dX2_joinInRow_93 ?_
                refine ⟨?_, rfl⟩; unfold jrI; simp only [*, not_true_eq_false, not_false_eq_true, and_true, true_and, and_false, false_and, or_true, true_or, or_false, false_or, if_true, if_false, and_self, or_self]
          · refine EW.iload_n dX2_joinInRow_53 rfl rfl ?_
            refine EW.if_eq 67 dX2_joinInRow_54 (by decide) (fun c54 => ?_) (fun c54 => ?_)
            · refine EW.ic 0 dX2_joinInRow_67 ?_
              refine EW.istore dX2_joinInRow_68 (by decide) ?_
              refine EW.iload_n dX2_joinInRow_70 rfl rfl ?_
              refine EW.iload dX2_joinInRow_71 rfl ?_
              refine EW.if_eq 80 dX2_joinInRow_73 (by decide) (fun c73 => ?_) (fun c73 => ?_)
              · exact absurd c73 (by decide +kernel)
              · refine EW.ic 2 dX2_joinInRow_76 ?_
                refine EW.goto 81 dX2_joinInRow_77 (by decide) ?_
                refine EW.ior dX2_joinInRow_81 ?_
                refine EW.iload dX2_joinInRow_82 rfl ?_
                refine EW.if_eq 91 dX2_joinInRow_84 (by decide) (fun c84 => ?_) (fun c84 => ?_)
                · refine EW.ic 0 dX2_joinInRow_91 ?_
                  refine EW.ior dX2_joinInRow_92 ?_
                  refine EW.iret rfl dX2_joinInRow_93 ?_
                  refine ⟨?_, rfl⟩; unfold jrI; simp only [*, not_true_eq_false, not_false_eq_true, and_true, true_and, and_false, false_and, or_true, true_or, or_false, false_or, if_true, if_false, and_self, or_self]
                · exact absurd c84 (by decide +kernel)
            · exact absurd c54 (by decide +kernel)
    · exact absurd c19 (by decide +kernel)
  · refine EW.ic 1 dX2_joinInRow_12 ?_
    refine EW.goto 17 dX2_joinInRow_13 (by decide) ?_
    refine EW.istore_n dX2_joinInRow_17 rfl (by decide) ?_
    refine EW.iload_n dX2_joinInRow_18 rfl rfl ?_
    refine EW.if_eq 28 dX2_joinInRow_19 (by decide) (fun c19 => ?_) (fun c19 => ?_)
    · exact absurd c19 (by decide +kernel)
    · refine EW.iload_n dX2_joinInRow_22 rfl rfl ?_
      refine EW.ic 2 dX2_joinInRow_23 ?_
      refine EW.iand dX2_joinInRow_24 ?_
      refine EW.if_ne 40 dX2_joinInRow_25 (by decide) (fun c25 => ?_) (fun c25 => ?_)
      · refine EW.ic 1 dX2_joinInRow_40 ?_
        refine EW.goto 45 dX2_joinInRow_41 (by decide) ?_
        refine EW.istore dX2_joinInRow_45 (by decide) ?_
        refine EW.iload_n dX2_joinInRow_47 rfl rfl ?_
        refine EW.ic 4 dX2_joinInRow_48 ?_
        refine EW.iand dX2_joinInRow_49 ?_
        refine EW.if_ne 63 dX2_joinInRow_50 (by decide) (fun c50 => ?_) (fun c50 => ?_)
        · refine EW.ic 1 dX2_joinInRow_63 ?_
          refine EW.goto 68 dX2_joinInRow_64 (by decide) ?_
          refine EW.istore dX2_joinInRow_68 (by decide) ?_
          refine EW.iload_n dX2_joinInRow_70 rfl rfl ?_
          refine EW.iload dX2_joinInRow_71 rfl ?_
          refine EW.if_eq 80 dX2_joinInRow_73 (by decide) (fun c73 => ?_) (fun c73 => ?_)
          · exact absurd c73 (by decide +kernel)
          · refine EW.ic 2 dX2_joinInRow_76 ?_
            refine EW.goto 81 dX2_joinInRow_77 (by decide) ?_
            refine EW.ior dX2_joinInRow_81 ?_
            refine EW.iload dX2_joinInRow_82 rfl ?_
            refine EW.if_eq 91 dX2_joinInRow_84 (by decide) (fun c84 => ?_) (fun c84 => ?_)
            · exact absurd c84 (by decide +kernel)
            · refine EW.ic 4 dX2_joinInRow_87 ?_
              refine EW.goto 92 dX2_joinInRow_88 (by decide) ?_
              refine EW.ior dX2_joinInRow_92 ?_
              refine EW.iret rfl dX2_joinInRow_93 ?_
              refine ⟨?_, rfl⟩; unfold jrI; simp only [*, not_true_eq_false, not_false_eq_true, and_true, true_and, and_false, false_and, or_true, true_or, or_false, false_or, if_true, if_false, and_self, or_self]
        · refine EW.iload_n dX2_joinInRow_53 rfl rfl ?_
          refine EW.if_eq 67 dX2_joinInRow_54 (by decide) (fun c54 => ?_) (fun c54 => ?_)
          · exact absurd c54 (by decide +kernel)
          · refine EW.iload_n dX2_joinInRow_57 rfl rfl ?_
            refine EW.ic 4 dX2_joinInRow_58 ?_
            refine EW.iand dX2_joinInRow_59 ?_
            refine EW.if_eq 67 dX2_joinInRow_60 (by decide) (fun c60 => ?_) (fun c60 => ?_)
            · refine EW.ic 0 dX2_joinInRow_67 ?_
              refine EW.istore dX2_joinInRow_68 (by decide) ?_
              refine EW.iload_n dX2_joinInRow_70 rfl rfl ?_
              refine EW.iload dX2_joinInRow_71 rfl ?_
              refine EW.if_eq 80 dX2_joinInRow_73 (by decide) (fun c73 => ?_) (fun c73 => ?_)
              · exact absurd c73 (by decide +kernel)
              · refine EW.ic 2 dX2_joinInRow_76 ?_
                refine EW.goto 81 dX2_joinInRow_77 (by decide) ?_
                refine EW.ior dX2_joinInRow_81 ?_
                refine EW.iload dX2_joinInRow_82 rfl ?_
                refine EW.if_eq 91 dX2_joinInRow_84 (by decide) (fun c84 => ?_) (fun c84 => ?_)
                · refine EW.ic 0 dX2_joinInRow_91 ?_
                  refine EW.ior dX2_joinInRow_92 ?_
                  refine EW.iret rfl dX2_joinInRow_93 ?_
                  refine ⟨?_, rfl⟩; unfold jrI; simp only [*, not_true_eq_false, not_false_eq_true, and_true, true_and, and_false, false_and, or_true, true_or, or_false, false_or, if_true, if_false, and_self, or_self]
                · exact absurd c84 (by decide +kernel)
            · refine EW.ic 1 dX2_joinInRow_63 ?_
              refine EW.goto 68 dX2_joinInRow_64 (by decide) ?_
              refine EW.istore dX2_joinInRow_68 (by decide) ?_
              refine EW.iload_n dX2_joinInRow_70 rfl rfl ?_
              refine EW.iload dX2_joinInRow_71 rfl ?_
              refine EW.if_eq 80 dX2_joinInRow_73 (by decide) (fun c73 => ?_) (fun c73 => ?_)
              · exact absurd c73 (by decide +kernel)
              · refine EW.ic 2 dX2_joinInRow_76 ?_
                refine EW.goto 81 dX2_joinInRow_77 (by decide) ?_
                refine EW.ior dX2_joinInRow_81 ?_
                refine EW.iload dX2_joinInRow_82 rfl ?_
                refine EW.if_eq 91 dX2_joinInRow_84 (by decide) (fun c84 => ?_) (fun c84 => ?_)
                · exact absurd c84 (by decide +kernel)
                · refine EW.ic 4 dX2_joinInRow_87 ?_
                  refine EW.goto 92 dX2_joinInRow_88 (by decide) ?_
                  refine EW.ior dX2_joinInRow_92 ?_
                  refine EW.iret rfl dX2_joinInRow_93 ?_
                  refine ⟨?_, rfl⟩; unfold jrI; simp only [*, not_true_eq_false, not_false_eq_true, and_true, true_and, and_false, false_and, or_true, true_or, or_false, false_or, if_true, if_false, and_self, or_self]
      · refine EW.iload_n dX2_joinInRow_28 rfl rfl ?_
        refine EW.ic 2 dX2_joinInRow_29 ?_
        refine EW.iand dX2_joinInRow_30 ?_
        refine EW.if_eq 44 dX2_joinInRow_31 (by decide) (fun c31 => ?_) (fun c31 => ?_)
        · refine EW.ic 0 dX2_joinInRow_44 ?_
          refine EW.istore dX2_joinInRow_45 (by decide) ?_
          refine EW.iload_n dX2_joinInRow_47 rfl rfl ?_
          refine EW.ic 4 dX2_joinInRow_48 ?_
          refine EW.iand dX2_joinInRow_49 ?_
          refine EW.if_ne 63 dX2_joinInRow_50 (by decide) (fun c50 => ?_) (fun c50 => ?_)
          · refine EW.ic 1 dX2_joinInRow_63 ?_
            refine EW.goto 68 dX2_joinInRow_64 (by decide) ?_
            refine EW.istore dX2_joinInRow_68 (by decide) ?_
            refine EW.iload_n dX2_joinInRow_70 rfl rfl ?_
            refine EW.iload dX2_joinInRow_71 rfl ?_
            refine EW.if_eq 80 dX2_joinInRow_73 (by decide) (fun c73 => ?_) (fun c73 => ?_)
            · refine EW.ic 0 dX2_joinInRow_80 ?_
              refine EW.ior dX2_joinInRow_81 ?_
              refine EW.iload dX2_joinInRow_82 rfl ?_
              refine EW.if_eq 91 dX2_joinInRow_84 (by decide) (fun c84 => ?_) (fun c84 => ?_)
              · exact absurd c84 (by decide +kernel)
              · refine EW.ic 4 dX2_joinInRow_87 ?_
                refine EW.goto 92 dX2_joinInRow_88 (by decide) ?_
                refine EW.ior dX2_joinInRow_92 ?_
                refine EW.iret rfl dX2_joinInRow_93 ?_
                refine ⟨?_, rfl⟩; unfold jrI; simp only [*, not_true_eq_false, not_false_eq_true, and_true, true_and, and_false, false_and, or_true, true_or, or_false, false_or, if_true, if_false, and_self, or_self]
            · exact absurd c73 (by decide +kernel)
          · refine EW.iload_n dX2_joinInRow_53 rfl rfl ?_
            refine EW.if_eq 67 dX2_joinInRow_54 (by decide) (fun c54 => ?_) (fun c54 => ?_)
            · exact absurd c54 (by decide +kernel)
            · refine EW.iload_n dX2_joinInRow_57 rfl rfl ?_
              refine EW.ic 4 dX2_joinInRow_58 ?_
              refine EW.iand dX2_joinInRow_59 ?_
              refine EW.if_eq 67 dX2_joinInRow_60 (by decide) (fun c60 => ?_) (fun c60 => ?_)
              · refine EW.ic 0 dX2_joinInRow_67 ?_
                refine EW.istore dX2_joinInRow_68 (by decide) ?_
                refine EW.iload_n dX2_joinInRow_70 rfl rfl ?_
                refine EW.iload dX2_joinInRow_71 rfl ?_
                refine EW.if_eq 80 dX2_joinInRow_73 (by decide) (fun c73 => ?_) (fun c73 => ?_)
                · refine EW.ic 0 dX2_joinInRow_80 ?_
                  refine EW.ior dX2_joinInRow_81 ?_
                  refine EW.iload dX2_joinInRow_82 rfl ?_
                  refine EW.if_eq 91 dX2_joinInRow_84 (by decide) (fun c84 => ?_) (fun c84 => ?_)
                  · refine EW.ic 0 dX2_joinInRow_91 ?_
                    refine EW.ior dX2_joinInRow_92 ?_
                    refine EW.iret rfl dX2_joinInRow_93 ?_
                    refine ⟨?_, rfl⟩; unfold jrI; simp only [*, not_true_eq_false, not_false_eq_true, and_true, true_and, and_false, false_and, or_true, true_or, or_false, false_or, if_true, if_false, and_self, or_self]
                  · exact absurd c84 (by decide +kernel)
                · exact absurd c73 (by decide +kernel)
              · refine EW.ic 1 dX2_joinInRow_63 ?_
                refine EW.goto 68 dX2_joinInRow_64 (by decide) ?_
                refine EW.istore dX2_joinInRow_68 (by decide) ?_
                refine EW.iload_n dX2_joinInRow_70 rfl rfl ?_
                refine EW.iload dX2_joinInRow_71 rfl ?_
                refine EW.if_eq 80 dX2_joinInRow_73 (by decide) (fun c73 => ?_) (fun c73 => ?_)
                · refine EW.ic 0 dX2_joinInRow_80 ?_
                  refine EW.ior dX2_joinInRow_81 ?_
                  refine EW.iload dX2_joinInRow_82 rfl ?_
                  refine EW.if_eq 91 dX2_joinInRow_84 (by decide) (fun c84 => ?_) (fun c84 => ?_)
                  · exact absurd c84 (by decide +kernel)
                  · refine EW.ic 4 dX2_joinInRow_87 ?_
                    refine EW.goto 92 dX2_joinInRow_88 (by decide) ?_
                    refine EW.ior dX2_joinInRow_92 ?_
                    refine EW.iret rfl dX2_joinInRow_93 ?_
                    refine ⟨?_, rfl⟩; unfold jrI; simp only [*, not_true_eq_false, not_false_eq_true, and_true, true_and, and_false, false_and, or_true, true_or, or_false, false_or, if_true, if_false, and_self, or_self]
                · exact absurd c73 (by decide +kernel)
        · refine EW.iload_n dX2_joinInRow_34 rfl rfl ?_
          refine EW.ic 1 dX2_joinInRow_35 ?_
          refine EW.iand dX2_joinInRow_36 ?_
          refine EW.if_eq 44 dX2_joinInRow_37 (by decide) (fun c37 => ?_) (fun c37 => ?_)
          · refine EW.ic 0 dX2_joinInRow_44 ?_
            refine EW.istore dX2_joinInRow_45 (by decide) ?_
            refine EW.iload_n dX2_joinInRow_47 rfl rfl ?_
            refine EW.ic 4 dX2_joinInRow_48 ?_
            refine EW.iand dX2_joinInRow_49 ?_
            refine EW.if_ne 63 dX2_joinInRow_50 (by decide) (fun c50 => ?_) (fun c50 => ?_)
            · refine EW.ic 1 dX2_joinInRow_63 ?_
              refine EW.goto 68 dX2_joinInRow_64 (by decide) ?_
              refine EW.istore dX2_joinInRow_68 (by decide) ?_
              refine EW.iload_n dX2_joinInRow_70 rfl rfl ?_
              refine EW.iload dX2_joinInRow_71 rfl ?_
              refine EW.if_eq 80 dX2_joinInRow_73 (by decide) (fun c73 => ?_) (fun c73 => ?_)
              · refine EW.ic 0 dX2_joinInRow_80 ?_
                refine EW.ior dX2_joinInRow_81 ?_
                refine EW.iload dX2_joinInRow_82 rfl ?_
                refine EW.if_eq 91 dX2_joinInRow_84 (by decide) (fun c84 => ?_) (fun c84 => ?_)
                · exact absurd c84 (by decide +kernel)
                · refine EW.ic 4 dX2_joinInRow_87 ?_
                  refine EW.goto 92 dX2_joinInRow_88 (by decide) ?_
                  refine EW.ior dX2_joinInRow_92 ?_
                  refine EW.iret rfl dX2_joinInRow_93 ?_
                  refine ⟨?_, rfl⟩; unfold jrI; simp only [*, not_true_eq_false, not_false_eq_true, and_true, true_and, and_false, false_and, or_true, true_or, or_false, false_or, if_true, if_false, and_self, or_self]
              · exact absurd c73 (by decide +kernel)
            · refine EW.iload_n dX2_joinInRow_53 rfl rfl ?_
              refine EW.if_eq 67 dX2_joinInRow_54 (by decide) (fun c54 => ?_) (fun c54 => ?_)
              · exact absurd c54 (by decide +kernel)
              · refine EW.iload_n dX2_joinInRow_57 rfl rfl ?_
                refine EW.ic 4 dX2_joinInRow_58 ?_
                refine EW.iand dX2_joinInRow_59 ?_
                refine EW.if_eq 67 dX2_joinInRow_60 (by decide) (fun c60 => ?_) (fun c60 => ?_)
                · refine EW.ic 0 dX2_joinInRow_67 ?_
                  refine EW.istore dX2_joinInRow_68 (by decide) ?_
                  refine EW.iload_n dX2_joinInRow_70 rfl rfl ?_
                  refine EW.iload dX2_joinInRow_71 rfl ?_
                  refine EW.if_eq 80 dX2_joinInRow_73 (by decide) (fun c73 => ?_) (fun c73 => ?_)
                  · refine EW.ic 0 dX2_joinInRow_80 ?_
                    refine EW.ior dX2_joinInRow_81 ?_
                    refine EW.iload dX2_joinInRow_82 rfl ?_
                    refine EW.if_eq 91 dX2_joinInRow_84 (by decide) (fun c84 => ?_) (fun c84 => ?_)
                    · refine EW.ic 0 dX2_joinInRow_91 ?_
                      refine EW.ior dX2_joinInRow_92 ?_
                      refine EW.iret rfl dX2_joinInRow_93 ?_
                      refine ⟨?_, rfl⟩; unfold jrI; simp only [*, not_true_eq_false, not_false_eq_true, and_true, true_and, and_false, false_and, or_true, true_or, or_false, false_or, if_true, if_false, and_self, or_self]
                    · exact absurd c84 (by decide +kernel)
                  · exact absurd c73 (by decide +kernel)
                · refine EW.ic 1 dX2_joinInRow_63 ?_
                  refine EW.goto 68 dX2_joinInRow_64 (by decide) ?_
                  refine EW.istore dX2_joinInRow_68 (by decide) ?_
                  refine EW.iload_n dX2_joinInRow_70 rfl rfl ?_
                  refine EW.iload dX2_joinInRow_71 rfl ?_
                  refine EW.if_eq 80 dX2_joinInRow_73 (by decide) (fun c73 => ?_) (fun c73 => ?_)
                  · refine EW.ic 0 dX2_joinInRow_80 ?_
                    refine EW.ior dX2_joinInRow_81 ?_
                    refine EW.iload dX2_joinInRow_82 rfl ?_
                    refine EW.if_eq 91 dX2_joinInRow_84 (by decide) (fun c84 => ?_) (fun c84 => ?_)
                    · exact absurd c84 (by decide +kernel)
                    · refine EW.ic 4 dX2_joinInRow_87 ?_
                      refine EW.goto 92 dX2_joinInRow_88 (by decide) ?_
                      refine EW.ior dX2_joinInRow_92 ?_
                      refine EW.iret rfl dX2_joinInRow_93 ?_
                      refine ⟨?_, rfl⟩; unfold jrI; simp only [*, not_true_eq_false, not_false_eq_true, and_true, true_and, and_false, false_and, or_true, true_or, or_false, false_or, if_true, if_false, and_self, or_self]
                  · exact absurd c73 (by decide +kernel)
          · refine EW.ic 1 dX2_joinInRow_40 ?_
            refine EW.goto 45 dX2_joinInRow_41 (by decide) ?_
            refine EW.istore dX2_joinInRow_45 (by decide) ?_
            refine EW.iload_n dX2_joinInRow_47 rfl rfl ?_
            refine EW.ic 4 dX2_joinInRow_48 ?_
            refine EW.iand dX2_joinInRow_49 ?_
            refine EW.if_ne 63 dX2_joinInRow_50 (by decide) (fun c50 => ?_) (fun c50 => ?_)
            · refine EW.ic 1 dX2_joinInRow_63 ?_
              refine EW.goto 68 dX2_joinInRow_64 (by decide) ?_
              refine EW.istore dX2_joinInRow_68 (by decide) ?_
              refine EW.iload_n dX2_joinInRow_70 rfl rfl ?_
              refine EW.iload dX2_joinInRow_71 rfl ?_
              refine EW.if_eq 80 dX2_joinInRow_73 (by decide) (fun c73 => ?_) (fun c73 => ?_)
              · exact absurd c73 (by decide +kernel)
              · refine EW.ic 2 dX2_joinInRow_76 ?_
                refine EW.goto 81 dX2_joinInRow_77 (by decide) ?_
                refine EW.ior dX2_joinInRow_81 ?_
                refine EW.iload dX2_joinInRow_82 rfl ?_
                refine EW.if_eq 91 dX2_joinInRow_84 (by decide) (fun c84 => ?_) (fun c84 => ?_)
                · exact absurd c84 (by decide +kernel)
                · refine EW.ic 4 dX2_joinInRow_87 ?_
                  refine EW.goto 92 dX2_joinInRow_88 (by decide) ?_
                  refine EW.ior dX2_joinInRow_92 ?_
                  refine EW.iret rfl dX2_joinInRow_93 ?_
                  refine ⟨?_, rfl⟩; unfold jrI; simp only [*, not_true_eq_false, not_false_eq_true, and_true, true_and, and_false, false_and, or_true, true_or, or_false, false_or, if_true, if_false, and_self, or_self]
            · refine EW.iload_n dX2_joinInRow_53 rfl rfl ?_
              refine EW.if_eq 67 dX2_joinInRow_54 (by decide) (fun c54 => ?_) (fun c54 => ?_)
              · exact absurd c54 (by decide +kernel)
              · refine EW.iload_n dX2_joinInRow_57 rfl rfl ?_
                refine EW.ic 4 dX2_joinInRow_58 ?_
                refine EW.iand dX2_joinInRow_59 ?_
                refine EW.if_eq 67 dX2_joinInRow_60 (by decide) (fun c60 => ?_) (fun c60 => ?_)
                · refine EW.ic 0 dX2_joinInRow_67 ?_
                  refine EW.istore dX2_joinInRow_68 (by decide) ?_
                  refine EW.iload_n dX2_joinInRow_70 rfl rfl ?_
                  refine EW.iload dX2_joinInRow_71 rfl ?_
                  refine EW.if_eq 80 dX2_joinInRow_73 (by decide) (fun c73 => ?_) (fun c73 => ?_)
                  · exact absurd c73 (by decide +kernel)
                  · refine EW.ic 2 dX2_joinInRow_76 ?_
                    refine EW.goto 81 dX2_joinInRow_77 (by decide) ?_
                    refine EW.ior dX2_joinInRow_81 ?_
                    refine EW.iload dX2_joinInRow_82 rfl ?_
                    refine EW.if_eq 91 dX2_joinInRow_84 (by decide) (fun c84 => ?_) (fun c84 => ?_)
                    · refine EW.ic 0 dX2_joinInRow_91 ?_
                      refine EW.ior dX2_joinInRow_92 ?_
                      refine EW.iret rfl dX2_joinInRow_93 ?_
                      refine ⟨?_, rfl⟩; unfold jrI; simp only [*, not_true_eq_false, not_false_eq_true, and_true, true_and, and_false, false_and, or_true, true_or, or_false, false_or, if_true, if_false, and_self, or_self]
                    · exact absurd c84 (by decide +kernel)
                · refine EW.ic 1 dX2_joinInRow_63 ?_
                  refine EW.goto 68 dX2_joinInRow_64 (by decide) ?_
                  refine EW.istore dX2_joinInRow_68 (by decide) ?_
                  refine EW.iload_n dX2_joinInRow_70 rfl rfl ?_
                  refine EW.iload dX2_joinInRow_71 rfl ?_
                  refine EW.if_eq 80 dX2_joinInRow_73 (by decide) (fun c73 => ?_) (fun c73 => ?_)
                  · exact absurd c73 (by decide +kernel)
                  · refine EW.ic 2 dX2_joinInRow_76 ?_
                    refine EW.goto 81 dX2_joinInRow_77 (by decide) ?_
                    refine EW.ior dX2_joinInRow_81 ?_
                    refine EW.iload dX2_joinInRow_82 rfl ?_
                    refine EW.if_eq 91 dX2_joinInRow_84 (by decide) (fun c84 => ?_) (fun c84 => ?_)
                    · exact absurd c84 (by decide +kernel)
                    · refine EW.ic 4 dX2_joinInRow_87 ?_
                      refine EW.goto 92 dX2_joinInRow_88 (by decide) ?_
                      refine EW.ior dX2_joinInRow_92 ?_
                      refine EW.iret rfl dX2_joinInRow_93 ?_
                      refine ⟨?_, rfl⟩; unfold jrI; simp only [*, not_true_eq_false, not_false_eq_true, and_true, true_and, and_false, false_and, or_true, true_or, or_false, false_or, if_true, if_false, and_self, or_self]
set_option maxHeartbeats 4000000 in
theorem C_sign5 (hl : l.stackTraces = false) {S : Type} (I : S → Hp → Prop) (d : Nat) (s : S) (e : Int32) : MtW I l D cy base mX2_outcomesOfSign (d + 1) 0 0 [.int (nI 5), .int e] s (fun o s2 => o = .inl (some (.int (sgI 5 e))) ∧ s2 = s) := by
  refine MtW.of hl mfX2_outcomesOfSign rfl (Nat.le_of_ble_eq_true rfl) ?_
  refine EW.iload_n dX2_outcomesOfSign_0 rfl rfl ?_
  refine EW.tableIn (off := 35) 36 dX2_outcomesOfSign_1 (by decide +kernel) (by decide +kernel) (by decide +kernel) (by decide) ?_
  refine EW.iload_n dX2_outcomesOfSign_36 rfl rfl ?_
  refine EW.ic 2 dX2_outcomesOfSign_37 ?_
  refine EW.iand dX2_outcomesOfSign_38 ?_
  refine EW.iload_n dX2_outcomesOfSign_39 rfl rfl ?_
  refine EW.ic 4 dX2_outcomesOfSign_40 ?_
  refine EW.callS (bc := 0) (bs := 0) (mc' := 0) (ms' := 0) (C_any hl _ d s e (nI 4)) mfX2_any rfl l_X2_107 mvX2_any (by omega) dX2_outcomesOfSign_41 rfl rfl (Nat.le_of_ble_eq_true rfl) (fun v41 s41 q41 => ?_) (fun _ _ q => nomatch q.1)
  obtain ⟨e41, h41⟩ := q41; cases e41; replace h41 := h41.symm; subst h41
  refine EW.if_eq 51 dX2_outcomesOfSign_44 (by decide) (fun c44 => ?_) (fun c44 => ?_)
  · have c44 := an0 c44
    refine EW.ic 0 dX2_outcomesOfSign_51 ?_
    refine EW.ior dX2_outcomesOfSign_52 ?_
    refine EW.iret rfl dX2_outcomesOfSign_53 ?_
    refine ⟨?_, rfl⟩; unfold sgI; simp only [*, if_true, if_false]
  · have c44 := an1 c44
    refine EW.ic 1 dX2_outcomesOfSign_47 ?_
    refine EW.goto 52 dX2_outcomesOfSign_48 (by decide) ?_
    refine EW.ior dX2_outcomesOfSign_52 ?_
    refine EW.iret rfl dX2_outcomesOfSign_53 ?_
    refine ⟨?_, rfl⟩; unfold sgI; simp only [*, if_true, if_false]
set_option maxHeartbeats 4000000 in
theorem C_sign6 (hl : l.stackTraces = false) {S : Type} (I : S → Hp → Prop) (d : Nat) (s : S) (e : Int32) : MtW I l D cy base mX2_outcomesOfSign (d + 1) 0 0 [.int (nI 6), .int e] s (fun o s2 => o = .inl (some (.int (sgI 6 e))) ∧ s2 = s) := by
  refine MtW.of hl mfX2_outcomesOfSign rfl (Nat.le_of_ble_eq_true rfl) ?_
  refine EW.iload_n dX2_outcomesOfSign_0 rfl rfl ?_
  refine EW.tableIn (off := 53) 54 dX2_outcomesOfSign_1 (by decide +kernel) (by decide +kernel) (by decide +kernel) (by decide) ?_
  refine EW.iload_n dX2_outcomesOfSign_54 rfl rfl ?_
  refine EW.bp 6 dX2_outcomesOfSign_55 ?_
  refine EW.iand dX2_outcomesOfSign_57 ?_
  refine EW.iload_n dX2_outcomesOfSign_58 rfl rfl ?_
  refine EW.ic 4 dX2_outcomesOfSign_59 ?_
  refine EW.callS (bc := 0) (bs := 0) (mc' := 0) (ms' := 0) (C_any hl _ d s e (nI 4)) mfX2_any rfl l_X2_107 mvX2_any (by omega) dX2_outcomesOfSign_60 rfl rfl (Nat.le_of_ble_eq_true rfl) (fun v60 s60 q60 => ?_) (fun _ _ q => nomatch q.1)
  obtain ⟨e60, h60⟩ := q60; cases e60; replace h60 := h60.symm; subst h60
  refine EW.if_eq 72 dX2_outcomesOfSign_63 (by decide) (fun c63 => ?_) (fun c63 => ?_)
  · have c63 := an0 c63
    refine EW.ic 0 dX2_outcomesOfSign_72 ?_
    refine EW.ior dX2_outcomesOfSign_73 ?_
    refine EW.iret rfl dX2_outcomesOfSign_74 ?_
    refine ⟨?_, rfl⟩; unfold sgI; simp only [*, if_true, if_false]
  · have c63 := an1 c63
    refine EW.iload_n dX2_outcomesOfSign_66 rfl rfl ?_
    refine EW.ic 1 dX2_outcomesOfSign_67 ?_
    refine EW.iand dX2_outcomesOfSign_68 ?_
    refine EW.goto 73 dX2_outcomesOfSign_69 (by decide) ?_
    refine EW.ior dX2_outcomesOfSign_73 ?_
    refine EW.iret rfl dX2_outcomesOfSign_74 ?_
    refine ⟨?_, rfl⟩; unfold sgI; simp only [*, if_true, if_false]
set_option maxHeartbeats 4000000 in
theorem C_sign7 (hl : l.stackTraces = false) {S : Type} (I : S → Hp → Prop) (d : Nat) (s : S) (e : Int32) : MtW I l D cy base mX2_outcomesOfSign (d + 1) 0 0 [.int (nI 7), .int e] s (fun o s2 => o = .inl (some (.int (sgI 7 e))) ∧ s2 = s) := by
  refine MtW.of hl mfX2_outcomesOfSign rfl (Nat.le_of_ble_eq_true rfl) ?_
  refine EW.iload_n dX2_outcomesOfSign_0 rfl rfl ?_
  refine EW.tableIn (off := 74) 75 dX2_outcomesOfSign_1 (by decide +kernel) (by decide +kernel) (by decide +kernel) (by decide) ?_
  refine EW.iload_n dX2_outcomesOfSign_75 rfl rfl ?_
  refine EW.ic 2 dX2_outcomesOfSign_76 ?_
  refine EW.iand dX2_outcomesOfSign_77 ?_
  refine EW.iload_n dX2_outcomesOfSign_78 rfl rfl ?_
  refine EW.ic 5 dX2_outcomesOfSign_79 ?_
  refine EW.callS (bc := 0) (bs := 0) (mc' := 0) (ms' := 0) (C_any hl _ d s e (nI 5)) mfX2_any rfl l_X2_107 mvX2_any (by omega) dX2_outcomesOfSign_80 rfl rfl (Nat.le_of_ble_eq_true rfl) (fun v80 s80 q80 => ?_) (fun _ _ q => nomatch q.1)
  obtain ⟨e80, h80⟩ := q80; cases e80; replace h80 := h80.symm; subst h80
  refine EW.if_eq 90 dX2_outcomesOfSign_83 (by decide) (fun c83 => ?_) (fun c83 => ?_)
  · have c83 := an0 c83
    refine EW.ic 0 dX2_outcomesOfSign_90 ?_
    refine EW.ior dX2_outcomesOfSign_91 ?_
    refine EW.iret rfl dX2_outcomesOfSign_92 ?_
    refine ⟨?_, rfl⟩; unfold sgI; simp only [*, if_true, if_false]
  · have c83 := an1 c83
    refine EW.ic 1 dX2_outcomesOfSign_86 ?_
    refine EW.goto 91 dX2_outcomesOfSign_87 (by decide) ?_
    refine EW.ior dX2_outcomesOfSign_91 ?_
    refine EW.iret rfl dX2_outcomesOfSign_92 ?_
    refine ⟨?_, rfl⟩; unfold sgI; simp only [*, if_true, if_false]
set_option maxHeartbeats 4000000 in
theorem C_sign8 (hl : l.stackTraces = false) {S : Type} (I : S → Hp → Prop) (d : Nat) (s : S) (e : Int32) : MtW I l D cy base mX2_outcomesOfSign (d + 1) 0 0 [.int (nI 8), .int e] s (fun o s2 => o = .inl (some (.int (sgI 8 e))) ∧ s2 = s) := by
  refine MtW.of hl mfX2_outcomesOfSign rfl (Nat.le_of_ble_eq_true rfl) ?_
  refine EW.iload_n dX2_outcomesOfSign_0 rfl rfl ?_
  refine EW.tableIn (off := 92) 93 dX2_outcomesOfSign_1 (by decide +kernel) (by decide +kernel) (by decide +kernel) (by decide) ?_
  refine EW.iload_n dX2_outcomesOfSign_93 rfl rfl ?_
  refine EW.ic 4 dX2_outcomesOfSign_94 ?_
  refine EW.iand dX2_outcomesOfSign_95 ?_
  refine EW.iload_n dX2_outcomesOfSign_96 rfl rfl ?_
  refine EW.ic 3 dX2_outcomesOfSign_97 ?_
  refine EW.callS (bc := 0) (bs := 0) (mc' := 0) (ms' := 0) (C_any hl _ d s e (nI 3)) mfX2_any rfl l_X2_107 mvX2_any (by omega) dX2_outcomesOfSign_98 rfl rfl (Nat.le_of_ble_eq_true rfl) (fun v98 s98 q98 => ?_) (fun _ _ q => nomatch q.1)
  obtain ⟨e98, h98⟩ := q98; cases e98; replace h98 := h98.symm; subst h98
  refine EW.if_eq 108 dX2_outcomesOfSign_101 (by decide) (fun c101 => ?_) (fun c101 => ?_)
  · have c101 := an0 c101
    refine EW.ic 0 dX2_outcomesOfSign_108 ?_
    refine EW.ior dX2_outcomesOfSign_109 ?_
    refine EW.iret rfl dX2_outcomesOfSign_110 ?_
    refine ⟨?_, rfl⟩; unfold sgI; simp only [*, if_true, if_false]
  · have c101 := an1 c101
    refine EW.ic 1 dX2_outcomesOfSign_104 ?_
    refine EW.goto 109 dX2_outcomesOfSign_105 (by decide) ?_
    refine EW.ior dX2_outcomesOfSign_109 ?_
    refine EW.iret rfl dX2_outcomesOfSign_110 ?_
    refine ⟨?_, rfl⟩; unfold sgI; simp only [*, if_true, if_false]
set_option maxHeartbeats 4000000 in
theorem C_sign9 (hl : l.stackTraces = false) {S : Type} (I : S → Hp → Prop) (d : Nat) (s : S) (e : Int32) : MtW I l D cy base mX2_outcomesOfSign (d + 1) 0 0 [.int (nI 9), .int e] s (fun o s2 => o = .inl (some (.int (sgI 9 e))) ∧ s2 = s) := by
  refine MtW.of hl mfX2_outcomesOfSign rfl (Nat.le_of_ble_eq_true rfl) ?_
  refine EW.iload_n dX2_outcomesOfSign_0 rfl rfl ?_
  refine EW.tableIn (off := 110) 111 dX2_outcomesOfSign_1 (by decide +kernel) (by decide +kernel) (by decide +kernel) (by decide) ?_
  refine EW.iload_n dX2_outcomesOfSign_111 rfl rfl ?_
  refine EW.ic 4 dX2_outcomesOfSign_112 ?_
  refine EW.callS (bc := 0) (bs := 0) (mc' := 0) (ms' := 0) (C_any hl _ d s e (nI 4)) mfX2_any rfl l_X2_107 mvX2_any (by omega) dX2_outcomesOfSign_113 rfl rfl (Nat.le_of_ble_eq_true rfl) (fun v113 s113 q113 => ?_) (fun _ _ q => nomatch q.1)
  obtain ⟨e113, h113⟩ := q113; cases e113; replace h113 := h113.symm; subst h113
  refine EW.if_eq 123 dX2_outcomesOfSign_116 (by decide) (fun c116 => ?_) (fun c116 => ?_)
  · have c116 := an0 c116
    refine EW.ic 0 dX2_outcomesOfSign_123 ?_
    refine EW.iload_n dX2_outcomesOfSign_124 rfl rfl ?_
    refine EW.ic 3 dX2_outcomesOfSign_125 ?_
    refine EW.callS (bc := 0) (bs := 0) (mc' := 0) (ms' := 0) (C_any hl _ d s e (nI 3)) mfX2_any rfl l_X2_107 mvX2_any (by omega) dX2_outcomesOfSign_126 rfl rfl (Nat.le_of_ble_eq_true rfl) (fun v126 s126 q126 => ?_) (fun _ _ q => nomatch q.1)
    obtain ⟨e126, h126⟩ := q126; cases e126; replace h126 := h126.symm; subst h126
    refine EW.if_eq 136 dX2_outcomesOfSign_129 (by decide) (fun c129 => ?_) (fun c129 => ?_)
    · have c129 := an0 c129
      refine EW.ic 0 dX2_outcomesOfSign_136 ?_
      refine EW.ior dX2_outcomesOfSign_137 ?_
      refine EW.iret rfl dX2_outcomesOfSign_138 ?_
      refine ⟨?_, rfl⟩; unfold sgI; simp only [*, if_true, if_false]
    · have c129 := an1 c129
      refine EW.ic 4 dX2_outcomesOfSign_132 ?_
      refine EW.goto 137 dX2_outcomesOfSign_133 (by decide) ?_
      refine EW.ior dX2_outcomesOfSign_137 ?_
      refine EW.iret rfl dX2_outcomesOfSign_138 ?_
      refine ⟨?_, rfl⟩; unfold sgI; simp only [*, if_true, if_false]
  · have c116 := an1 c116
    refine EW.ic 1 dX2_outcomesOfSign_119 ?_
    refine EW.goto 124 dX2_outcomesOfSign_120 (by decide) ?_
    refine EW.iload_n dX2_outcomesOfSign_124 rfl rfl ?_
    refine EW.ic 3 dX2_outcomesOfSign_125 ?_
    refine EW.callS (bc := 0) (bs := 0) (mc' := 0) (ms' := 0) (C_any hl _ d s e (nI 3)) mfX2_any rfl l_X2_107 mvX2_any (by omega) dX2_outcomesOfSign_126 rfl rfl (Nat.le_of_ble_eq_true rfl) (fun v126 s126 q126 => ?_) (fun _ _ q => nomatch q.1)
    obtain ⟨e126, h126⟩ := q126; cases e126; replace h126 := h126.symm; subst h126
    refine EW.if_eq 136 dX2_outcomesOfSign_129 (by decide) (fun c129 => ?_) (fun c129 => ?_)
    · have c129 := an0 c129
      refine EW.ic 0 dX2_outcomesOfSign_136 ?_
      refine EW.ior dX2_outcomesOfSign_137 ?_
      refine EW.iret rfl dX2_outcomesOfSign_138 ?_
      refine ⟨?_, rfl⟩; unfold sgI; simp only [*, if_true, if_false]
    · have c129 := an1 c129
      refine EW.ic 4 dX2_outcomesOfSign_132 ?_
      refine EW.goto 137 dX2_outcomesOfSign_133 (by decide) ?_
      refine EW.ior dX2_outcomesOfSign_137 ?_
      refine EW.iret rfl dX2_outcomesOfSign_138 ?_
      refine ⟨?_, rfl⟩; unfold sgI; simp only [*, if_true, if_false]
end C4
