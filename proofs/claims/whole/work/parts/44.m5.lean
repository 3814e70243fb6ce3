section M5
variable {cy : Nat → ClassId} {ad : Nat → Nat} {hp0 : Hp} {l : Launch} {D : va_G} {base : Nat}
set_option maxHeartbeats 4000000 in
theorem M_answer1f (hl : l.stackTraces = false) (d : Nat) (s : MSt) (h k b : Nat) (hh : s.1 16 = nI (h + 1)) (h9 : h < 960) (hk : s.2 17 h = nI k) (hk9 : k < 448) (hb : s.2 18 h = nI b) (hb9 : b ≤ 20) (hkd : s.2 5 k = nI 1) (r : Nat) (hr : s.2 6 k = nI r) (hr6 : r < 6) : MtW (IM cy ad hp0) l D cy base mX9_answer d 0 0 [.ref (ad 43), .int (-1)] s (fun o s2 => o = .inl (some (.int (-1))) ∧ s2 = fU 22 (s.2 21 h) (aU 13 (21 * r + b) (-1) s)) := by
  refine MtW.of hl mfX9_answer rfl (Nat.le_of_ble_eq_true rfl) ?_
  refine EW.aload_n dX9_answer_0 rfl rfl ?_
  refine EM.get f_X9_45 dX9_answer_1 rfl ?_
  refine EW.aload_n dX9_answer_4 rfl rfl ?_
  refine EM.get f_X9_207 dX9_answer_5 rfl ?_
  refine EW.top hh ?_
  refine EW.ic 1 dX9_answer_8 ?_
  refine EW.isub dX9_answer_9 ?_
  refine EW.top (pk_sub (by omega)) ?_
  refine EM.ialdN ((h + 1) - 1) dX9_answer_10 rfl rfl (by simp only [mLen]; omega) ?_
  refine EW.top hk ?_
  refine EW.istore_n dX9_answer_11 rfl (by decide) ?_
  refine EW.aload_n dX9_answer_12 rfl rfl ?_
  refine EM.get f_X9_48 dX9_answer_13 rfl ?_
  refine EW.aload_n dX9_answer_16 rfl rfl ?_
  refine EM.get f_X9_207 dX9_answer_17 rfl ?_
  refine EW.top hh ?_
  refine EW.ic 1 dX9_answer_20 ?_
  refine EW.isub dX9_answer_21 ?_
  refine EW.top (pk_sub (by omega)) ?_
  refine EM.ialdN ((h + 1) - 1) dX9_answer_22 rfl rfl (by simp only [mLen]; omega) ?_
  refine EW.top hb ?_
  refine EW.istore_n dX9_answer_23 rfl (by decide) ?_
  refine EW.iload_n dX9_answer_24 rfl rfl ?_
  refine EW.if_ge 32 dX9_answer_25 (by decide) (fun c25 => ?_) (fun c25 => ?_)
  · exact absurd c25 (by decide +kernel)
  · refine EW.ic 1 dX9_answer_28 ?_
    refine EW.goto 33 dX9_answer_29 (by decide) ?_
    refine EW.istore dX9_answer_33 (by decide) ?_
    refine EW.iload dX9_answer_35 rfl ?_
    refine EW.if_eq 60 dX9_answer_37 (by decide) (fun c37 => ?_) (fun c37 => ?_)
    · exact absurd c37 (by decide +kernel)
    · refine EW.aload_n dX9_answer_40 rfl rfl ?_
      refine EM.get f_X9_17 dX9_answer_41 rfl ?_
      refine EW.iload_n dX9_answer_44 rfl rfl ?_
      refine EM.ialdN k dX9_answer_45 rfl rfl (by simp only [mLen]; omega) ?_
      refine EW.top hkd ?_
      refine EW.ic 1 dX9_answer_46 ?_
      refine EW.icmp_eq 60 dX9_answer_47 (by decide) (fun c47 => ?_) (fun c47 => ?_)
      · refine EW.aload_n dX9_answer_60 rfl rfl ?_
        refine EM.get f_X9_17 dX9_answer_61 rfl ?_
        refine EW.iload_n dX9_answer_64 rfl rfl ?_
        refine EM.ialdN k dX9_answer_65 rfl rfl (by simp only [mLen]; omega) ?_
        refine EW.top hkd ?_
        refine EW.bp 7 dX9_answer_66 ?_
        refine EW.icmp_eq 82 dX9_answer_68 (by decide) (fun c68 => ?_) (fun c68 => ?_)
        · exact absurd c68 (by decide +kernel)
        · refine EW.aload_n dX9_answer_71 rfl rfl ?_
          refine EM.get f_X9_17 dX9_answer_72 rfl ?_
          refine EW.iload_n dX9_answer_75 rfl rfl ?_
          refine EM.ialdN k dX9_answer_76 rfl rfl (by simp only [mLen]; omega) ?_
          refine EW.top hkd ?_
          refine EW.bp 8 dX9_answer_77 ?_
          refine EW.icmp_ne 97 dX9_answer_79 (by decide) (fun c79 => ?_) (fun c79 => ?_)
          · refine EW.aload_n dX9_answer_97 rfl rfl ?_
            refine EM.get f_X9_17 dX9_answer_98 rfl ?_
            refine EW.iload_n dX9_answer_101 rfl rfl ?_
            refine EM.ialdN k dX9_answer_102 rfl rfl (by simp only [mLen]; omega) ?_
            refine EW.top hkd ?_
            refine EW.tableIn (off := 45) 148 dX9_answer_103 (by decide +kernel) (by decide +kernel) (by decide +kernel) (by decide) ?_
            refine EW.aload_n dX9_answer_148 rfl rfl ?_
            refine EM.get f_X9_42 dX9_answer_149 rfl ?_
            refine EW.bp 21 dX9_answer_152 ?_
            refine EW.aload_n dX9_answer_154 rfl rfl ?_
            refine EM.get f_X9_20 dX9_answer_155 rfl ?_
            refine EW.iload_n dX9_answer_158 rfl rfl ?_
            refine EM.ialdN k dX9_answer_159 rfl rfl (by simp only [mLen]; omega) ?_
            refine EW.top hr ?_
            refine EW.imul dX9_answer_160 ?_
            refine EW.top (pk_mul _ _) ?_
            refine EW.iload_n dX9_answer_161 rfl rfl ?_
            refine EW.iadd dX9_answer_162 ?_
            refine EW.top (nI_add _ _) ?_
            refine EW.iload_n dX9_answer_163 rfl rfl ?_
            refine EM.iastN ((21 * r) + b) dX9_answer_164 rfl rfl (by simp only [mLen]; omega) ?_
            refine EW.aload_n dX9_answer_165 rfl rfl ?_
            refine EW.aload_n dX9_answer_166 rfl rfl ?_
            refine EM.get f_X9_57 dX9_answer_167 rfl ?_
            refine EW.aload_n dX9_answer_170 rfl rfl ?_
            refine EM.get f_X9_207 dX9_answer_171 rfl ?_
            refine EW.top hh ?_
            refine EW.ic 1 dX9_answer_174 ?_
            refine EW.isub dX9_answer_175 ?_
            refine EW.top (pk_sub (by omega)) ?_
            refine EM.ialdN ((h + 1) - 1) dX9_answer_176 rfl rfl (by simp only [mLen]; omega) ?_
            refine EM.put f_X9_228 dX9_answer_177 rfl ?_
            refine EW.iload_n dX9_answer_180 rfl rfl ?_
            refine EW.iret rfl dX9_answer_181 ?_
            exact ⟨rfl, rfl⟩
          · exact absurd c79 (by decide +kernel)
      · exact absurd c47 (by decide +kernel)
set_option maxHeartbeats 4000000 in
theorem M_answer1s (hl : l.stackTraces = false) (d : Nat) (s : MSt) (h k b : Nat) (hh : s.1 16 = nI (h + 1)) (h9 : h < 960) (hk : s.2 17 h = nI k) (hk9 : k < 448) (hb : s.2 18 h = nI b) (hb9 : b ≤ 20) (hkd : s.2 5 k = nI 1) (q : Nat) (hq9 : q ≤ 20) (r : Nat) (hr : s.2 6 k = nI r) (hr6 : r < 6) : MtW (IM cy ad hp0) l D cy base mX9_answer d 0 0 [.ref (ad 43), .int (nI q)] s (fun o s2 => o = .inl (some (.int (nI q))) ∧ s2 = fU 22 (s.2 21 h) (aU 13 (21 * r + b) (nI q) s)) := by
  refine MtW.of hl mfX9_answer rfl (Nat.le_of_ble_eq_true rfl) ?_
  refine EW.aload_n dX9_answer_0 rfl rfl ?_
  refine EM.get f_X9_45 dX9_answer_1 rfl ?_
  refine EW.aload_n dX9_answer_4 rfl rfl ?_
  refine EM.get f_X9_207 dX9_answer_5 rfl ?_
  refine EW.top hh ?_
  refine EW.ic 1 dX9_answer_8 ?_
  refine EW.isub dX9_answer_9 ?_
  refine EW.top (pk_sub (by omega)) ?_
  refine EM.ialdN ((h + 1) - 1) dX9_answer_10 rfl rfl (by simp only [mLen]; omega) ?_
  refine EW.top hk ?_
  refine EW.istore_n dX9_answer_11 rfl (by decide) ?_
  refine EW.aload_n dX9_answer_12 rfl rfl ?_
  refine EM.get f_X9_48 dX9_answer_13 rfl ?_
  refine EW.aload_n dX9_answer_16 rfl rfl ?_
  refine EM.get f_X9_207 dX9_answer_17 rfl ?_
  refine EW.top hh ?_
  refine EW.ic 1 dX9_answer_20 ?_
  refine EW.isub dX9_answer_21 ?_
  refine EW.top (pk_sub (by omega)) ?_
  refine EM.ialdN ((h + 1) - 1) dX9_answer_22 rfl rfl (by simp only [mLen]; omega) ?_
  refine EW.top hb ?_
  refine EW.istore_n dX9_answer_23 rfl (by decide) ?_
  refine EW.iload_n dX9_answer_24 rfl rfl ?_
  refine EW.if_ge 32 dX9_answer_25 (by decide) (fun c25 => ?_) (fun c25 => ?_)
  · refine EW.ic 0 dX9_answer_32 ?_
    refine EW.istore dX9_answer_33 (by decide) ?_
    refine EW.iload dX9_answer_35 rfl ?_
    refine EW.if_eq 60 dX9_answer_37 (by decide) (fun c37 => ?_) (fun c37 => ?_)
    · refine EW.aload_n dX9_answer_60 rfl rfl ?_
      refine EM.get f_X9_17 dX9_answer_61 rfl ?_
      refine EW.iload_n dX9_answer_64 rfl rfl ?_
      refine EM.ialdN k dX9_answer_65 rfl rfl (by simp only [mLen]; omega) ?_
      refine EW.top hkd ?_
      refine EW.bp 7 dX9_answer_66 ?_
      refine EW.icmp_eq 82 dX9_answer_68 (by decide) (fun c68 => ?_) (fun c68 => ?_)
      · exact absurd c68 (by decide +kernel)
      · refine EW.aload_n dX9_answer_71 rfl rfl ?_
        refine EM.get f_X9_17 dX9_answer_72 rfl ?_
        refine EW.iload_n dX9_answer_75 rfl rfl ?_
        refine EM.ialdN k dX9_answer_76 rfl rfl (by simp only [mLen]; omega) ?_
        refine EW.top hkd ?_
        refine EW.bp 8 dX9_answer_77 ?_
        refine EW.icmp_ne 97 dX9_answer_79 (by decide) (fun c79 => ?_) (fun c79 => ?_)
        · refine EW.aload_n dX9_answer_97 rfl rfl ?_
          refine EM.get f_X9_17 dX9_answer_98 rfl ?_
          refine EW.iload_n dX9_answer_101 rfl rfl ?_
          refine EM.ialdN k dX9_answer_102 rfl rfl (by simp only [mLen]; omega) ?_
          refine EW.top hkd ?_
          refine EW.tableIn (off := 45) 148 dX9_answer_103 (by decide +kernel) (by decide +kernel) (by decide +kernel) (by decide) ?_
          refine EW.aload_n dX9_answer_148 rfl rfl ?_
          refine EM.get f_X9_42 dX9_answer_149 rfl ?_
          refine EW.bp 21 dX9_answer_152 ?_
          refine EW.aload_n dX9_answer_154 rfl rfl ?_
          refine EM.get f_X9_20 dX9_answer_155 rfl ?_
          refine EW.iload_n dX9_answer_158 rfl rfl ?_
          refine EM.ialdN k dX9_answer_159 rfl rfl (by simp only [mLen]; omega) ?_
          refine EW.top hr ?_
          refine EW.imul dX9_answer_160 ?_
          refine EW.top (pk_mul _ _) ?_
          refine EW.iload_n dX9_answer_161 rfl rfl ?_
          refine EW.iadd dX9_answer_162 ?_
          refine EW.top (nI_add _ _) ?_
          refine EW.iload_n dX9_answer_163 rfl rfl ?_
          refine EM.iastN ((21 * r) + b) dX9_answer_164 rfl rfl (by simp only [mLen]; omega) ?_
          refine EW.aload_n dX9_answer_165 rfl rfl ?_
          refine EW.aload_n dX9_answer_166 rfl rfl ?_
          refine EM.get f_X9_57 dX9_answer_167 rfl ?_
          refine EW.aload_n dX9_answer_170 rfl rfl ?_
          refine EM.get f_X9_207 dX9_answer_171 rfl ?_
          refine EW.top hh ?_
          refine EW.ic 1 dX9_answer_174 ?_
          refine EW.isub dX9_answer_175 ?_
          refine EW.top (pk_sub (by omega)) ?_
          refine EM.ialdN ((h + 1) - 1) dX9_answer_176 rfl rfl (by simp only [mLen]; omega) ?_
          refine EM.put f_X9_228 dX9_answer_177 rfl ?_
          refine EW.iload_n dX9_answer_180 rfl rfl ?_
          refine EW.iret rfl dX9_answer_181 ?_
          exact ⟨rfl, rfl⟩
        · exact absurd c79 (by decide +kernel)
    · exact absurd c37 (by decide +kernel)
  · exact absurd (nI_pos' (by omega)) c25
set_option maxHeartbeats 4000000 in
theorem M_answer2f (hl : l.stackTraces = false) (d : Nat) (s : MSt) (h k b : Nat) (hh : s.1 16 = nI (h + 1)) (h9 : h < 960) (hk : s.2 17 h = nI k) (hk9 : k < 448) (hb : s.2 18 h = nI b) (hb9 : b ≤ 20) (hkd : s.2 5 k = nI 2) : MtW (IM cy ad hp0) l D cy base mX9_answer d 0 0 [.ref (ad 43), .int (-1)] s (fun o s2 => o = .inl (some (.int (-1))) ∧ s2 = s) := by
  refine MtW.of hl mfX9_answer rfl (Nat.le_of_ble_eq_true rfl) ?_
  refine EW.aload_n dX9_answer_0 rfl rfl ?_
  refine EM.get f_X9_45 dX9_answer_1 rfl ?_
  refine EW.aload_n dX9_answer_4 rfl rfl ?_
  refine EM.get f_X9_207 dX9_answer_5 rfl ?_
  refine EW.top hh ?_
  refine EW.ic 1 dX9_answer_8 ?_
  refine EW.isub dX9_answer_9 ?_
  refine EW.top (pk_sub (by omega)) ?_
  refine EM.ialdN ((h + 1) - 1) dX9_answer_10 rfl rfl (by simp only [mLen]; omega) ?_
  refine EW.top hk ?_
  refine EW.istore_n dX9_answer_11 rfl (by decide) ?_
  refine EW.aload_n dX9_answer_12 rfl rfl ?_
  refine EM.get f_X9_48 dX9_answer_13 rfl ?_
  refine EW.aload_n dX9_answer_16 rfl rfl ?_
  refine EM.get f_X9_207 dX9_answer_17 rfl ?_
  refine EW.top hh ?_
  refine EW.ic 1 dX9_answer_20 ?_
  refine EW.isub dX9_answer_21 ?_
  refine EW.top (pk_sub (by omega)) ?_
  refine EM.ialdN ((h + 1) - 1) dX9_answer_22 rfl rfl (by simp only [mLen]; omega) ?_
  refine EW.top hb ?_
  refine EW.istore_n dX9_answer_23 rfl (by decide) ?_
  refine EW.iload_n dX9_answer_24 rfl rfl ?_
  refine EW.if_ge 32 dX9_answer_25 (by decide) (fun c25 => ?_) (fun c25 => ?_)
  · exact absurd c25 (by decide +kernel)
  · refine EW.ic 1 dX9_answer_28 ?_
    refine EW.goto 33 dX9_answer_29 (by decide) ?_
    refine EW.istore dX9_answer_33 (by decide) ?_
    refine EW.iload dX9_answer_35 rfl ?_
    refine EW.if_eq 60 dX9_answer_37 (by decide) (fun c37 => ?_) (fun c37 => ?_)
    · exact absurd c37 (by decide +kernel)
    · refine EW.aload_n dX9_answer_40 rfl rfl ?_
      refine EM.get f_X9_17 dX9_answer_41 rfl ?_
      refine EW.iload_n dX9_answer_44 rfl rfl ?_
      refine EM.ialdN k dX9_answer_45 rfl rfl (by simp only [mLen]; omega) ?_
      refine EW.top hkd ?_
      refine EW.ic 1 dX9_answer_46 ?_
      refine EW.icmp_eq 60 dX9_answer_47 (by decide) (fun c47 => ?_) (fun c47 => ?_)
      · exact absurd c47 (by decide +kernel)
      · refine EW.aload_n dX9_answer_50 rfl rfl ?_
        refine EM.get f_X9_17 dX9_answer_51 rfl ?_
        refine EW.iload_n dX9_answer_54 rfl rfl ?_
        refine EM.ialdN k dX9_answer_55 rfl rfl (by simp only [mLen]; omega) ?_
        refine EW.top hkd ?_
        refine EW.ic 2 dX9_answer_56 ?_
        refine EW.icmp_ne 82 dX9_answer_57 (by decide) (fun c57 => ?_) (fun c57 => ?_)
        · exact absurd c57 (by decide +kernel)
        · refine EW.aload_n dX9_answer_60 rfl rfl ?_
          refine EM.get f_X9_17 dX9_answer_61 rfl ?_
          refine EW.iload_n dX9_answer_64 rfl rfl ?_
          refine EM.ialdN k dX9_answer_65 rfl rfl (by simp only [mLen]; omega) ?_
          refine EW.top hkd ?_
          refine EW.bp 7 dX9_answer_66 ?_
          refine EW.icmp_eq 82 dX9_answer_68 (by decide) (fun c68 => ?_) (fun c68 => ?_)
          · exact absurd c68 (by decide +kernel)
          · refine EW.aload_n dX9_answer_71 rfl rfl ?_
            refine EM.get f_X9_17 dX9_answer_72 rfl ?_
            refine EW.iload_n dX9_answer_75 rfl rfl ?_
            refine EM.ialdN k dX9_answer_76 rfl rfl (by simp only [mLen]; omega) ?_
            refine EW.top hkd ?_
            refine EW.bp 8 dX9_answer_77 ?_
            refine EW.icmp_ne 97 dX9_answer_79 (by decide) (fun c79 => ?_) (fun c79 => ?_)
            · refine EW.aload_n dX9_answer_97 rfl rfl ?_
              refine EM.get f_X9_17 dX9_answer_98 rfl ?_
              refine EW.iload_n dX9_answer_101 rfl rfl ?_
              refine EM.ialdN k dX9_answer_102 rfl rfl (by simp only [mLen]; omega) ?_
              refine EW.top hkd ?_
              refine EW.tableIn (off := 79) 182 dX9_answer_103 (by decide +kernel) (by decide +kernel) (by decide +kernel) (by decide) ?_
              refine EW.iload dX9_answer_182 rfl ?_
              refine EW.if_eq 191 dX9_answer_184 (by decide) (fun c184 => ?_) (fun c184 => ?_)
              · exact absurd c184 (by decide +kernel)
              · refine EW.iconst (v := -1) dX9_answer_187 (by decide +kernel) ?_
                refine EW.goto 193 dX9_answer_188 (by decide) ?_
                refine EW.iret rfl dX9_answer_193 ?_
                exact ⟨rfl, rfl⟩
            · exact absurd c79 (by decide +kernel)
set_option maxHeartbeats 4000000 in
theorem M_answer2s (hl : l.stackTraces = false) (d : Nat) (s : MSt) (h k b : Nat) (hh : s.1 16 = nI (h + 1)) (h9 : h < 960) (hk : s.2 17 h = nI k) (hk9 : k < 448) (hb : s.2 18 h = nI b) (hb9 : b ≤ 20) (hkd : s.2 5 k = nI 2) (q : Nat) (hq9 : q ≤ 20) : MtW (IM cy ad hp0) l D cy base mX9_answer d 0 0 [.ref (ad 43), .int (nI q)] s (fun o s2 => o = .inl (some (.int (-2))) ∧ s2 = s) := by
  refine MtW.of hl mfX9_answer rfl (Nat.le_of_ble_eq_true rfl) ?_
  refine EW.aload_n dX9_answer_0 rfl rfl ?_
  refine EM.get f_X9_45 dX9_answer_1 rfl ?_
  refine EW.aload_n dX9_answer_4 rfl rfl ?_
  refine EM.get f_X9_207 dX9_answer_5 rfl ?_
  refine EW.top hh ?_
  refine EW.ic 1 dX9_answer_8 ?_
  refine EW.isub dX9_answer_9 ?_
  refine EW.top (pk_sub (by omega)) ?_
  refine EM.ialdN ((h + 1) - 1) dX9_answer_10 rfl rfl (by simp only [mLen]; omega) ?_
  refine EW.top hk ?_
  refine EW.istore_n dX9_answer_11 rfl (by decide) ?_
  refine EW.aload_n dX9_answer_12 rfl rfl ?_
  refine EM.get f_X9_48 dX9_answer_13 rfl ?_
  refine EW.aload_n dX9_answer_16 rfl rfl ?_
  refine EM.get f_X9_207 dX9_answer_17 rfl ?_
  refine EW.top hh ?_
  refine EW.ic 1 dX9_answer_20 ?_
  refine EW.isub dX9_answer_21 ?_
  refine EW.top (pk_sub (by omega)) ?_
  refine EM.ialdN ((h + 1) - 1) dX9_answer_22 rfl rfl (by simp only [mLen]; omega) ?_
  refine EW.top hb ?_
  refine EW.istore_n dX9_answer_23 rfl (by decide) ?_
  refine EW.iload_n dX9_answer_24 rfl rfl ?_
  refine EW.if_ge 32 dX9_answer_25 (by decide) (fun c25 => ?_) (fun c25 => ?_)
  · refine EW.ic 0 dX9_answer_32 ?_
    refine EW.istore dX9_answer_33 (by decide) ?_
    refine EW.iload dX9_answer_35 rfl ?_
    refine EW.if_eq 60 dX9_answer_37 (by decide) (fun c37 => ?_) (fun c37 => ?_)
    · refine EW.aload_n dX9_answer_60 rfl rfl ?_
      refine EM.get f_X9_17 dX9_answer_61 rfl ?_
      refine EW.iload_n dX9_answer_64 rfl rfl ?_
      refine EM.ialdN k dX9_answer_65 rfl rfl (by simp only [mLen]; omega) ?_
      refine EW.top hkd ?_
      refine EW.bp 7 dX9_answer_66 ?_
      refine EW.icmp_eq 82 dX9_answer_68 (by decide) (fun c68 => ?_) (fun c68 => ?_)
      · exact absurd c68 (by decide +kernel)
      · refine EW.aload_n dX9_answer_71 rfl rfl ?_
        refine EM.get f_X9_17 dX9_answer_72 rfl ?_
        refine EW.iload_n dX9_answer_75 rfl rfl ?_
        refine EM.ialdN k dX9_answer_76 rfl rfl (by simp only [mLen]; omega) ?_
        refine EW.top hkd ?_
        refine EW.bp 8 dX9_answer_77 ?_
        refine EW.icmp_ne 97 dX9_answer_79 (by decide) (fun c79 => ?_) (fun c79 => ?_)
        · refine EW.aload_n dX9_answer_97 rfl rfl ?_
          refine EM.get f_X9_17 dX9_answer_98 rfl ?_
          refine EW.iload_n dX9_answer_101 rfl rfl ?_
          refine EM.ialdN k dX9_answer_102 rfl rfl (by simp only [mLen]; omega) ?_
          refine EW.top hkd ?_
          refine EW.tableIn (off := 79) 182 dX9_answer_103 (by decide +kernel) (by decide +kernel) (by decide +kernel) (by decide) ?_
          refine EW.iload dX9_answer_182 rfl ?_
          refine EW.if_eq 191 dX9_answer_184 (by decide) (fun c184 => ?_) (fun c184 => ?_)
          · refine EW.bipush (v := -2) dX9_answer_191 (by decide +kernel) ?_
            refine EW.iret rfl dX9_answer_193 ?_
            exact ⟨rfl, rfl⟩
          · exact absurd c184 (by decide +kernel)
        · exact absurd c79 (by decide +kernel)
    · exact absurd c37 (by decide +kernel)
  · exact absurd (nI_pos' (by omega)) c25
set_option maxHeartbeats 4000000 in
theorem M_answer3f (hl : l.stackTraces = false) (d : Nat) (s : MSt) (h k b : Nat) (hh : s.1 16 = nI (h + 1)) (h9 : h < 960) (hk : s.2 17 h = nI k) (hk9 : k < 448) (hb : s.2 18 h = nI b) (hb9 : b ≤ 20) (hkd : s.2 5 k = nI 3) : MtW (IM cy ad hp0) l D cy base mX9_answer d 0 0 [.ref (ad 43), .int (-1)] s (fun o s2 => o = .inl (some (.int (-2))) ∧ s2 = fU 24 (s.2 19 h) s) := by
  refine MtW.of hl mfX9_answer rfl (Nat.le_of_ble_eq_true rfl) ?_
  refine EW.aload_n dX9_answer_0 rfl rfl ?_
  refine EM.get f_X9_45 dX9_answer_1 rfl ?_
  refine EW.aload_n dX9_answer_4 rfl rfl ?_
  refine EM.get f_X9_207 dX9_answer_5 rfl ?_
  refine EW.top hh ?_
  refine EW.ic 1 dX9_answer_8 ?_
  refine EW.isub dX9_answer_9 ?_
  refine EW.top (pk_sub (by omega)) ?_
  refine EM.ialdN ((h + 1) - 1) dX9_answer_10 rfl rfl (by simp only [mLen]; omega) ?_
  refine EW.top hk ?_
  refine EW.istore_n dX9_answer_11 rfl (by decide) ?_
  refine EW.aload_n dX9_answer_12 rfl rfl ?_
  refine EM.get f_X9_48 dX9_answer_13 rfl ?_
  refine EW.aload_n dX9_answer_16 rfl rfl ?_
  refine EM.get f_X9_207 dX9_answer_17 rfl ?_
  refine EW.top hh ?_
  refine EW.ic 1 dX9_answer_20 ?_
  refine EW.isub dX9_answer_21 ?_
  refine EW.top (pk_sub (by omega)) ?_
  refine EM.ialdN ((h + 1) - 1) dX9_answer_22 rfl rfl (by simp only [mLen]; omega) ?_
  refine EW.top hb ?_
  refine EW.istore_n dX9_answer_23 rfl (by decide) ?_
  refine EW.iload_n dX9_answer_24 rfl rfl ?_
  refine EW.if_ge 32 dX9_answer_25 (by decide) (fun c25 => ?_) (fun c25 => ?_)
  · exact absurd c25 (by decide +kernel)
  · refine EW.ic 1 dX9_answer_28 ?_
    refine EW.goto 33 dX9_answer_29 (by decide) ?_
    refine EW.istore dX9_answer_33 (by decide) ?_
    refine EW.iload dX9_answer_35 rfl ?_
    refine EW.if_eq 60 dX9_answer_37 (by decide) (fun c37 => ?_) (fun c37 => ?_)
    · exact absurd c37 (by decide +kernel)
    · refine EW.aload_n dX9_answer_40 rfl rfl ?_
      refine EM.get f_X9_17 dX9_answer_41 rfl ?_
      refine EW.iload_n dX9_answer_44 rfl rfl ?_
      refine EM.ialdN k dX9_answer_45 rfl rfl (by simp only [mLen]; omega) ?_
      refine EW.top hkd ?_
      refine EW.ic 1 dX9_answer_46 ?_
      refine EW.icmp_eq 60 dX9_answer_47 (by decide) (fun c47 => ?_) (fun c47 => ?_)
      · exact absurd c47 (by decide +kernel)
      · refine EW.aload_n dX9_answer_50 rfl rfl ?_
        refine EM.get f_X9_17 dX9_answer_51 rfl ?_
        refine EW.iload_n dX9_answer_54 rfl rfl ?_
        refine EM.ialdN k dX9_answer_55 rfl rfl (by simp only [mLen]; omega) ?_
        refine EW.top hkd ?_
        refine EW.ic 2 dX9_answer_56 ?_
        refine EW.icmp_ne 82 dX9_answer_57 (by decide) (fun c57 => ?_) (fun c57 => ?_)
        · refine EW.aload_n dX9_answer_82 rfl rfl ?_
          refine EW.aload_n dX9_answer_83 rfl rfl ?_
          refine EM.get f_X9_51 dX9_answer_84 rfl ?_
          refine EW.aload_n dX9_answer_87 rfl rfl ?_
          refine EM.get f_X9_207 dX9_answer_88 rfl ?_
          refine EW.top hh ?_
          refine EW.ic 1 dX9_answer_91 ?_
          refine EW.isub dX9_answer_92 ?_
          refine EW.top (pk_sub (by omega)) ?_
          refine EM.ialdN ((h + 1) - 1) dX9_answer_93 rfl rfl (by simp only [mLen]; omega) ?_
          refine EM.put f_X9_210 dX9_answer_94 rfl ?_
          refine EW.aload_n dX9_answer_97 rfl rfl ?_
          refine EM.get f_X9_17 dX9_answer_98 rfl ?_
          refine EW.iload_n dX9_answer_101 rfl rfl ?_
          refine EM.ialdN k dX9_answer_102 rfl rfl (by simp only [mLen]; omega) ?_
          refine EW.top hkd ?_
          refine EW.tableIn (off := 91) 194 dX9_answer_103 (by decide +kernel) (by decide +kernel) (by decide +kernel) (by decide) ?_
          refine EW.iload dX9_answer_194 rfl ?_
          refine EW.if_eq 204 dX9_answer_196 (by decide) (fun c196 => ?_) (fun c196 => ?_)
          · exact absurd c196 (by decide +kernel)
          · refine EW.bipush (v := -2) dX9_answer_199 (by decide +kernel) ?_
            refine EW.goto 205 dX9_answer_201 (by decide) ?_
            refine EW.iret rfl dX9_answer_205 ?_
            exact ⟨rfl, rfl⟩
        · exact absurd c57 (by decide +kernel)
set_option maxHeartbeats 4000000 in
theorem M_answer3s (hl : l.stackTraces = false) (d : Nat) (s : MSt) (h k b : Nat) (hh : s.1 16 = nI (h + 1)) (h9 : h < 960) (hk : s.2 17 h = nI k) (hk9 : k < 448) (hb : s.2 18 h = nI b) (hb9 : b ≤ 20) (hkd : s.2 5 k = nI 3) (q : Nat) (hq9 : q ≤ 20) : MtW (IM cy ad hp0) l D cy base mX9_answer d 0 0 [.ref (ad 43), .int (nI q)] s (fun o s2 => o = .inl (some (.int (nI q))) ∧ s2 = s) := by
  refine MtW.of hl mfX9_answer rfl (Nat.le_of_ble_eq_true rfl) ?_
  refine EW.aload_n dX9_answer_0 rfl rfl ?_
  refine EM.get f_X9_45 dX9_answer_1 rfl ?_
  refine EW.aload_n dX9_answer_4 rfl rfl ?_
  refine EM.get f_X9_207 dX9_answer_5 rfl ?_
  refine EW.top hh ?_
  refine EW.ic 1 dX9_answer_8 ?_
  refine EW.isub dX9_answer_9 ?_
  refine EW.top (pk_sub (by omega)) ?_
  refine EM.ialdN ((h + 1) - 1) dX9_answer_10 rfl rfl (by simp only [mLen]; omega) ?_
  refine EW.top hk ?_
  refine EW.istore_n dX9_answer_11 rfl (by decide) ?_
  refine EW.aload_n dX9_answer_12 rfl rfl ?_
  refine EM.get f_X9_48 dX9_answer_13 rfl ?_
  refine EW.aload_n dX9_answer_16 rfl rfl ?_
  refine EM.get f_X9_207 dX9_answer_17 rfl ?_
  refine EW.top hh ?_
  refine EW.ic 1 dX9_answer_20 ?_
  refine EW.isub dX9_answer_21 ?_
  refine EW.top (pk_sub (by omega)) ?_
  refine EM.ialdN ((h + 1) - 1) dX9_answer_22 rfl rfl (by simp only [mLen]; omega) ?_
  refine EW.top hb ?_
  refine EW.istore_n dX9_answer_23 rfl (by decide) ?_
  refine EW.iload_n dX9_answer_24 rfl rfl ?_
  refine EW.if_ge 32 dX9_answer_25 (by decide) (fun c25 => ?_) (fun c25 => ?_)
  · refine EW.ic 0 dX9_answer_32 ?_
    refine EW.istore dX9_answer_33 (by decide) ?_
    refine EW.iload dX9_answer_35 rfl ?_
    refine EW.if_eq 60 dX9_answer_37 (by decide) (fun c37 => ?_) (fun c37 => ?_)
    · refine EW.aload_n dX9_answer_60 rfl rfl ?_
      refine EM.get f_X9_17 dX9_answer_61 rfl ?_
      refine EW.iload_n dX9_answer_64 rfl rfl ?_
      refine EM.ialdN k dX9_answer_65 rfl rfl (by simp only [mLen]; omega) ?_
      refine EW.top hkd ?_
      refine EW.bp 7 dX9_answer_66 ?_
      refine EW.icmp_eq 82 dX9_answer_68 (by decide) (fun c68 => ?_) (fun c68 => ?_)
      · exact absurd c68 (by decide +kernel)
      · refine EW.aload_n dX9_answer_71 rfl rfl ?_
        refine EM.get f_X9_17 dX9_answer_72 rfl ?_
        refine EW.iload_n dX9_answer_75 rfl rfl ?_
        refine EM.ialdN k dX9_answer_76 rfl rfl (by simp only [mLen]; omega) ?_
        refine EW.top hkd ?_
        refine EW.bp 8 dX9_answer_77 ?_
        refine EW.icmp_ne 97 dX9_answer_79 (by decide) (fun c79 => ?_) (fun c79 => ?_)
        · refine EW.aload_n dX9_answer_97 rfl rfl ?_
          refine EM.get f_X9_17 dX9_answer_98 rfl ?_
          refine EW.iload_n dX9_answer_101 rfl rfl ?_
          refine EM.ialdN k dX9_answer_102 rfl rfl (by simp only [mLen]; omega) ?_
          refine EW.top hkd ?_
          refine EW.tableIn (off := 91) 194 dX9_answer_103 (by decide +kernel) (by decide +kernel) (by decide +kernel) (by decide) ?_
          refine EW.iload dX9_answer_194 rfl ?_
          refine EW.if_eq 204 dX9_answer_196 (by decide) (fun c196 => ?_) (fun c196 => ?_)
          · refine EW.iload_n dX9_answer_204 rfl rfl ?_
            refine EW.iret rfl dX9_answer_205 ?_
            exact ⟨rfl, rfl⟩
          · exact absurd c196 (by decide +kernel)
        · exact absurd c79 (by decide +kernel)
    · exact absurd c37 (by decide +kernel)
  · exact absurd (nI_pos' (by omega)) c25
set_option maxHeartbeats 4000000 in
theorem M_answer4f (hl : l.stackTraces = false) (d : Nat) (s : MSt) (h k b : Nat) (hh : s.1 16 = nI (h + 1)) (h9 : h < 960) (hk : s.2 17 h = nI k) (hk9 : k < 448) (hb : s.2 18 h = nI b) (hb9 : b ≤ 20) (hkd : s.2 5 k = nI 4) : MtW (IM cy ad hp0) l D cy base mX9_answer d 0 0 [.ref (ad 43), .int (-1)] s (fun o s2 => o = .inl (some (.int (nI b))) ∧ s2 = fU 24 (s.2 19 h) s) := by
  refine MtW.of hl mfX9_answer rfl (Nat.le_of_ble_eq_true rfl) ?_
  refine EW.aload_n dX9_answer_0 rfl rfl ?_
  refine EM.get f_X9_45 dX9_answer_1 rfl ?_
  refine EW.aload_n dX9_answer_4 rfl rfl ?_
  refine EM.get f_X9_207 dX9_answer_5 rfl ?_
  refine EW.top hh ?_
  refine EW.ic 1 dX9_answer_8 ?_
  refine EW.isub dX9_answer_9 ?_
  refine EW.top (pk_sub (by omega)) ?_
  refine EM.ialdN ((h + 1) - 1) dX9_answer_10 rfl rfl (by simp only [mLen]; omega) ?_
  refine EW.top hk ?_
  refine EW.istore_n dX9_answer_11 rfl (by decide) ?_
  refine EW.aload_n dX9_answer_12 rfl rfl ?_
  refine EM.get f_X9_48 dX9_answer_13 rfl ?_
  refine EW.aload_n dX9_answer_16 rfl rfl ?_
  refine EM.get f_X9_207 dX9_answer_17 rfl ?_
  refine EW.top hh ?_
  refine EW.ic 1 dX9_answer_20 ?_
  refine EW.isub dX9_answer_21 ?_
  refine EW.top (pk_sub (by omega)) ?_
  refine EM.ialdN ((h + 1) - 1) dX9_answer_22 rfl rfl (by simp only [mLen]; omega) ?_
  refine EW.top hb ?_
  refine EW.istore_n dX9_answer_23 rfl (by decide) ?_
  refine EW.iload_n dX9_answer_24 rfl rfl ?_
  refine EW.if_ge 32 dX9_answer_25 (by decide) (fun c25 => ?_) (fun c25 => ?_)
  · exact absurd c25 (by decide +kernel)
  · refine EW.ic 1 dX9_answer_28 ?_
    refine EW.goto 33 dX9_answer_29 (by decide) ?_
    refine EW.istore dX9_answer_33 (by decide) ?_
    refine EW.iload dX9_answer_35 rfl ?_
    refine EW.if_eq 60 dX9_answer_37 (by decide) (fun c37 => ?_) (fun c37 => ?_)
    · exact absurd c37 (by decide +kernel)
    · refine EW.aload_n dX9_answer_40 rfl rfl ?_
      refine EM.get f_X9_17 dX9_answer_41 rfl ?_
      refine EW.iload_n dX9_answer_44 rfl rfl ?_
      refine EM.ialdN k dX9_answer_45 rfl rfl (by simp only [mLen]; omega) ?_
      refine EW.top hkd ?_
      refine EW.ic 1 dX9_answer_46 ?_
      refine EW.icmp_eq 60 dX9_answer_47 (by decide) (fun c47 => ?_) (fun c47 => ?_)
      · exact absurd c47 (by decide +kernel)
      · refine EW.aload_n dX9_answer_50 rfl rfl ?_
        refine EM.get f_X9_17 dX9_answer_51 rfl ?_
        refine EW.iload_n dX9_answer_54 rfl rfl ?_
        refine EM.ialdN k dX9_answer_55 rfl rfl (by simp only [mLen]; omega) ?_
        refine EW.top hkd ?_
        refine EW.ic 2 dX9_answer_56 ?_
        refine EW.icmp_ne 82 dX9_answer_57 (by decide) (fun c57 => ?_) (fun c57 => ?_)
        · refine EW.aload_n dX9_answer_82 rfl rfl ?_
          refine EW.aload_n dX9_answer_83 rfl rfl ?_
          refine EM.get f_X9_51 dX9_answer_84 rfl ?_
          refine EW.aload_n dX9_answer_87 rfl rfl ?_
          refine EM.get f_X9_207 dX9_answer_88 rfl ?_
          refine EW.top hh ?_
          refine EW.ic 1 dX9_answer_91 ?_
          refine EW.isub dX9_answer_92 ?_
          refine EW.top (pk_sub (by omega)) ?_
          refine EM.ialdN ((h + 1) - 1) dX9_answer_93 rfl rfl (by simp only [mLen]; omega) ?_
          refine EM.put f_X9_210 dX9_answer_94 rfl ?_
          refine EW.aload_n dX9_answer_97 rfl rfl ?_
          refine EM.get f_X9_17 dX9_answer_98 rfl ?_
          refine EW.iload_n dX9_answer_101 rfl rfl ?_
          refine EM.ialdN k dX9_answer_102 rfl rfl (by simp only [mLen]; omega) ?_
          refine EW.top hkd ?_
          refine EW.tableIn (off := 136) 239 dX9_answer_103 (by decide +kernel) (by decide +kernel) (by decide +kernel) (by decide) ?_
          refine EW.iload dX9_answer_239 rfl ?_
          refine EW.if_ne 249 dX9_answer_241 (by decide) (fun c241 => ?_) (fun c241 => ?_)
          · refine EW.aload_n dX9_answer_249 rfl rfl ?_
            refine EM.get f_X9_17 dX9_answer_250 rfl ?_
            refine EW.iload_n dX9_answer_253 rfl rfl ?_
            refine EM.ialdN k dX9_answer_254 rfl rfl (by simp only [mLen]; omega) ?_
            refine EW.top hkd ?_
            refine EW.ic 5 dX9_answer_255 ?_
            refine EW.icmp_ne 277 dX9_answer_256 (by decide) (fun c256 => ?_) (fun c256 => ?_)
            · refine EW.iload_n dX9_answer_277 rfl rfl ?_
              refine EW.iret rfl dX9_answer_278 ?_
              exact ⟨rfl, rfl⟩
            · exact absurd c256 (by decide +kernel)
          · exact absurd c241 (by decide +kernel)
        · exact absurd c57 (by decide +kernel)
set_option maxHeartbeats 4000000 in
theorem M_answer4s (hl : l.stackTraces = false) (d : Nat) (s : MSt) (h k b : Nat) (hh : s.1 16 = nI (h + 1)) (h9 : h < 960) (hk : s.2 17 h = nI k) (hk9 : k < 448) (hb : s.2 18 h = nI b) (hb9 : b ≤ 20) (hkd : s.2 5 k = nI 4) (q : Nat) (hq9 : q ≤ 20) : MtW (IM cy ad hp0) l D cy base mX9_answer d 0 0 [.ref (ad 43), .int (nI q)] s (fun o s2 => o = .inl (some (.int (-2))) ∧ s2 = s) := by
  refine MtW.of hl mfX9_answer rfl (Nat.le_of_ble_eq_true rfl) ?_
  refine EW.aload_n dX9_answer_0 rfl rfl ?_
  refine EM.get f_X9_45 dX9_answer_1 rfl ?_
  refine EW.aload_n dX9_answer_4 rfl rfl ?_
  refine EM.get f_X9_207 dX9_answer_5 rfl ?_
  refine EW.top hh ?_
  refine EW.ic 1 dX9_answer_8 ?_
  refine EW.isub dX9_answer_9 ?_
  refine EW.top (pk_sub (by omega)) ?_
  refine EM.ialdN ((h + 1) - 1) dX9_answer_10 rfl rfl (by simp only [mLen]; omega) ?_
  refine EW.top hk ?_
  refine EW.istore_n dX9_answer_11 rfl (by decide) ?_
  refine EW.aload_n dX9_answer_12 rfl rfl ?_
  refine EM.get f_X9_48 dX9_answer_13 rfl ?_
  refine EW.aload_n dX9_answer_16 rfl rfl ?_
  refine EM.get f_X9_207 dX9_answer_17 rfl ?_
  refine EW.top hh ?_
  refine EW.ic 1 dX9_answer_20 ?_
  refine EW.isub dX9_answer_21 ?_
  refine EW.top (pk_sub (by omega)) ?_
  refine EM.ialdN ((h + 1) - 1) dX9_answer_22 rfl rfl (by simp only [mLen]; omega) ?_
  refine EW.top hb ?_
  refine EW.istore_n dX9_answer_23 rfl (by decide) ?_
  refine EW.iload_n dX9_answer_24 rfl rfl ?_
  refine EW.if_ge 32 dX9_answer_25 (by decide) (fun c25 => ?_) (fun c25 => ?_)
  · refine EW.ic 0 dX9_answer_32 ?_
    refine EW.istore dX9_answer_33 (by decide) ?_
    refine EW.iload dX9_answer_35 rfl ?_
    refine EW.if_eq 60 dX9_answer_37 (by decide) (fun c37 => ?_) (fun c37 => ?_)
    · refine EW.aload_n dX9_answer_60 rfl rfl ?_
      refine EM.get f_X9_17 dX9_answer_61 rfl ?_
      refine EW.iload_n dX9_answer_64 rfl rfl ?_
      refine EM.ialdN k dX9_answer_65 rfl rfl (by simp only [mLen]; omega) ?_
      refine EW.top hkd ?_
      refine EW.bp 7 dX9_answer_66 ?_
      refine EW.icmp_eq 82 dX9_answer_68 (by decide) (fun c68 => ?_) (fun c68 => ?_)
      · exact absurd c68 (by decide +kernel)
      · refine EW.aload_n dX9_answer_71 rfl rfl ?_
        refine EM.get f_X9_17 dX9_answer_72 rfl ?_
        refine EW.iload_n dX9_answer_75 rfl rfl ?_
        refine EM.ialdN k dX9_answer_76 rfl rfl (by simp only [mLen]; omega) ?_
        refine EW.top hkd ?_
        refine EW.bp 8 dX9_answer_77 ?_
        refine EW.icmp_ne 97 dX9_answer_79 (by decide) (fun c79 => ?_) (fun c79 => ?_)
        · refine EW.aload_n dX9_answer_97 rfl rfl ?_
          refine EM.get f_X9_17 dX9_answer_98 rfl ?_
          refine EW.iload_n dX9_answer_101 rfl rfl ?_
          refine EM.ialdN k dX9_answer_102 rfl rfl (by simp only [mLen]; omega) ?_
          refine EW.top hkd ?_
          refine EW.tableIn (off := 136) 239 dX9_answer_103 (by decide +kernel) (by decide +kernel) (by decide +kernel) (by decide) ?_
          refine EW.iload dX9_answer_239 rfl ?_
          refine EW.if_ne 249 dX9_answer_241 (by decide) (fun c241 => ?_) (fun c241 => ?_)
          · exact absurd c241 (by decide +kernel)
          · refine EW.bipush (v := -2) dX9_answer_244 (by decide +kernel) ?_
            refine EW.goto 278 dX9_answer_246 (by decide) ?_
            refine EW.iret rfl dX9_answer_278 ?_
            exact ⟨rfl, rfl⟩
        · exact absurd c79 (by decide +kernel)
    · exact absurd c37 (by decide +kernel)
  · exact absurd (nI_pos' (by omega)) c25
set_option maxHeartbeats 4000000 in
theorem M_answer5fn (hl : l.stackTraces = false) (d : Nat) (s : MSt) (h k b : Nat) (hh : s.1 16 = nI (h + 1)) (h9 : h < 960) (hk : s.2 17 h = nI k) (hk9 : k < 448) (hb : s.2 18 h = nI b) (hb9 : b ≤ 20) (hkd : s.2 5 k = nI 5) (hag : s.2 20 h = 0) : MtW (IM cy ad hp0) l D cy base mX9_answer d 0 0 [.ref (ad 43), .int (-1)] s (fun o s2 => o = .inl (some (.int (-1))) ∧ s2 = fU 24 (s.2 19 h) s) := by
  refine MtW.of hl mfX9_answer rfl (Nat.le_of_ble_eq_true rfl) ?_
  refine EW.aload_n dX9_answer_0 rfl rfl ?_
  refine EM.get f_X9_45 dX9_answer_1 rfl ?_
  refine EW.aload_n dX9_answer_4 rfl rfl ?_
  refine EM.get f_X9_207 dX9_answer_5 rfl ?_
  refine EW.top hh ?_
  refine EW.ic 1 dX9_answer_8 ?_
  refine EW.isub dX9_answer_9 ?_
  refine EW.top (pk_sub (by omega)) ?_
  refine EM.ialdN ((h + 1) - 1) dX9_answer_10 rfl rfl (by simp only [mLen]; omega) ?_
  refine EW.top hk ?_
  refine EW.istore_n dX9_answer_11 rfl (by decide) ?_
  refine EW.aload_n dX9_answer_12 rfl rfl ?_
  refine EM.get f_X9_48 dX9_answer_13 rfl ?_
  refine EW.aload_n dX9_answer_16 rfl rfl ?_
  refine EM.get f_X9_207 dX9_answer_17 rfl ?_
  refine EW.top hh ?_
  refine EW.ic 1 dX9_answer_20 ?_
  refine EW.isub dX9_answer_21 ?_
  refine EW.top (pk_sub (by omega)) ?_
  refine EM.ialdN ((h + 1) - 1) dX9_answer_22 rfl rfl (by simp only [mLen]; omega) ?_
  refine EW.top hb ?_
  refine EW.istore_n dX9_answer_23 rfl (by decide) ?_
  refine EW.iload_n dX9_answer_24 rfl rfl ?_
  refine EW.if_ge 32 dX9_answer_25 (by decide) (fun c25 => ?_) (fun c25 => ?_)
  · exact absurd c25 (by decide +kernel)
  · refine EW.ic 1 dX9_answer_28 ?_
    refine EW.goto 33 dX9_answer_29 (by decide) ?_
    refine EW.istore dX9_answer_33 (by decide) ?_
    refine EW.iload dX9_answer_35 rfl ?_
    refine EW.if_eq 60 dX9_answer_37 (by decide) (fun c37 => ?_) (fun c37 => ?_)
    · exact absurd c37 (by decide +kernel)
    · refine EW.aload_n dX9_answer_40 rfl rfl ?_
      refine EM.get f_X9_17 dX9_answer_41 rfl ?_
      refine EW.iload_n dX9_answer_44 rfl rfl ?_
      refine EM.ialdN k dX9_answer_45 rfl rfl (by simp only [mLen]; omega) ?_
      refine EW.top hkd ?_
      refine EW.ic 1 dX9_answer_46 ?_
      refine EW.icmp_eq 60 dX9_answer_47 (by decide) (fun c47 => ?_) (fun c47 => ?_)
      · exact absurd c47 (by decide +kernel)
      · refine EW.aload_n dX9_answer_50 rfl rfl ?_
        refine EM.get f_X9_17 dX9_answer_51 rfl ?_
        refine EW.iload_n dX9_answer_54 rfl rfl ?_
        refine EM.ialdN k dX9_answer_55 rfl rfl (by simp only [mLen]; omega) ?_
        refine EW.top hkd ?_
        refine EW.ic 2 dX9_answer_56 ?_
        refine EW.icmp_ne 82 dX9_answer_57 (by decide) (fun c57 => ?_) (fun c57 => ?_)
        · refine EW.aload_n dX9_answer_82 rfl rfl ?_
          refine EW.aload_n dX9_answer_83 rfl rfl ?_
          refine EM.get f_X9_51 dX9_answer_84 rfl ?_
          refine EW.aload_n dX9_answer_87 rfl rfl ?_
          refine EM.get f_X9_207 dX9_answer_88 rfl ?_
          refine EW.top hh ?_
          refine EW.ic 1 dX9_answer_91 ?_
          refine EW.isub dX9_answer_92 ?_
          refine EW.top (pk_sub (by omega)) ?_
          refine EM.ialdN ((h + 1) - 1) dX9_answer_93 rfl rfl (by simp only [mLen]; omega) ?_
          refine EM.put f_X9_210 dX9_answer_94 rfl ?_
          refine EW.aload_n dX9_answer_97 rfl rfl ?_
          refine EM.get f_X9_17 dX9_answer_98 rfl ?_
          refine EW.iload_n dX9_answer_101 rfl rfl ?_
          refine EM.ialdN k dX9_answer_102 rfl rfl (by simp only [mLen]; omega) ?_
          refine EW.top hkd ?_
          refine EW.tableIn (off := 136) 239 dX9_answer_103 (by decide +kernel) (by decide +kernel) (by decide +kernel) (by decide) ?_
          refine EW.iload dX9_answer_239 rfl ?_
          refine EW.if_ne 249 dX9_answer_241 (by decide) (fun c241 => ?_) (fun c241 => ?_)
          · refine EW.aload_n dX9_answer_249 rfl rfl ?_
            refine EM.get f_X9_17 dX9_answer_250 rfl ?_
            refine EW.iload_n dX9_answer_253 rfl rfl ?_
            refine EM.ialdN k dX9_answer_254 rfl rfl (by simp only [mLen]; omega) ?_
            refine EW.top hkd ?_
            refine EW.ic 5 dX9_answer_255 ?_
            refine EW.icmp_ne 277 dX9_answer_256 (by decide) (fun c256 => ?_) (fun c256 => ?_)
            · exact absurd c256 (by decide +kernel)
            · refine EW.aload_n dX9_answer_259 rfl rfl ?_
              refine EM.get f_X9_54 dX9_answer_260 rfl ?_
              refine EW.aload_n dX9_answer_263 rfl rfl ?_
              refine EM.get f_X9_207 dX9_answer_264 rfl ?_
              refine EW.top hh ?_
              refine EW.ic 1 dX9_answer_267 ?_
              refine EW.isub dX9_answer_268 ?_
              refine EW.top (pk_sub (by omega)) ?_
              refine EM.zaldN ((h + 1) - 1) dX9_answer_269 rfl rfl (by simp only [mLen]; omega) ?_
              refine EW.if_ne 277 dX9_answer_270 (by decide) (fun c270 => ?_) (fun c270 => ?_)
              · exact absurd hag c270
              · refine EW.iconst (v := -1) dX9_answer_273 (by decide +kernel) ?_
                refine EW.goto 278 dX9_answer_274 (by decide) ?_
                refine EW.iret rfl dX9_answer_278 ?_
                exact ⟨rfl, rfl⟩
          · exact absurd c241 (by decide +kernel)
        · exact absurd c57 (by decide +kernel)
set_option maxHeartbeats 4000000 in
theorem M_answer5fa (hl : l.stackTraces = false) (d : Nat) (s : MSt) (h k b : Nat) (hh : s.1 16 = nI (h + 1)) (h9 : h < 960) (hk : s.2 17 h = nI k) (hk9 : k < 448) (hb : s.2 18 h = nI b) (hb9 : b ≤ 20) (hkd : s.2 5 k = nI 5) (hag : ¬ s.2 20 h = 0) : MtW (IM cy ad hp0) l D cy base mX9_answer d 0 0 [.ref (ad 43), .int (-1)] s (fun o s2 => o = .inl (some (.int (nI b))) ∧ s2 = fU 24 (s.2 19 h) s) := by
  refine MtW.of hl mfX9_answer rfl (Nat.le_of_ble_eq_true rfl) ?_
  refine EW.aload_n dX9_answer_0 rfl rfl ?_
  refine EM.get f_X9_45 dX9_answer_1 rfl ?_
  refine EW.aload_n dX9_answer_4 rfl rfl ?_
  refine EM.get f_X9_207 dX9_answer_5 rfl ?_
  refine EW.top hh ?_
  refine EW.ic 1 dX9_answer_8 ?_
  refine EW.isub dX9_answer_9 ?_
  refine EW.top (pk_sub (by omega)) ?_
  refine EM.ialdN ((h + 1) - 1) dX9_answer_10 rfl rfl (by simp only [mLen]; omega) ?_
  refine EW.top hk ?_
  refine EW.istore_n dX9_answer_11 rfl (by decide) ?_
  refine EW.aload_n dX9_answer_12 rfl rfl ?_
  refine EM.get f_X9_48 dX9_answer_13 rfl ?_
  refine EW.aload_n dX9_answer_16 rfl rfl ?_
  refine EM.get f_X9_207 dX9_answer_17 rfl ?_
  refine EW.top hh ?_
  refine EW.ic 1 dX9_answer_20 ?_
  refine EW.isub dX9_answer_21 ?_
  refine EW.top (pk_sub (by omega)) ?_
  refine EM.ialdN ((h + 1) - 1) dX9_answer_22 rfl rfl (by simp only [mLen]; omega) ?_
  refine EW.top hb ?_
  refine EW.istore_n dX9_answer_23 rfl (by decide) ?_
  refine EW.iload_n dX9_answer_24 rfl rfl ?_
  refine EW.if_ge 32 dX9_answer_25 (by decide) (fun c25 => ?_) (fun c25 => ?_)
  · exact absurd c25 (by decide +kernel)
  · refine EW.ic 1 dX9_answer_28 ?_
    refine EW.goto 33 dX9_answer_29 (by decide) ?_
    refine EW.istore dX9_answer_33 (by decide) ?_
    refine EW.iload dX9_answer_35 rfl ?_
    refine EW.if_eq 60 dX9_answer_37 (by decide) (fun c37 => ?_) (fun c37 => ?_)
    · exact absurd c37 (by decide +kernel)
    · refine EW.aload_n dX9_answer_40 rfl rfl ?_
      refine EM.get f_X9_17 dX9_answer_41 rfl ?_
      refine EW.iload_n dX9_answer_44 rfl rfl ?_
      refine EM.ialdN k dX9_answer_45 rfl rfl (by simp only [mLen]; omega) ?_
      refine EW.top hkd ?_
      refine EW.ic 1 dX9_answer_46 ?_
      refine EW.icmp_eq 60 dX9_answer_47 (by decide) (fun c47 => ?_) (fun c47 => ?_)
      · exact absurd c47 (by decide +kernel)
      · refine EW.aload_n dX9_answer_50 rfl rfl ?_
        refine EM.get f_X9_17 dX9_answer_51 rfl ?_
        refine EW.iload_n dX9_answer_54 rfl rfl ?_
        refine EM.ialdN k dX9_answer_55 rfl rfl (by simp only [mLen]; omega) ?_
        refine EW.top hkd ?_
        refine EW.ic 2 dX9_answer_56 ?_
        refine EW.icmp_ne 82 dX9_answer_57 (by decide) (fun c57 => ?_) (fun c57 => ?_)
        · refine EW.aload_n dX9_answer_82 rfl rfl ?_
          refine EW.aload_n dX9_answer_83 rfl rfl ?_
          refine EM.get f_X9_51 dX9_answer_84 rfl ?_
          refine EW.aload_n dX9_answer_87 rfl rfl ?_
          refine EM.get f_X9_207 dX9_answer_88 rfl ?_
          refine EW.top hh ?_
          refine EW.ic 1 dX9_answer_91 ?_
          refine EW.isub dX9_answer_92 ?_
          refine EW.top (pk_sub (by omega)) ?_
          refine EM.ialdN ((h + 1) - 1) dX9_answer_93 rfl rfl (by simp only [mLen]; omega) ?_
          refine EM.put f_X9_210 dX9_answer_94 rfl ?_
          refine EW.aload_n dX9_answer_97 rfl rfl ?_
          refine EM.get f_X9_17 dX9_answer_98 rfl ?_
          refine EW.iload_n dX9_answer_101 rfl rfl ?_
          refine EM.ialdN k dX9_answer_102 rfl rfl (by simp only [mLen]; omega) ?_
          refine EW.top hkd ?_
          refine EW.tableIn (off := 136) 239 dX9_answer_103 (by decide +kernel) (by decide +kernel) (by decide +kernel) (by decide) ?_
          refine EW.iload dX9_answer_239 rfl ?_
          refine EW.if_ne 249 dX9_answer_241 (by decide) (fun c241 => ?_) (fun c241 => ?_)
          · refine EW.aload_n dX9_answer_249 rfl rfl ?_
            refine EM.get f_X9_17 dX9_answer_250 rfl ?_
            refine EW.iload_n dX9_answer_253 rfl rfl ?_
            refine EM.ialdN k dX9_answer_254 rfl rfl (by simp only [mLen]; omega) ?_
            refine EW.top hkd ?_
            refine EW.ic 5 dX9_answer_255 ?_
            refine EW.icmp_ne 277 dX9_answer_256 (by decide) (fun c256 => ?_) (fun c256 => ?_)
            · exact absurd c256 (by decide +kernel)
            · refine EW.aload_n dX9_answer_259 rfl rfl ?_
              refine EM.get f_X9_54 dX9_answer_260 rfl ?_
              refine EW.aload_n dX9_answer_263 rfl rfl ?_
              refine EM.get f_X9_207 dX9_answer_264 rfl ?_
              refine EW.top hh ?_
              refine EW.ic 1 dX9_answer_267 ?_
              refine EW.isub dX9_answer_268 ?_
              refine EW.top (pk_sub (by omega)) ?_
              refine EM.zaldN ((h + 1) - 1) dX9_answer_269 rfl rfl (by simp only [mLen]; omega) ?_
              refine EW.if_ne 277 dX9_answer_270 (by decide) (fun c270 => ?_) (fun c270 => ?_)
              · refine EW.iload_n dX9_answer_277 rfl rfl ?_
                refine EW.iret rfl dX9_answer_278 ?_
                exact ⟨rfl, rfl⟩
              · exact absurd c270 hag
          · exact absurd c241 (by decide +kernel)
        · exact absurd c57 (by decide +kernel)
set_option maxHeartbeats 4000000 in
theorem M_answer5s (hl : l.stackTraces = false) (d : Nat) (s : MSt) (h k b : Nat) (hh : s.1 16 = nI (h + 1)) (h9 : h < 960) (hk : s.2 17 h = nI k) (hk9 : k < 448) (hb : s.2 18 h = nI b) (hb9 : b ≤ 20) (hkd : s.2 5 k = nI 5) (q : Nat) (hq9 : q ≤ 20) : MtW (IM cy ad hp0) l D cy base mX9_answer d 0 0 [.ref (ad 43), .int (nI q)] s (fun o s2 => o = .inl (some (.int (-2))) ∧ s2 = s) := by
  refine MtW.of hl mfX9_answer rfl (Nat.le_of_ble_eq_true rfl) ?_
  refine EW.aload_n dX9_answer_0 rfl rfl ?_
  refine EM.get f_X9_45 dX9_answer_1 rfl ?_
  refine EW.aload_n dX9_answer_4 rfl rfl ?_
  refine EM.get f_X9_207 dX9_answer_5 rfl ?_
  refine EW.top hh ?_
  refine EW.ic 1 dX9_answer_8 ?_
  refine EW.isub dX9_answer_9 ?_
  refine EW.top (pk_sub (by omega)) ?_
  refine EM.ialdN ((h + 1) - 1) dX9_answer_10 rfl rfl (by simp only [mLen]; omega) ?_
  refine EW.top hk ?_
  refine EW.istore_n dX9_answer_11 rfl (by decide) ?_
  refine EW.aload_n dX9_answer_12 rfl rfl ?_
  refine EM.get f_X9_48 dX9_answer_13 rfl ?_
  refine EW.aload_n dX9_answer_16 rfl rfl ?_
  refine EM.get f_X9_207 dX9_answer_17 rfl ?_
  refine EW.top hh ?_
  refine EW.ic 1 dX9_answer_20 ?_
  refine EW.isub dX9_answer_21 ?_
  refine EW.top (pk_sub (by omega)) ?_
  refine EM.ialdN ((h + 1) - 1) dX9_answer_22 rfl rfl (by simp only [mLen]; omega) ?_
  refine EW.top hb ?_
  refine EW.istore_n dX9_answer_23 rfl (by decide) ?_
  refine EW.iload_n dX9_answer_24 rfl rfl ?_
  refine EW.if_ge 32 dX9_answer_25 (by decide) (fun c25 => ?_) (fun c25 => ?_)
  · refine EW.ic 0 dX9_answer_32 ?_
    refine EW.istore dX9_answer_33 (by decide) ?_
    refine EW.iload dX9_answer_35 rfl ?_
    refine EW.if_eq 60 dX9_answer_37 (by decide) (fun c37 => ?_) (fun c37 => ?_)
    · refine EW.aload_n dX9_answer_60 rfl rfl ?_
      refine EM.get f_X9_17 dX9_answer_61 rfl ?_
      refine EW.iload_n dX9_answer_64 rfl rfl ?_
      refine EM.ialdN k dX9_answer_65 rfl rfl (by simp only [mLen]; omega) ?_
      refine EW.top hkd ?_
      refine EW.bp 7 dX9_answer_66 ?_
      refine EW.icmp_eq 82 dX9_answer_68 (by decide) (fun c68 => ?_) (fun c68 => ?_)
      · exact absurd c68 (by decide +kernel)
      · refine EW.aload_n dX9_answer_71 rfl rfl ?_
        refine EM.get f_X9_17 dX9_answer_72 rfl ?_
        refine EW.iload_n dX9_answer_75 rfl rfl ?_
        refine EM.ialdN k dX9_answer_76 rfl rfl (by simp only [mLen]; omega) ?_
        refine EW.top hkd ?_
        refine EW.bp 8 dX9_answer_77 ?_
        refine EW.icmp_ne 97 dX9_answer_79 (by decide) (fun c79 => ?_) (fun c79 => ?_)
        · refine EW.aload_n dX9_answer_97 rfl rfl ?_
          refine EM.get f_X9_17 dX9_answer_98 rfl ?_
          refine EW.iload_n dX9_answer_101 rfl rfl ?_
          refine EM.ialdN k dX9_answer_102 rfl rfl (by simp only [mLen]; omega) ?_
          refine EW.top hkd ?_
          refine EW.tableIn (off := 136) 239 dX9_answer_103 (by decide +kernel) (by decide +kernel) (by decide +kernel) (by decide) ?_
          refine EW.iload dX9_answer_239 rfl ?_
          refine EW.if_ne 249 dX9_answer_241 (by decide) (fun c241 => ?_) (fun c241 => ?_)
          · exact absurd c241 (by decide +kernel)
          · refine EW.bipush (v := -2) dX9_answer_244 (by decide +kernel) ?_
            refine EW.goto 278 dX9_answer_246 (by decide) ?_
            refine EW.iret rfl dX9_answer_278 ?_
            exact ⟨rfl, rfl⟩
        · exact absurd c79 (by decide +kernel)
    · exact absurd c37 (by decide +kernel)
  · exact absurd (nI_pos' (by omega)) c25
set_option maxHeartbeats 4000000 in
theorem M_answer6f (hl : l.stackTraces = false) (d : Nat) (s : MSt) (h k b : Nat) (hh : s.1 16 = nI (h + 1)) (h9 : h < 960) (hk : s.2 17 h = nI k) (hk9 : k < 448) (hb : s.2 18 h = nI b) (hb9 : b ≤ 20) (hkd : s.2 5 k = nI 6) : MtW (IM cy ad hp0) l D cy base mX9_answer d 0 0 [.ref (ad 43), .int (-1)] s (fun o s2 => o = .inl (some (.int (nI b))) ∧ s2 = fU 24 (s.2 19 h) s) := by
  refine MtW.of hl mfX9_answer rfl (Nat.le_of_ble_eq_true rfl) ?_
  refine EW.aload_n dX9_answer_0 rfl rfl ?_
  refine EM.get f_X9_45 dX9_answer_1 rfl ?_
  refine EW.aload_n dX9_answer_4 rfl rfl ?_
  refine EM.get f_X9_207 dX9_answer_5 rfl ?_
  refine EW.top hh ?_
  refine EW.ic 1 dX9_answer_8 ?_
  refine EW.isub dX9_answer_9 ?_
  refine EW.top (pk_sub (by omega)) ?_
  refine EM.ialdN ((h + 1) - 1) dX9_answer_10 rfl rfl (by simp only [mLen]; omega) ?_
  refine EW.top hk ?_
  refine EW.istore_n dX9_answer_11 rfl (by decide) ?_
  refine EW.aload_n dX9_answer_12 rfl rfl ?_
  refine EM.get f_X9_48 dX9_answer_13 rfl ?_
  refine EW.aload_n dX9_answer_16 rfl rfl ?_
  refine EM.get f_X9_207 dX9_answer_17 rfl ?_
  refine EW.top hh ?_
  refine EW.ic 1 dX9_answer_20 ?_
  refine EW.isub dX9_answer_21 ?_
  refine EW.top (pk_sub (by omega)) ?_
  refine EM.ialdN ((h + 1) - 1) dX9_answer_22 rfl rfl (by simp only [mLen]; omega) ?_
  refine EW.top hb ?_
  refine EW.istore_n dX9_answer_23 rfl (by decide) ?_
  refine EW.iload_n dX9_answer_24 rfl rfl ?_
  refine EW.if_ge 32 dX9_answer_25 (by decide) (fun c25 => ?_) (fun c25 => ?_)
  · exact absurd c25 (by decide +kernel)
  · refine EW.ic 1 dX9_answer_28 ?_
    refine EW.goto 33 dX9_answer_29 (by decide) ?_
    refine EW.istore dX9_answer_33 (by decide) ?_
    refine EW.iload dX9_answer_35 rfl ?_
    refine EW.if_eq 60 dX9_answer_37 (by decide) (fun c37 => ?_) (fun c37 => ?_)
    · exact absurd c37 (by decide +kernel)
    · refine EW.aload_n dX9_answer_40 rfl rfl ?_
      refine EM.get f_X9_17 dX9_answer_41 rfl ?_
      refine EW.iload_n dX9_answer_44 rfl rfl ?_
      refine EM.ialdN k dX9_answer_45 rfl rfl (by simp only [mLen]; omega) ?_
      refine EW.top hkd ?_
      refine EW.ic 1 dX9_answer_46 ?_
      refine EW.icmp_eq 60 dX9_answer_47 (by decide) (fun c47 => ?_) (fun c47 => ?_)
      · exact absurd c47 (by decide +kernel)
      · refine EW.aload_n dX9_answer_50 rfl rfl ?_
        refine EM.get f_X9_17 dX9_answer_51 rfl ?_
        refine EW.iload_n dX9_answer_54 rfl rfl ?_
        refine EM.ialdN k dX9_answer_55 rfl rfl (by simp only [mLen]; omega) ?_
        refine EW.top hkd ?_
        refine EW.ic 2 dX9_answer_56 ?_
        refine EW.icmp_ne 82 dX9_answer_57 (by decide) (fun c57 => ?_) (fun c57 => ?_)
        · refine EW.aload_n dX9_answer_82 rfl rfl ?_
          refine EW.aload_n dX9_answer_83 rfl rfl ?_
          refine EM.get f_X9_51 dX9_answer_84 rfl ?_
          refine EW.aload_n dX9_answer_87 rfl rfl ?_
          refine EM.get f_X9_207 dX9_answer_88 rfl ?_
          refine EW.top hh ?_
          refine EW.ic 1 dX9_answer_91 ?_
          refine EW.isub dX9_answer_92 ?_
          refine EW.top (pk_sub (by omega)) ?_
          refine EM.ialdN ((h + 1) - 1) dX9_answer_93 rfl rfl (by simp only [mLen]; omega) ?_
          refine EM.put f_X9_210 dX9_answer_94 rfl ?_
          refine EW.aload_n dX9_answer_97 rfl rfl ?_
          refine EM.get f_X9_17 dX9_answer_98 rfl ?_
          refine EW.iload_n dX9_answer_101 rfl rfl ?_
          refine EM.ialdN k dX9_answer_102 rfl rfl (by simp only [mLen]; omega) ?_
          refine EW.top hkd ?_
          refine EW.tableIn (off := 103) 206 dX9_answer_103 (by decide +kernel) (by decide +kernel) (by decide +kernel) (by decide) ?_
          refine EW.iload dX9_answer_206 rfl ?_
          refine EW.if_eq 215 dX9_answer_208 (by decide) (fun c208 => ?_) (fun c208 => ?_)
          · exact absurd c208 (by decide +kernel)
          · refine EW.iload_n dX9_answer_211 rfl rfl ?_
            refine EW.goto 216 dX9_answer_212 (by decide) ?_
            refine EW.iret rfl dX9_answer_216 ?_
            exact ⟨rfl, rfl⟩
        · exact absurd c57 (by decide +kernel)
set_option maxHeartbeats 4000000 in
theorem M_answer6s (hl : l.stackTraces = false) (d : Nat) (s : MSt) (h k b : Nat) (hh : s.1 16 = nI (h + 1)) (h9 : h < 960) (hk : s.2 17 h = nI k) (hk9 : k < 448) (hb : s.2 18 h = nI b) (hb9 : b ≤ 20) (hkd : s.2 5 k = nI 6) (q : Nat) (hq9 : q ≤ 20) : MtW (IM cy ad hp0) l D cy base mX9_answer d 0 0 [.ref (ad 43), .int (nI q)] s (fun o s2 => o = .inl (some (.int (nI q))) ∧ s2 = s) := by
  refine MtW.of hl mfX9_answer rfl (Nat.le_of_ble_eq_true rfl) ?_
  refine EW.aload_n dX9_answer_0 rfl rfl ?_
  refine EM.get f_X9_45 dX9_answer_1 rfl ?_
  refine EW.aload_n dX9_answer_4 rfl rfl ?_
  refine EM.get f_X9_207 dX9_answer_5 rfl ?_
  refine EW.top hh ?_
  refine EW.ic 1 dX9_answer_8 ?_
  refine EW.isub dX9_answer_9 ?_
  refine EW.top (pk_sub (by omega)) ?_
  refine EM.ialdN ((h + 1) - 1) dX9_answer_10 rfl rfl (by simp only [mLen]; omega) ?_
  refine EW.top hk ?_
  refine EW.istore_n dX9_answer_11 rfl (by decide) ?_
  refine EW.aload_n dX9_answer_12 rfl rfl ?_
  refine EM.get f_X9_48 dX9_answer_13 rfl ?_
  refine EW.aload_n dX9_answer_16 rfl rfl ?_
  refine EM.get f_X9_207 dX9_answer_17 rfl ?_
  refine EW.top hh ?_
  refine EW.ic 1 dX9_answer_20 ?_
  refine EW.isub dX9_answer_21 ?_
  refine EW.top (pk_sub (by omega)) ?_
  refine EM.ialdN ((h + 1) - 1) dX9_answer_22 rfl rfl (by simp only [mLen]; omega) ?_
  refine EW.top hb ?_
  refine EW.istore_n dX9_answer_23 rfl (by decide) ?_
  refine EW.iload_n dX9_answer_24 rfl rfl ?_
  refine EW.if_ge 32 dX9_answer_25 (by decide) (fun c25 => ?_) (fun c25 => ?_)
  · refine EW.ic 0 dX9_answer_32 ?_
    refine EW.istore dX9_answer_33 (by decide) ?_
    refine EW.iload dX9_answer_35 rfl ?_
    refine EW.if_eq 60 dX9_answer_37 (by decide) (fun c37 => ?_) (fun c37 => ?_)
    · refine EW.aload_n dX9_answer_60 rfl rfl ?_
      refine EM.get f_X9_17 dX9_answer_61 rfl ?_
      refine EW.iload_n dX9_answer_64 rfl rfl ?_
      refine EM.ialdN k dX9_answer_65 rfl rfl (by simp only [mLen]; omega) ?_
      refine EW.top hkd ?_
      refine EW.bp 7 dX9_answer_66 ?_
      refine EW.icmp_eq 82 dX9_answer_68 (by decide) (fun c68 => ?_) (fun c68 => ?_)
      · exact absurd c68 (by decide +kernel)
      · refine EW.aload_n dX9_answer_71 rfl rfl ?_
        refine EM.get f_X9_17 dX9_answer_72 rfl ?_
        refine EW.iload_n dX9_answer_75 rfl rfl ?_
        refine EM.ialdN k dX9_answer_76 rfl rfl (by simp only [mLen]; omega) ?_
        refine EW.top hkd ?_
        refine EW.bp 8 dX9_answer_77 ?_
        refine EW.icmp_ne 97 dX9_answer_79 (by decide) (fun c79 => ?_) (fun c79 => ?_)
        · refine EW.aload_n dX9_answer_97 rfl rfl ?_
          refine EM.get f_X9_17 dX9_answer_98 rfl ?_
          refine EW.iload_n dX9_answer_101 rfl rfl ?_
          refine EM.ialdN k dX9_answer_102 rfl rfl (by simp only [mLen]; omega) ?_
          refine EW.top hkd ?_
          refine EW.tableIn (off := 103) 206 dX9_answer_103 (by decide +kernel) (by decide +kernel) (by decide +kernel) (by decide) ?_
          refine EW.iload dX9_answer_206 rfl ?_
          refine EW.if_eq 215 dX9_answer_208 (by decide) (fun c208 => ?_) (fun c208 => ?_)
          · refine EW.iload_n dX9_answer_215 rfl rfl ?_
            refine EW.iret rfl dX9_answer_216 ?_
            exact ⟨rfl, rfl⟩
          · exact absurd c208 (by decide +kernel)
        · exact absurd c79 (by decide +kernel)
    · exact absurd c37 (by decide +kernel)
  · exact absurd (nI_pos' (by omega)) c25
set_option maxHeartbeats 4000000 in
theorem M_answer7f (hl : l.stackTraces = false) (d : Nat) (s : MSt) (h k b : Nat) (hh : s.1 16 = nI (h + 1)) (h9 : h < 960) (hk : s.2 17 h = nI k) (hk9 : k < 448) (hb : s.2 18 h = nI b) (hb9 : b ≤ 20) (hkd : s.2 5 k = nI 7) : MtW (IM cy ad hp0) l D cy base mX9_answer d 0 0 [.ref (ad 43), .int (-1)] s (fun o s2 => o = .inl (some (.int (-1))) ∧ s2 = fU 24 (s.2 19 h) s) := by
  refine MtW.of hl mfX9_answer rfl (Nat.le_of_ble_eq_true rfl) ?_
  refine EW.aload_n dX9_answer_0 rfl rfl ?_
  refine EM.get f_X9_45 dX9_answer_1 rfl ?_
  refine EW.aload_n dX9_answer_4 rfl rfl ?_
  refine EM.get f_X9_207 dX9_answer_5 rfl ?_
  refine EW.top hh ?_
  refine EW.ic 1 dX9_answer_8 ?_
  refine EW.isub dX9_answer_9 ?_
  refine EW.top (pk_sub (by omega)) ?_
  refine EM.ialdN ((h + 1) - 1) dX9_answer_10 rfl rfl (by simp only [mLen]; omega) ?_
  refine EW.top hk ?_
  refine EW.istore_n dX9_answer_11 rfl (by decide) ?_
  refine EW.aload_n dX9_answer_12 rfl rfl ?_
  refine EM.get f_X9_48 dX9_answer_13 rfl ?_
  refine EW.aload_n dX9_answer_16 rfl rfl ?_
  refine EM.get f_X9_207 dX9_answer_17 rfl ?_
  refine EW.top hh ?_
  refine EW.ic 1 dX9_answer_20 ?_
  refine EW.isub dX9_answer_21 ?_
  refine EW.top (pk_sub (by omega)) ?_
  refine EM.ialdN ((h + 1) - 1) dX9_answer_22 rfl rfl (by simp only [mLen]; omega) ?_
  refine EW.top hb ?_
  refine EW.istore_n dX9_answer_23 rfl (by decide) ?_
  refine EW.iload_n dX9_answer_24 rfl rfl ?_
  refine EW.if_ge 32 dX9_answer_25 (by decide) (fun c25 => ?_) (fun c25 => ?_)
  · exact absurd c25 (by decide +kernel)
  · refine EW.ic 1 dX9_answer_28 ?_
    refine EW.goto 33 dX9_answer_29 (by decide) ?_
    refine EW.istore dX9_answer_33 (by decide) ?_
    refine EW.iload dX9_answer_35 rfl ?_
    refine EW.if_eq 60 dX9_answer_37 (by decide) (fun c37 => ?_) (fun c37 => ?_)
    · exact absurd c37 (by decide +kernel)
    · refine EW.aload_n dX9_answer_40 rfl rfl ?_
      refine EM.get f_X9_17 dX9_answer_41 rfl ?_
      refine EW.iload_n dX9_answer_44 rfl rfl ?_
      refine EM.ialdN k dX9_answer_45 rfl rfl (by simp only [mLen]; omega) ?_
      refine EW.top hkd ?_
      refine EW.ic 1 dX9_answer_46 ?_
      refine EW.icmp_eq 60 dX9_answer_47 (by decide) (fun c47 => ?_) (fun c47 => ?_)
      · exact absurd c47 (by decide +kernel)
      · refine EW.aload_n dX9_answer_50 rfl rfl ?_
        refine EM.get f_X9_17 dX9_answer_51 rfl ?_
        refine EW.iload_n dX9_answer_54 rfl rfl ?_
        refine EM.ialdN k dX9_answer_55 rfl rfl (by simp only [mLen]; omega) ?_
        refine EW.top hkd ?_
        refine EW.ic 2 dX9_answer_56 ?_
        refine EW.icmp_ne 82 dX9_answer_57 (by decide) (fun c57 => ?_) (fun c57 => ?_)
        · refine EW.aload_n dX9_answer_82 rfl rfl ?_
          refine EW.aload_n dX9_answer_83 rfl rfl ?_
          refine EM.get f_X9_51 dX9_answer_84 rfl ?_
          refine EW.aload_n dX9_answer_87 rfl rfl ?_
          refine EM.get f_X9_207 dX9_answer_88 rfl ?_
          refine EW.top hh ?_
          refine EW.ic 1 dX9_answer_91 ?_
          refine EW.isub dX9_answer_92 ?_
          refine EW.top (pk_sub (by omega)) ?_
          refine EM.ialdN ((h + 1) - 1) dX9_answer_93 rfl rfl (by simp only [mLen]; omega) ?_
          refine EM.put f_X9_210 dX9_answer_94 rfl ?_
          refine EW.aload_n dX9_answer_97 rfl rfl ?_
          refine EM.get f_X9_17 dX9_answer_98 rfl ?_
          refine EW.iload_n dX9_answer_101 rfl rfl ?_
          refine EM.ialdN k dX9_answer_102 rfl rfl (by simp only [mLen]; omega) ?_
          refine EW.top hkd ?_
          refine EW.tableIn (off := 114) 217 dX9_answer_103 (by decide +kernel) (by decide +kernel) (by decide +kernel) (by decide) ?_
          refine EW.iload dX9_answer_217 rfl ?_
          refine EW.if_eq 226 dX9_answer_219 (by decide) (fun c219 => ?_) (fun c219 => ?_)
          · exact absurd c219 (by decide +kernel)
          · refine EW.iconst (v := -1) dX9_answer_222 (by decide +kernel) ?_
            refine EW.goto 227 dX9_answer_223 (by decide) ?_
            refine EW.iret rfl dX9_answer_227 ?_
            exact ⟨rfl, rfl⟩
        · exact absurd c57 (by decide +kernel)
set_option maxHeartbeats 4000000 in
theorem M_answer7s (hl : l.stackTraces = false) (d : Nat) (s : MSt) (h k b : Nat) (hh : s.1 16 = nI (h + 1)) (h9 : h < 960) (hk : s.2 17 h = nI k) (hk9 : k < 448) (hb : s.2 18 h = nI b) (hb9 : b ≤ 20) (hkd : s.2 5 k = nI 7) (q : Nat) (hq9 : q ≤ 20) : MtW (IM cy ad hp0) l D cy base mX9_answer d 0 0 [.ref (ad 43), .int (nI q)] s (fun o s2 => o = .inl (some (.int (nI b))) ∧ s2 = fU 24 (s.2 19 h) s) := by
  refine MtW.of hl mfX9_answer rfl (Nat.le_of_ble_eq_true rfl) ?_
  refine EW.aload_n dX9_answer_0 rfl rfl ?_
  refine EM.get f_X9_45 dX9_answer_1 rfl ?_
  refine EW.aload_n dX9_answer_4 rfl rfl ?_
  refine EM.get f_X9_207 dX9_answer_5 rfl ?_
  refine EW.top hh ?_
  refine EW.ic 1 dX9_answer_8 ?_
  refine EW.isub dX9_answer_9 ?_
  refine EW.top (pk_sub (by omega)) ?_
  refine EM.ialdN ((h + 1) - 1) dX9_answer_10 rfl rfl (by simp only [mLen]; omega) ?_
  refine EW.top hk ?_
  refine EW.istore_n dX9_answer_11 rfl (by decide) ?_
  refine EW.aload_n dX9_answer_12 rfl rfl ?_
  refine EM.get f_X9_48 dX9_answer_13 rfl ?_
  refine EW.aload_n dX9_answer_16 rfl rfl ?_
  refine EM.get f_X9_207 dX9_answer_17 rfl ?_
  refine EW.top hh ?_
  refine EW.ic 1 dX9_answer_20 ?_
  refine EW.isub dX9_answer_21 ?_
  refine EW.top (pk_sub (by omega)) ?_
  refine EM.ialdN ((h + 1) - 1) dX9_answer_22 rfl rfl (by simp only [mLen]; omega) ?_
  refine EW.top hb ?_
  refine EW.istore_n dX9_answer_23 rfl (by decide) ?_
  refine EW.iload_n dX9_answer_24 rfl rfl ?_
  refine EW.if_ge 32 dX9_answer_25 (by decide) (fun c25 => ?_) (fun c25 => ?_)
  · refine EW.ic 0 dX9_answer_32 ?_
    refine EW.istore dX9_answer_33 (by decide) ?_
    refine EW.iload dX9_answer_35 rfl ?_
    refine EW.if_eq 60 dX9_answer_37 (by decide) (fun c37 => ?_) (fun c37 => ?_)
    · refine EW.aload_n dX9_answer_60 rfl rfl ?_
      refine EM.get f_X9_17 dX9_answer_61 rfl ?_
      refine EW.iload_n dX9_answer_64 rfl rfl ?_
      refine EM.ialdN k dX9_answer_65 rfl rfl (by simp only [mLen]; omega) ?_
      refine EW.top hkd ?_
      refine EW.bp 7 dX9_answer_66 ?_
      refine EW.icmp_eq 82 dX9_answer_68 (by decide) (fun c68 => ?_) (fun c68 => ?_)
      · refine EW.aload_n dX9_answer_82 rfl rfl ?_
        refine EW.aload_n dX9_answer_83 rfl rfl ?_
        refine EM.get f_X9_51 dX9_answer_84 rfl ?_
        refine EW.aload_n dX9_answer_87 rfl rfl ?_
        refine EM.get f_X9_207 dX9_answer_88 rfl ?_
        refine EW.top hh ?_
        refine EW.ic 1 dX9_answer_91 ?_
        refine EW.isub dX9_answer_92 ?_
        refine EW.top (pk_sub (by omega)) ?_
        refine EM.ialdN ((h + 1) - 1) dX9_answer_93 rfl rfl (by simp only [mLen]; omega) ?_
        refine EM.put f_X9_210 dX9_answer_94 rfl ?_
        refine EW.aload_n dX9_answer_97 rfl rfl ?_
        refine EM.get f_X9_17 dX9_answer_98 rfl ?_
        refine EW.iload_n dX9_answer_101 rfl rfl ?_
        refine EM.ialdN k dX9_answer_102 rfl rfl (by simp only [mLen]; omega) ?_
        refine EW.top hkd ?_
        refine EW.tableIn (off := 114) 217 dX9_answer_103 (by decide +kernel) (by decide +kernel) (by decide +kernel) (by decide) ?_
        refine EW.iload dX9_answer_217 rfl ?_
        refine EW.if_eq 226 dX9_answer_219 (by decide) (fun c219 => ?_) (fun c219 => ?_)
        · refine EW.iload_n dX9_answer_226 rfl rfl ?_
          refine EW.iret rfl dX9_answer_227 ?_
          exact ⟨rfl, rfl⟩
        · exact absurd c219 (by decide +kernel)
      · exact absurd c68 (by decide +kernel)
    · exact absurd c37 (by decide +kernel)
  · exact absurd (nI_pos' (by omega)) c25
set_option maxHeartbeats 4000000 in
theorem M_answer8f (hl : l.stackTraces = false) (d : Nat) (s : MSt) (h k b : Nat) (hh : s.1 16 = nI (h + 1)) (h9 : h < 960) (hk : s.2 17 h = nI k) (hk9 : k < 448) (hb : s.2 18 h = nI b) (hb9 : b ≤ 20) (hkd : s.2 5 k = nI 8) : MtW (IM cy ad hp0) l D cy base mX9_answer d 0 0 [.ref (ad 43), .int (-1)] s (fun o s2 => o = .inl (some (.int (nI b))) ∧ s2 = fU 24 (s.2 19 h) s) := by
  refine MtW.of hl mfX9_answer rfl (Nat.le_of_ble_eq_true rfl) ?_
  refine EW.aload_n dX9_answer_0 rfl rfl ?_
  refine EM.get f_X9_45 dX9_answer_1 rfl ?_
  refine EW.aload_n dX9_answer_4 rfl rfl ?_
  refine EM.get f_X9_207 dX9_answer_5 rfl ?_
  refine EW.top hh ?_
  refine EW.ic 1 dX9_answer_8 ?_
  refine EW.isub dX9_answer_9 ?_
  refine EW.top (pk_sub (by omega)) ?_
  refine EM.ialdN ((h + 1) - 1) dX9_answer_10 rfl rfl (by simp only [mLen]; omega) ?_
  refine EW.top hk ?_
  refine EW.istore_n dX9_answer_11 rfl (by decide) ?_
  refine EW.aload_n dX9_answer_12 rfl rfl ?_
  refine EM.get f_X9_48 dX9_answer_13 rfl ?_
  refine EW.aload_n dX9_answer_16 rfl rfl ?_
  refine EM.get f_X9_207 dX9_answer_17 rfl ?_
  refine EW.top hh ?_
  refine EW.ic 1 dX9_answer_20 ?_
  refine EW.isub dX9_answer_21 ?_
  refine EW.top (pk_sub (by omega)) ?_
  refine EM.ialdN ((h + 1) - 1) dX9_answer_22 rfl rfl (by simp only [mLen]; omega) ?_
  refine EW.top hb ?_
  refine EW.istore_n dX9_answer_23 rfl (by decide) ?_
  refine EW.iload_n dX9_answer_24 rfl rfl ?_
  refine EW.if_ge 32 dX9_answer_25 (by decide) (fun c25 => ?_) (fun c25 => ?_)
  · exact absurd c25 (by decide +kernel)
  · refine EW.ic 1 dX9_answer_28 ?_
    refine EW.goto 33 dX9_answer_29 (by decide) ?_
    refine EW.istore dX9_answer_33 (by decide) ?_
    refine EW.iload dX9_answer_35 rfl ?_
    refine EW.if_eq 60 dX9_answer_37 (by decide) (fun c37 => ?_) (fun c37 => ?_)
    · exact absurd c37 (by decide +kernel)
    · refine EW.aload_n dX9_answer_40 rfl rfl ?_
      refine EM.get f_X9_17 dX9_answer_41 rfl ?_
      refine EW.iload_n dX9_answer_44 rfl rfl ?_
      refine EM.ialdN k dX9_answer_45 rfl rfl (by simp only [mLen]; omega) ?_
      refine EW.top hkd ?_
      refine EW.ic 1 dX9_answer_46 ?_
      refine EW.icmp_eq 60 dX9_answer_47 (by decide) (fun c47 => ?_) (fun c47 => ?_)
      · exact absurd c47 (by decide +kernel)
      · refine EW.aload_n dX9_answer_50 rfl rfl ?_
        refine EM.get f_X9_17 dX9_answer_51 rfl ?_
        refine EW.iload_n dX9_answer_54 rfl rfl ?_
        refine EM.ialdN k dX9_answer_55 rfl rfl (by simp only [mLen]; omega) ?_
        refine EW.top hkd ?_
        refine EW.ic 2 dX9_answer_56 ?_
        refine EW.icmp_ne 82 dX9_answer_57 (by decide) (fun c57 => ?_) (fun c57 => ?_)
        · refine EW.aload_n dX9_answer_82 rfl rfl ?_
          refine EW.aload_n dX9_answer_83 rfl rfl ?_
          refine EM.get f_X9_51 dX9_answer_84 rfl ?_
          refine EW.aload_n dX9_answer_87 rfl rfl ?_
          refine EM.get f_X9_207 dX9_answer_88 rfl ?_
          refine EW.top hh ?_
          refine EW.ic 1 dX9_answer_91 ?_
          refine EW.isub dX9_answer_92 ?_
          refine EW.top (pk_sub (by omega)) ?_
          refine EM.ialdN ((h + 1) - 1) dX9_answer_93 rfl rfl (by simp only [mLen]; omega) ?_
          refine EM.put f_X9_210 dX9_answer_94 rfl ?_
          refine EW.aload_n dX9_answer_97 rfl rfl ?_
          refine EM.get f_X9_17 dX9_answer_98 rfl ?_
          refine EW.iload_n dX9_answer_101 rfl rfl ?_
          refine EM.ialdN k dX9_answer_102 rfl rfl (by simp only [mLen]; omega) ?_
          refine EW.top hkd ?_
          refine EW.tableIn (off := 125) 228 dX9_answer_103 (by decide +kernel) (by decide +kernel) (by decide +kernel) (by decide) ?_
          refine EW.iload dX9_answer_228 rfl ?_
          refine EW.if_eq 237 dX9_answer_230 (by decide) (fun c230 => ?_) (fun c230 => ?_)
          · exact absurd c230 (by decide +kernel)
          · refine EW.iload_n dX9_answer_233 rfl rfl ?_
            refine EW.goto 238 dX9_answer_234 (by decide) ?_
            refine EW.iret rfl dX9_answer_238 ?_
            exact ⟨rfl, rfl⟩
        · exact absurd c57 (by decide +kernel)
set_option maxHeartbeats 4000000 in
theorem M_answer8s (hl : l.stackTraces = false) (d : Nat) (s : MSt) (h k b : Nat) (hh : s.1 16 = nI (h + 1)) (h9 : h < 960) (hk : s.2 17 h = nI k) (hk9 : k < 448) (hb : s.2 18 h = nI b) (hb9 : b ≤ 20) (hkd : s.2 5 k = nI 8) (q : Nat) (hq9 : q ≤ 20) : MtW (IM cy ad hp0) l D cy base mX9_answer d 0 0 [.ref (ad 43), .int (nI q)] s (fun o s2 => o = .inl (some (.int (-1))) ∧ s2 = fU 24 (s.2 19 h) s) := by
  refine MtW.of hl mfX9_answer rfl (Nat.le_of_ble_eq_true rfl) ?_
  refine EW.aload_n dX9_answer_0 rfl rfl ?_
  refine EM.get f_X9_45 dX9_answer_1 rfl ?_
  refine EW.aload_n dX9_answer_4 rfl rfl ?_
  refine EM.get f_X9_207 dX9_answer_5 rfl ?_
  refine EW.top hh ?_
  refine EW.ic 1 dX9_answer_8 ?_
  refine EW.isub dX9_answer_9 ?_
  refine EW.top (pk_sub (by omega)) ?_
  refine EM.ialdN ((h + 1) - 1) dX9_answer_10 rfl rfl (by simp only [mLen]; omega) ?_
  refine EW.top hk ?_
  refine EW.istore_n dX9_answer_11 rfl (by decide) ?_
  refine EW.aload_n dX9_answer_12 rfl rfl ?_
  refine EM.get f_X9_48 dX9_answer_13 rfl ?_
  refine EW.aload_n dX9_answer_16 rfl rfl ?_
  refine EM.get f_X9_207 dX9_answer_17 rfl ?_
  refine EW.top hh ?_
  refine EW.ic 1 dX9_answer_20 ?_
  refine EW.isub dX9_answer_21 ?_
  refine EW.top (pk_sub (by omega)) ?_
  refine EM.ialdN ((h + 1) - 1) dX9_answer_22 rfl rfl (by simp only [mLen]; omega) ?_
  refine EW.top hb ?_
  refine EW.istore_n dX9_answer_23 rfl (by decide) ?_
  refine EW.iload_n dX9_answer_24 rfl rfl ?_
  refine EW.if_ge 32 dX9_answer_25 (by decide) (fun c25 => ?_) (fun c25 => ?_)
  · refine EW.ic 0 dX9_answer_32 ?_
    refine EW.istore dX9_answer_33 (by decide) ?_
    refine EW.iload dX9_answer_35 rfl ?_
    refine EW.if_eq 60 dX9_answer_37 (by decide) (fun c37 => ?_) (fun c37 => ?_)
    · refine EW.aload_n dX9_answer_60 rfl rfl ?_
      refine EM.get f_X9_17 dX9_answer_61 rfl ?_
      refine EW.iload_n dX9_answer_64 rfl rfl ?_
      refine EM.ialdN k dX9_answer_65 rfl rfl (by simp only [mLen]; omega) ?_
      refine EW.top hkd ?_
      refine EW.bp 7 dX9_answer_66 ?_
      refine EW.icmp_eq 82 dX9_answer_68 (by decide) (fun c68 => ?_) (fun c68 => ?_)
      · exact absurd c68 (by decide +kernel)
      · refine EW.aload_n dX9_answer_71 rfl rfl ?_
        refine EM.get f_X9_17 dX9_answer_72 rfl ?_
        refine EW.iload_n dX9_answer_75 rfl rfl ?_
        refine EM.ialdN k dX9_answer_76 rfl rfl (by simp only [mLen]; omega) ?_
        refine EW.top hkd ?_
        refine EW.bp 8 dX9_answer_77 ?_
        refine EW.icmp_ne 97 dX9_answer_79 (by decide) (fun c79 => ?_) (fun c79 => ?_)
        · exact absurd c79 (by decide +kernel)
        · refine EW.aload_n dX9_answer_82 rfl rfl ?_
          refine EW.aload_n dX9_answer_83 rfl rfl ?_
          refine EM.get f_X9_51 dX9_answer_84 rfl ?_
          refine EW.aload_n dX9_answer_87 rfl rfl ?_
          refine EM.get f_X9_207 dX9_answer_88 rfl ?_
          refine EW.top hh ?_
          refine EW.ic 1 dX9_answer_91 ?_
          refine EW.isub dX9_answer_92 ?_
          refine EW.top (pk_sub (by omega)) ?_
          refine EM.ialdN ((h + 1) - 1) dX9_answer_93 rfl rfl (by simp only [mLen]; omega) ?_
          refine EM.put f_X9_210 dX9_answer_94 rfl ?_
          refine EW.aload_n dX9_answer_97 rfl rfl ?_
          refine EM.get f_X9_17 dX9_answer_98 rfl ?_
          refine EW.iload_n dX9_answer_101 rfl rfl ?_
          refine EM.ialdN k dX9_answer_102 rfl rfl (by simp only [mLen]; omega) ?_
          refine EW.top hkd ?_
          refine EW.tableIn (off := 125) 228 dX9_answer_103 (by decide +kernel) (by decide +kernel) (by decide +kernel) (by decide) ?_
          refine EW.iload dX9_answer_228 rfl ?_
          refine EW.if_eq 237 dX9_answer_230 (by decide) (fun c230 => ?_) (fun c230 => ?_)
          · refine EW.iconst (v := -1) dX9_answer_237 (by decide +kernel) ?_
            refine EW.iret rfl dX9_answer_238 ?_
            exact ⟨rfl, rfl⟩
          · exact absurd c230 (by decide +kernel)
    · exact absurd c37 (by decide +kernel)
  · exact absurd (nI_pos' (by omega)) c25
end M5
