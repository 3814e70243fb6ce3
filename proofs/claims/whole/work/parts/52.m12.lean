section M12
variable {cy : Nat → ClassId} {ad : Nat → Nat} {hp0 : Hp} {l : Launch} {D : va_G} {base : Nat}
/-- the contract of an ask -/
def AskC (cy : Nat → ClassId) (ad : Nat → Nat) (hp0 : Hp) (l : Launch) (D : va_G) (base : Nat) (s : MSt) (k p : Nat) (o9 : Int32) (s1 : MSt) : Prop := MtW (IM cy ad hp0) l D cy base mX9_ask (0 + 2) 0 0 [.ref (ad 43), .int (nI k), .int (nI p)] s (fun o s2 => o = .inl (some (.int o9)) ∧ s2 = s1)
theorem m2_nI {q : Nat} (h : q < 2 ^ 31) : ¬ nI q = -2 := fun e => by
  have h1 : (nI q).toInt = (-2 : Int32).toInt := by rw [e]
  rw [nI_toInt (by omega)] at h1
  have h2 : ((-2 : Int32)).toInt = -2 := by decide +kernel
  omega
theorem m3_nI {q : Nat} (h : q < 2 ^ 31) : ¬ nI q = -3 := fun e => by
  have h1 : (nI q).toInt = (-3 : Int32).toInt := by rw [e]
  rw [nI_toInt (by omega)] at h1
  have h2 : ((-3 : Int32)).toInt = -3 := by decide +kernel
  omega
theorem on_ne {v : Option Nat} (h : ∀ q, v = some q → q ≤ 20) : ¬ onI v = -2 ∧ ¬ onI v = -3 := by
  cases v with
  | none => exact ⟨by decide +kernel, by decide +kernel⟩
  | some q => exact ⟨m2_nI (by have := h q rfl; omega), m3_nI (by have := h q rfl; omega)⟩
set_option maxHeartbeats 4000000 in
theorem R_down (hl : l.stackTraces = false) (dd h k p i : Nat) (o9 : Int32) (s s2 : MSt) (Q : Oc → MSt → Prop) (hdd : 5 ≤ dd) (hh : s.1 16 = nI (h + 1)) (h9 : h < 960) (hp : s.2 18 h = nI p) (hW : MtW (IM cy ad hp0) l D cy base mX9_wanted (0 + 1) 0 0 [.ref (ad 43)] s (fun o s2 => o = .inl (some (.int (nI i))) ∧ s2 = s)) (hA : AskC cy ad hp0 l D base s i p o9 s2) (K : EW (IM cy ad hp0) l D cy base mX9_run dd 0 0 29 [(0, .ref (ad 43)), (5, .int o9)] [] s2 Q) : EW (IM cy ad hp0) l D cy base mX9_run dd 0 0 29 [(0, .ref (ad 43)), (5, .int (-2))] [] s Q := by
  refine EW.iload dX9_run_29 rfl ?_
  refine EW.bipush (v := -2) dX9_run_31 (by decide +kernel) ?_
  refine EW.icmp_eq 50 dX9_run_33 (by decide) (fun c33 => ?_) (fun c33 => ?_)
  · refine EW.iload dX9_run_50 rfl ?_
    refine EW.bipush (v := -2) dX9_run_52 (by decide +kernel) ?_
    refine EW.icmp_ne 87 dX9_run_54 (by decide) (fun c54 => ?_) (fun c54 => ?_)
    · exact absurd rfl c54
    · refine EW.aload_n dX9_run_57 rfl rfl ?_
      refine EM.callV (hW) mfX9_wanted l_X9_240 mvX9_wanted (by omega) dX9_run_58 rfl rfl rfl rfl (Nat.le_of_ble_eq_true rfl) (fun _ _ q => nomatch q.1) (fun v58 s58 q58 => ?_)
      obtain ⟨e58, h58⟩ := q58; cases e58; replace h58 := h58.symm; subst h58
      refine EW.istore_n dX9_run_61 rfl (by decide) ?_
      refine EW.aload_n dX9_run_62 rfl rfl ?_
      refine EM.get f_X9_48 dX9_run_63 rfl ?_
      refine EW.aload_n dX9_run_66 rfl rfl ?_
      refine EM.get f_X9_207 dX9_run_67 rfl ?_
      refine EW.top hh ?_
      refine EW.ic 1 dX9_run_70 ?_
      refine EW.isub dX9_run_71 ?_
      refine EW.top (pk_sub (by omega)) ?_
      refine EM.ialdN ((h + 1) - 1) dX9_run_72 rfl rfl (by simp only [mLen]; omega) ?_
      refine EW.top hp ?_
      refine EW.istore dX9_run_73 (by decide) ?_
      refine EW.aload_n dX9_run_75 rfl rfl ?_
      refine EW.iload_n dX9_run_76 rfl rfl ?_
      refine EW.iload dX9_run_77 rfl ?_
      refine EM.callV (hA) mfX9_ask l_X9_237 mvX9_ask (by omega) dX9_run_79 rfl rfl rfl rfl (Nat.le_of_ble_eq_true rfl) (fun _ _ q => nomatch q.1) (fun v79 s79 q79 => ?_)
      obtain ⟨e79, h79⟩ := q79; cases e79; replace h79 := h79.symm; subst h79
      refine EW.istore dX9_run_82 (by decide) ?_
      refine EW.goto 29 dX9_run_84 (by decide) ?_
      exact EW.loc (lv' := [(0, .ref (ad 43)), (5, .int _)]) ⟨rfl, rfl, trivial⟩ K
  · exact absurd rfl c33
set_option maxHeartbeats 4000000 in
theorem R_ret (hl : l.stackTraces = false) (dd h k : Nat) (g o9 : Int32) (s s2 : MSt) (Q : Oc → MSt → Prop) (hdd : 5 ≤ dd) (hg : ¬ g = -2 ∧ ¬ g = -3) (hh : s.1 16 = nI (h + 1)) (h9 : h < 960) (hk : s.2 17 h = nI k) (hk9 : k < 448) (hA : MtW (IM cy ad hp0) l D cy base mX9_answer 0 0 0 [.ref (ad 43), .int g] s (fun o t => o = .inl (some (.int o9)) ∧ t = s2)) (hh2 : s2.1 16 = nI (h + 1)) (ho : ¬ o9 = -2) (K : EW (IM cy ad hp0) l D cy base mX9_run dd 0 0 29 [(0, .ref (ad 43)), (5, .int o9)] [] (fU 16 (nI h) s2) Q) : EW (IM cy ad hp0) l D cy base mX9_run dd 0 0 29 [(0, .ref (ad 43)), (5, .int g)] [] s Q := by
  refine EW.iload dX9_run_29 rfl ?_
  refine EW.bipush (v := -2) dX9_run_31 (by decide +kernel) ?_
  refine EW.icmp_eq 50 dX9_run_33 (by decide) (fun c33 => ?_) (fun c33 => ?_)
  · exact absurd c33 hg.1
  · refine EW.aload_n dX9_run_36 rfl rfl ?_
    refine EM.get f_X9_207 dX9_run_37 rfl ?_
    refine EW.top hh ?_
    refine EW.if_le 260 dX9_run_40 (by decide) (fun c40 => ?_) (fun c40 => ?_)
    · have c40 : h + 1 = 0 := (nI_le0 (by omega)).mp c40; omega
    · have c40 : ¬ h + 1 = 0 := fun h => c40 ((nI_le0 (by omega)).mpr h)
      refine EW.iload dX9_run_43 rfl ?_
      refine EW.bipush (v := -3) dX9_run_45 (by decide +kernel) ?_
      refine EW.icmp_eq 260 dX9_run_47 (by decide) (fun c47 => ?_) (fun c47 => ?_)
      · exact absurd c47 hg.2
      · refine EW.iload dX9_run_50 rfl ?_
        refine EW.bipush (v := -2) dX9_run_52 (by decide +kernel) ?_
        refine EW.icmp_ne 87 dX9_run_54 (by decide) (fun c54 => ?_) (fun c54 => ?_)
        · refine EW.aload_n dX9_run_87 rfl rfl ?_
          refine EM.get f_X9_45 dX9_run_88 rfl ?_
          refine EW.aload_n dX9_run_91 rfl rfl ?_
          refine EM.get f_X9_207 dX9_run_92 rfl ?_
          refine EW.top hh ?_
          refine EW.ic 1 dX9_run_95 ?_
          refine EW.isub dX9_run_96 ?_
          refine EW.top (pk_sub (by omega)) ?_
          refine EM.ialdN ((h + 1) - 1) dX9_run_97 rfl rfl (by simp only [mLen]; omega) ?_
          refine EW.top hk ?_
          refine EW.istore dX9_run_98 (by decide) ?_
          refine EW.iload dX9_run_100 rfl ?_
          refine EW.istore dX9_run_102 (by decide) ?_
          refine EW.aload_n dX9_run_104 rfl rfl ?_
          refine EW.iload dX9_run_105 rfl ?_
          refine EM.callV (hA) mfX9_answer l_X9_243 mvX9_answer (by omega) dX9_run_107 rfl rfl rfl rfl (Nat.le_of_ble_eq_true rfl) (fun _ _ q => nomatch q.1) (fun v107 s107 q107 => ?_)
          obtain ⟨e107, h107⟩ := q107; cases e107; replace h107 := h107.symm; subst h107
          refine EW.istore dX9_run_110 (by decide) ?_
          refine EW.iload dX9_run_112 rfl ?_
          refine EW.bipush (v := -2) dX9_run_114 (by decide +kernel) ?_
          refine EW.icmp_eq 132 dX9_run_116 (by decide) (fun c116 => ?_) (fun c116 => ?_)
          · exact absurd c116 ho
          · refine EW.aload_n dX9_run_119 rfl rfl ?_
            refine EW.dup dX9_run_120 rfl ?_
            refine EM.get f_X9_207 dX9_run_121 rfl ?_
            refine EW.top hh2 ?_
            refine EW.ic 1 dX9_run_124 ?_
            refine EW.isub dX9_run_125 ?_
            refine EW.top (pk_sub (by omega)) ?_
            refine EM.put f_X9_207 dX9_run_126 rfl ?_
            refine EW.goto 257 dX9_run_129 (by decide) ?_
            refine EW.goto 29 dX9_run_257 (by decide) ?_
            exact EW.loc (lv' := [(0, .ref (ad 43)), (5, .int _)]) ⟨rfl, rfl, trivial⟩ K
        · exact absurd c54 hg.1
set_option maxHeartbeats 4000000 in
theorem R_rep4 (hl : l.stackTraces = false) (dd h k : Nat) (g o9 : Int32) (s s2 : MSt) (Q : Oc → MSt → Prop) (hdd : 5 ≤ dd) (hg : ¬ g = -2 ∧ ¬ g = -3) (hh : s.1 16 = nI (h + 1)) (h9 : h < 960) (hk : s.2 17 h = nI k) (hk9 : k < 448) (hA : MtW (IM cy ad hp0) l D cy base mX9_answer 0 0 0 [.ref (ad 43), .int g] s (fun o t => o = .inl (some (.int (-2))) ∧ t = s2)) (hh2 : s2.1 16 = nI (h + 1)) (hkd : s2.2 5 k = nI 4) (K : EW (IM cy ad hp0) l D cy base mX9_run dd 0 0 29 [(0, .ref (ad 43)), (5, .int (-2))] [] (aU 20 h (vp_nar .boolean (nI 1)) (aU 19 h (s2.1 24) (aU 18 h g s2))) Q) : EW (IM cy ad hp0) l D cy base mX9_run dd 0 0 29 [(0, .ref (ad 43)), (5, .int g)] [] s Q := by
  refine EW.iload dX9_run_29 rfl ?_
  refine EW.bipush (v := -2) dX9_run_31 (by decide +kernel) ?_
  refine EW.icmp_eq 50 dX9_run_33 (by decide) (fun c33 => ?_) (fun c33 => ?_)
  · exact absurd c33 hg.1
  · refine EW.aload_n dX9_run_36 rfl rfl ?_
    refine EM.get f_X9_207 dX9_run_37 rfl ?_
    refine EW.top hh ?_
    refine EW.if_le 260 dX9_run_40 (by decide) (fun c40 => ?_) (fun c40 => ?_)
    · have c40 : h + 1 = 0 := (nI_le0 (by omega)).mp c40; omega
    · have c40 : ¬ h + 1 = 0 := fun h => c40 ((nI_le0 (by omega)).mpr h)
      refine EW.iload dX9_run_43 rfl ?_
      refine EW.bipush (v := -3) dX9_run_45 (by decide +kernel) ?_
      refine EW.icmp_eq 260 dX9_run_47 (by decide) (fun c47 => ?_) (fun c47 => ?_)
      · exact absurd c47 hg.2
      · refine EW.iload dX9_run_50 rfl ?_
        refine EW.bipush (v := -2) dX9_run_52 (by decide +kernel) ?_
        refine EW.icmp_ne 87 dX9_run_54 (by decide) (fun c54 => ?_) (fun c54 => ?_)
        · refine EW.aload_n dX9_run_87 rfl rfl ?_
          refine EM.get f_X9_45 dX9_run_88 rfl ?_
          refine EW.aload_n dX9_run_91 rfl rfl ?_
          refine EM.get f_X9_207 dX9_run_92 rfl ?_
          refine EW.top hh ?_
          refine EW.ic 1 dX9_run_95 ?_
          refine EW.isub dX9_run_96 ?_
          refine EW.top (pk_sub (by omega)) ?_
          refine EM.ialdN ((h + 1) - 1) dX9_run_97 rfl rfl (by simp only [mLen]; omega) ?_
          refine EW.top hk ?_
          refine EW.istore dX9_run_98 (by decide) ?_
          refine EW.iload dX9_run_100 rfl ?_
          refine EW.istore dX9_run_102 (by decide) ?_
          refine EW.aload_n dX9_run_104 rfl rfl ?_
          refine EW.iload dX9_run_105 rfl ?_
          refine EM.callV (hA) mfX9_answer l_X9_243 mvX9_answer (by omega) dX9_run_107 rfl rfl rfl rfl (Nat.le_of_ble_eq_true rfl) (fun _ _ q => nomatch q.1) (fun v107 s107 q107 => ?_)
          obtain ⟨e107, h107⟩ := q107; cases e107; replace h107 := h107.symm; subst h107
          refine EW.istore dX9_run_110 (by decide) ?_
          refine EW.iload dX9_run_112 rfl ?_
          refine EW.bipush (v := -2) dX9_run_114 (by decide +kernel) ?_
          refine EW.icmp_eq 132 dX9_run_116 (by decide) (fun c116 => ?_) (fun c116 => ?_)
          · refine EW.aload_n dX9_run_132 rfl rfl ?_
            refine EM.get f_X9_17 dX9_run_133 rfl ?_
            refine EW.iload dX9_run_136 rfl ?_
            refine EM.ialdN k dX9_run_138 rfl rfl (by simp only [mLen]; omega) ?_
            refine EW.top hkd ?_
            refine EW.ic 4 dX9_run_139 ?_
            refine EW.icmp_eq 154 dX9_run_140 (by decide) (fun c140 => ?_) (fun c140 => ?_)
            · refine EW.aload_n dX9_run_154 rfl rfl ?_
              refine EM.get f_X9_48 dX9_run_155 rfl ?_
              refine EW.aload_n dX9_run_158 rfl rfl ?_
              refine EM.get f_X9_207 dX9_run_159 rfl ?_
              refine EW.top hh2 ?_
              refine EW.ic 1 dX9_run_162 ?_
              refine EW.isub dX9_run_163 ?_
              refine EW.top (pk_sub (by omega)) ?_
              refine EW.iload dX9_run_164 rfl ?_
              refine EM.iastN ((h + 1) - 1) dX9_run_166 rfl rfl (by simp only [mLen]; omega) ?_
              refine EW.aload_n dX9_run_167 rfl rfl ?_
              refine EM.get f_X9_51 dX9_run_168 rfl ?_
              refine EW.aload_n dX9_run_171 rfl rfl ?_
              refine EM.get f_X9_207 dX9_run_172 rfl ?_
              refine EW.top hh2 ?_
              refine EW.ic 1 dX9_run_175 ?_
              refine EW.isub dX9_run_176 ?_
              refine EW.top (pk_sub (by omega)) ?_
              refine EW.aload_n dX9_run_177 rfl rfl ?_
              refine EM.get f_X9_210 dX9_run_178 rfl ?_
              refine EM.iastN ((h + 1) - 1) dX9_run_181 rfl rfl (by simp only [mLen]; omega) ?_
              refine EW.aload_n dX9_run_182 rfl rfl ?_
              refine EM.get f_X9_54 dX9_run_183 rfl ?_
              refine EW.aload_n dX9_run_186 rfl rfl ?_
              refine EM.get f_X9_207 dX9_run_187 rfl ?_
              refine EW.top hh2 ?_
              refine EW.ic 1 dX9_run_190 ?_
              refine EW.isub dX9_run_191 ?_
              refine EW.top (pk_sub (by omega)) ?_
              refine EW.ic 1 dX9_run_192 ?_
              refine EM.zastN ((h + 1) - 1) dX9_run_193 rfl rfl (by simp only [mLen]; omega) ?_
              refine EW.goto 257 dX9_run_194 (by decide) ?_
              refine EW.goto 29 dX9_run_257 (by decide) ?_
              exact EW.loc (lv' := [(0, .ref (ad 43)), (5, .int _)]) ⟨rfl, rfl, trivial⟩ K
            · exact absurd c140 (by decide +kernel)
          · exact absurd rfl c116
        · exact absurd c54 hg.1
set_option maxHeartbeats 4000000 in
theorem R_rep5 (hl : l.stackTraces = false) (dd h k : Nat) (g o9 : Int32) (s s2 : MSt) (Q : Oc → MSt → Prop) (hdd : 5 ≤ dd) (hg : ¬ g = -2 ∧ ¬ g = -3) (hh : s.1 16 = nI (h + 1)) (h9 : h < 960) (hk : s.2 17 h = nI k) (hk9 : k < 448) (hA : MtW (IM cy ad hp0) l D cy base mX9_answer 0 0 0 [.ref (ad 43), .int g] s (fun o t => o = .inl (some (.int (-2))) ∧ t = s2)) (hh2 : s2.1 16 = nI (h + 1)) (hkd : s2.2 5 k = nI 5) (K : EW (IM cy ad hp0) l D cy base mX9_run dd 0 0 29 [(0, .ref (ad 43)), (5, .int (-2))] [] (aU 20 h (vp_nar .boolean (nI 1)) (aU 19 h (s2.1 24) (aU 18 h g s2))) Q) : EW (IM cy ad hp0) l D cy base mX9_run dd 0 0 29 [(0, .ref (ad 43)), (5, .int g)] [] s Q := by
  refine EW.iload dX9_run_29 rfl ?_
  refine EW.bipush (v := -2) dX9_run_31 (by decide +kernel) ?_
  refine EW.icmp_eq 50 dX9_run_33 (by decide) (fun c33 => ?_) (fun c33 => ?_)
  · exact absurd c33 hg.1
  · refine EW.aload_n dX9_run_36 rfl rfl ?_
    refine EM.get f_X9_207 dX9_run_37 rfl ?_
    refine EW.top hh ?_
    refine EW.if_le 260 dX9_run_40 (by decide) (fun c40 => ?_) (fun c40 => ?_)
    · have c40 : h + 1 = 0 := (nI_le0 (by omega)).mp c40; omega
    · have c40 : ¬ h + 1 = 0 := fun h => c40 ((nI_le0 (by omega)).mpr h)
      refine EW.iload dX9_run_43 rfl ?_
      refine EW.bipush (v := -3) dX9_run_45 (by decide +kernel) ?_
      refine EW.icmp_eq 260 dX9_run_47 (by decide) (fun c47 => ?_) (fun c47 => ?_)
      · exact absurd c47 hg.2
      · refine EW.iload dX9_run_50 rfl ?_
        refine EW.bipush (v := -2) dX9_run_52 (by decide +kernel) ?_
        refine EW.icmp_ne 87 dX9_run_54 (by decide) (fun c54 => ?_) (fun c54 => ?_)
        · refine EW.aload_n dX9_run_87 rfl rfl ?_
          refine EM.get f_X9_45 dX9_run_88 rfl ?_
          refine EW.aload_n dX9_run_91 rfl rfl ?_
          refine EM.get f_X9_207 dX9_run_92 rfl ?_
          refine EW.top hh ?_
          refine EW.ic 1 dX9_run_95 ?_
          refine EW.isub dX9_run_96 ?_
          refine EW.top (pk_sub (by omega)) ?_
          refine EM.ialdN ((h + 1) - 1) dX9_run_97 rfl rfl (by simp only [mLen]; omega) ?_
          refine EW.top hk ?_
          refine EW.istore dX9_run_98 (by decide) ?_
          refine EW.iload dX9_run_100 rfl ?_
          refine EW.istore dX9_run_102 (by decide) ?_
          refine EW.aload_n dX9_run_104 rfl rfl ?_
          refine EW.iload dX9_run_105 rfl ?_
          refine EM.callV (hA) mfX9_answer l_X9_243 mvX9_answer (by omega) dX9_run_107 rfl rfl rfl rfl (Nat.le_of_ble_eq_true rfl) (fun _ _ q => nomatch q.1) (fun v107 s107 q107 => ?_)
          obtain ⟨e107, h107⟩ := q107; cases e107; replace h107 := h107.symm; subst h107
          refine EW.istore dX9_run_110 (by decide) ?_
          refine EW.iload dX9_run_112 rfl ?_
          refine EW.bipush (v := -2) dX9_run_114 (by decide +kernel) ?_
          refine EW.icmp_eq 132 dX9_run_116 (by decide) (fun c116 => ?_) (fun c116 => ?_)
          · refine EW.aload_n dX9_run_132 rfl rfl ?_
            refine EM.get f_X9_17 dX9_run_133 rfl ?_
            refine EW.iload dX9_run_136 rfl ?_
            refine EM.ialdN k dX9_run_138 rfl rfl (by simp only [mLen]; omega) ?_
            refine EW.top hkd ?_
            refine EW.ic 4 dX9_run_139 ?_
            refine EW.icmp_eq 154 dX9_run_140 (by decide) (fun c140 => ?_) (fun c140 => ?_)
            · exact absurd c140 (by decide +kernel)
            · refine EW.aload_n dX9_run_143 rfl rfl ?_
              refine EM.get f_X9_17 dX9_run_144 rfl ?_
              refine EW.iload dX9_run_147 rfl ?_
              refine EM.ialdN k dX9_run_149 rfl rfl (by simp only [mLen]; omega) ?_
              refine EW.top hkd ?_
              refine EW.ic 5 dX9_run_150 ?_
              refine EW.icmp_ne 197 dX9_run_151 (by decide) (fun c151 => ?_) (fun c151 => ?_)
              · exact absurd c151 (by decide +kernel)
              · refine EW.aload_n dX9_run_154 rfl rfl ?_
                refine EM.get f_X9_48 dX9_run_155 rfl ?_
                refine EW.aload_n dX9_run_158 rfl rfl ?_
                refine EM.get f_X9_207 dX9_run_159 rfl ?_
                refine EW.top hh2 ?_
                refine EW.ic 1 dX9_run_162 ?_
                refine EW.isub dX9_run_163 ?_
                refine EW.top (pk_sub (by omega)) ?_
                refine EW.iload dX9_run_164 rfl ?_
                refine EM.iastN ((h + 1) - 1) dX9_run_166 rfl rfl (by simp only [mLen]; omega) ?_
                refine EW.aload_n dX9_run_167 rfl rfl ?_
                refine EM.get f_X9_51 dX9_run_168 rfl ?_
                refine EW.aload_n dX9_run_171 rfl rfl ?_
                refine EM.get f_X9_207 dX9_run_172 rfl ?_
                refine EW.top hh2 ?_
                refine EW.ic 1 dX9_run_175 ?_
                refine EW.isub dX9_run_176 ?_
                refine EW.top (pk_sub (by omega)) ?_
                refine EW.aload_n dX9_run_177 rfl rfl ?_
                refine EM.get f_X9_210 dX9_run_178 rfl ?_
                refine EM.iastN ((h + 1) - 1) dX9_run_181 rfl rfl (by simp only [mLen]; omega) ?_
                refine EW.aload_n dX9_run_182 rfl rfl ?_
                refine EM.get f_X9_54 dX9_run_183 rfl ?_
                refine EW.aload_n dX9_run_186 rfl rfl ?_
                refine EM.get f_X9_207 dX9_run_187 rfl ?_
                refine EW.top hh2 ?_
                refine EW.ic 1 dX9_run_190 ?_
                refine EW.isub dX9_run_191 ?_
                refine EW.top (pk_sub (by omega)) ?_
                refine EW.ic 1 dX9_run_192 ?_
                refine EM.zastN ((h + 1) - 1) dX9_run_193 rfl rfl (by simp only [mLen]; omega) ?_
                refine EW.goto 257 dX9_run_194 (by decide) ?_
                refine EW.goto 29 dX9_run_257 (by decide) ?_
                exact EW.loc (lv' := [(0, .ref (ad 43)), (5, .int _)]) ⟨rfl, rfl, trivial⟩ K
          · exact absurd rfl c116
        · exact absurd c54 hg.1
set_option maxHeartbeats 4000000 in
theorem R_next2 (hl : l.stackTraces = false) (dd h k : Nat) (q : Nat) (o9 : Int32) (s s2 : MSt) (Q : Oc → MSt → Prop) (hdd : 5 ≤ dd) (hq20 : q ≤ 20) (hh : s.1 16 = nI (h + 1)) (h9 : h < 960) (hk : s.2 17 h = nI k) (hk9 : k < 448) (hA : MtW (IM cy ad hp0) l D cy base mX9_answer 0 0 0 [.ref (ad 43), .int (nI q)] s (fun o t => o = .inl (some (.int (-2))) ∧ t = s2)) (hh2 : s2.1 16 = nI (h + 1)) (hkd : s2.2 5 k = nI 2) (g2 : Nat) (hs2 : s2.2 7 k = nI g2) (s3 : MSt) (hA2 : AskC cy ad hp0 l D base (fU 16 (nI h) s2) (k / 64 * 64 + g2) q o9 s3) (K : EW (IM cy ad hp0) l D cy base mX9_run dd 0 0 29 [(0, .ref (ad 43)), (5, .int o9)] [] s3 Q) : EW (IM cy ad hp0) l D cy base mX9_run dd 0 0 29 [(0, .ref (ad 43)), (5, .int (nI q))] [] s Q := by
  have hg : ¬ nI q = -2 ∧ ¬ nI q = -3 := ⟨m2_nI (by omega), m3_nI (by omega)⟩
  refine EW.iload dX9_run_29 rfl ?_
  refine EW.bipush (v := -2) dX9_run_31 (by decide +kernel) ?_
  refine EW.icmp_eq 50 dX9_run_33 (by decide) (fun c33 => ?_) (fun c33 => ?_)
  · exact absurd c33 hg.1
  · refine EW.aload_n dX9_run_36 rfl rfl ?_
    refine EM.get f_X9_207 dX9_run_37 rfl ?_
    refine EW.top hh ?_
    refine EW.if_le 260 dX9_run_40 (by decide) (fun c40 => ?_) (fun c40 => ?_)
    · have c40 : h + 1 = 0 := (nI_le0 (by omega)).mp c40; omega
    · have c40 : ¬ h + 1 = 0 := fun h => c40 ((nI_le0 (by omega)).mpr h)
      refine EW.iload dX9_run_43 rfl ?_
      refine EW.bipush (v := -3) dX9_run_45 (by decide +kernel) ?_
      refine EW.icmp_eq 260 dX9_run_47 (by decide) (fun c47 => ?_) (fun c47 => ?_)
      · exact absurd c47 hg.2
      · refine EW.iload dX9_run_50 rfl ?_
        refine EW.bipush (v := -2) dX9_run_52 (by decide +kernel) ?_
        refine EW.icmp_ne 87 dX9_run_54 (by decide) (fun c54 => ?_) (fun c54 => ?_)
        · refine EW.aload_n dX9_run_87 rfl rfl ?_
          refine EM.get f_X9_45 dX9_run_88 rfl ?_
          refine EW.aload_n dX9_run_91 rfl rfl ?_
          refine EM.get f_X9_207 dX9_run_92 rfl ?_
          refine EW.top hh ?_
          refine EW.ic 1 dX9_run_95 ?_
          refine EW.isub dX9_run_96 ?_
          refine EW.top (pk_sub (by omega)) ?_
          refine EM.ialdN ((h + 1) - 1) dX9_run_97 rfl rfl (by simp only [mLen]; omega) ?_
          refine EW.top hk ?_
          refine EW.istore dX9_run_98 (by decide) ?_
          refine EW.iload dX9_run_100 rfl ?_
          refine EW.istore dX9_run_102 (by decide) ?_
          refine EW.aload_n dX9_run_104 rfl rfl ?_
          refine EW.iload dX9_run_105 rfl ?_
          refine EM.callV (hA) mfX9_answer l_X9_243 mvX9_answer (by omega) dX9_run_107 rfl rfl rfl rfl (Nat.le_of_ble_eq_true rfl) (fun _ _ q => nomatch q.1) (fun v107 s107 q107 => ?_)
          obtain ⟨e107, h107⟩ := q107; cases e107; replace h107 := h107.symm; subst h107
          refine EW.istore dX9_run_110 (by decide) ?_
          refine EW.iload dX9_run_112 rfl ?_
          refine EW.bipush (v := -2) dX9_run_114 (by decide +kernel) ?_
          refine EW.icmp_eq 132 dX9_run_116 (by decide) (fun c116 => ?_) (fun c116 => ?_)
          · refine EW.aload_n dX9_run_132 rfl rfl ?_
            refine EM.get f_X9_17 dX9_run_133 rfl ?_
            refine EW.iload dX9_run_136 rfl ?_
            refine EM.ialdN k dX9_run_138 rfl rfl (by simp only [mLen]; omega) ?_
            refine EW.top hkd ?_
            refine EW.ic 4 dX9_run_139 ?_
            refine EW.icmp_eq 154 dX9_run_140 (by decide) (fun c140 => ?_) (fun c140 => ?_)
            · exact absurd c140 (by decide +kernel)
            · refine EW.aload_n dX9_run_143 rfl rfl ?_
              refine EM.get f_X9_17 dX9_run_144 rfl ?_
              refine EW.iload dX9_run_147 rfl ?_
              refine EM.ialdN k dX9_run_149 rfl rfl (by simp only [mLen]; omega) ?_
              refine EW.top hkd ?_
              refine EW.ic 5 dX9_run_150 ?_
              refine EW.icmp_ne 197 dX9_run_151 (by decide) (fun c151 => ?_) (fun c151 => ?_)
              · refine EW.aload_n dX9_run_197 rfl rfl ?_
                refine EM.get f_X9_17 dX9_run_198 rfl ?_
                refine EW.iload dX9_run_201 rfl ?_
                refine EM.ialdN k dX9_run_203 rfl rfl (by simp only [mLen]; omega) ?_
                refine EW.top hkd ?_
                refine EW.ic 2 dX9_run_204 ?_
                refine EW.icmp_ne 213 dX9_run_205 (by decide) (fun c205 => ?_) (fun c205 => ?_)
                · exact absurd c205 (by decide +kernel)
                · refine EW.iload dX9_run_208 rfl ?_
                  refine EW.goto 224 dX9_run_210 (by decide) ?_
                  refine EW.istore dX9_run_224 (by decide) ?_
                  refine EW.aload_n dX9_run_226 rfl rfl ?_
                  refine EW.dup dX9_run_227 rfl ?_
                  refine EM.get f_X9_207 dX9_run_228 rfl ?_
                  refine EW.top hh2 ?_
                  refine EW.ic 1 dX9_run_231 ?_
                  refine EW.isub dX9_run_232 ?_
                  refine EW.top (pk_sub (by omega)) ?_
                  refine EM.put f_X9_207 dX9_run_233 rfl ?_
                  refine EW.aload_n dX9_run_236 rfl rfl ?_
                  refine EW.iload dX9_run_237 rfl ?_
                  refine EW.callS (bc := 0) (bs := 0) (M_base hl _ 0 (fU 16 (nI h) s2) k (by omega)) mfX9_base rfl l_X9_234 mvX9_base (by omega) dX9_run_239 rfl rfl (Nat.le_of_ble_eq_true rfl) (fun v239 s239 q239 => ?_) (fun _ _ q => nomatch q.1)
                  obtain ⟨e239, h239⟩ := q239; cases e239; replace h239 := h239.symm; subst h239
                  refine EW.aload_n dX9_run_242 rfl rfl ?_
                  refine EM.get f_X9_23 dX9_run_243 rfl ?_
                  refine EW.iload dX9_run_246 rfl ?_
                  refine EM.ialdN k dX9_run_248 rfl rfl (by simp only [mLen]; omega) ?_
                  refine EW.top hs2 ?_
                  refine EW.iadd dX9_run_249 ?_
                  refine EW.top (nI_add _ _) ?_
                  refine EW.iload dX9_run_250 rfl ?_
                  refine EM.callV (hA2) mfX9_ask l_X9_237 mvX9_ask (by omega) dX9_run_252 rfl rfl rfl rfl (Nat.le_of_ble_eq_true rfl) (fun _ _ q => nomatch q.1) (fun v252 s252 q252 => ?_)
                  obtain ⟨e252, h252⟩ := q252; cases e252; replace h252 := h252.symm; subst h252
                  refine EW.istore dX9_run_255 (by decide) ?_
                  refine EW.goto 29 dX9_run_257 (by decide) ?_
                  exact EW.loc (lv' := [(0, .ref (ad 43)), (5, .int _)]) ⟨rfl, rfl, trivial⟩ K
              · exact absurd c151 (by decide +kernel)
          · exact absurd rfl c116
        · exact absurd c54 hg.1
set_option maxHeartbeats 4000000 in
theorem R_next3 (hl : l.stackTraces = false) (dd h k : Nat) (p : Nat) (g o9 : Int32) (s s2 : MSt) (Q : Oc → MSt → Prop) (hdd : 5 ≤ dd) (hg : ¬ g = -2 ∧ ¬ g = -3) (hh : s.1 16 = nI (h + 1)) (h9 : h < 960) (hk : s.2 17 h = nI k) (hk9 : k < 448) (hA : MtW (IM cy ad hp0) l D cy base mX9_answer 0 0 0 [.ref (ad 43), .int g] s (fun o t => o = .inl (some (.int (-2))) ∧ t = s2)) (hh2 : s2.1 16 = nI (h + 1)) (hkd : s2.2 5 k = nI 3) (g2 : Nat) (hs2 : s2.2 7 k = nI g2) (hp2 : s2.2 18 h = nI p) (s3 : MSt) (hA2 : AskC cy ad hp0 l D base (fU 16 (nI h) s2) (k / 64 * 64 + g2) p o9 s3) (K : EW (IM cy ad hp0) l D cy base mX9_run dd 0 0 29 [(0, .ref (ad 43)), (5, .int o9)] [] s3 Q) : EW (IM cy ad hp0) l D cy base mX9_run dd 0 0 29 [(0, .ref (ad 43)), (5, .int g)] [] s Q := by
  refine EW.iload dX9_run_29 rfl ?_
  refine EW.bipush (v := -2) dX9_run_31 (by decide +kernel) ?_
  refine EW.icmp_eq 50 dX9_run_33 (by decide) (fun c33 => ?_) (fun c33 => ?_)
  · exact absurd c33 hg.1
  · refine EW.aload_n dX9_run_36 rfl rfl ?_
    refine EM.get f_X9_207 dX9_run_37 rfl ?_
    refine EW.top hh ?_
    refine EW.if_le 260 dX9_run_40 (by decide) (fun c40 => ?_) (fun c40 => ?_)
    · have c40 : h + 1 = 0 := (nI_le0 (by omega)).mp c40; omega
    · have c40 : ¬ h + 1 = 0 := fun h => c40 ((nI_le0 (by omega)).mpr h)
      refine EW.iload dX9_run_43 rfl ?_
      refine EW.bipush (v := -3) dX9_run_45 (by decide +kernel) ?_
      refine EW.icmp_eq 260 dX9_run_47 (by decide) (fun c47 => ?_) (fun c47 => ?_)
      · exact absurd c47 hg.2
      · refine EW.iload dX9_run_50 rfl ?_
        refine EW.bipush (v := -2) dX9_run_52 (by decide +kernel) ?_
        refine EW.icmp_ne 87 dX9_run_54 (by decide) (fun c54 => ?_) (fun c54 => ?_)
        · refine EW.aload_n dX9_run_87 rfl rfl ?_
          refine EM.get f_X9_45 dX9_run_88 rfl ?_
          refine EW.aload_n dX9_run_91 rfl rfl ?_
          refine EM.get f_X9_207 dX9_run_92 rfl ?_
          refine EW.top hh ?_
          refine EW.ic 1 dX9_run_95 ?_
          refine EW.isub dX9_run_96 ?_
          refine EW.top (pk_sub (by omega)) ?_
          refine EM.ialdN ((h + 1) - 1) dX9_run_97 rfl rfl (by simp only [mLen]; omega) ?_
          refine EW.top hk ?_
          refine EW.istore dX9_run_98 (by decide) ?_
          refine EW.iload dX9_run_100 rfl ?_
          refine EW.istore dX9_run_102 (by decide) ?_
          refine EW.aload_n dX9_run_104 rfl rfl ?_
          refine EW.iload dX9_run_105 rfl ?_
          refine EM.callV (hA) mfX9_answer l_X9_243 mvX9_answer (by omega) dX9_run_107 rfl rfl rfl rfl (Nat.le_of_ble_eq_true rfl) (fun _ _ q => nomatch q.1) (fun v107 s107 q107 => ?_)
          obtain ⟨e107, h107⟩ := q107; cases e107; replace h107 := h107.symm; subst h107
          refine EW.istore dX9_run_110 (by decide) ?_
          refine EW.iload dX9_run_112 rfl ?_
          refine EW.bipush (v := -2) dX9_run_114 (by decide +kernel) ?_
          refine EW.icmp_eq 132 dX9_run_116 (by decide) (fun c116 => ?_) (fun c116 => ?_)
          · refine EW.aload_n dX9_run_132 rfl rfl ?_
            refine EM.get f_X9_17 dX9_run_133 rfl ?_
            refine EW.iload dX9_run_136 rfl ?_
            refine EM.ialdN k dX9_run_138 rfl rfl (by simp only [mLen]; omega) ?_
            refine EW.top hkd ?_
            refine EW.ic 4 dX9_run_139 ?_
            refine EW.icmp_eq 154 dX9_run_140 (by decide) (fun c140 => ?_) (fun c140 => ?_)
            · exact absurd c140 (by decide +kernel)
            · refine EW.aload_n dX9_run_143 rfl rfl ?_
              refine EM.get f_X9_17 dX9_run_144 rfl ?_
              refine EW.iload dX9_run_147 rfl ?_
              refine EM.ialdN k dX9_run_149 rfl rfl (by simp only [mLen]; omega) ?_
              refine EW.top hkd ?_
              refine EW.ic 5 dX9_run_150 ?_
              refine EW.icmp_ne 197 dX9_run_151 (by decide) (fun c151 => ?_) (fun c151 => ?_)
              · refine EW.aload_n dX9_run_197 rfl rfl ?_
                refine EM.get f_X9_17 dX9_run_198 rfl ?_
                refine EW.iload dX9_run_201 rfl ?_
                refine EM.ialdN k dX9_run_203 rfl rfl (by simp only [mLen]; omega) ?_
                refine EW.top hkd ?_
                refine EW.ic 2 dX9_run_204 ?_
                refine EW.icmp_ne 213 dX9_run_205 (by decide) (fun c205 => ?_) (fun c205 => ?_)
                · refine EW.aload_n dX9_run_213 rfl rfl ?_
                  refine EM.get f_X9_48 dX9_run_214 rfl ?_
                  refine EW.aload_n dX9_run_217 rfl rfl ?_
                  refine EM.get f_X9_207 dX9_run_218 rfl ?_
                  refine EW.top hh2 ?_
                  refine EW.ic 1 dX9_run_221 ?_
                  refine EW.isub dX9_run_222 ?_
                  refine EW.top (pk_sub (by omega)) ?_
                  refine EM.ialdN ((h + 1) - 1) dX9_run_223 rfl rfl (by simp only [mLen]; omega) ?_
                  refine EW.top hp2 ?_
                  refine EW.istore dX9_run_224 (by decide) ?_
                  refine EW.aload_n dX9_run_226 rfl rfl ?_
                  refine EW.dup dX9_run_227 rfl ?_
                  refine EM.get f_X9_207 dX9_run_228 rfl ?_
                  refine EW.top hh2 ?_
                  refine EW.ic 1 dX9_run_231 ?_
                  refine EW.isub dX9_run_232 ?_
                  refine EW.top (pk_sub (by omega)) ?_
                  refine EM.put f_X9_207 dX9_run_233 rfl ?_
                  refine EW.aload_n dX9_run_236 rfl rfl ?_
                  refine EW.iload dX9_run_237 rfl ?_
                  refine EW.callS (bc := 0) (bs := 0) (M_base hl _ 0 (fU 16 (nI h) s2) k (by omega)) mfX9_base rfl l_X9_234 mvX9_base (by omega) dX9_run_239 rfl rfl (Nat.le_of_ble_eq_true rfl) (fun v239 s239 q239 => ?_) (fun _ _ q => nomatch q.1)
                  obtain ⟨e239, h239⟩ := q239; cases e239; replace h239 := h239.symm; subst h239
                  refine EW.aload_n dX9_run_242 rfl rfl ?_
                  refine EM.get f_X9_23 dX9_run_243 rfl ?_
                  refine EW.iload dX9_run_246 rfl ?_
                  refine EM.ialdN k dX9_run_248 rfl rfl (by simp only [mLen]; omega) ?_
                  refine EW.top hs2 ?_
                  refine EW.iadd dX9_run_249 ?_
                  refine EW.top (nI_add _ _) ?_
                  refine EW.iload dX9_run_250 rfl ?_
                  refine EM.callV (hA2) mfX9_ask l_X9_237 mvX9_ask (by omega) dX9_run_252 rfl rfl rfl rfl (Nat.le_of_ble_eq_true rfl) (fun _ _ q => nomatch q.1) (fun v252 s252 q252 => ?_)
                  obtain ⟨e252, h252⟩ := q252; cases e252; replace h252 := h252.symm; subst h252
                  refine EW.istore dX9_run_255 (by decide) ?_
                  refine EW.goto 29 dX9_run_257 (by decide) ?_
                  exact EW.loc (lv' := [(0, .ref (ad 43)), (5, .int _)]) ⟨rfl, rfl, trivial⟩ K
                · exact absurd c205 (by decide +kernel)
              · exact absurd c151 (by decide +kernel)
          · exact absurd rfl c116
        · exact absurd c54 hg.1
end M12
