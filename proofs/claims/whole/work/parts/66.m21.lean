section M21
variable {cy : Nat → ClassId} {ad : Nat → Nat} {hp0 : Hp} {l : Launch} {D : va_G} {base : Nat}
abbrev HD (cy : Nat → ClassId) (ad : Nat → Nat) (hp0 : Hp) (l : Launch) (D : va_G) (base dd : Nat) (s : MSt) (a due : Nat) (Q : Oc → MSt → Prop) : Prop := EW (IM cy ad hp0) l D cy base mX9_read dd 0 0 56 [(0, .ref (ad 43)), (1, .int (nI a)), (2, .int (nI due))] [] s Q
set_option maxHeartbeats 4000000 in
theorem R_sign (hl : l.stackTraces = false) {dd : Nat} (hdd : 6 ≤ dd) {s : MSt} {Q : Oc → MSt → Prop} {a due n k : Nat} {tx : Nat → Nat} (hT : TXM s n tx) (hk : s.1 35 = nI k) (hk8 : k < 8) (hdue : due ≤ 1) (han : a < n) (hc : tx a = 38 ∨ tx a = 33) (hsg : s.2 42 k = nI 0) (K : HD cy ad hp0 l D base dd (aU 42 k (vp_nar .char (nI (tx a))) s) (a + 1) 1 Q) : HD cy ad hp0 l D base dd s a due Q := by
  have ht0 := hT.2.2.2.1 a
  have hn9 := hT.2.1
  have hn := hT.1
  refine EW.iload_n dX9_read_56 rfl rfl ?_
  refine EW.aload_n dX9_read_57 rfl rfl ?_
  refine EM.get f_X9_120 dX9_read_58 rfl ?_
  refine EW.top hn ?_
  refine EW.icmp_ge 243 dX9_read_61 (by decide) (fun c61 => ?_) (fun c61 => ?_)
  · have c61 : n ≤ a := (nI_leI (by omega) (by omega)).mp c61; omega
  · have c61 : ¬ (n ≤ a) := fun h => c61 ((nI_leI (by omega) (by omega)).mpr h)
    refine EW.aload_n dX9_read_64 rfl rfl ?_
    refine EW.iload_n dX9_read_65 rfl rfl ?_
    refine EM.callV (M_lookT hl 0 s a n tx hT (by omega)) mfX9_look l_X9_123 mvX9_look (by omega) dX9_read_66 rfl rfl rfl rfl (Nat.le_of_ble_eq_true rfl) (fun _ _ q => nomatch q.1) (fun v66 s66 q66 => ?_)
    obtain ⟨e66, h66⟩ := q66; cases e66; replace h66 := h66.symm; subst h66
    refine EW.istore_n dX9_read_69 rfl (by decide) ?_
    refine EW.iload_n dX9_read_70 rfl rfl ?_
    refine EW.bp 38 dX9_read_71 ?_
    refine EW.icmp_eq 82 dX9_read_73 (by decide) (fun c73 => ?_) (fun c73 => ?_)
    · have c73 : tx a = 38 := (nI_eq (by omega) (by omega)).mp c73
      refine EW.aload_n dX9_read_82 rfl rfl ?_
      refine EM.get f_X9_99 dX9_read_83 rfl ?_
      refine EW.aload_n dX9_read_86 rfl rfl ?_
      refine EM.get f_X9_131 dX9_read_87 rfl ?_
      refine EW.top hk ?_
      refine EM.caldN k dX9_read_90 rfl rfl (by simp only [mLen]; omega) ?_
      refine EW.top hsg ?_
      refine EW.if_ne 112 dX9_read_91 (by decide) (fun c91 => ?_) (fun c91 => ?_)
      · exact absurd c91 (by decide +kernel)
      · refine EW.aload_n dX9_read_94 rfl rfl ?_
        refine EM.get f_X9_99 dX9_read_95 rfl ?_
        refine EW.aload_n dX9_read_98 rfl rfl ?_
        refine EM.get f_X9_131 dX9_read_99 rfl ?_
        refine EW.top hk ?_
        refine EW.iload_n dX9_read_102 rfl rfl ?_
        refine EM.castN (k) dX9_read_103 rfl rfl (by simp only [mLen]; omega) ?_
        refine EW.iinc dX9_read_104 rfl (nI_inc _) (by decide) ?_
        refine EW.ic 1 dX9_read_107 ?_
        refine EW.istore_n dX9_read_108 rfl (by decide) ?_
        refine EW.goto 240 dX9_read_109 (by decide) ?_
        refine EW.goto 56 dX9_read_240 (by decide) ?_
        exact EW.loc (lv' := [(0, .ref (ad 43)), (1, .int (nI (a + 1))), (2, .int (nI 1))]) ⟨rfl, rfl, rfl, trivial⟩ K
    · have c73 : ¬ (tx a = 38) := fun h => c73 ((nI_eq (by omega) (by omega)).mpr h)
      refine EW.iload_n dX9_read_76 rfl rfl ?_
      refine EW.bp 33 dX9_read_77 ?_
      refine EW.icmp_ne 112 dX9_read_79 (by decide) (fun c79 => ?_) (fun c79 => ?_)
      · have c79 : ¬ (tx a = 33) := fun h => c79 ((nI_eq (by omega) (by omega)).mpr h); omega
      · have c79 : tx a = 33 := (nI_eq (by omega) (by omega)).mp c79
        refine EW.aload_n dX9_read_82 rfl rfl ?_
        refine EM.get f_X9_99 dX9_read_83 rfl ?_
        refine EW.aload_n dX9_read_86 rfl rfl ?_
        refine EM.get f_X9_131 dX9_read_87 rfl ?_
        refine EW.top hk ?_
        refine EM.caldN k dX9_read_90 rfl rfl (by simp only [mLen]; omega) ?_
        refine EW.top hsg ?_
        refine EW.if_ne 112 dX9_read_91 (by decide) (fun c91 => ?_) (fun c91 => ?_)
        · exact absurd c91 (by decide +kernel)
        · refine EW.aload_n dX9_read_94 rfl rfl ?_
          refine EM.get f_X9_99 dX9_read_95 rfl ?_
          refine EW.aload_n dX9_read_98 rfl rfl ?_
          refine EM.get f_X9_131 dX9_read_99 rfl ?_
          refine EW.top hk ?_
          refine EW.iload_n dX9_read_102 rfl rfl ?_
          refine EM.castN (k) dX9_read_103 rfl rfl (by simp only [mLen]; omega) ?_
          refine EW.iinc dX9_read_104 rfl (nI_inc _) (by decide) ?_
          refine EW.ic 1 dX9_read_107 ?_
          refine EW.istore_n dX9_read_108 rfl (by decide) ?_
          refine EW.goto 240 dX9_read_109 (by decide) ?_
          refine EW.goto 56 dX9_read_240 (by decide) ?_
          exact EW.loc (lv' := [(0, .ref (ad 43)), (1, .int (nI (a + 1))), (2, .int (nI 1))]) ⟨rfl, rfl, rfl, trivial⟩ K
set_option maxHeartbeats 4000000 in
theorem R_open4 (hl : l.stackTraces = false) {dd : Nat} (hdd : 6 ≤ dd) {s : MSt} {Q : Oc → MSt → Prop} {a due n k : Nat} {tx : Nat → Nat} (hT : TXM s n tx) (hk : s.1 35 = nI k) (hk8 : k < 8) (hdue : due ≤ 1) (han : a < n) (hc : tx a = 40) (h4 : k = 4) (K : Q (.inl (some (.int (nI a)))) s) : HD cy ad hp0 l D base dd s a due Q := by
  have ht0 := hT.2.2.2.1 a
  have hn9 := hT.2.1
  have hn := hT.1
  refine EW.iload_n dX9_read_56 rfl rfl ?_
  refine EW.aload_n dX9_read_57 rfl rfl ?_
  refine EM.get f_X9_120 dX9_read_58 rfl ?_
  refine EW.top hn ?_
  refine EW.icmp_ge 243 dX9_read_61 (by decide) (fun c61 => ?_) (fun c61 => ?_)
  · have c61 : n ≤ a := (nI_leI (by omega) (by omega)).mp c61; omega
  · have c61 : ¬ (n ≤ a) := fun h => c61 ((nI_leI (by omega) (by omega)).mpr h)
    refine EW.aload_n dX9_read_64 rfl rfl ?_
    refine EW.iload_n dX9_read_65 rfl rfl ?_
    refine EM.callV (M_lookT hl 0 s a n tx hT (by omega)) mfX9_look l_X9_123 mvX9_look (by omega) dX9_read_66 rfl rfl rfl rfl (Nat.le_of_ble_eq_true rfl) (fun _ _ q => nomatch q.1) (fun v66 s66 q66 => ?_)
    obtain ⟨e66, h66⟩ := q66; cases e66; replace h66 := h66.symm; subst h66
    refine EW.istore_n dX9_read_69 rfl (by decide) ?_
    refine EW.iload_n dX9_read_70 rfl rfl ?_
    refine EW.bp 38 dX9_read_71 ?_
    refine EW.icmp_eq 82 dX9_read_73 (by decide) (fun c73 => ?_) (fun c73 => ?_)
    · have c73 : tx a = 38 := (nI_eq (by omega) (by omega)).mp c73; omega
    · have c73 : ¬ (tx a = 38) := fun h => c73 ((nI_eq (by omega) (by omega)).mpr h)
      refine EW.iload_n dX9_read_76 rfl rfl ?_
      refine EW.bp 33 dX9_read_77 ?_
      refine EW.icmp_ne 112 dX9_read_79 (by decide) (fun c79 => ?_) (fun c79 => ?_)
      · have c79 : ¬ (tx a = 33) := fun h => c79 ((nI_eq (by omega) (by omega)).mpr h)
        refine EW.iload_n dX9_read_112 rfl rfl ?_
        refine EW.bp 40 dX9_read_113 ?_
        refine EW.icmp_ne 150 dX9_read_115 (by decide) (fun c115 => ?_) (fun c115 => ?_)
        · have c115 : ¬ (tx a = 40) := fun h => c115 ((nI_eq (by omega) (by omega)).mpr h); omega
        · have c115 : tx a = 40 := (nI_eq (by omega) (by omega)).mp c115
          refine EW.aload_n dX9_read_118 rfl rfl ?_
          refine EM.get f_X9_131 dX9_read_119 rfl ?_
          refine EW.top hk ?_
          refine EW.ic 4 dX9_read_122 ?_
          refine EW.icmp_ne 128 dX9_read_123 (by decide) (fun c123 => ?_) (fun c123 => ?_)
          · have c123 : ¬ (k = 4) := fun h => c123 ((nI_eq (by omega) (by omega)).mpr h); omega
          · have c123 : k = 4 := (nI_eq (by omega) (by omega)).mp c123
            refine EW.iload_n dX9_read_126 rfl rfl ?_
            refine EW.iret rfl dX9_read_127 ?_
            exact K
      · have c79 : tx a = 33 := (nI_eq (by omega) (by omega)).mp c79; omega
set_option maxHeartbeats 4000000 in
theorem R_open (hl : l.stackTraces = false) {dd : Nat} (hdd : 6 ≤ dd) {s : MSt} {Q : Oc → MSt → Prop} {a due n k : Nat} {tx : Nat → Nat} (hT : TXM s n tx) (hk : s.1 35 = nI k) (hk8 : k < 8) (hdue : due ≤ 1) (han : a < n) (hc : tx a = 40) (h4 : k < 4) (K : HD cy ad hp0 l D base dd (aU 42 (k + 1) (vp_nar .char (nI 0)) (aU 41 (k + 1) (s.1 38) (aU 40 (k + 1) (s.1 36) (fU 35 (nI (k + 1)) s)))) (a + 1) 1 Q) : HD cy ad hp0 l D base dd s a due Q := by
  have ht0 := hT.2.2.2.1 a
  have hn9 := hT.2.1
  have hn := hT.1
  refine EW.iload_n dX9_read_56 rfl rfl ?_
  refine EW.aload_n dX9_read_57 rfl rfl ?_
  refine EM.get f_X9_120 dX9_read_58 rfl ?_
  refine EW.top hn ?_
  refine EW.icmp_ge 243 dX9_read_61 (by decide) (fun c61 => ?_) (fun c61 => ?_)
  · have c61 : n ≤ a := (nI_leI (by omega) (by omega)).mp c61; omega
  · have c61 : ¬ (n ≤ a) := fun h => c61 ((nI_leI (by omega) (by omega)).mpr h)
    refine EW.aload_n dX9_read_64 rfl rfl ?_
    refine EW.iload_n dX9_read_65 rfl rfl ?_
    refine EM.callV (M_lookT hl 0 s a n tx hT (by omega)) mfX9_look l_X9_123 mvX9_look (by omega) dX9_read_66 rfl rfl rfl rfl (Nat.le_of_ble_eq_true rfl) (fun _ _ q => nomatch q.1) (fun v66 s66 q66 => ?_)
    obtain ⟨e66, h66⟩ := q66; cases e66; replace h66 := h66.symm; subst h66
    refine EW.istore_n dX9_read_69 rfl (by decide) ?_
    refine EW.iload_n dX9_read_70 rfl rfl ?_
    refine EW.bp 38 dX9_read_71 ?_
    refine EW.icmp_eq 82 dX9_read_73 (by decide) (fun c73 => ?_) (fun c73 => ?_)
    · have c73 : tx a = 38 := (nI_eq (by omega) (by omega)).mp c73; omega
    · have c73 : ¬ (tx a = 38) := fun h => c73 ((nI_eq (by omega) (by omega)).mpr h)
      refine EW.iload_n dX9_read_76 rfl rfl ?_
      refine EW.bp 33 dX9_read_77 ?_
      refine EW.icmp_ne 112 dX9_read_79 (by decide) (fun c79 => ?_) (fun c79 => ?_)
      · have c79 : ¬ (tx a = 33) := fun h => c79 ((nI_eq (by omega) (by omega)).mpr h)
        refine EW.iload_n dX9_read_112 rfl rfl ?_
        refine EW.bp 40 dX9_read_113 ?_
        refine EW.icmp_ne 150 dX9_read_115 (by decide) (fun c115 => ?_) (fun c115 => ?_)
        · have c115 : ¬ (tx a = 40) := fun h => c115 ((nI_eq (by omega) (by omega)).mpr h); omega
        · have c115 : tx a = 40 := (nI_eq (by omega) (by omega)).mp c115
          refine EW.aload_n dX9_read_118 rfl rfl ?_
          refine EM.get f_X9_131 dX9_read_119 rfl ?_
          refine EW.top hk ?_
          refine EW.ic 4 dX9_read_122 ?_
          refine EW.icmp_ne 128 dX9_read_123 (by decide) (fun c123 => ?_) (fun c123 => ?_)
          · have c123 : ¬ (k = 4) := fun h => c123 ((nI_eq (by omega) (by omega)).mpr h)
            refine EW.aload_n dX9_read_128 rfl rfl ?_
            refine EW.dup dX9_read_129 rfl ?_
            refine EM.get f_X9_131 dX9_read_130 rfl ?_
            refine EW.top hk ?_
            refine EW.ic 1 dX9_read_133 ?_
            refine EW.iadd dX9_read_134 ?_
            refine EW.top (nI_add _ _) ?_
            refine EM.put f_X9_131 dX9_read_135 rfl ?_
            refine EW.aload_n dX9_read_138 rfl rfl ?_
            refine EM.callV (M_enter hl 0 (fU 35 (nI (k + 1)) s) (k + 1) (show va_up s.1 35 (nI (k + 1)) 35 = _ from va_up_self _ _ _) (by omega)) mfX9_enter l_X9_147 mvX9_enter (by omega) dX9_read_139 rfl rfl rfl rfl (Nat.le_of_ble_eq_true rfl) (fun _ _ q => nomatch q.1) (fun v139 s139 q139 => ?_)
            obtain ⟨e139, h139⟩ := q139; cases e139; replace h139 := h139.symm; subst h139
            refine EW.iinc dX9_read_142 rfl (nI_inc _) (by decide) ?_
            refine EW.ic 1 dX9_read_145 ?_
            refine EW.istore_n dX9_read_146 rfl (by decide) ?_
            refine EW.goto 240 dX9_read_147 (by decide) ?_
            refine EW.goto 56 dX9_read_240 (by decide) ?_
            exact EW.loc (lv' := [(0, .ref (ad 43)), (1, .int (nI (a + 1))), (2, .int (nI 1))]) ⟨rfl, rfl, rfl, trivial⟩ K
          · have c123 : k = 4 := (nI_eq (by omega) (by omega)).mp c123; omega
      · have c79 : tx a = 33 := (nI_eq (by omega) (by omega)).mp c79; omega
set_option maxHeartbeats 4000000 in
theorem R_slash (hl : l.stackTraces = false) {dd : Nat} (hdd : 6 ≤ dd) {s : MSt} {Q : Oc → MSt → Prop} {a due n k : Nat} {tx : Nat → Nat} (hT : TXM s n tx) (hk : s.1 35 = nI k) (hk8 : k < 8) (hdue : due ≤ 1) (han : a < n) (hc : tx a = 47) (h0 : due = 0) {P : MSt → Prop} (hRow : MtW (IM cy ad hp0) l D cy base mX9_rowDone (0 + 1) 0 0 [.ref (ad 43)] s (fun o s2 => o = .inl none ∧ P s2)) (K : ∀ s2, P s2 → HD cy ad hp0 l D base dd s2 (a + 1) 1 Q) : HD cy ad hp0 l D base dd s a due Q := by
  have ht0 := hT.2.2.2.1 a
  have hn9 := hT.2.1
  have hn := hT.1
  refine EW.iload_n dX9_read_56 rfl rfl ?_
  refine EW.aload_n dX9_read_57 rfl rfl ?_
  refine EM.get f_X9_120 dX9_read_58 rfl ?_
  refine EW.top hn ?_
  refine EW.icmp_ge 243 dX9_read_61 (by decide) (fun c61 => ?_) (fun c61 => ?_)
  · have c61 : n ≤ a := (nI_leI (by omega) (by omega)).mp c61; omega
  · have c61 : ¬ (n ≤ a) := fun h => c61 ((nI_leI (by omega) (by omega)).mpr h)
    refine EW.aload_n dX9_read_64 rfl rfl ?_
    refine EW.iload_n dX9_read_65 rfl rfl ?_
    refine EM.callV (M_lookT hl 0 s a n tx hT (by omega)) mfX9_look l_X9_123 mvX9_look (by omega) dX9_read_66 rfl rfl rfl rfl (Nat.le_of_ble_eq_true rfl) (fun _ _ q => nomatch q.1) (fun v66 s66 q66 => ?_)
    obtain ⟨e66, h66⟩ := q66; cases e66; replace h66 := h66.symm; subst h66
    refine EW.istore_n dX9_read_69 rfl (by decide) ?_
    refine EW.iload_n dX9_read_70 rfl rfl ?_
    refine EW.bp 38 dX9_read_71 ?_
    refine EW.icmp_eq 82 dX9_read_73 (by decide) (fun c73 => ?_) (fun c73 => ?_)
    · have c73 : tx a = 38 := (nI_eq (by omega) (by omega)).mp c73; omega
    · have c73 : ¬ (tx a = 38) := fun h => c73 ((nI_eq (by omega) (by omega)).mpr h)
      refine EW.iload_n dX9_read_76 rfl rfl ?_
      refine EW.bp 33 dX9_read_77 ?_
      refine EW.icmp_ne 112 dX9_read_79 (by decide) (fun c79 => ?_) (fun c79 => ?_)
      · have c79 : ¬ (tx a = 33) := fun h => c79 ((nI_eq (by omega) (by omega)).mpr h)
        refine EW.iload_n dX9_read_112 rfl rfl ?_
        refine EW.bp 40 dX9_read_113 ?_
        refine EW.icmp_ne 150 dX9_read_115 (by decide) (fun c115 => ?_) (fun c115 => ?_)
        · have c115 : ¬ (tx a = 40) := fun h => c115 ((nI_eq (by omega) (by omega)).mpr h)
          refine EW.iload_n dX9_read_150 rfl rfl ?_
          refine EW.if_ne 172 dX9_read_151 (by decide) (fun c151 => ?_) (fun c151 => ?_)
          · have c151 : ¬ due = 0 := fun h => c151 ((nI_eq0 (by omega)).mpr h); omega
          · have c151 : due = 0 := (nI_eq0 (by omega)).mp c151
            refine EW.iload_n dX9_read_154 rfl rfl ?_
            refine EW.bp 47 dX9_read_155 ?_
            refine EW.icmp_ne 172 dX9_read_157 (by decide) (fun c157 => ?_) (fun c157 => ?_)
            · have c157 : ¬ (tx a = 47) := fun h => c157 ((nI_eq (by omega) (by omega)).mpr h); omega
            · have c157 : tx a = 47 := (nI_eq (by omega) (by omega)).mp c157
              refine EW.aload_n dX9_read_160 rfl rfl ?_
              refine EM.callV (hRow) mfX9_rowDone l_X9_140 mvX9_rowDone (by omega) dX9_read_161 rfl rfl rfl rfl (Nat.le_of_ble_eq_true rfl) (fun _ _ q => nomatch q.1) (fun v161 s161 q161 => ?_)
              obtain ⟨e161, hP⟩ := q161; cases e161
              refine EW.iinc dX9_read_164 rfl (nI_inc _) (by decide) ?_
              refine EW.ic 1 dX9_read_167 ?_
              refine EW.istore_n dX9_read_168 rfl (by decide) ?_
              refine EW.goto 240 dX9_read_169 (by decide) ?_
              refine EW.goto 56 dX9_read_240 (by decide) ?_
              exact EW.loc (lv' := [(0, .ref (ad 43)), (1, .int (nI (a + 1))), (2, .int (nI 1))]) ⟨rfl, rfl, rfl, trivial⟩ (K _ hP)
        · have c115 : tx a = 40 := (nI_eq (by omega) (by omega)).mp c115; omega
      · have c79 : tx a = 33 := (nI_eq (by omega) (by omega)).mp c79; omega
set_option maxHeartbeats 4000000 in
theorem R_close (hl : l.stackTraces = false) {dd : Nat} (hdd : 6 ≤ dd) {s : MSt} {Q : Oc → MSt → Prop} {a due n k : Nat} {tx : Nat → Nat} (hT : TXM s n tx) (hk : s.1 35 = nI k) (hk8 : k < 8) (hdue : due ≤ 1) (han : a < n) (hc : tx a = 41) (h0 : due = 0) (hk0 : 0 < k) {u b : Nat} {P P2 : MSt → Prop} (hCh : MtW (IM cy ad hp0) l D cy base mX9_choiceDone (0 + 2) 0 0 [.ref (ad 43)] s (fun o s2 => o = .inl (some (.int (nI u))) ∧ P s2)) (hPk : ∀ s2, P s2 → s2.1 35 = nI k) (hPart : ∀ s2, P s2 → MtW (IM cy ad hp0) l D cy base mX9_partDone (0 + 1) 0 0 [.ref (ad 43), .int (nI u), .int (nI (a + 1))] (fU 35 (nI (k - 1)) s2) (fun o s3 => o = .inl (some (.int (nI b))) ∧ P2 s3)) (K : ∀ s3, P2 s3 → HD cy ad hp0 l D base dd s3 b due Q) : HD cy ad hp0 l D base dd s a due Q := by
  have ht0 := hT.2.2.2.1 a
  have hn9 := hT.2.1
  have hn := hT.1
  refine EW.iload_n dX9_read_56 rfl rfl ?_
  refine EW.aload_n dX9_read_57 rfl rfl ?_
  refine EM.get f_X9_120 dX9_read_58 rfl ?_
  refine EW.top hn ?_
  refine EW.icmp_ge 243 dX9_read_61 (by decide) (fun c61 => ?_) (fun c61 => ?_)
  · have c61 : n ≤ a := (nI_leI (by omega) (by omega)).mp c61; omega
  · have c61 : ¬ (n ≤ a) := fun h => c61 ((nI_leI (by omega) (by omega)).mpr h)
    refine EW.aload_n dX9_read_64 rfl rfl ?_
    refine EW.iload_n dX9_read_65 rfl rfl ?_
    refine EM.callV (M_lookT hl 0 s a n tx hT (by omega)) mfX9_look l_X9_123 mvX9_look (by omega) dX9_read_66 rfl rfl rfl rfl (Nat.le_of_ble_eq_true rfl) (fun _ _ q => nomatch q.1) (fun v66 s66 q66 => ?_)
    obtain ⟨e66, h66⟩ := q66; cases e66; replace h66 := h66.symm; subst h66
    refine EW.istore_n dX9_read_69 rfl (by decide) ?_
    refine EW.iload_n dX9_read_70 rfl rfl ?_
    refine EW.bp 38 dX9_read_71 ?_
    refine EW.icmp_eq 82 dX9_read_73 (by decide) (fun c73 => ?_) (fun c73 => ?_)
    · have c73 : tx a = 38 := (nI_eq (by omega) (by omega)).mp c73; omega
    · have c73 : ¬ (tx a = 38) := fun h => c73 ((nI_eq (by omega) (by omega)).mpr h)
      refine EW.iload_n dX9_read_76 rfl rfl ?_
      refine EW.bp 33 dX9_read_77 ?_
      refine EW.icmp_ne 112 dX9_read_79 (by decide) (fun c79 => ?_) (fun c79 => ?_)
      · have c79 : ¬ (tx a = 33) := fun h => c79 ((nI_eq (by omega) (by omega)).mpr h)
        refine EW.iload_n dX9_read_112 rfl rfl ?_
        refine EW.bp 40 dX9_read_113 ?_
        refine EW.icmp_ne 150 dX9_read_115 (by decide) (fun c115 => ?_) (fun c115 => ?_)
        · have c115 : ¬ (tx a = 40) := fun h => c115 ((nI_eq (by omega) (by omega)).mpr h)
          refine EW.iload_n dX9_read_150 rfl rfl ?_
          refine EW.if_ne 172 dX9_read_151 (by decide) (fun c151 => ?_) (fun c151 => ?_)
          · have c151 : ¬ due = 0 := fun h => c151 ((nI_eq0 (by omega)).mpr h); omega
          · have c151 : due = 0 := (nI_eq0 (by omega)).mp c151
            refine EW.iload_n dX9_read_154 rfl rfl ?_
            refine EW.bp 47 dX9_read_155 ?_
            refine EW.icmp_ne 172 dX9_read_157 (by decide) (fun c157 => ?_) (fun c157 => ?_)
            · have c157 : ¬ (tx a = 47) := fun h => c157 ((nI_eq (by omega) (by omega)).mpr h)
              refine EW.iload_n dX9_read_172 rfl rfl ?_
              refine EW.if_ne 218 dX9_read_173 (by decide) (fun c173 => ?_) (fun c173 => ?_)
              · have c173 : ¬ due = 0 := fun h => c173 ((nI_eq0 (by omega)).mpr h); omega
              · have c173 : due = 0 := (nI_eq0 (by omega)).mp c173
                refine EW.iload_n dX9_read_176 rfl rfl ?_
                refine EW.bp 41 dX9_read_177 ?_
                refine EW.icmp_ne 218 dX9_read_179 (by decide) (fun c179 => ?_) (fun c179 => ?_)
                · have c179 : ¬ (tx a = 41) := fun h => c179 ((nI_eq (by omega) (by omega)).mpr h); omega
                · have c179 : tx a = 41 := (nI_eq (by omega) (by omega)).mp c179
                  refine EW.aload_n dX9_read_182 rfl rfl ?_
                  refine EM.get f_X9_131 dX9_read_183 rfl ?_
                  refine EW.top hk ?_
                  refine EW.if_le 218 dX9_read_186 (by decide) (fun c186 => ?_) (fun c186 => ?_)
                  · have c186 : k = 0 := (nI_le0 (by omega)).mp c186; omega
                  · have c186 : ¬ k = 0 := fun h => c186 ((nI_le0 (by omega)).mpr h)
                    refine EW.aload_n dX9_read_189 rfl rfl ?_
                    refine EM.callV (hCh) mfX9_choiceDone l_X9_150 mvX9_choiceDone (by omega) dX9_read_190 rfl rfl rfl rfl (Nat.le_of_ble_eq_true rfl) (fun _ _ q => nomatch q.1) (fun v190 s190 q190 => ?_)
                    obtain ⟨e190, hP⟩ := q190; cases e190
                    have hk2 := hPk _ hP
                    refine EW.istore dX9_read_193 (by decide) ?_
                    refine EW.aload_n dX9_read_195 rfl rfl ?_
                    refine EW.dup dX9_read_196 rfl ?_
                    refine EM.get f_X9_131 dX9_read_197 rfl ?_
                    refine EW.top hk2 ?_
                    refine EW.ic 1 dX9_read_200 ?_
                    refine EW.isub dX9_read_201 ?_
                    refine EW.top (pk_sub (by omega)) ?_
                    refine EM.put f_X9_131 dX9_read_202 rfl ?_
                    refine EW.aload_n dX9_read_205 rfl rfl ?_
                    refine EW.iload dX9_read_206 rfl ?_
                    refine EW.iload_n dX9_read_208 rfl rfl ?_
                    refine EW.ic 1 dX9_read_209 ?_
                    refine EW.iadd dX9_read_210 ?_
                    refine EW.top (nI_add _ _) ?_
                    refine EM.callV (hPart _ hP) mfX9_partDone l_X9_143 mvX9_partDone (by omega) dX9_read_211 rfl rfl rfl rfl (Nat.le_of_ble_eq_true rfl) (fun _ _ q => nomatch q.1) (fun v211 s211 q211 => ?_)
                    obtain ⟨e211, hP2⟩ := q211; cases e211
                    refine EW.istore_n dX9_read_214 rfl (by decide) ?_
                    refine EW.goto 240 dX9_read_215 (by decide) ?_
                    refine EW.goto 56 dX9_read_240 (by decide) ?_
                    exact EW.loc (lv' := [(0, .ref (ad 43)), (1, .int (nI (b))), (2, .int (nI due))]) ⟨rfl, rfl, rfl, trivial⟩ (K _ hP2)
            · have c157 : tx a = 47 := (nI_eq (by omega) (by omega)).mp c157; omega
        · have c115 : tx a = 40 := (nI_eq (by omega) (by omega)).mp c115; omega
      · have c79 : tx a = 33 := (nI_eq (by omega) (by omega)).mp c79; omega
set_option maxHeartbeats 4000000 in
theorem R_sim218 (hl : l.stackTraces = false) {dd : Nat} (hdd : 6 ≤ dd) {s : MSt} {Q : Oc → MSt → Prop} {a due : Nat} {P : Oc → MSt → Prop} (hS : MtW (IM cy ad hp0) l D cy base mX9_simple (0 + 2) 0 0 [.ref (ad 43), .int (nI a)] s P) (hSi : ∀ o s2, P o s2 → ∃ v : Int32, o = .inl (some (.int v)) ∧ True) (K : ∀ (v : Int32) s2, P (.inl (some (.int v))) s2 → EW (IM cy ad hp0) l D cy base mX9_read dd 0 0 225 [(0, .ref (ad 43)), (4, .int v)] [] s2 Q) : EW (IM cy ad hp0) l D cy base mX9_read dd 0 0 218 [(0, .ref (ad 43)), (1, .int (nI a)), (2, .int (nI due))] [] s Q := by
  refine EW.aload_n dX9_read_218 rfl rfl ?_
  refine EW.iload_n dX9_read_219 rfl rfl ?_
  refine EM.callV (hS) mfX9_simple l_X9_154 mvX9_simple (by omega) dX9_read_220 rfl rfl rfl rfl (Nat.le_of_ble_eq_true rfl) (fun X _ q => by obtain ⟨v, e, -⟩ := hSi _ _ q; cases e) (fun v220 s220 q220 => ?_)
  obtain ⟨v, ev, _⟩ := hSi _ _ q220; cases ev
  refine EW.istore dX9_read_223 (by decide) ?_
  exact EW.loc (lv' := [(0, .ref (ad 43)), (4, .int v)]) ⟨rfl, rfl, trivial⟩ (K v _ q220)
set_option maxHeartbeats 4000000 in
theorem R_simF {dd : Nat} {s : MSt} {Q : Oc → MSt → Prop} {v : Int32} {f : Nat} (hv : v < 0) (hv2 : (-1 : Int32) - v = nI f) (hQ : Q (.inl (some (.int (nI f)))) s) : EW (IM cy ad hp0) l D cy base mX9_read dd 0 0 225 [(0, .ref (ad 43)), (4, .int v)] [] s Q := by
  refine EW.iload dX9_read_225 rfl ?_
  refine EW.if_ge 235 dX9_read_227 (by decide) (fun c227 => ?_) (fun c227 => ?_)
  · exact absurd hv (Int32.not_lt.mpr c227)
  · refine EW.iconst (v := -1) dX9_read_230 (by decide +kernel) ?_
    refine EW.iload dX9_read_231 rfl ?_
    refine EW.isub dX9_read_233 ?_
    refine EW.iret rfl dX9_read_234 ?_
    rw [hv2]; exact hQ
set_option maxHeartbeats 4000000 in
theorem R_simS {dd : Nat} {s : MSt} {Q : Oc → MSt → Prop} {b : Nat} (hb : b < 1000) (K : HD cy ad hp0 l D base dd s b 0 Q) : EW (IM cy ad hp0) l D cy base mX9_read dd 0 0 225 [(0, .ref (ad 43)), (4, .int (nI b))] [] s Q := by
  refine EW.iload dX9_read_225 rfl ?_
  refine EW.if_ge 235 dX9_read_227 (by decide) (fun c227 => ?_) (fun c227 => ?_)
  · refine EW.iload dX9_read_235 rfl ?_
    refine EW.istore_n dX9_read_237 rfl (by decide) ?_
    refine EW.ic 0 dX9_read_238 ?_
    refine EW.istore_n dX9_read_239 rfl (by decide) ?_
    refine EW.goto 56 dX9_read_240 (by decide) ?_
    exact EW.loc (lv' := [(0, .ref (ad 43)), (1, .int (nI (b))), (2, .int (nI 0))]) ⟨rfl, rfl, rfl, trivial⟩ K
  · exact absurd (nI_pos' (by omega)) c227
set_option maxHeartbeats 4000000 in
theorem R_simple (hl : l.stackTraces = false) {dd : Nat} (hdd : 6 ≤ dd) {s : MSt} {Q : Oc → MSt → Prop} {a due n k : Nat} {tx : Nat → Nat} (hT : TXM s n tx) (hk : s.1 35 = nI k) (hk8 : k < 8) (hdue : due ≤ 1) (han : a < n) {sg : Nat} (hsg : s.2 42 k = nI sg) (hsg9 : sg < 128) (h1 : (¬ tx a = 38 ∧ ¬ tx a = 33) ∨ ¬ sg = 0) (h40 : ¬ tx a = 40) (h2 : due = 1 ∨ (¬ tx a = 47 ∧ (¬ tx a = 41 ∨ k = 0))) (K : EW (IM cy ad hp0) l D cy base mX9_read dd 0 0 218 [(0, .ref (ad 43)), (1, .int (nI a)), (2, .int (nI due))] [] s Q) : HD cy ad hp0 l D base dd s a due Q := by
  have ht0 := hT.2.2.2.1 a
  have hn9 := hT.2.1
  have hn := hT.1
  refine EW.iload_n dX9_read_56 rfl rfl ?_
  refine EW.aload_n dX9_read_57 rfl rfl ?_
  refine EM.get f_X9_120 dX9_read_58 rfl ?_
  refine EW.top hn ?_
  refine EW.icmp_ge 243 dX9_read_61 (by decide) (fun c61 => ?_) (fun c61 => ?_)
  · have c61 : n ≤ a := (nI_leI (by omega) (by omega)).mp c61; omega
  · have c61 : ¬ (n ≤ a) := fun h => c61 ((nI_leI (by omega) (by omega)).mpr h)
    refine EW.aload_n dX9_read_64 rfl rfl ?_
    refine EW.iload_n dX9_read_65 rfl rfl ?_
    refine EM.callV (M_lookT hl 0 s a n tx hT (by omega)) mfX9_look l_X9_123 mvX9_look (by omega) dX9_read_66 rfl rfl rfl rfl (Nat.le_of_ble_eq_true rfl) (fun _ _ q => nomatch q.1) (fun v66 s66 q66 => ?_)
    obtain ⟨e66, h66⟩ := q66; cases e66; replace h66 := h66.symm; subst h66
    refine EW.istore_n dX9_read_69 rfl (by decide) ?_
    refine EW.iload_n dX9_read_70 rfl rfl ?_
    refine EW.bp 38 dX9_read_71 ?_
    refine EW.icmp_eq 82 dX9_read_73 (by decide) (fun c73 => ?_) (fun c73 => ?_)
    · have c73 : tx a = 38 := (nI_eq (by omega) (by omega)).mp c73
      refine EW.aload_n dX9_read_82 rfl rfl ?_
      refine EM.get f_X9_99 dX9_read_83 rfl ?_
      refine EW.aload_n dX9_read_86 rfl rfl ?_
      refine EM.get f_X9_131 dX9_read_87 rfl ?_
      refine EW.top hk ?_
      refine EM.caldN k dX9_read_90 rfl rfl (by simp only [mLen]; omega) ?_
      refine EW.top hsg ?_
      refine EW.if_ne 112 dX9_read_91 (by decide) (fun c91 => ?_) (fun c91 => ?_)
      · have c91 : ¬ sg = 0 := fun h => c91 ((nI_eq0 (by omega)).mpr h)
        refine EW.iload_n dX9_read_112 rfl rfl ?_
        refine EW.bp 40 dX9_read_113 ?_
        refine EW.icmp_ne 150 dX9_read_115 (by decide) (fun c115 => ?_) (fun c115 => ?_)
        · have c115 : ¬ (tx a = 40) := fun h => c115 ((nI_eq (by omega) (by omega)).mpr h)
          refine EW.iload_n dX9_read_150 rfl rfl ?_
          refine EW.if_ne 172 dX9_read_151 (by decide) (fun c151 => ?_) (fun c151 => ?_)
          · have c151 : ¬ due = 0 := fun h => c151 ((nI_eq0 (by omega)).mpr h)
            refine EW.iload_n dX9_read_172 rfl rfl ?_
            refine EW.if_ne 218 dX9_read_173 (by decide) (fun c173 => ?_) (fun c173 => ?_)
            · have c173 : ¬ due = 0 := fun h => c173 ((nI_eq0 (by omega)).mpr h)
              exact EW.loc (lv' := [(0, .ref (ad 43)), (1, .int (nI (a))), (2, .int (nI due))]) ⟨rfl, rfl, rfl, trivial⟩ K
            · have c173 : due = 0 := (nI_eq0 (by omega)).mp c173
              refine EW.iload_n dX9_read_176 rfl rfl ?_
              refine EW.bp 41 dX9_read_177 ?_
              refine EW.icmp_ne 218 dX9_read_179 (by decide) (fun c179 => ?_) (fun c179 => ?_)
              · have c179 : ¬ (tx a = 41) := fun h => c179 ((nI_eq (by omega) (by omega)).mpr h)
                exact EW.loc (lv' := [(0, .ref (ad 43)), (1, .int (nI (a))), (2, .int (nI due))]) ⟨rfl, rfl, rfl, trivial⟩ K
              · have c179 : tx a = 41 := (nI_eq (by omega) (by omega)).mp c179
                refine EW.aload_n dX9_read_182 rfl rfl ?_
                refine EM.get f_X9_131 dX9_read_183 rfl ?_
                refine EW.top hk ?_
                refine EW.if_le 218 dX9_read_186 (by decide) (fun c186 => ?_) (fun c186 => ?_)
                · have c186 : k = 0 := (nI_le0 (by omega)).mp c186
                  exact EW.loc (lv' := [(0, .ref (ad 43)), (1, .int (nI (a))), (2, .int (nI due))]) ⟨rfl, rfl, rfl, trivial⟩ K
                · have c186 : ¬ k = 0 := fun h => c186 ((nI_le0 (by omega)).mpr h); omega
          · have c151 : due = 0 := (nI_eq0 (by omega)).mp c151
            refine EW.iload_n dX9_read_154 rfl rfl ?_
            refine EW.bp 47 dX9_read_155 ?_
            refine EW.icmp_ne 172 dX9_read_157 (by decide) (fun c157 => ?_) (fun c157 => ?_)
            · have c157 : ¬ (tx a = 47) := fun h => c157 ((nI_eq (by omega) (by omega)).mpr h)
              refine EW.iload_n dX9_read_172 rfl rfl ?_
              refine EW.if_ne 218 dX9_read_173 (by decide) (fun c173 => ?_) (fun c173 => ?_)
              · have c173 : ¬ due = 0 := fun h => c173 ((nI_eq0 (by omega)).mpr h)
                exact EW.loc (lv' := [(0, .ref (ad 43)), (1, .int (nI (a))), (2, .int (nI due))]) ⟨rfl, rfl, rfl, trivial⟩ K
              · have c173 : due = 0 := (nI_eq0 (by omega)).mp c173
                refine EW.iload_n dX9_read_176 rfl rfl ?_
                refine EW.bp 41 dX9_read_177 ?_
                refine EW.icmp_ne 218 dX9_read_179 (by decide) (fun c179 => ?_) (fun c179 => ?_)
                · have c179 : ¬ (tx a = 41) := fun h => c179 ((nI_eq (by omega) (by omega)).mpr h)
                  exact EW.loc (lv' := [(0, .ref (ad 43)), (1, .int (nI (a))), (2, .int (nI due))]) ⟨rfl, rfl, rfl, trivial⟩ K
                · have c179 : tx a = 41 := (nI_eq (by omega) (by omega)).mp c179
                  refine EW.aload_n dX9_read_182 rfl rfl ?_
                  refine EM.get f_X9_131 dX9_read_183 rfl ?_
                  refine EW.top hk ?_
                  refine EW.if_le 218 dX9_read_186 (by decide) (fun c186 => ?_) (fun c186 => ?_)
                  · have c186 : k = 0 := (nI_le0 (by omega)).mp c186
                    exact EW.loc (lv' := [(0, .ref (ad 43)), (1, .int (nI (a))), (2, .int (nI due))]) ⟨rfl, rfl, rfl, trivial⟩ K
                  · have c186 : ¬ k = 0 := fun h => c186 ((nI_le0 (by omega)).mpr h); omega
            · have c157 : tx a = 47 := (nI_eq (by omega) (by omega)).mp c157; omega
        · have c115 : tx a = 40 := (nI_eq (by omega) (by omega)).mp c115; omega
      · have c91 : sg = 0 := (nI_eq0 (by omega)).mp c91; omega
    · have c73 : ¬ (tx a = 38) := fun h => c73 ((nI_eq (by omega) (by omega)).mpr h)
      refine EW.iload_n dX9_read_76 rfl rfl ?_
      refine EW.bp 33 dX9_read_77 ?_
      refine EW.icmp_ne 112 dX9_read_79 (by decide) (fun c79 => ?_) (fun c79 => ?_)
      · have c79 : ¬ (tx a = 33) := fun h => c79 ((nI_eq (by omega) (by omega)).mpr h)
        refine EW.iload_n dX9_read_112 rfl rfl ?_
        refine EW.bp 40 dX9_read_113 ?_
        refine EW.icmp_ne 150 dX9_read_115 (by decide) (fun c115 => ?_) (fun c115 => ?_)
        · have c115 : ¬ (tx a = 40) := fun h => c115 ((nI_eq (by omega) (by omega)).mpr h)
          refine EW.iload_n dX9_read_150 rfl rfl ?_
          refine EW.if_ne 172 dX9_read_151 (by decide) (fun c151 => ?_) (fun c151 => ?_)
          · have c151 : ¬ due = 0 := fun h => c151 ((nI_eq0 (by omega)).mpr h)
            refine EW.iload_n dX9_read_172 rfl rfl ?_
            refine EW.if_ne 218 dX9_read_173 (by decide) (fun c173 => ?_) (fun c173 => ?_)
            · have c173 : ¬ due = 0 := fun h => c173 ((nI_eq0 (by omega)).mpr h)
              exact EW.loc (lv' := [(0, .ref (ad 43)), (1, .int (nI (a))), (2, .int (nI due))]) ⟨rfl, rfl, rfl, trivial⟩ K
            · have c173 : due = 0 := (nI_eq0 (by omega)).mp c173
              refine EW.iload_n dX9_read_176 rfl rfl ?_
              refine EW.bp 41 dX9_read_177 ?_
              refine EW.icmp_ne 218 dX9_read_179 (by decide) (fun c179 => ?_) (fun c179 => ?_)
              · have c179 : ¬ (tx a = 41) := fun h => c179 ((nI_eq (by omega) (by omega)).mpr h)
                exact EW.loc (lv' := [(0, .ref (ad 43)), (1, .int (nI (a))), (2, .int (nI due))]) ⟨rfl, rfl, rfl, trivial⟩ K
              · have c179 : tx a = 41 := (nI_eq (by omega) (by omega)).mp c179
                refine EW.aload_n dX9_read_182 rfl rfl ?_
                refine EM.get f_X9_131 dX9_read_183 rfl ?_
                refine EW.top hk ?_
                refine EW.if_le 218 dX9_read_186 (by decide) (fun c186 => ?_) (fun c186 => ?_)
                · have c186 : k = 0 := (nI_le0 (by omega)).mp c186
                  exact EW.loc (lv' := [(0, .ref (ad 43)), (1, .int (nI (a))), (2, .int (nI due))]) ⟨rfl, rfl, rfl, trivial⟩ K
                · have c186 : ¬ k = 0 := fun h => c186 ((nI_le0 (by omega)).mpr h); omega
          · have c151 : due = 0 := (nI_eq0 (by omega)).mp c151
            refine EW.iload_n dX9_read_154 rfl rfl ?_
            refine EW.bp 47 dX9_read_155 ?_
            refine EW.icmp_ne 172 dX9_read_157 (by decide) (fun c157 => ?_) (fun c157 => ?_)
            · have c157 : ¬ (tx a = 47) := fun h => c157 ((nI_eq (by omega) (by omega)).mpr h)
              refine EW.iload_n dX9_read_172 rfl rfl ?_
              refine EW.if_ne 218 dX9_read_173 (by decide) (fun c173 => ?_) (fun c173 => ?_)
              · have c173 : ¬ due = 0 := fun h => c173 ((nI_eq0 (by omega)).mpr h)
                exact EW.loc (lv' := [(0, .ref (ad 43)), (1, .int (nI (a))), (2, .int (nI due))]) ⟨rfl, rfl, rfl, trivial⟩ K
              · have c173 : due = 0 := (nI_eq0 (by omega)).mp c173
                refine EW.iload_n dX9_read_176 rfl rfl ?_
                refine EW.bp 41 dX9_read_177 ?_
                refine EW.icmp_ne 218 dX9_read_179 (by decide) (fun c179 => ?_) (fun c179 => ?_)
                · have c179 : ¬ (tx a = 41) := fun h => c179 ((nI_eq (by omega) (by omega)).mpr h)
                  exact EW.loc (lv' := [(0, .ref (ad 43)), (1, .int (nI (a))), (2, .int (nI due))]) ⟨rfl, rfl, rfl, trivial⟩ K
                · have c179 : tx a = 41 := (nI_eq (by omega) (by omega)).mp c179
                  refine EW.aload_n dX9_read_182 rfl rfl ?_
                  refine EM.get f_X9_131 dX9_read_183 rfl ?_
                  refine EW.top hk ?_
                  refine EW.if_le 218 dX9_read_186 (by decide) (fun c186 => ?_) (fun c186 => ?_)
                  · have c186 : k = 0 := (nI_le0 (by omega)).mp c186
                    exact EW.loc (lv' := [(0, .ref (ad 43)), (1, .int (nI (a))), (2, .int (nI due))]) ⟨rfl, rfl, rfl, trivial⟩ K
                  · have c186 : ¬ k = 0 := fun h => c186 ((nI_le0 (by omega)).mpr h); omega
            · have c157 : tx a = 47 := (nI_eq (by omega) (by omega)).mp c157; omega
        · have c115 : tx a = 40 := (nI_eq (by omega) (by omega)).mp c115; omega
      · have c79 : tx a = 33 := (nI_eq (by omega) (by omega)).mp c79
        refine EW.aload_n dX9_read_82 rfl rfl ?_
        refine EM.get f_X9_99 dX9_read_83 rfl ?_
        refine EW.aload_n dX9_read_86 rfl rfl ?_
        refine EM.get f_X9_131 dX9_read_87 rfl ?_
        refine EW.top hk ?_
        refine EM.caldN k dX9_read_90 rfl rfl (by simp only [mLen]; omega) ?_
        refine EW.top hsg ?_
        refine EW.if_ne 112 dX9_read_91 (by decide) (fun c91 => ?_) (fun c91 => ?_)
        · have c91 : ¬ sg = 0 := fun h => c91 ((nI_eq0 (by omega)).mpr h)
          refine EW.iload_n dX9_read_112 rfl rfl ?_
          refine EW.bp 40 dX9_read_113 ?_
          refine EW.icmp_ne 150 dX9_read_115 (by decide) (fun c115 => ?_) (fun c115 => ?_)
          · have c115 : ¬ (tx a = 40) := fun h => c115 ((nI_eq (by omega) (by omega)).mpr h)
            refine EW.iload_n dX9_read_150 rfl rfl ?_
            refine EW.if_ne 172 dX9_read_151 (by decide) (fun c151 => ?_) (fun c151 => ?_)
            · have c151 : ¬ due = 0 := fun h => c151 ((nI_eq0 (by omega)).mpr h)
              refine EW.iload_n dX9_read_172 rfl rfl ?_
              refine EW.if_ne 218 dX9_read_173 (by decide) (fun c173 => ?_) (fun c173 => ?_)
              · have c173 : ¬ due = 0 := fun h => c173 ((nI_eq0 (by omega)).mpr h)
                exact EW.loc (lv' := [(0, .ref (ad 43)), (1, .int (nI (a))), (2, .int (nI due))]) ⟨rfl, rfl, rfl, trivial⟩ K
              · have c173 : due = 0 := (nI_eq0 (by omega)).mp c173
                refine EW.iload_n dX9_read_176 rfl rfl ?_
                refine EW.bp 41 dX9_read_177 ?_
                refine EW.icmp_ne 218 dX9_read_179 (by decide) (fun c179 => ?_) (fun c179 => ?_)
                · have c179 : ¬ (tx a = 41) := fun h => c179 ((nI_eq (by omega) (by omega)).mpr h)
                  exact EW.loc (lv' := [(0, .ref (ad 43)), (1, .int (nI (a))), (2, .int (nI due))]) ⟨rfl, rfl, rfl, trivial⟩ K
                · have c179 : tx a = 41 := (nI_eq (by omega) (by omega)).mp c179
                  refine EW.aload_n dX9_read_182 rfl rfl ?_
                  refine EM.get f_X9_131 dX9_read_183 rfl ?_
                  refine EW.top hk ?_
                  refine EW.if_le 218 dX9_read_186 (by decide) (fun c186 => ?_) (fun c186 => ?_)
                  · have c186 : k = 0 := (nI_le0 (by omega)).mp c186
                    exact EW.loc (lv' := [(0, .ref (ad 43)), (1, .int (nI (a))), (2, .int (nI due))]) ⟨rfl, rfl, rfl, trivial⟩ K
                  · have c186 : ¬ k = 0 := fun h => c186 ((nI_le0 (by omega)).mpr h); omega
            · have c151 : due = 0 := (nI_eq0 (by omega)).mp c151
              refine EW.iload_n dX9_read_154 rfl rfl ?_
              refine EW.bp 47 dX9_read_155 ?_
              refine EW.icmp_ne 172 dX9_read_157 (by decide) (fun c157 => ?_) (fun c157 => ?_)
              · have c157 : ¬ (tx a = 47) := fun h => c157 ((nI_eq (by omega) (by omega)).mpr h)
                refine EW.iload_n dX9_read_172 rfl rfl ?_
                refine EW.if_ne 218 dX9_read_173 (by decide) (fun c173 => ?_) (fun c173 => ?_)
                · have c173 : ¬ due = 0 := fun h => c173 ((nI_eq0 (by omega)).mpr h)
                  exact EW.loc (lv' := [(0, .ref (ad 43)), (1, .int (nI (a))), (2, .int (nI due))]) ⟨rfl, rfl, rfl, trivial⟩ K
                · have c173 : due = 0 := (nI_eq0 (by omega)).mp c173
                  refine EW.iload_n dX9_read_176 rfl rfl ?_
                  refine EW.bp 41 dX9_read_177 ?_
                  refine EW.icmp_ne 218 dX9_read_179 (by decide) (fun c179 => ?_) (fun c179 => ?_)
                  · have c179 : ¬ (tx a = 41) := fun h => c179 ((nI_eq (by omega) (by omega)).mpr h)
                    exact EW.loc (lv' := [(0, .ref (ad 43)), (1, .int (nI (a))), (2, .int (nI due))]) ⟨rfl, rfl, rfl, trivial⟩ K
                  · have c179 : tx a = 41 := (nI_eq (by omega) (by omega)).mp c179
                    refine EW.aload_n dX9_read_182 rfl rfl ?_
                    refine EM.get f_X9_131 dX9_read_183 rfl ?_
                    refine EW.top hk ?_
                    refine EW.if_le 218 dX9_read_186 (by decide) (fun c186 => ?_) (fun c186 => ?_)
                    · have c186 : k = 0 := (nI_le0 (by omega)).mp c186
                      exact EW.loc (lv' := [(0, .ref (ad 43)), (1, .int (nI (a))), (2, .int (nI due))]) ⟨rfl, rfl, rfl, trivial⟩ K
                    · have c186 : ¬ k = 0 := fun h => c186 ((nI_le0 (by omega)).mpr h); omega
              · have c157 : tx a = 47 := (nI_eq (by omega) (by omega)).mp c157; omega
          · have c115 : tx a = 40 := (nI_eq (by omega) (by omega)).mp c115; omega
        · have c91 : sg = 0 := (nI_eq0 (by omega)).mp c91; omega
set_option maxHeartbeats 4000000 in
theorem R_endF (hl : l.stackTraces = false) {dd : Nat} (hdd : 6 ≤ dd) {s : MSt} {Q : Oc → MSt → Prop} {a due n k : Nat} {tx : Nat → Nat} (hT : TXM s n tx) (hk : s.1 35 = nI k) (hk8 : k < 8) (hdue : due ≤ 1) (han : ¬ a < n) (ha9 : a < 1000) (h : due = 1 ∨ 0 < k) (K : Q (.inl (some (.int (nI n)))) s) : HD cy ad hp0 l D base dd s a due Q := by
  have ht0 := hT.2.2.2.1 a
  have hn9 := hT.2.1
  have hn := hT.1
  refine EW.iload_n dX9_read_56 rfl rfl ?_
  refine EW.aload_n dX9_read_57 rfl rfl ?_
  refine EM.get f_X9_120 dX9_read_58 rfl ?_
  refine EW.top hn ?_
  refine EW.icmp_ge 243 dX9_read_61 (by decide) (fun c61 => ?_) (fun c61 => ?_)
  · have c61 : n ≤ a := (nI_leI (by omega) (by omega)).mp c61
    refine EW.iload_n dX9_read_243 rfl rfl ?_
    refine EW.if_ne 254 dX9_read_244 (by decide) (fun c244 => ?_) (fun c244 => ?_)
    · have c244 : ¬ due = 0 := fun h => c244 ((nI_eq0 (by omega)).mpr h)
      refine EW.aload_n dX9_read_254 rfl rfl ?_
      refine EM.get f_X9_120 dX9_read_255 rfl ?_
      refine EW.top hn ?_
      refine EW.iret rfl dX9_read_258 ?_
      exact K
    · have c244 : due = 0 := (nI_eq0 (by omega)).mp c244
      refine EW.aload_n dX9_read_247 rfl rfl ?_
      refine EM.get f_X9_131 dX9_read_248 rfl ?_
      refine EW.top hk ?_
      refine EW.if_le 259 dX9_read_251 (by decide) (fun c251 => ?_) (fun c251 => ?_)
      · have c251 : k = 0 := (nI_le0 (by omega)).mp c251; omega
      · have c251 : ¬ k = 0 := fun h => c251 ((nI_le0 (by omega)).mpr h)
        refine EW.aload_n dX9_read_254 rfl rfl ?_
        refine EM.get f_X9_120 dX9_read_255 rfl ?_
        refine EW.top hn ?_
        refine EW.iret rfl dX9_read_258 ?_
        exact K
  · have c61 : ¬ (n ≤ a) := fun h => c61 ((nI_leI (by omega) (by omega)).mpr h); omega
set_option maxHeartbeats 4000000 in
theorem R_endS (hl : l.stackTraces = false) {dd : Nat} (hdd : 6 ≤ dd) {s : MSt} {Q : Oc → MSt → Prop} {a due n k : Nat} {tx : Nat → Nat} (hT : TXM s n tx) (hk : s.1 35 = nI k) (hk8 : k < 8) (hdue : due ≤ 1) (han : ¬ a < n) (ha9 : a < 1000) (h0 : due = 0) (hk0 : k = 0) {u : Nat} {P : MSt → Prop} (hCh : MtW (IM cy ad hp0) l D cy base mX9_choiceDone (0 + 2) 0 0 [.ref (ad 43)] s (fun o s2 => o = .inl (some (.int (nI u))) ∧ P s2)) (K : ∀ s2, P s2 → Q (.inl (some (.int (-1)))) s2) : HD cy ad hp0 l D base dd s a due Q := by
  have ht0 := hT.2.2.2.1 a
  have hn9 := hT.2.1
  have hn := hT.1
  refine EW.iload_n dX9_read_56 rfl rfl ?_
  refine EW.aload_n dX9_read_57 rfl rfl ?_
  refine EM.get f_X9_120 dX9_read_58 rfl ?_
  refine EW.top hn ?_
  refine EW.icmp_ge 243 dX9_read_61 (by decide) (fun c61 => ?_) (fun c61 => ?_)
  · have c61 : n ≤ a := (nI_leI (by omega) (by omega)).mp c61
    refine EW.iload_n dX9_read_243 rfl rfl ?_
    refine EW.if_ne 254 dX9_read_244 (by decide) (fun c244 => ?_) (fun c244 => ?_)
    · have c244 : ¬ due = 0 := fun h => c244 ((nI_eq0 (by omega)).mpr h); omega
    · have c244 : due = 0 := (nI_eq0 (by omega)).mp c244
      refine EW.aload_n dX9_read_247 rfl rfl ?_
      refine EM.get f_X9_131 dX9_read_248 rfl ?_
      refine EW.top hk ?_
      refine EW.if_le 259 dX9_read_251 (by decide) (fun c251 => ?_) (fun c251 => ?_)
      · have c251 : k = 0 := (nI_le0 (by omega)).mp c251
        refine EW.aload_n dX9_read_259 rfl rfl ?_
        refine EM.callV (hCh) mfX9_choiceDone l_X9_150 mvX9_choiceDone (by omega) dX9_read_260 rfl rfl rfl rfl (Nat.le_of_ble_eq_true rfl) (fun _ _ q => nomatch q.1) (fun v260 s260 q260 => ?_)
        obtain ⟨e260, hP⟩ := q260; cases e260
        refine EW.istore_n dX9_read_263 rfl (by decide) ?_
        refine EW.iconst (v := -1) dX9_read_264 (by decide +kernel) ?_
        refine EW.iret rfl dX9_read_265 ?_
        exact K _ hP
      · have c251 : ¬ k = 0 := fun h => c251 ((nI_le0 (by omega)).mpr h); omega
  · have c61 : ¬ (n ≤ a) := fun h => c61 ((nI_leI (by omega) (by omega)).mpr h); omega
set_option maxHeartbeats 4000000 in
theorem R_beg0 (hl : l.stackTraces = false) {dd : Nat} (hdd : 6 ≤ dd) {s : MSt} {Q : Oc → MSt → Prop} {n : Nat} {tx : Nat → Nat} (hT0 : TXM (aU 42 0 (vp_nar .char (nI 0)) (aU 41 0 (nI 0) (aU 40 0 (nI 0) (fU 38 (nI 0) (fU 36 (nI 0) (fU 35 (nI 0) (aU 10 6 (nI 0) s))))))) n tx) (hR : ¬ isR (tx 0)) (K : Q (.inl (some (.int (nI 0)))) (aU 42 0 (vp_nar .char (nI 0)) (aU 41 0 (nI 0) (aU 40 0 (nI 0) (fU 38 (nI 0) (fU 36 (nI 0) (fU 35 (nI 0) (aU 10 6 (nI 0) s)))))))) : MtW (IM cy ad hp0) l D cy base mX9_read dd 0 0 [.ref (ad 43)] s Q := by
  have ht0 := hT0.2.2.2.1 0
  have ht1 := hT0.2.2.2.1 1
  refine MtW.of hl mfX9_read rfl (Nat.le_of_ble_eq_true rfl) ?_
  refine EW.aload_n dX9_read_0 rfl rfl ?_
  refine EM.get f_X9_33 dX9_read_1 rfl ?_
  refine EW.bp 6 dX9_read_4 ?_
  refine EW.ic 0 dX9_read_6 ?_
  refine EM.iastN (6) dX9_read_7 rfl rfl (by simp only [mLen]; omega) ?_
  refine EW.aload_n dX9_read_8 rfl rfl ?_
  refine EW.ic 0 dX9_read_9 ?_
  refine EM.put f_X9_131 dX9_read_10 rfl ?_
  refine EW.aload_n dX9_read_13 rfl rfl ?_
  refine EW.ic 0 dX9_read_14 ?_
  refine EM.put f_X9_134 dX9_read_15 rfl ?_
  refine EW.aload_n dX9_read_18 rfl rfl ?_
  refine EW.ic 0 dX9_read_19 ?_
  refine EM.put f_X9_137 dX9_read_20 rfl ?_
  refine EW.aload_n dX9_read_23 rfl rfl ?_
  refine EM.callV (M_enter hl 0 (fU 38 (nI 0) (fU 36 (nI 0) (fU 35 (nI 0) (aU 10 6 (nI 0) s)))) 0 rfl (by decide)) mfX9_enter l_X9_147 mvX9_enter (by omega) dX9_read_24 rfl rfl rfl rfl (Nat.le_of_ble_eq_true rfl) (fun _ _ q => nomatch q.1) (fun v24 s24 q24 => ?_)
  obtain ⟨e24, h24⟩ := q24; cases e24; replace h24 := h24.symm; subst h24
  refine EW.eqs (s' := (aU 42 0 (vp_nar .char (nI 0)) (aU 41 0 (nI 0) (aU 40 0 (nI 0) (fU 38 (nI 0) (fU 36 (nI 0) (fU 35 (nI 0) (aU 10 6 (nI 0) s)))))))) rfl ?_
  generalize hs0 : (aU 42 0 (vp_nar .char (nI 0)) (aU 41 0 (nI 0) (aU 40 0 (nI 0) (fU 38 (nI 0) (fU 36 (nI 0) (fU 35 (nI 0) (aU 10 6 (nI 0) s))))))) = s0 at *
  refine EW.aload_n dX9_read_27 rfl rfl ?_
  refine EW.ic 0 dX9_read_28 ?_
  refine EM.callV (M_lookT hl 0 s0 0 n tx hT0 (by omega)) mfX9_look l_X9_123 mvX9_look (by omega) dX9_read_29 rfl rfl rfl rfl (Nat.le_of_ble_eq_true rfl) (fun _ _ q => nomatch q.1) (fun v29 s29 q29 => ?_)
  obtain ⟨e29, h29⟩ := q29; cases e29; replace h29 := h29.symm; subst h29
  refine EW.callS (bc := 0) (bs := 0) (M_isRule hl _ 0 s0 _) mfX9_isRule rfl l_X9_117 mvX9_isRule (by omega) dX9_read_32 rfl rfl (Nat.le_of_ble_eq_true rfl) (fun v32 s32 q32 => ?_) (fun _ _ q => nomatch q.1)
  obtain ⟨e32, h32⟩ := q32; cases e32; replace h32 := h32.symm; subst h32
  refine EW.top (y := nI 0) ((if_neg (ir0 (by omega) hR)).trans (by decide +kernel)) ?_
  refine EW.if_ne 40 dX9_read_35 (by decide) (fun c35 => ?_) (fun c35 => ?_)
  · exact absurd c35 (by decide +kernel)
  · refine EW.ic 0 dX9_read_38 ?_
    refine EW.iret rfl dX9_read_39 ?_
    exact K
set_option maxHeartbeats 4000000 in
theorem R_beg1 (hl : l.stackTraces = false) {dd : Nat} (hdd : 6 ≤ dd) {s : MSt} {Q : Oc → MSt → Prop} {n : Nat} {tx : Nat → Nat} (hT0 : TXM (aU 42 0 (vp_nar .char (nI 0)) (aU 41 0 (nI 0) (aU 40 0 (nI 0) (fU 38 (nI 0) (fU 36 (nI 0) (fU 35 (nI 0) (aU 10 6 (nI 0) s))))))) n tx) (hR : isR (tx 0)) (h1 : ¬ tx 1 = 61) (K : Q (.inl (some (.int (nI 1)))) (aU 42 0 (vp_nar .char (nI 0)) (aU 41 0 (nI 0) (aU 40 0 (nI 0) (fU 38 (nI 0) (fU 36 (nI 0) (fU 35 (nI 0) (aU 10 6 (nI 0) s)))))))) : MtW (IM cy ad hp0) l D cy base mX9_read dd 0 0 [.ref (ad 43)] s Q := by
  have ht0 := hT0.2.2.2.1 0
  have ht1 := hT0.2.2.2.1 1
  refine MtW.of hl mfX9_read rfl (Nat.le_of_ble_eq_true rfl) ?_
  refine EW.aload_n dX9_read_0 rfl rfl ?_
  refine EM.get f_X9_33 dX9_read_1 rfl ?_
  refine EW.bp 6 dX9_read_4 ?_
  refine EW.ic 0 dX9_read_6 ?_
  refine EM.iastN (6) dX9_read_7 rfl rfl (by simp only [mLen]; omega) ?_
  refine EW.aload_n dX9_read_8 rfl rfl ?_
  refine EW.ic 0 dX9_read_9 ?_
  refine EM.put f_X9_131 dX9_read_10 rfl ?_
  refine EW.aload_n dX9_read_13 rfl rfl ?_
  refine EW.ic 0 dX9_read_14 ?_
  refine EM.put f_X9_134 dX9_read_15 rfl ?_
  refine EW.aload_n dX9_read_18 rfl rfl ?_
  refine EW.ic 0 dX9_read_19 ?_
  refine EM.put f_X9_137 dX9_read_20 rfl ?_
  refine EW.aload_n dX9_read_23 rfl rfl ?_
  refine EM.callV (M_enter hl 0 (fU 38 (nI 0) (fU 36 (nI 0) (fU 35 (nI 0) (aU 10 6 (nI 0) s)))) 0 rfl (by decide)) mfX9_enter l_X9_147 mvX9_enter (by omega) dX9_read_24 rfl rfl rfl rfl (Nat.le_of_ble_eq_true rfl) (fun _ _ q => nomatch q.1) (fun v24 s24 q24 => ?_)
  obtain ⟨e24, h24⟩ := q24; cases e24; replace h24 := h24.symm; subst h24
  refine EW.eqs (s' := (aU 42 0 (vp_nar .char (nI 0)) (aU 41 0 (nI 0) (aU 40 0 (nI 0) (fU 38 (nI 0) (fU 36 (nI 0) (fU 35 (nI 0) (aU 10 6 (nI 0) s)))))))) rfl ?_
  generalize hs0 : (aU 42 0 (vp_nar .char (nI 0)) (aU 41 0 (nI 0) (aU 40 0 (nI 0) (fU 38 (nI 0) (fU 36 (nI 0) (fU 35 (nI 0) (aU 10 6 (nI 0) s))))))) = s0 at *
  refine EW.aload_n dX9_read_27 rfl rfl ?_
  refine EW.ic 0 dX9_read_28 ?_
  refine EM.callV (M_lookT hl 0 s0 0 n tx hT0 (by omega)) mfX9_look l_X9_123 mvX9_look (by omega) dX9_read_29 rfl rfl rfl rfl (Nat.le_of_ble_eq_true rfl) (fun _ _ q => nomatch q.1) (fun v29 s29 q29 => ?_)
  obtain ⟨e29, h29⟩ := q29; cases e29; replace h29 := h29.symm; subst h29
  refine EW.callS (bc := 0) (bs := 0) (M_isRule hl _ 0 s0 _) mfX9_isRule rfl l_X9_117 mvX9_isRule (by omega) dX9_read_32 rfl rfl (Nat.le_of_ble_eq_true rfl) (fun v32 s32 q32 => ?_) (fun _ _ q => nomatch q.1)
  obtain ⟨e32, h32⟩ := q32; cases e32; replace h32 := h32.symm; subst h32
  refine EW.top (y := nI 1) ((if_pos (ir1 hR)).trans (by decide +kernel)) ?_
  refine EW.if_ne 40 dX9_read_35 (by decide) (fun c35 => ?_) (fun c35 => ?_)
  · refine EW.aload_n dX9_read_40 rfl rfl ?_
    refine EW.ic 1 dX9_read_41 ?_
    refine EM.callV (M_lookT hl 0 s0 1 n tx hT0 (by omega)) mfX9_look l_X9_123 mvX9_look (by omega) dX9_read_42 rfl rfl rfl rfl (Nat.le_of_ble_eq_true rfl) (fun _ _ q => nomatch q.1) (fun v42 s42 q42 => ?_)
    obtain ⟨e42, h42⟩ := q42; cases e42; replace h42 := h42.symm; subst h42
    refine EW.bp 61 dX9_read_45 ?_
    refine EW.icmp_eq 52 dX9_read_47 (by decide) (fun c47 => ?_) (fun c47 => ?_)
    · have c47 : tx 1 = 61 := (nI_eq (by omega) (by omega)).mp c47; omega
    · have c47 : ¬ (tx 1 = 61) := fun h => c47 ((nI_eq (by omega) (by omega)).mpr h)
      refine EW.ic 1 dX9_read_50 ?_
      refine EW.iret rfl dX9_read_51 ?_
      exact K
  · exact absurd c35 (by decide +kernel)
set_option maxHeartbeats 4000000 in
theorem R_beg2 (hl : l.stackTraces = false) {dd : Nat} (hdd : 6 ≤ dd) {s : MSt} {Q : Oc → MSt → Prop} {n : Nat} {tx : Nat → Nat} (hT0 : TXM (aU 42 0 (vp_nar .char (nI 0)) (aU 41 0 (nI 0) (aU 40 0 (nI 0) (fU 38 (nI 0) (fU 36 (nI 0) (fU 35 (nI 0) (aU 10 6 (nI 0) s))))))) n tx) (hR : isR (tx 0)) (h1 : tx 1 = 61) (K : HD cy ad hp0 l D base dd (aU 42 0 (vp_nar .char (nI 0)) (aU 41 0 (nI 0) (aU 40 0 (nI 0) (fU 38 (nI 0) (fU 36 (nI 0) (fU 35 (nI 0) (aU 10 6 (nI 0) s))))))) 2 1 Q) : MtW (IM cy ad hp0) l D cy base mX9_read dd 0 0 [.ref (ad 43)] s Q := by
  have ht0 := hT0.2.2.2.1 0
  have ht1 := hT0.2.2.2.1 1
  refine MtW.of hl mfX9_read rfl (Nat.le_of_ble_eq_true rfl) ?_
  refine EW.aload_n dX9_read_0 rfl rfl ?_
  refine EM.get f_X9_33 dX9_read_1 rfl ?_
  refine EW.bp 6 dX9_read_4 ?_
  refine EW.ic 0 dX9_read_6 ?_
  refine EM.iastN (6) dX9_read_7 rfl rfl (by simp only [mLen]; omega) ?_
  refine EW.aload_n dX9_read_8 rfl rfl ?_
  refine EW.ic 0 dX9_read_9 ?_
  refine EM.put f_X9_131 dX9_read_10 rfl ?_
  refine EW.aload_n dX9_read_13 rfl rfl ?_
  refine EW.ic 0 dX9_read_14 ?_
  refine EM.put f_X9_134 dX9_read_15 rfl ?_
  refine EW.aload_n dX9_read_18 rfl rfl ?_
  refine EW.ic 0 dX9_read_19 ?_
  refine EM.put f_X9_137 dX9_read_20 rfl ?_
  refine EW.aload_n dX9_read_23 rfl rfl ?_
  refine EM.callV (M_enter hl 0 (fU 38 (nI 0) (fU 36 (nI 0) (fU 35 (nI 0) (aU 10 6 (nI 0) s)))) 0 rfl (by decide)) mfX9_enter l_X9_147 mvX9_enter (by omega) dX9_read_24 rfl rfl rfl rfl (Nat.le_of_ble_eq_true rfl) (fun _ _ q => nomatch q.1) (fun v24 s24 q24 => ?_)
  obtain ⟨e24, h24⟩ := q24; cases e24; replace h24 := h24.symm; subst h24
  refine EW.eqs (s' := (aU 42 0 (vp_nar .char (nI 0)) (aU 41 0 (nI 0) (aU 40 0 (nI 0) (fU 38 (nI 0) (fU 36 (nI 0) (fU 35 (nI 0) (aU 10 6 (nI 0) s)))))))) rfl ?_
  generalize hs0 : (aU 42 0 (vp_nar .char (nI 0)) (aU 41 0 (nI 0) (aU 40 0 (nI 0) (fU 38 (nI 0) (fU 36 (nI 0) (fU 35 (nI 0) (aU 10 6 (nI 0) s))))))) = s0 at *
  refine EW.aload_n dX9_read_27 rfl rfl ?_
  refine EW.ic 0 dX9_read_28 ?_
  refine EM.callV (M_lookT hl 0 s0 0 n tx hT0 (by omega)) mfX9_look l_X9_123 mvX9_look (by omega) dX9_read_29 rfl rfl rfl rfl (Nat.le_of_ble_eq_true rfl) (fun _ _ q => nomatch q.1) (fun v29 s29 q29 => ?_)
  obtain ⟨e29, h29⟩ := q29; cases e29; replace h29 := h29.symm; subst h29
  refine EW.callS (bc := 0) (bs := 0) (M_isRule hl _ 0 s0 _) mfX9_isRule rfl l_X9_117 mvX9_isRule (by omega) dX9_read_32 rfl rfl (Nat.le_of_ble_eq_true rfl) (fun v32 s32 q32 => ?_) (fun _ _ q => nomatch q.1)
  obtain ⟨e32, h32⟩ := q32; cases e32; replace h32 := h32.symm; subst h32
  refine EW.top (y := nI 1) ((if_pos (ir1 hR)).trans (by decide +kernel)) ?_
  refine EW.if_ne 40 dX9_read_35 (by decide) (fun c35 => ?_) (fun c35 => ?_)
  · refine EW.aload_n dX9_read_40 rfl rfl ?_
    refine EW.ic 1 dX9_read_41 ?_
    refine EM.callV (M_lookT hl 0 s0 1 n tx hT0 (by omega)) mfX9_look l_X9_123 mvX9_look (by omega) dX9_read_42 rfl rfl rfl rfl (Nat.le_of_ble_eq_true rfl) (fun _ _ q => nomatch q.1) (fun v42 s42 q42 => ?_)
    obtain ⟨e42, h42⟩ := q42; cases e42; replace h42 := h42.symm; subst h42
    refine EW.bp 61 dX9_read_45 ?_
    refine EW.icmp_eq 52 dX9_read_47 (by decide) (fun c47 => ?_) (fun c47 => ?_)
    · have c47 : tx 1 = 61 := (nI_eq (by omega) (by omega)).mp c47
      refine EW.ic 2 dX9_read_52 ?_
      refine EW.istore_n dX9_read_53 rfl (by decide) ?_
      refine EW.ic 1 dX9_read_54 ?_
      refine EW.istore_n dX9_read_55 rfl (by decide) ?_
      exact EW.loc (lv' := [(0, .ref (ad 43)), (1, .int (nI 2)), (2, .int (nI 1))]) ⟨rfl, rfl, rfl, trivial⟩ K
    · have c47 : ¬ (tx 1 = 61) := fun h => c47 ((nI_eq (by omega) (by omega)).mpr h); omega
  · exact absurd c35 (by decide +kernel)
end M21
