section M17
variable {cy : Nat → ClassId} {ad : Nat → Nat} {hp0 : Hp} {l : Launch} {D : va_G} {base : Nat}
def TXM (s : MSt) (n : Nat) (tx : Nat → Nat) : Prop := s.1 1 = nI n ∧ n ≤ 24 ∧ (∀ j, j < n → s.2 2 j = nI (tx j)) ∧ (∀ j, tx j < 128) ∧ ∀ j, n ≤ j → tx j = 0
theorem M_lookT (hl : l.stackTraces = false) (d : Nat) (s : MSt) (k n : Nat) (tx : Nat → Nat) (hT : TXM s n tx) (hk : k < 1000) : MtW (IM cy ad hp0) l D cy base mX9_look d 0 0 [.ref (ad 43), .int (nI k)] s (fun o s2 => o = .inl (some (.int (nI (tx k)))) ∧ s2 = s) :=
  M_look hl d s k n (tx k) hT.1 hT.2.1 hk (fun h => ⟨hT.2.2.1 k h, by have := hT.2.2.2.1 k; omega⟩) (fun h => hT.2.2.2.2 k (by omega))
theorem M_madeS (hl : l.stackTraces = false) (d : Nat) (s : MSt) (z k : Nat) (a b : Int32) (hz : s.2 10 6 = nI z) (hz9 : z < 64) : MtW (IM cy ad hp0) l D cy base mX9_made d 0 0 [.ref (ad 43), .int (nI k), .int a, .int b] s (fun o s2 => o = .inl (some (.int (nI z))) ∧ s2 = mdS z k a b s) := M_made hl d s z (nI k) a b hz hz9
theorem tx_c {tx : Nat → Nat} {a c : Nat} (h : tx a < 128) (hc : c < 128) : nI (tx a) = nI c ↔ tx a = c := nI_eq (by omega) (by omega)
set_option maxHeartbeats 4000000 in
theorem M_part00 (hl : l.stackTraces = false) (s : MSt) (u a z op p sg n : Nat) (tx : Nat → Nat) (hT : TXM s n tx) (ha : a < 900) (hz : s.2 10 6 = nI z) (hz9 : z < 60) (ho : s.1 35 = nI op) (ho8 : op < 8) (hp : s.1 36 = nI p) (hp9 : p < 32) (hsg : s.2 42 op = nI sg) (hu : u < 64) (h42 : ¬ tx a = 42) (h43 : ¬ tx a = 43) (h63 : ¬ tx a = 63) (h38 : ¬ sg = 38) (h33 : ¬ sg = 33) (hsg9 : sg < 128) : MtW (IM cy ad hp0) l D cy base mX9_partDone (0 + 1) 0 0 [.ref (ad 43), .int (nI u), .int (nI a)] s (fun o s2 => o = .inl (some (.int (nI (a)))) ∧ s2 = fU 36 (nI (p + 1)) (aU 37 p (nI u) (aU 42 op (vp_nar .char (nI 0)) s))) := by
  refine MtW.of hl mfX9_partDone rfl (Nat.le_of_ble_eq_true rfl) ?_
  have hta := hT.2.2.2.1 a
  refine EW.aload_n dX9_partDone_0 rfl rfl ?_
  refine EW.iload_n dX9_partDone_1 rfl rfl ?_
  refine EM.callV (M_lookT hl 0 s a n tx hT (by omega)) mfX9_look l_X9_123 mvX9_look (by omega) dX9_partDone_2 rfl rfl rfl rfl (Nat.le_of_ble_eq_true rfl) (fun _ _ q => nomatch q.1) (fun v2 s2 q2 => ?_)
  obtain ⟨e2, h2⟩ := q2; cases e2; replace h2 := h2.symm; subst h2
  refine EW.istore_n dX9_partDone_5 rfl (by decide) ?_
  refine EW.iload_n dX9_partDone_6 rfl rfl ?_
  refine EW.bp 42 dX9_partDone_7 ?_
  refine EW.icmp_ne 22 dX9_partDone_9 (by decide) (fun c9 => ?_) (fun c9 => ?_)
  · have c9 : ¬ (tx a = 42) := fun h => c9 ((nI_eq (by omega) (by omega)).mpr h)
    refine EW.iload_n dX9_partDone_22 rfl rfl ?_
    refine EW.bp 43 dX9_partDone_23 ?_
    refine EW.icmp_ne 38 dX9_partDone_25 (by decide) (fun c25 => ?_) (fun c25 => ?_)
    · have c25 : ¬ (tx a = 43) := fun h => c25 ((nI_eq (by omega) (by omega)).mpr h)
      refine EW.iload_n dX9_partDone_38 rfl rfl ?_
      refine EW.bp 63 dX9_partDone_39 ?_
      refine EW.icmp_ne 55 dX9_partDone_41 (by decide) (fun c41 => ?_) (fun c41 => ?_)
      · have c41 : ¬ (tx a = 63) := fun h => c41 ((nI_eq (by omega) (by omega)).mpr h)
        refine EW.iload_n dX9_partDone_55 rfl rfl ?_
        refine EW.istore dX9_partDone_56 (by decide) ?_
        refine EW.aload_n dX9_partDone_58 rfl rfl ?_
        refine EM.get f_X9_99 dX9_partDone_59 rfl ?_
        refine EW.aload_n dX9_partDone_62 rfl rfl ?_
        refine EM.get f_X9_131 dX9_partDone_63 rfl ?_
        refine EW.top ho ?_
        refine EM.caldN op dX9_partDone_66 rfl rfl (by simp only [mLen]; omega) ?_
        refine EW.top hsg ?_
        refine EW.bp 38 dX9_partDone_67 ?_
        refine EW.icmp_ne 84 dX9_partDone_69 (by decide) (fun c69 => ?_) (fun c69 => ?_)
        · have c69 : ¬ (sg = 38) := fun h => c69 ((nI_eq (by omega) (by omega)).mpr h)
          refine EW.aload_n dX9_partDone_84 rfl rfl ?_
          refine EM.get f_X9_99 dX9_partDone_85 rfl ?_
          refine EW.aload_n dX9_partDone_88 rfl rfl ?_
          refine EM.get f_X9_131 dX9_partDone_89 rfl ?_
          refine EW.top ho ?_
          refine EM.caldN op dX9_partDone_92 rfl rfl (by simp only [mLen]; omega) ?_
          refine EW.top hsg ?_
          refine EW.bp 33 dX9_partDone_93 ?_
          refine EW.icmp_ne 110 dX9_partDone_95 (by decide) (fun c95 => ?_) (fun c95 => ?_)
          · have c95 : ¬ (sg = 33) := fun h => c95 ((nI_eq (by omega) (by omega)).mpr h)
            refine EW.iload dX9_partDone_110 rfl ?_
            refine EW.istore dX9_partDone_112 (by decide) ?_
            refine EW.aload_n dX9_partDone_114 rfl rfl ?_
            refine EM.get f_X9_99 dX9_partDone_115 rfl ?_
            refine EW.aload_n dX9_partDone_118 rfl rfl ?_
            refine EM.get f_X9_131 dX9_partDone_119 rfl ?_
            refine EW.top ho ?_
            refine EW.ic 0 dX9_partDone_122 ?_
            refine EM.castN (op) dX9_partDone_123 rfl rfl (by simp only [mLen]; omega) ?_
            refine EW.aload_n dX9_partDone_124 rfl rfl ?_
            refine EM.get f_X9_87 dX9_partDone_125 rfl ?_
            refine EW.aload_n dX9_partDone_128 rfl rfl ?_
            refine EM.get f_X9_134 dX9_partDone_129 rfl ?_
            refine EW.top hp ?_
            refine EW.iload dX9_partDone_132 rfl ?_
            refine EM.iastN (p) dX9_partDone_134 rfl rfl (by simp only [mLen]; omega) ?_
            refine EW.aload_n dX9_partDone_135 rfl rfl ?_
            refine EW.dup dX9_partDone_136 rfl ?_
            refine EM.get f_X9_134 dX9_partDone_137 rfl ?_
            refine EW.top hp ?_
            refine EW.ic 1 dX9_partDone_140 ?_
            refine EW.iadd dX9_partDone_141 ?_
            refine EW.top (nI_add _ _) ?_
            refine EM.put f_X9_134 dX9_partDone_142 rfl ?_
            refine EW.iload_n dX9_partDone_145 rfl rfl ?_
            refine EW.bp 42 dX9_partDone_146 ?_
            refine EW.icmp_eq 163 dX9_partDone_148 (by decide) (fun c148 => ?_) (fun c148 => ?_)
            · have c148 : tx a = 42 := (nI_eq (by omega) (by omega)).mp c148; omega
            · have c148 : ¬ (tx a = 42) := fun h => c148 ((nI_eq (by omega) (by omega)).mpr h)
              refine EW.iload_n dX9_partDone_151 rfl rfl ?_
              refine EW.bp 43 dX9_partDone_152 ?_
              refine EW.icmp_eq 163 dX9_partDone_154 (by decide) (fun c154 => ?_) (fun c154 => ?_)
              · have c154 : tx a = 43 := (nI_eq (by omega) (by omega)).mp c154; omega
              · have c154 : ¬ (tx a = 43) := fun h => c154 ((nI_eq (by omega) (by omega)).mpr h)
                refine EW.iload_n dX9_partDone_157 rfl rfl ?_
                refine EW.bp 63 dX9_partDone_158 ?_
                refine EW.icmp_ne 169 dX9_partDone_160 (by decide) (fun c160 => ?_) (fun c160 => ?_)
                · have c160 : ¬ (tx a = 63) := fun h => c160 ((nI_eq (by omega) (by omega)).mpr h)
                  refine EW.iload_n dX9_partDone_169 rfl rfl ?_
                  refine EW.iret rfl dX9_partDone_170 ?_
                  exact ⟨rfl, rfl⟩
                · have c160 : tx a = 63 := (nI_eq (by omega) (by omega)).mp c160; omega
          · have c95 : sg = 33 := (nI_eq (by omega) (by omega)).mp c95; omega
        · have c69 : sg = 38 := (nI_eq (by omega) (by omega)).mp c69; omega
      · have c41 : tx a = 63 := (nI_eq (by omega) (by omega)).mp c41; omega
    · have c25 : tx a = 43 := (nI_eq (by omega) (by omega)).mp c25; omega
  · have c9 : tx a = 42 := (nI_eq (by omega) (by omega)).mp c9; omega
set_option maxHeartbeats 4000000 in
theorem M_part07 (hl : l.stackTraces = false) (s : MSt) (u a z op p sg n : Nat) (tx : Nat → Nat) (hT : TXM s n tx) (ha : a < 900) (hz : s.2 10 6 = nI z) (hz9 : z < 60) (ho : s.1 35 = nI op) (ho8 : op < 8) (hp : s.1 36 = nI p) (hp9 : p < 32) (hsg : s.2 42 op = nI sg) (hu : u < 64) (h42 : ¬ tx a = 42) (h43 : ¬ tx a = 43) (h63 : ¬ tx a = 63) (hs : sg = 38) : MtW (IM cy ad hp0) l D cy base mX9_partDone (0 + 1) 0 0 [.ref (ad 43), .int (nI u), .int (nI a)] s (fun o s2 => o = .inl (some (.int (nI (a)))) ∧ s2 = fU 36 (nI (p + 1)) (aU 37 p (nI (z)) (aU 42 op (vp_nar .char (nI 0)) (mdS (z) 7 (nI u) (nI 0) s)))) := by
  refine MtW.of hl mfX9_partDone rfl (Nat.le_of_ble_eq_true rfl) ?_
  have hta := hT.2.2.2.1 a
  refine EW.aload_n dX9_partDone_0 rfl rfl ?_
  refine EW.iload_n dX9_partDone_1 rfl rfl ?_
  refine EM.callV (M_lookT hl 0 s a n tx hT (by omega)) mfX9_look l_X9_123 mvX9_look (by omega) dX9_partDone_2 rfl rfl rfl rfl (Nat.le_of_ble_eq_true rfl) (fun _ _ q => nomatch q.1) (fun v2 s2 q2 => ?_)
  obtain ⟨e2, h2⟩ := q2; cases e2; replace h2 := h2.symm; subst h2
  refine EW.istore_n dX9_partDone_5 rfl (by decide) ?_
  refine EW.iload_n dX9_partDone_6 rfl rfl ?_
  refine EW.bp 42 dX9_partDone_7 ?_
  refine EW.icmp_ne 22 dX9_partDone_9 (by decide) (fun c9 => ?_) (fun c9 => ?_)
  · have c9 : ¬ (tx a = 42) := fun h => c9 ((nI_eq (by omega) (by omega)).mpr h)
    refine EW.iload_n dX9_partDone_22 rfl rfl ?_
    refine EW.bp 43 dX9_partDone_23 ?_
    refine EW.icmp_ne 38 dX9_partDone_25 (by decide) (fun c25 => ?_) (fun c25 => ?_)
    · have c25 : ¬ (tx a = 43) := fun h => c25 ((nI_eq (by omega) (by omega)).mpr h)
      refine EW.iload_n dX9_partDone_38 rfl rfl ?_
      refine EW.bp 63 dX9_partDone_39 ?_
      refine EW.icmp_ne 55 dX9_partDone_41 (by decide) (fun c41 => ?_) (fun c41 => ?_)
      · have c41 : ¬ (tx a = 63) := fun h => c41 ((nI_eq (by omega) (by omega)).mpr h)
        refine EW.iload_n dX9_partDone_55 rfl rfl ?_
        refine EW.istore dX9_partDone_56 (by decide) ?_
        refine EW.aload_n dX9_partDone_58 rfl rfl ?_
        refine EM.get f_X9_99 dX9_partDone_59 rfl ?_
        refine EW.aload_n dX9_partDone_62 rfl rfl ?_
        refine EM.get f_X9_131 dX9_partDone_63 rfl ?_
        refine EW.top ho ?_
        refine EM.caldN op dX9_partDone_66 rfl rfl (by simp only [mLen]; omega) ?_
        refine EW.top hsg ?_
        refine EW.bp 38 dX9_partDone_67 ?_
        refine EW.icmp_ne 84 dX9_partDone_69 (by decide) (fun c69 => ?_) (fun c69 => ?_)
        · have c69 : ¬ (sg = 38) := fun h => c69 ((nI_eq (by omega) (by omega)).mpr h); omega
        · have c69 : sg = 38 := (nI_eq (by omega) (by omega)).mp c69
          refine EW.aload_n dX9_partDone_72 rfl rfl ?_
          refine EW.bp 7 dX9_partDone_73 ?_
          refine EW.iload dX9_partDone_75 rfl ?_
          refine EW.ic 0 dX9_partDone_77 ?_
          refine EM.callV (M_madeS hl 0 s (z) 7 (nI u) (nI 0) hz (by omega)) mfX9_made l_X9_127 mvX9_made (by omega) dX9_partDone_78 rfl rfl rfl rfl (Nat.le_of_ble_eq_true rfl) (fun _ _ q => nomatch q.1) (fun v78 s78 q78 => ?_)
          obtain ⟨e78, h78⟩ := q78; cases e78; replace h78 := h78.symm; subst h78
          refine EW.goto 112 dX9_partDone_81 (by decide) ?_
          refine EW.istore dX9_partDone_112 (by decide) ?_
          refine EW.aload_n dX9_partDone_114 rfl rfl ?_
          refine EM.get f_X9_99 dX9_partDone_115 rfl ?_
          refine EW.aload_n dX9_partDone_118 rfl rfl ?_
          refine EM.get f_X9_131 dX9_partDone_119 rfl ?_
          refine EW.top ho ?_
          refine EW.ic 0 dX9_partDone_122 ?_
          refine EM.castN (op) dX9_partDone_123 rfl rfl (by simp only [mLen]; omega) ?_
          refine EW.aload_n dX9_partDone_124 rfl rfl ?_
          refine EM.get f_X9_87 dX9_partDone_125 rfl ?_
          refine EW.aload_n dX9_partDone_128 rfl rfl ?_
          refine EM.get f_X9_134 dX9_partDone_129 rfl ?_
          refine EW.top hp ?_
          refine EW.iload dX9_partDone_132 rfl ?_
          refine EM.iastN (p) dX9_partDone_134 rfl rfl (by simp only [mLen]; omega) ?_
          refine EW.aload_n dX9_partDone_135 rfl rfl ?_
          refine EW.dup dX9_partDone_136 rfl ?_
          refine EM.get f_X9_134 dX9_partDone_137 rfl ?_
          refine EW.top hp ?_
          refine EW.ic 1 dX9_partDone_140 ?_
          refine EW.iadd dX9_partDone_141 ?_
          refine EW.top (nI_add _ _) ?_
          refine EM.put f_X9_134 dX9_partDone_142 rfl ?_
          refine EW.iload_n dX9_partDone_145 rfl rfl ?_
          refine EW.bp 42 dX9_partDone_146 ?_
          refine EW.icmp_eq 163 dX9_partDone_148 (by decide) (fun c148 => ?_) (fun c148 => ?_)
          · have c148 : tx a = 42 := (nI_eq (by omega) (by omega)).mp c148; omega
          · have c148 : ¬ (tx a = 42) := fun h => c148 ((nI_eq (by omega) (by omega)).mpr h)
            refine EW.iload_n dX9_partDone_151 rfl rfl ?_
            refine EW.bp 43 dX9_partDone_152 ?_
            refine EW.icmp_eq 163 dX9_partDone_154 (by decide) (fun c154 => ?_) (fun c154 => ?_)
            · have c154 : tx a = 43 := (nI_eq (by omega) (by omega)).mp c154; omega
            · have c154 : ¬ (tx a = 43) := fun h => c154 ((nI_eq (by omega) (by omega)).mpr h)
              refine EW.iload_n dX9_partDone_157 rfl rfl ?_
              refine EW.bp 63 dX9_partDone_158 ?_
              refine EW.icmp_ne 169 dX9_partDone_160 (by decide) (fun c160 => ?_) (fun c160 => ?_)
              · have c160 : ¬ (tx a = 63) := fun h => c160 ((nI_eq (by omega) (by omega)).mpr h)
                refine EW.iload_n dX9_partDone_169 rfl rfl ?_
                refine EW.iret rfl dX9_partDone_170 ?_
                exact ⟨rfl, rfl⟩
              · have c160 : tx a = 63 := (nI_eq (by omega) (by omega)).mp c160; omega
      · have c41 : tx a = 63 := (nI_eq (by omega) (by omega)).mp c41; omega
    · have c25 : tx a = 43 := (nI_eq (by omega) (by omega)).mp c25; omega
  · have c9 : tx a = 42 := (nI_eq (by omega) (by omega)).mp c9; omega
set_option maxHeartbeats 4000000 in
theorem M_part08 (hl : l.stackTraces = false) (s : MSt) (u a z op p sg n : Nat) (tx : Nat → Nat) (hT : TXM s n tx) (ha : a < 900) (hz : s.2 10 6 = nI z) (hz9 : z < 60) (ho : s.1 35 = nI op) (ho8 : op < 8) (hp : s.1 36 = nI p) (hp9 : p < 32) (hsg : s.2 42 op = nI sg) (hu : u < 64) (h42 : ¬ tx a = 42) (h43 : ¬ tx a = 43) (h63 : ¬ tx a = 63) (hs : sg = 33) : MtW (IM cy ad hp0) l D cy base mX9_partDone (0 + 1) 0 0 [.ref (ad 43), .int (nI u), .int (nI a)] s (fun o s2 => o = .inl (some (.int (nI (a)))) ∧ s2 = fU 36 (nI (p + 1)) (aU 37 p (nI (z)) (aU 42 op (vp_nar .char (nI 0)) (mdS (z) 8 (nI u) (nI 0) s)))) := by
  refine MtW.of hl mfX9_partDone rfl (Nat.le_of_ble_eq_true rfl) ?_
  have hta := hT.2.2.2.1 a
  refine EW.aload_n dX9_partDone_0 rfl rfl ?_
  refine EW.iload_n dX9_partDone_1 rfl rfl ?_
  refine EM.callV (M_lookT hl 0 s a n tx hT (by omega)) mfX9_look l_X9_123 mvX9_look (by omega) dX9_partDone_2 rfl rfl rfl rfl (Nat.le_of_ble_eq_true rfl) (fun _ _ q => nomatch q.1) (fun v2 s2 q2 => ?_)
  obtain ⟨e2, h2⟩ := q2; cases e2; replace h2 := h2.symm; subst h2
  refine EW.istore_n dX9_partDone_5 rfl (by decide) ?_
  refine EW.iload_n dX9_partDone_6 rfl rfl ?_
  refine EW.bp 42 dX9_partDone_7 ?_
  refine EW.icmp_ne 22 dX9_partDone_9 (by decide) (fun c9 => ?_) (fun c9 => ?_)
  · have c9 : ¬ (tx a = 42) := fun h => c9 ((nI_eq (by omega) (by omega)).mpr h)
    refine EW.iload_n dX9_partDone_22 rfl rfl ?_
    refine EW.bp 43 dX9_partDone_23 ?_
    refine EW.icmp_ne 38 dX9_partDone_25 (by decide) (fun c25 => ?_) (fun c25 => ?_)
    · have c25 : ¬ (tx a = 43) := fun h => c25 ((nI_eq (by omega) (by omega)).mpr h)
      refine EW.iload_n dX9_partDone_38 rfl rfl ?_
      refine EW.bp 63 dX9_partDone_39 ?_
      refine EW.icmp_ne 55 dX9_partDone_41 (by decide) (fun c41 => ?_) (fun c41 => ?_)
      · have c41 : ¬ (tx a = 63) := fun h => c41 ((nI_eq (by omega) (by omega)).mpr h)
        refine EW.iload_n dX9_partDone_55 rfl rfl ?_
        refine EW.istore dX9_partDone_56 (by decide) ?_
        refine EW.aload_n dX9_partDone_58 rfl rfl ?_
        refine EM.get f_X9_99 dX9_partDone_59 rfl ?_
        refine EW.aload_n dX9_partDone_62 rfl rfl ?_
        refine EM.get f_X9_131 dX9_partDone_63 rfl ?_
        refine EW.top ho ?_
        refine EM.caldN op dX9_partDone_66 rfl rfl (by simp only [mLen]; omega) ?_
        refine EW.top hsg ?_
        refine EW.bp 38 dX9_partDone_67 ?_
        refine EW.icmp_ne 84 dX9_partDone_69 (by decide) (fun c69 => ?_) (fun c69 => ?_)
        · have c69 : ¬ (sg = 38) := fun h => c69 ((nI_eq (by omega) (by omega)).mpr h)
          refine EW.aload_n dX9_partDone_84 rfl rfl ?_
          refine EM.get f_X9_99 dX9_partDone_85 rfl ?_
          refine EW.aload_n dX9_partDone_88 rfl rfl ?_
          refine EM.get f_X9_131 dX9_partDone_89 rfl ?_
          refine EW.top ho ?_
          refine EM.caldN op dX9_partDone_92 rfl rfl (by simp only [mLen]; omega) ?_
          refine EW.top hsg ?_
          refine EW.bp 33 dX9_partDone_93 ?_
          refine EW.icmp_ne 110 dX9_partDone_95 (by decide) (fun c95 => ?_) (fun c95 => ?_)
          · have c95 : ¬ (sg = 33) := fun h => c95 ((nI_eq (by omega) (by omega)).mpr h); omega
          · have c95 : sg = 33 := (nI_eq (by omega) (by omega)).mp c95
            refine EW.aload_n dX9_partDone_98 rfl rfl ?_
            refine EW.bp 8 dX9_partDone_99 ?_
            refine EW.iload dX9_partDone_101 rfl ?_
            refine EW.ic 0 dX9_partDone_103 ?_
            refine EM.callV (M_madeS hl 0 s (z) 8 (nI u) (nI 0) hz (by omega)) mfX9_made l_X9_127 mvX9_made (by omega) dX9_partDone_104 rfl rfl rfl rfl (Nat.le_of_ble_eq_true rfl) (fun _ _ q => nomatch q.1) (fun v104 s104 q104 => ?_)
            obtain ⟨e104, h104⟩ := q104; cases e104; replace h104 := h104.symm; subst h104
            refine EW.goto 112 dX9_partDone_107 (by decide) ?_
            refine EW.istore dX9_partDone_112 (by decide) ?_
            refine EW.aload_n dX9_partDone_114 rfl rfl ?_
            refine EM.get f_X9_99 dX9_partDone_115 rfl ?_
            refine EW.aload_n dX9_partDone_118 rfl rfl ?_
            refine EM.get f_X9_131 dX9_partDone_119 rfl ?_
            refine EW.top ho ?_
            refine EW.ic 0 dX9_partDone_122 ?_
            refine EM.castN (op) dX9_partDone_123 rfl rfl (by simp only [mLen]; omega) ?_
            refine EW.aload_n dX9_partDone_124 rfl rfl ?_
            refine EM.get f_X9_87 dX9_partDone_125 rfl ?_
            refine EW.aload_n dX9_partDone_128 rfl rfl ?_
            refine EM.get f_X9_134 dX9_partDone_129 rfl ?_
            refine EW.top hp ?_
            refine EW.iload dX9_partDone_132 rfl ?_
            refine EM.iastN (p) dX9_partDone_134 rfl rfl (by simp only [mLen]; omega) ?_
            refine EW.aload_n dX9_partDone_135 rfl rfl ?_
            refine EW.dup dX9_partDone_136 rfl ?_
            refine EM.get f_X9_134 dX9_partDone_137 rfl ?_
            refine EW.top hp ?_
            refine EW.ic 1 dX9_partDone_140 ?_
            refine EW.iadd dX9_partDone_141 ?_
            refine EW.top (nI_add _ _) ?_
            refine EM.put f_X9_134 dX9_partDone_142 rfl ?_
            refine EW.iload_n dX9_partDone_145 rfl rfl ?_
            refine EW.bp 42 dX9_partDone_146 ?_
            refine EW.icmp_eq 163 dX9_partDone_148 (by decide) (fun c148 => ?_) (fun c148 => ?_)
            · have c148 : tx a = 42 := (nI_eq (by omega) (by omega)).mp c148; omega
            · have c148 : ¬ (tx a = 42) := fun h => c148 ((nI_eq (by omega) (by omega)).mpr h)
              refine EW.iload_n dX9_partDone_151 rfl rfl ?_
              refine EW.bp 43 dX9_partDone_152 ?_
              refine EW.icmp_eq 163 dX9_partDone_154 (by decide) (fun c154 => ?_) (fun c154 => ?_)
              · have c154 : tx a = 43 := (nI_eq (by omega) (by omega)).mp c154; omega
              · have c154 : ¬ (tx a = 43) := fun h => c154 ((nI_eq (by omega) (by omega)).mpr h)
                refine EW.iload_n dX9_partDone_157 rfl rfl ?_
                refine EW.bp 63 dX9_partDone_158 ?_
                refine EW.icmp_ne 169 dX9_partDone_160 (by decide) (fun c160 => ?_) (fun c160 => ?_)
                · have c160 : ¬ (tx a = 63) := fun h => c160 ((nI_eq (by omega) (by omega)).mpr h)
                  refine EW.iload_n dX9_partDone_169 rfl rfl ?_
                  refine EW.iret rfl dX9_partDone_170 ?_
                  exact ⟨rfl, rfl⟩
                · have c160 : tx a = 63 := (nI_eq (by omega) (by omega)).mp c160; omega
        · have c69 : sg = 38 := (nI_eq (by omega) (by omega)).mp c69; omega
      · have c41 : tx a = 63 := (nI_eq (by omega) (by omega)).mp c41; omega
    · have c25 : tx a = 43 := (nI_eq (by omega) (by omega)).mp c25; omega
  · have c9 : tx a = 42 := (nI_eq (by omega) (by omega)).mp c9; omega
set_option maxHeartbeats 4000000 in
theorem M_part40 (hl : l.stackTraces = false) (s : MSt) (u a z op p sg n : Nat) (tx : Nat → Nat) (hT : TXM s n tx) (ha : a < 900) (hz : s.2 10 6 = nI z) (hz9 : z < 60) (ho : s.1 35 = nI op) (ho8 : op < 8) (hp : s.1 36 = nI p) (hp9 : p < 32) (hsg : s.2 42 op = nI sg) (hu : u < 64) (hc : tx a = 42) (h38 : ¬ sg = 38) (h33 : ¬ sg = 33) (hsg9 : sg < 128) : MtW (IM cy ad hp0) l D cy base mX9_partDone (0 + 1) 0 0 [.ref (ad 43), .int (nI u), .int (nI a)] s (fun o s2 => o = .inl (some (.int (nI (a + 1)))) ∧ s2 = fU 36 (nI (p + 1)) (aU 37 p (nI z) (aU 42 op (vp_nar .char (nI 0)) (mdS z 4 (nI u) (nI 0) s)))) := by
  refine MtW.of hl mfX9_partDone rfl (Nat.le_of_ble_eq_true rfl) ?_
  have hta := hT.2.2.2.1 a
  refine EW.aload_n dX9_partDone_0 rfl rfl ?_
  refine EW.iload_n dX9_partDone_1 rfl rfl ?_
  refine EM.callV (M_lookT hl 0 s a n tx hT (by omega)) mfX9_look l_X9_123 mvX9_look (by omega) dX9_partDone_2 rfl rfl rfl rfl (Nat.le_of_ble_eq_true rfl) (fun _ _ q => nomatch q.1) (fun v2 s2 q2 => ?_)
  obtain ⟨e2, h2⟩ := q2; cases e2; replace h2 := h2.symm; subst h2
  refine EW.istore_n dX9_partDone_5 rfl (by decide) ?_
  refine EW.iload_n dX9_partDone_6 rfl rfl ?_
  refine EW.bp 42 dX9_partDone_7 ?_
  refine EW.icmp_ne 22 dX9_partDone_9 (by decide) (fun c9 => ?_) (fun c9 => ?_)
  · have c9 : ¬ (tx a = 42) := fun h => c9 ((nI_eq (by omega) (by omega)).mpr h); omega
  · have c9 : tx a = 42 := (nI_eq (by omega) (by omega)).mp c9
    refine EW.aload_n dX9_partDone_12 rfl rfl ?_
    refine EW.ic 4 dX9_partDone_13 ?_
    refine EW.iload_n dX9_partDone_14 rfl rfl ?_
    refine EW.ic 0 dX9_partDone_15 ?_
    refine EM.callV (M_madeS hl 0 s z 4 (nI u) (nI 0) hz (by omega)) mfX9_made l_X9_127 mvX9_made (by omega) dX9_partDone_16 rfl rfl rfl rfl (Nat.le_of_ble_eq_true rfl) (fun _ _ q => nomatch q.1) (fun v16 s16 q16 => ?_)
    obtain ⟨e16, h16⟩ := q16; cases e16; replace h16 := h16.symm; subst h16
    refine EW.goto 56 dX9_partDone_19 (by decide) ?_
    refine EW.istore dX9_partDone_56 (by decide) ?_
    refine EW.aload_n dX9_partDone_58 rfl rfl ?_
    refine EM.get f_X9_99 dX9_partDone_59 rfl ?_
    refine EW.aload_n dX9_partDone_62 rfl rfl ?_
    refine EM.get f_X9_131 dX9_partDone_63 rfl ?_
    refine EW.top ho ?_
    refine EM.caldN op dX9_partDone_66 rfl rfl (by simp only [mLen]; omega) ?_
    refine EW.top ((mdS_o (by unfold pk; omega) (by omega)).trans hsg) ?_
    refine EW.bp 38 dX9_partDone_67 ?_
    refine EW.icmp_ne 84 dX9_partDone_69 (by decide) (fun c69 => ?_) (fun c69 => ?_)
    · have c69 : ¬ (sg = 38) := fun h => c69 ((nI_eq (by omega) (by omega)).mpr h)
      refine EW.aload_n dX9_partDone_84 rfl rfl ?_
      refine EM.get f_X9_99 dX9_partDone_85 rfl ?_
      refine EW.aload_n dX9_partDone_88 rfl rfl ?_
      refine EM.get f_X9_131 dX9_partDone_89 rfl ?_
      refine EW.top ho ?_
      refine EM.caldN op dX9_partDone_92 rfl rfl (by simp only [mLen]; omega) ?_
      refine EW.top ((mdS_o (by unfold pk; omega) (by omega)).trans hsg) ?_
      refine EW.bp 33 dX9_partDone_93 ?_
      refine EW.icmp_ne 110 dX9_partDone_95 (by decide) (fun c95 => ?_) (fun c95 => ?_)
      · have c95 : ¬ (sg = 33) := fun h => c95 ((nI_eq (by omega) (by omega)).mpr h)
        refine EW.iload dX9_partDone_110 rfl ?_
        refine EW.istore dX9_partDone_112 (by decide) ?_
        refine EW.aload_n dX9_partDone_114 rfl rfl ?_
        refine EM.get f_X9_99 dX9_partDone_115 rfl ?_
        refine EW.aload_n dX9_partDone_118 rfl rfl ?_
        refine EM.get f_X9_131 dX9_partDone_119 rfl ?_
        refine EW.top ho ?_
        refine EW.ic 0 dX9_partDone_122 ?_
        refine EM.castN (op) dX9_partDone_123 rfl rfl (by simp only [mLen]; omega) ?_
        refine EW.aload_n dX9_partDone_124 rfl rfl ?_
        refine EM.get f_X9_87 dX9_partDone_125 rfl ?_
        refine EW.aload_n dX9_partDone_128 rfl rfl ?_
        refine EM.get f_X9_134 dX9_partDone_129 rfl ?_
        refine EW.top hp ?_
        refine EW.iload dX9_partDone_132 rfl ?_
        refine EM.iastN (p) dX9_partDone_134 rfl rfl (by simp only [mLen]; omega) ?_
        refine EW.aload_n dX9_partDone_135 rfl rfl ?_
        refine EW.dup dX9_partDone_136 rfl ?_
        refine EM.get f_X9_134 dX9_partDone_137 rfl ?_
        refine EW.top hp ?_
        refine EW.ic 1 dX9_partDone_140 ?_
        refine EW.iadd dX9_partDone_141 ?_
        refine EW.top (nI_add _ _) ?_
        refine EM.put f_X9_134 dX9_partDone_142 rfl ?_
        refine EW.iload_n dX9_partDone_145 rfl rfl ?_
        refine EW.bp 42 dX9_partDone_146 ?_
        refine EW.icmp_eq 163 dX9_partDone_148 (by decide) (fun c148 => ?_) (fun c148 => ?_)
        · have c148 : tx a = 42 := (nI_eq (by omega) (by omega)).mp c148
          refine EW.iload_n dX9_partDone_163 rfl rfl ?_
          refine EW.ic 1 dX9_partDone_164 ?_
          refine EW.iadd dX9_partDone_165 ?_
          refine EW.top (nI_add _ _) ?_
          refine EW.goto 170 dX9_partDone_166 (by decide) ?_
          refine EW.iret rfl dX9_partDone_170 ?_
          exact ⟨rfl, rfl⟩
        · have c148 : ¬ (tx a = 42) := fun h => c148 ((nI_eq (by omega) (by omega)).mpr h); omega
      · have c95 : sg = 33 := (nI_eq (by omega) (by omega)).mp c95; omega
    · have c69 : sg = 38 := (nI_eq (by omega) (by omega)).mp c69; omega
set_option maxHeartbeats 4000000 in
theorem M_part47 (hl : l.stackTraces = false) (s : MSt) (u a z op p sg n : Nat) (tx : Nat → Nat) (hT : TXM s n tx) (ha : a < 900) (hz : s.2 10 6 = nI z) (hz9 : z < 60) (ho : s.1 35 = nI op) (ho8 : op < 8) (hp : s.1 36 = nI p) (hp9 : p < 32) (hsg : s.2 42 op = nI sg) (hu : u < 64) (hc : tx a = 42) (hs : sg = 38) : MtW (IM cy ad hp0) l D cy base mX9_partDone (0 + 1) 0 0 [.ref (ad 43), .int (nI u), .int (nI a)] s (fun o s2 => o = .inl (some (.int (nI (a + 1)))) ∧ s2 = fU 36 (nI (p + 1)) (aU 37 p (nI (z + 1)) (aU 42 op (vp_nar .char (nI 0)) (mdS (z + 1) 7 (nI z) (nI 0) (mdS z 4 (nI u) (nI 0) s))))) := by
  refine MtW.of hl mfX9_partDone rfl (Nat.le_of_ble_eq_true rfl) ?_
  have hta := hT.2.2.2.1 a
  refine EW.aload_n dX9_partDone_0 rfl rfl ?_
  refine EW.iload_n dX9_partDone_1 rfl rfl ?_
  refine EM.callV (M_lookT hl 0 s a n tx hT (by omega)) mfX9_look l_X9_123 mvX9_look (by omega) dX9_partDone_2 rfl rfl rfl rfl (Nat.le_of_ble_eq_true rfl) (fun _ _ q => nomatch q.1) (fun v2 s2 q2 => ?_)
  obtain ⟨e2, h2⟩ := q2; cases e2; replace h2 := h2.symm; subst h2
  refine EW.istore_n dX9_partDone_5 rfl (by decide) ?_
  refine EW.iload_n dX9_partDone_6 rfl rfl ?_
  refine EW.bp 42 dX9_partDone_7 ?_
  refine EW.icmp_ne 22 dX9_partDone_9 (by decide) (fun c9 => ?_) (fun c9 => ?_)
  · have c9 : ¬ (tx a = 42) := fun h => c9 ((nI_eq (by omega) (by omega)).mpr h); omega
  · have c9 : tx a = 42 := (nI_eq (by omega) (by omega)).mp c9
    refine EW.aload_n dX9_partDone_12 rfl rfl ?_
    refine EW.ic 4 dX9_partDone_13 ?_
    refine EW.iload_n dX9_partDone_14 rfl rfl ?_
    refine EW.ic 0 dX9_partDone_15 ?_
    refine EM.callV (M_madeS hl 0 s z 4 (nI u) (nI 0) hz (by omega)) mfX9_made l_X9_127 mvX9_made (by omega) dX9_partDone_16 rfl rfl rfl rfl (Nat.le_of_ble_eq_true rfl) (fun _ _ q => nomatch q.1) (fun v16 s16 q16 => ?_)
    obtain ⟨e16, h16⟩ := q16; cases e16; replace h16 := h16.symm; subst h16
    refine EW.goto 56 dX9_partDone_19 (by decide) ?_
    refine EW.istore dX9_partDone_56 (by decide) ?_
    refine EW.aload_n dX9_partDone_58 rfl rfl ?_
    refine EM.get f_X9_99 dX9_partDone_59 rfl ?_
    refine EW.aload_n dX9_partDone_62 rfl rfl ?_
    refine EM.get f_X9_131 dX9_partDone_63 rfl ?_
    refine EW.top ho ?_
    refine EM.caldN op dX9_partDone_66 rfl rfl (by simp only [mLen]; omega) ?_
    refine EW.top ((mdS_o (by unfold pk; omega) (by omega)).trans hsg) ?_
    refine EW.bp 38 dX9_partDone_67 ?_
    refine EW.icmp_ne 84 dX9_partDone_69 (by decide) (fun c69 => ?_) (fun c69 => ?_)
    · have c69 : ¬ (sg = 38) := fun h => c69 ((nI_eq (by omega) (by omega)).mpr h); omega
    · have c69 : sg = 38 := (nI_eq (by omega) (by omega)).mp c69
      refine EW.aload_n dX9_partDone_72 rfl rfl ?_
      refine EW.bp 7 dX9_partDone_73 ?_
      refine EW.iload dX9_partDone_75 rfl ?_
      refine EW.ic 0 dX9_partDone_77 ?_
      refine EM.callV (M_madeS hl 0 (mdS z 4 (nI u) (nI 0) s) (z + 1) 7 (nI z) (nI 0) mdS_10 (by omega)) mfX9_made l_X9_127 mvX9_made (by omega) dX9_partDone_78 rfl rfl rfl rfl (Nat.le_of_ble_eq_true rfl) (fun _ _ q => nomatch q.1) (fun v78 s78 q78 => ?_)
      obtain ⟨e78, h78⟩ := q78; cases e78; replace h78 := h78.symm; subst h78
      refine EW.goto 112 dX9_partDone_81 (by decide) ?_
      refine EW.istore dX9_partDone_112 (by decide) ?_
      refine EW.aload_n dX9_partDone_114 rfl rfl ?_
      refine EM.get f_X9_99 dX9_partDone_115 rfl ?_
      refine EW.aload_n dX9_partDone_118 rfl rfl ?_
      refine EM.get f_X9_131 dX9_partDone_119 rfl ?_
      refine EW.top ho ?_
      refine EW.ic 0 dX9_partDone_122 ?_
      refine EM.castN (op) dX9_partDone_123 rfl rfl (by simp only [mLen]; omega) ?_
      refine EW.aload_n dX9_partDone_124 rfl rfl ?_
      refine EM.get f_X9_87 dX9_partDone_125 rfl ?_
      refine EW.aload_n dX9_partDone_128 rfl rfl ?_
      refine EM.get f_X9_134 dX9_partDone_129 rfl ?_
      refine EW.top hp ?_
      refine EW.iload dX9_partDone_132 rfl ?_
      refine EM.iastN (p) dX9_partDone_134 rfl rfl (by simp only [mLen]; omega) ?_
      refine EW.aload_n dX9_partDone_135 rfl rfl ?_
      refine EW.dup dX9_partDone_136 rfl ?_
      refine EM.get f_X9_134 dX9_partDone_137 rfl ?_
      refine EW.top hp ?_
      refine EW.ic 1 dX9_partDone_140 ?_
      refine EW.iadd dX9_partDone_141 ?_
      refine EW.top (nI_add _ _) ?_
      refine EM.put f_X9_134 dX9_partDone_142 rfl ?_
      refine EW.iload_n dX9_partDone_145 rfl rfl ?_
      refine EW.bp 42 dX9_partDone_146 ?_
      refine EW.icmp_eq 163 dX9_partDone_148 (by decide) (fun c148 => ?_) (fun c148 => ?_)
      · have c148 : tx a = 42 := (nI_eq (by omega) (by omega)).mp c148
        refine EW.iload_n dX9_partDone_163 rfl rfl ?_
        refine EW.ic 1 dX9_partDone_164 ?_
        refine EW.iadd dX9_partDone_165 ?_
        refine EW.top (nI_add _ _) ?_
        refine EW.goto 170 dX9_partDone_166 (by decide) ?_
        refine EW.iret rfl dX9_partDone_170 ?_
        exact ⟨rfl, rfl⟩
      · have c148 : ¬ (tx a = 42) := fun h => c148 ((nI_eq (by omega) (by omega)).mpr h); omega
set_option maxHeartbeats 4000000 in
theorem M_part48 (hl : l.stackTraces = false) (s : MSt) (u a z op p sg n : Nat) (tx : Nat → Nat) (hT : TXM s n tx) (ha : a < 900) (hz : s.2 10 6 = nI z) (hz9 : z < 60) (ho : s.1 35 = nI op) (ho8 : op < 8) (hp : s.1 36 = nI p) (hp9 : p < 32) (hsg : s.2 42 op = nI sg) (hu : u < 64) (hc : tx a = 42) (hs : sg = 33) : MtW (IM cy ad hp0) l D cy base mX9_partDone (0 + 1) 0 0 [.ref (ad 43), .int (nI u), .int (nI a)] s (fun o s2 => o = .inl (some (.int (nI (a + 1)))) ∧ s2 = fU 36 (nI (p + 1)) (aU 37 p (nI (z + 1)) (aU 42 op (vp_nar .char (nI 0)) (mdS (z + 1) 8 (nI z) (nI 0) (mdS z 4 (nI u) (nI 0) s))))) := by
  refine MtW.of hl mfX9_partDone rfl (Nat.le_of_ble_eq_true rfl) ?_
  have hta := hT.2.2.2.1 a
  refine EW.aload_n dX9_partDone_0 rfl rfl ?_
  refine EW.iload_n dX9_partDone_1 rfl rfl ?_
  refine EM.callV (M_lookT hl 0 s a n tx hT (by omega)) mfX9_look l_X9_123 mvX9_look (by omega) dX9_partDone_2 rfl rfl rfl rfl (Nat.le_of_ble_eq_true rfl) (fun _ _ q => nomatch q.1) (fun v2 s2 q2 => ?_)
  obtain ⟨e2, h2⟩ := q2; cases e2; replace h2 := h2.symm; subst h2
  refine EW.istore_n dX9_partDone_5 rfl (by decide) ?_
  refine EW.iload_n dX9_partDone_6 rfl rfl ?_
  refine EW.bp 42 dX9_partDone_7 ?_
  refine EW.icmp_ne 22 dX9_partDone_9 (by decide) (fun c9 => ?_) (fun c9 => ?_)
  · have c9 : ¬ (tx a = 42) := fun h => c9 ((nI_eq (by omega) (by omega)).mpr h); omega
  · have c9 : tx a = 42 := (nI_eq (by omega) (by omega)).mp c9
    refine EW.aload_n dX9_partDone_12 rfl rfl ?_
    refine EW.ic 4 dX9_partDone_13 ?_
    refine EW.iload_n dX9_partDone_14 rfl rfl ?_
    refine EW.ic 0 dX9_partDone_15 ?_
    refine EM.callV (M_madeS hl 0 s z 4 (nI u) (nI 0) hz (by omega)) mfX9_made l_X9_127 mvX9_made (by omega) dX9_partDone_16 rfl rfl rfl rfl (Nat.le_of_ble_eq_true rfl) (fun _ _ q => nomatch q.1) (fun v16 s16 q16 => ?_)
    obtain ⟨e16, h16⟩ := q16; cases e16; replace h16 := h16.symm; subst h16
    refine EW.goto 56 dX9_partDone_19 (by decide) ?_
    refine EW.istore dX9_partDone_56 (by decide) ?_
    refine EW.aload_n dX9_partDone_58 rfl rfl ?_
    refine EM.get f_X9_99 dX9_partDone_59 rfl ?_
    refine EW.aload_n dX9_partDone_62 rfl rfl ?_
    refine EM.get f_X9_131 dX9_partDone_63 rfl ?_
    refine EW.top ho ?_
    refine EM.caldN op dX9_partDone_66 rfl rfl (by simp only [mLen]; omega) ?_
    refine EW.top ((mdS_o (by unfold pk; omega) (by omega)).trans hsg) ?_
    refine EW.bp 38 dX9_partDone_67 ?_
    refine EW.icmp_ne 84 dX9_partDone_69 (by decide) (fun c69 => ?_) (fun c69 => ?_)
    · have c69 : ¬ (sg = 38) := fun h => c69 ((nI_eq (by omega) (by omega)).mpr h)
      refine EW.aload_n dX9_partDone_84 rfl rfl ?_
      refine EM.get f_X9_99 dX9_partDone_85 rfl ?_
      refine EW.aload_n dX9_partDone_88 rfl rfl ?_
      refine EM.get f_X9_131 dX9_partDone_89 rfl ?_
      refine EW.top ho ?_
      refine EM.caldN op dX9_partDone_92 rfl rfl (by simp only [mLen]; omega) ?_
      refine EW.top ((mdS_o (by unfold pk; omega) (by omega)).trans hsg) ?_
      refine EW.bp 33 dX9_partDone_93 ?_
      refine EW.icmp_ne 110 dX9_partDone_95 (by decide) (fun c95 => ?_) (fun c95 => ?_)
      · have c95 : ¬ (sg = 33) := fun h => c95 ((nI_eq (by omega) (by omega)).mpr h); omega
      · have c95 : sg = 33 := (nI_eq (by omega) (by omega)).mp c95
        refine EW.aload_n dX9_partDone_98 rfl rfl ?_
        refine EW.bp 8 dX9_partDone_99 ?_
        refine EW.iload dX9_partDone_101 rfl ?_
        refine EW.ic 0 dX9_partDone_103 ?_
        refine EM.callV (M_madeS hl 0 (mdS z 4 (nI u) (nI 0) s) (z + 1) 8 (nI z) (nI 0) mdS_10 (by omega)) mfX9_made l_X9_127 mvX9_made (by omega) dX9_partDone_104 rfl rfl rfl rfl (Nat.le_of_ble_eq_true rfl) (fun _ _ q => nomatch q.1) (fun v104 s104 q104 => ?_)
        obtain ⟨e104, h104⟩ := q104; cases e104; replace h104 := h104.symm; subst h104
        refine EW.goto 112 dX9_partDone_107 (by decide) ?_
        refine EW.istore dX9_partDone_112 (by decide) ?_
        refine EW.aload_n dX9_partDone_114 rfl rfl ?_
        refine EM.get f_X9_99 dX9_partDone_115 rfl ?_
        refine EW.aload_n dX9_partDone_118 rfl rfl ?_
        refine EM.get f_X9_131 dX9_partDone_119 rfl ?_
        refine EW.top ho ?_
        refine EW.ic 0 dX9_partDone_122 ?_
        refine EM.castN (op) dX9_partDone_123 rfl rfl (by simp only [mLen]; omega) ?_
        refine EW.aload_n dX9_partDone_124 rfl rfl ?_
        refine EM.get f_X9_87 dX9_partDone_125 rfl ?_
        refine EW.aload_n dX9_partDone_128 rfl rfl ?_
        refine EM.get f_X9_134 dX9_partDone_129 rfl ?_
        refine EW.top hp ?_
        refine EW.iload dX9_partDone_132 rfl ?_
        refine EM.iastN (p) dX9_partDone_134 rfl rfl (by simp only [mLen]; omega) ?_
        refine EW.aload_n dX9_partDone_135 rfl rfl ?_
        refine EW.dup dX9_partDone_136 rfl ?_
        refine EM.get f_X9_134 dX9_partDone_137 rfl ?_
        refine EW.top hp ?_
        refine EW.ic 1 dX9_partDone_140 ?_
        refine EW.iadd dX9_partDone_141 ?_
        refine EW.top (nI_add _ _) ?_
        refine EM.put f_X9_134 dX9_partDone_142 rfl ?_
        refine EW.iload_n dX9_partDone_145 rfl rfl ?_
        refine EW.bp 42 dX9_partDone_146 ?_
        refine EW.icmp_eq 163 dX9_partDone_148 (by decide) (fun c148 => ?_) (fun c148 => ?_)
        · have c148 : tx a = 42 := (nI_eq (by omega) (by omega)).mp c148
          refine EW.iload_n dX9_partDone_163 rfl rfl ?_
          refine EW.ic 1 dX9_partDone_164 ?_
          refine EW.iadd dX9_partDone_165 ?_
          refine EW.top (nI_add _ _) ?_
          refine EW.goto 170 dX9_partDone_166 (by decide) ?_
          refine EW.iret rfl dX9_partDone_170 ?_
          exact ⟨rfl, rfl⟩
        · have c148 : ¬ (tx a = 42) := fun h => c148 ((nI_eq (by omega) (by omega)).mpr h); omega
    · have c69 : sg = 38 := (nI_eq (by omega) (by omega)).mp c69; omega
set_option maxHeartbeats 4000000 in
theorem M_part50 (hl : l.stackTraces = false) (s : MSt) (u a z op p sg n : Nat) (tx : Nat → Nat) (hT : TXM s n tx) (ha : a < 900) (hz : s.2 10 6 = nI z) (hz9 : z < 60) (ho : s.1 35 = nI op) (ho8 : op < 8) (hp : s.1 36 = nI p) (hp9 : p < 32) (hsg : s.2 42 op = nI sg) (hu : u < 64) (hc : tx a = 43) (h38 : ¬ sg = 38) (h33 : ¬ sg = 33) (hsg9 : sg < 128) : MtW (IM cy ad hp0) l D cy base mX9_partDone (0 + 1) 0 0 [.ref (ad 43), .int (nI u), .int (nI a)] s (fun o s2 => o = .inl (some (.int (nI (a + 1)))) ∧ s2 = fU 36 (nI (p + 1)) (aU 37 p (nI z) (aU 42 op (vp_nar .char (nI 0)) (mdS z 5 (nI u) (nI 0) s)))) := by
  refine MtW.of hl mfX9_partDone rfl (Nat.le_of_ble_eq_true rfl) ?_
  have hta := hT.2.2.2.1 a
  refine EW.aload_n dX9_partDone_0 rfl rfl ?_
  refine EW.iload_n dX9_partDone_1 rfl rfl ?_
  refine EM.callV (M_lookT hl 0 s a n tx hT (by omega)) mfX9_look l_X9_123 mvX9_look (by omega) dX9_partDone_2 rfl rfl rfl rfl (Nat.le_of_ble_eq_true rfl) (fun _ _ q => nomatch q.1) (fun v2 s2 q2 => ?_)
  obtain ⟨e2, h2⟩ := q2; cases e2; replace h2 := h2.symm; subst h2
  refine EW.istore_n dX9_partDone_5 rfl (by decide) ?_
  refine EW.iload_n dX9_partDone_6 rfl rfl ?_
  refine EW.bp 42 dX9_partDone_7 ?_
  refine EW.icmp_ne 22 dX9_partDone_9 (by decide) (fun c9 => ?_) (fun c9 => ?_)
  · have c9 : ¬ (tx a = 42) := fun h => c9 ((nI_eq (by omega) (by omega)).mpr h)
    refine EW.iload_n dX9_partDone_22 rfl rfl ?_
    refine EW.bp 43 dX9_partDone_23 ?_
    refine EW.icmp_ne 38 dX9_partDone_25 (by decide) (fun c25 => ?_) (fun c25 => ?_)
    · have c25 : ¬ (tx a = 43) := fun h => c25 ((nI_eq (by omega) (by omega)).mpr h); omega
    · have c25 : tx a = 43 := (nI_eq (by omega) (by omega)).mp c25
      refine EW.aload_n dX9_partDone_28 rfl rfl ?_
      refine EW.ic 5 dX9_partDone_29 ?_
      refine EW.iload_n dX9_partDone_30 rfl rfl ?_
      refine EW.ic 0 dX9_partDone_31 ?_
      refine EM.callV (M_madeS hl 0 s z 5 (nI u) (nI 0) hz (by omega)) mfX9_made l_X9_127 mvX9_made (by omega) dX9_partDone_32 rfl rfl rfl rfl (Nat.le_of_ble_eq_true rfl) (fun _ _ q => nomatch q.1) (fun v32 s32 q32 => ?_)
      obtain ⟨e32, h32⟩ := q32; cases e32; replace h32 := h32.symm; subst h32
      refine EW.goto 56 dX9_partDone_35 (by decide) ?_
      refine EW.istore dX9_partDone_56 (by decide) ?_
      refine EW.aload_n dX9_partDone_58 rfl rfl ?_
      refine EM.get f_X9_99 dX9_partDone_59 rfl ?_
      refine EW.aload_n dX9_partDone_62 rfl rfl ?_
      refine EM.get f_X9_131 dX9_partDone_63 rfl ?_
      refine EW.top ho ?_
      refine EM.caldN op dX9_partDone_66 rfl rfl (by simp only [mLen]; omega) ?_
      refine EW.top ((mdS_o (by unfold pk; omega) (by omega)).trans hsg) ?_
      refine EW.bp 38 dX9_partDone_67 ?_
      refine EW.icmp_ne 84 dX9_partDone_69 (by decide) (fun c69 => ?_) (fun c69 => ?_)
      · have c69 : ¬ (sg = 38) := fun h => c69 ((nI_eq (by omega) (by omega)).mpr h)
        refine EW.aload_n dX9_partDone_84 rfl rfl ?_
        refine EM.get f_X9_99 dX9_partDone_85 rfl ?_
        refine EW.aload_n dX9_partDone_88 rfl rfl ?_
        refine EM.get f_X9_131 dX9_partDone_89 rfl ?_
        refine EW.top ho ?_
        refine EM.caldN op dX9_partDone_92 rfl rfl (by simp only [mLen]; omega) ?_
        refine EW.top ((mdS_o (by unfold pk; omega) (by omega)).trans hsg) ?_
        refine EW.bp 33 dX9_partDone_93 ?_
        refine EW.icmp_ne 110 dX9_partDone_95 (by decide) (fun c95 => ?_) (fun c95 => ?_)
        · have c95 : ¬ (sg = 33) := fun h => c95 ((nI_eq (by omega) (by omega)).mpr h)
          refine EW.iload dX9_partDone_110 rfl ?_
          refine EW.istore dX9_partDone_112 (by decide) ?_
          refine EW.aload_n dX9_partDone_114 rfl rfl ?_
          refine EM.get f_X9_99 dX9_partDone_115 rfl ?_
          refine EW.aload_n dX9_partDone_118 rfl rfl ?_
          refine EM.get f_X9_131 dX9_partDone_119 rfl ?_
          refine EW.top ho ?_
          refine EW.ic 0 dX9_partDone_122 ?_
          refine EM.castN (op) dX9_partDone_123 rfl rfl (by simp only [mLen]; omega) ?_
          refine EW.aload_n dX9_partDone_124 rfl rfl ?_
          refine EM.get f_X9_87 dX9_partDone_125 rfl ?_
          refine EW.aload_n dX9_partDone_128 rfl rfl ?_
          refine EM.get f_X9_134 dX9_partDone_129 rfl ?_
          refine EW.top hp ?_
          refine EW.iload dX9_partDone_132 rfl ?_
          refine EM.iastN (p) dX9_partDone_134 rfl rfl (by simp only [mLen]; omega) ?_
          refine EW.aload_n dX9_partDone_135 rfl rfl ?_
          refine EW.dup dX9_partDone_136 rfl ?_
          refine EM.get f_X9_134 dX9_partDone_137 rfl ?_
          refine EW.top hp ?_
          refine EW.ic 1 dX9_partDone_140 ?_
          refine EW.iadd dX9_partDone_141 ?_
          refine EW.top (nI_add _ _) ?_
          refine EM.put f_X9_134 dX9_partDone_142 rfl ?_
          refine EW.iload_n dX9_partDone_145 rfl rfl ?_
          refine EW.bp 42 dX9_partDone_146 ?_
          refine EW.icmp_eq 163 dX9_partDone_148 (by decide) (fun c148 => ?_) (fun c148 => ?_)
          · have c148 : tx a = 42 := (nI_eq (by omega) (by omega)).mp c148; omega
          · have c148 : ¬ (tx a = 42) := fun h => c148 ((nI_eq (by omega) (by omega)).mpr h)
            refine EW.iload_n dX9_partDone_151 rfl rfl ?_
            refine EW.bp 43 dX9_partDone_152 ?_
            refine EW.icmp_eq 163 dX9_partDone_154 (by decide) (fun c154 => ?_) (fun c154 => ?_)
            · have c154 : tx a = 43 := (nI_eq (by omega) (by omega)).mp c154
              refine EW.iload_n dX9_partDone_163 rfl rfl ?_
              refine EW.ic 1 dX9_partDone_164 ?_
              refine EW.iadd dX9_partDone_165 ?_
              refine EW.top (nI_add _ _) ?_
              refine EW.goto 170 dX9_partDone_166 (by decide) ?_
              refine EW.iret rfl dX9_partDone_170 ?_
              exact ⟨rfl, rfl⟩
            · have c154 : ¬ (tx a = 43) := fun h => c154 ((nI_eq (by omega) (by omega)).mpr h); omega
        · have c95 : sg = 33 := (nI_eq (by omega) (by omega)).mp c95; omega
      · have c69 : sg = 38 := (nI_eq (by omega) (by omega)).mp c69; omega
  · have c9 : tx a = 42 := (nI_eq (by omega) (by omega)).mp c9; omega
set_option maxHeartbeats 4000000 in
theorem M_part57 (hl : l.stackTraces = false) (s : MSt) (u a z op p sg n : Nat) (tx : Nat → Nat) (hT : TXM s n tx) (ha : a < 900) (hz : s.2 10 6 = nI z) (hz9 : z < 60) (ho : s.1 35 = nI op) (ho8 : op < 8) (hp : s.1 36 = nI p) (hp9 : p < 32) (hsg : s.2 42 op = nI sg) (hu : u < 64) (hc : tx a = 43) (hs : sg = 38) : MtW (IM cy ad hp0) l D cy base mX9_partDone (0 + 1) 0 0 [.ref (ad 43), .int (nI u), .int (nI a)] s (fun o s2 => o = .inl (some (.int (nI (a + 1)))) ∧ s2 = fU 36 (nI (p + 1)) (aU 37 p (nI (z + 1)) (aU 42 op (vp_nar .char (nI 0)) (mdS (z + 1) 7 (nI z) (nI 0) (mdS z 5 (nI u) (nI 0) s))))) := by
  refine MtW.of hl mfX9_partDone rfl (Nat.le_of_ble_eq_true rfl) ?_
  have hta := hT.2.2.2.1 a
  refine EW.aload_n dX9_partDone_0 rfl rfl ?_
  refine EW.iload_n dX9_partDone_1 rfl rfl ?_
  refine EM.callV (M_lookT hl 0 s a n tx hT (by omega)) mfX9_look l_X9_123 mvX9_look (by omega) dX9_partDone_2 rfl rfl rfl rfl (Nat.le_of_ble_eq_true rfl) (fun _ _ q => nomatch q.1) (fun v2 s2 q2 => ?_)
  obtain ⟨e2, h2⟩ := q2; cases e2; replace h2 := h2.symm; subst h2
  refine EW.istore_n dX9_partDone_5 rfl (by decide) ?_
  refine EW.iload_n dX9_partDone_6 rfl rfl ?_
  refine EW.bp 42 dX9_partDone_7 ?_
  refine EW.icmp_ne 22 dX9_partDone_9 (by decide) (fun c9 => ?_) (fun c9 => ?_)
  · have c9 : ¬ (tx a = 42) := fun h => c9 ((nI_eq (by omega) (by omega)).mpr h)
    refine EW.iload_n dX9_partDone_22 rfl rfl ?_
    refine EW.bp 43 dX9_partDone_23 ?_
    refine EW.icmp_ne 38 dX9_partDone_25 (by decide) (fun c25 => ?_) (fun c25 => ?_)
    · have c25 : ¬ (tx a = 43) := fun h => c25 ((nI_eq (by omega) (by omega)).mpr h); omega
    · have c25 : tx a = 43 := (nI_eq (by omega) (by omega)).mp c25
      refine EW.aload_n dX9_partDone_28 rfl rfl ?_
      refine EW.ic 5 dX9_partDone_29 ?_
      refine EW.iload_n dX9_partDone_30 rfl rfl ?_
      refine EW.ic 0 dX9_partDone_31 ?_
      refine EM.callV (M_madeS hl 0 s z 5 (nI u) (nI 0) hz (by omega)) mfX9_made l_X9_127 mvX9_made (by omega) dX9_partDone_32 rfl rfl rfl rfl (Nat.le_of_ble_eq_true rfl) (fun _ _ q => nomatch q.1) (fun v32 s32 q32 => ?_)
      obtain ⟨e32, h32⟩ := q32; cases e32; replace h32 := h32.symm; subst h32
      refine EW.goto 56 dX9_partDone_35 (by decide) ?_
      refine EW.istore dX9_partDone_56 (by decide) ?_
      refine EW.aload_n dX9_partDone_58 rfl rfl ?_
      refine EM.get f_X9_99 dX9_partDone_59 rfl ?_
      refine EW.aload_n dX9_partDone_62 rfl rfl ?_
      refine EM.get f_X9_131 dX9_partDone_63 rfl ?_
      refine EW.top ho ?_
      refine EM.caldN op dX9_partDone_66 rfl rfl (by simp only [mLen]; omega) ?_
      refine EW.top ((mdS_o (by unfold pk; omega) (by omega)).trans hsg) ?_
      refine EW.bp 38 dX9_partDone_67 ?_
      refine EW.icmp_ne 84 dX9_partDone_69 (by decide) (fun c69 => ?_) (fun c69 => ?_)
      · have c69 : ¬ (sg = 38) := fun h => c69 ((nI_eq (by omega) (by omega)).mpr h); omega
      · have c69 : sg = 38 := (nI_eq (by omega) (by omega)).mp c69
        refine EW.aload_n dX9_partDone_72 rfl rfl ?_
        refine EW.bp 7 dX9_partDone_73 ?_
        refine EW.iload dX9_partDone_75 rfl ?_
        refine EW.ic 0 dX9_partDone_77 ?_
        refine EM.callV (M_madeS hl 0 (mdS z 5 (nI u) (nI 0) s) (z + 1) 7 (nI z) (nI 0) mdS_10 (by omega)) mfX9_made l_X9_127 mvX9_made (by omega) dX9_partDone_78 rfl rfl rfl rfl (Nat.le_of_ble_eq_true rfl) (fun _ _ q => nomatch q.1) (fun v78 s78 q78 => ?_)
        obtain ⟨e78, h78⟩ := q78; cases e78; replace h78 := h78.symm; subst h78
        refine EW.goto 112 dX9_partDone_81 (by decide) ?_
        refine EW.istore dX9_partDone_112 (by decide) ?_
        refine EW.aload_n dX9_partDone_114 rfl rfl ?_
        refine EM.get f_X9_99 dX9_partDone_115 rfl ?_
        refine EW.aload_n dX9_partDone_118 rfl rfl ?_
        refine EM.get f_X9_131 dX9_partDone_119 rfl ?_
        refine EW.top ho ?_
        refine EW.ic 0 dX9_partDone_122 ?_
        refine EM.castN (op) dX9_partDone_123 rfl rfl (by simp only [mLen]; omega) ?_
        refine EW.aload_n dX9_partDone_124 rfl rfl ?_
        refine EM.get f_X9_87 dX9_partDone_125 rfl ?_
        refine EW.aload_n dX9_partDone_128 rfl rfl ?_
        refine EM.get f_X9_134 dX9_partDone_129 rfl ?_
        refine EW.top hp ?_
        refine EW.iload dX9_partDone_132 rfl ?_
        refine EM.iastN (p) dX9_partDone_134 rfl rfl (by simp only [mLen]; omega) ?_
        refine EW.aload_n dX9_partDone_135 rfl rfl ?_
        refine EW.dup dX9_partDone_136 rfl ?_
        refine EM.get f_X9_134 dX9_partDone_137 rfl ?_
        refine EW.top hp ?_
        refine EW.ic 1 dX9_partDone_140 ?_
        refine EW.iadd dX9_partDone_141 ?_
        refine EW.top (nI_add _ _) ?_
        refine EM.put f_X9_134 dX9_partDone_142 rfl ?_
        refine EW.iload_n dX9_partDone_145 rfl rfl ?_
        refine EW.bp 42 dX9_partDone_146 ?_
        refine EW.icmp_eq 163 dX9_partDone_148 (by decide) (fun c148 => ?_) (fun c148 => ?_)
        · have c148 : tx a = 42 := (nI_eq (by omega) (by omega)).mp c148; omega
        · have c148 : ¬ (tx a = 42) := fun h => c148 ((nI_eq (by omega) (by omega)).mpr h)
          refine EW.iload_n dX9_partDone_151 rfl rfl ?_
          refine EW.bp 43 dX9_partDone_152 ?_
          refine EW.icmp_eq 163 dX9_partDone_154 (by decide) (fun c154 => ?_) (fun c154 => ?_)
          · have c154 : tx a = 43 := (nI_eq (by omega) (by omega)).mp c154
            refine EW.iload_n dX9_partDone_163 rfl rfl ?_
            refine EW.ic 1 dX9_partDone_164 ?_
            refine EW.iadd dX9_partDone_165 ?_
            refine EW.top (nI_add _ _) ?_
            refine EW.goto 170 dX9_partDone_166 (by decide) ?_
            refine EW.iret rfl dX9_partDone_170 ?_
            exact ⟨rfl, rfl⟩
          · have c154 : ¬ (tx a = 43) := fun h => c154 ((nI_eq (by omega) (by omega)).mpr h); omega
  · have c9 : tx a = 42 := (nI_eq (by omega) (by omega)).mp c9; omega
set_option maxHeartbeats 4000000 in
theorem M_part58 (hl : l.stackTraces = false) (s : MSt) (u a z op p sg n : Nat) (tx : Nat → Nat) (hT : TXM s n tx) (ha : a < 900) (hz : s.2 10 6 = nI z) (hz9 : z < 60) (ho : s.1 35 = nI op) (ho8 : op < 8) (hp : s.1 36 = nI p) (hp9 : p < 32) (hsg : s.2 42 op = nI sg) (hu : u < 64) (hc : tx a = 43) (hs : sg = 33) : MtW (IM cy ad hp0) l D cy base mX9_partDone (0 + 1) 0 0 [.ref (ad 43), .int (nI u), .int (nI a)] s (fun o s2 => o = .inl (some (.int (nI (a + 1)))) ∧ s2 = fU 36 (nI (p + 1)) (aU 37 p (nI (z + 1)) (aU 42 op (vp_nar .char (nI 0)) (mdS (z + 1) 8 (nI z) (nI 0) (mdS z 5 (nI u) (nI 0) s))))) := by
  refine MtW.of hl mfX9_partDone rfl (Nat.le_of_ble_eq_true rfl) ?_
  have hta := hT.2.2.2.1 a
  refine EW.aload_n dX9_partDone_0 rfl rfl ?_
  refine EW.iload_n dX9_partDone_1 rfl rfl ?_
  refine EM.callV (M_lookT hl 0 s a n tx hT (by omega)) mfX9_look l_X9_123 mvX9_look (by omega) dX9_partDone_2 rfl rfl rfl rfl (Nat.le_of_ble_eq_true rfl) (fun _ _ q => nomatch q.1) (fun v2 s2 q2 => ?_)
  obtain ⟨e2, h2⟩ := q2; cases e2; replace h2 := h2.symm; subst h2
  refine EW.istore_n dX9_partDone_5 rfl (by decide) ?_
  refine EW.iload_n dX9_partDone_6 rfl rfl ?_
  refine EW.bp 42 dX9_partDone_7 ?_
  refine EW.icmp_ne 22 dX9_partDone_9 (by decide) (fun c9 => ?_) (fun c9 => ?_)
  · have c9 : ¬ (tx a = 42) := fun h => c9 ((nI_eq (by omega) (by omega)).mpr h)
    refine EW.iload_n dX9_partDone_22 rfl rfl ?_
    refine EW.bp 43 dX9_partDone_23 ?_
    refine EW.icmp_ne 38 dX9_partDone_25 (by decide) (fun c25 => ?_) (fun c25 => ?_)
    · have c25 : ¬ (tx a = 43) := fun h => c25 ((nI_eq (by omega) (by omega)).mpr h); omega
    · have c25 : tx a = 43 := (nI_eq (by omega) (by omega)).mp c25
      refine EW.aload_n dX9_partDone_28 rfl rfl ?_
      refine EW.ic 5 dX9_partDone_29 ?_
      refine EW.iload_n dX9_partDone_30 rfl rfl ?_
      refine EW.ic 0 dX9_partDone_31 ?_
      refine EM.callV (M_madeS hl 0 s z 5 (nI u) (nI 0) hz (by omega)) mfX9_made l_X9_127 mvX9_made (by omega) dX9_partDone_32 rfl rfl rfl rfl (Nat.le_of_ble_eq_true rfl) (fun _ _ q => nomatch q.1) (fun v32 s32 q32 => ?_)
      obtain ⟨e32, h32⟩ := q32; cases e32; replace h32 := h32.symm; subst h32
      refine EW.goto 56 dX9_partDone_35 (by decide) ?_
      refine EW.istore dX9_partDone_56 (by decide) ?_
      refine EW.aload_n dX9_partDone_58 rfl rfl ?_
      refine EM.get f_X9_99 dX9_partDone_59 rfl ?_
      refine EW.aload_n dX9_partDone_62 rfl rfl ?_
      refine EM.get f_X9_131 dX9_partDone_63 rfl ?_
      refine EW.top ho ?_
      refine EM.caldN op dX9_partDone_66 rfl rfl (by simp only [mLen]; omega) ?_
      refine EW.top ((mdS_o (by unfold pk; omega) (by omega)).trans hsg) ?_
      refine EW.bp 38 dX9_partDone_67 ?_
      refine EW.icmp_ne 84 dX9_partDone_69 (by decide) (fun c69 => ?_) (fun c69 => ?_)
      · have c69 : ¬ (sg = 38) := fun h => c69 ((nI_eq (by omega) (by omega)).mpr h)
        refine EW.aload_n dX9_partDone_84 rfl rfl ?_
        refine EM.get f_X9_99 dX9_partDone_85 rfl ?_
        refine EW.aload_n dX9_partDone_88 rfl rfl ?_
        refine EM.get f_X9_131 dX9_partDone_89 rfl ?_
        refine EW.top ho ?_
        refine EM.caldN op dX9_partDone_92 rfl rfl (by simp only [mLen]; omega) ?_
        refine EW.top ((mdS_o (by unfold pk; omega) (by omega)).trans hsg) ?_
        refine EW.bp 33 dX9_partDone_93 ?_
        refine EW.icmp_ne 110 dX9_partDone_95 (by decide) (fun c95 => ?_) (fun c95 => ?_)
        · have c95 : ¬ (sg = 33) := fun h => c95 ((nI_eq (by omega) (by omega)).mpr h); omega
        · have c95 : sg = 33 := (nI_eq (by omega) (by omega)).mp c95
          refine EW.aload_n dX9_partDone_98 rfl rfl ?_
          refine EW.bp 8 dX9_partDone_99 ?_
          refine EW.iload dX9_partDone_101 rfl ?_
          refine EW.ic 0 dX9_partDone_103 ?_
          refine EM.callV (M_madeS hl 0 (mdS z 5 (nI u) (nI 0) s) (z + 1) 8 (nI z) (nI 0) mdS_10 (by omega)) mfX9_made l_X9_127 mvX9_made (by omega) dX9_partDone_104 rfl rfl rfl rfl (Nat.le_of_ble_eq_true rfl) (fun _ _ q => nomatch q.1) (fun v104 s104 q104 => ?_)
          obtain ⟨e104, h104⟩ := q104; cases e104; replace h104 := h104.symm; subst h104
          refine EW.goto 112 dX9_partDone_107 (by decide) ?_
          refine EW.istore dX9_partDone_112 (by decide) ?_
          refine EW.aload_n dX9_partDone_114 rfl rfl ?_
          refine EM.get f_X9_99 dX9_partDone_115 rfl ?_
          refine EW.aload_n dX9_partDone_118 rfl rfl ?_
          refine EM.get f_X9_131 dX9_partDone_119 rfl ?_
          refine EW.top ho ?_
          refine EW.ic 0 dX9_partDone_122 ?_
          refine EM.castN (op) dX9_partDone_123 rfl rfl (by simp only [mLen]; omega) ?_
          refine EW.aload_n dX9_partDone_124 rfl rfl ?_
          refine EM.get f_X9_87 dX9_partDone_125 rfl ?_
          refine EW.aload_n dX9_partDone_128 rfl rfl ?_
          refine EM.get f_X9_134 dX9_partDone_129 rfl ?_
          refine EW.top hp ?_
          refine EW.iload dX9_partDone_132 rfl ?_
          refine EM.iastN (p) dX9_partDone_134 rfl rfl (by simp only [mLen]; omega) ?_
          refine EW.aload_n dX9_partDone_135 rfl rfl ?_
          refine EW.dup dX9_partDone_136 rfl ?_
          refine EM.get f_X9_134 dX9_partDone_137 rfl ?_
          refine EW.top hp ?_
          refine EW.ic 1 dX9_partDone_140 ?_
          refine EW.iadd dX9_partDone_141 ?_
          refine EW.top (nI_add _ _) ?_
          refine EM.put f_X9_134 dX9_partDone_142 rfl ?_
          refine EW.iload_n dX9_partDone_145 rfl rfl ?_
          refine EW.bp 42 dX9_partDone_146 ?_
          refine EW.icmp_eq 163 dX9_partDone_148 (by decide) (fun c148 => ?_) (fun c148 => ?_)
          · have c148 : tx a = 42 := (nI_eq (by omega) (by omega)).mp c148; omega
          · have c148 : ¬ (tx a = 42) := fun h => c148 ((nI_eq (by omega) (by omega)).mpr h)
            refine EW.iload_n dX9_partDone_151 rfl rfl ?_
            refine EW.bp 43 dX9_partDone_152 ?_
            refine EW.icmp_eq 163 dX9_partDone_154 (by decide) (fun c154 => ?_) (fun c154 => ?_)
            · have c154 : tx a = 43 := (nI_eq (by omega) (by omega)).mp c154
              refine EW.iload_n dX9_partDone_163 rfl rfl ?_
              refine EW.ic 1 dX9_partDone_164 ?_
              refine EW.iadd dX9_partDone_165 ?_
              refine EW.top (nI_add _ _) ?_
              refine EW.goto 170 dX9_partDone_166 (by decide) ?_
              refine EW.iret rfl dX9_partDone_170 ?_
              exact ⟨rfl, rfl⟩
            · have c154 : ¬ (tx a = 43) := fun h => c154 ((nI_eq (by omega) (by omega)).mpr h); omega
      · have c69 : sg = 38 := (nI_eq (by omega) (by omega)).mp c69; omega
  · have c9 : tx a = 42 := (nI_eq (by omega) (by omega)).mp c9; omega
set_option maxHeartbeats 4000000 in
theorem M_part60 (hl : l.stackTraces = false) (s : MSt) (u a z op p sg n : Nat) (tx : Nat → Nat) (hT : TXM s n tx) (ha : a < 900) (hz : s.2 10 6 = nI z) (hz9 : z < 60) (ho : s.1 35 = nI op) (ho8 : op < 8) (hp : s.1 36 = nI p) (hp9 : p < 32) (hsg : s.2 42 op = nI sg) (hu : u < 64) (hc : tx a = 63) (h38 : ¬ sg = 38) (h33 : ¬ sg = 33) (hsg9 : sg < 128) : MtW (IM cy ad hp0) l D cy base mX9_partDone (0 + 1) 0 0 [.ref (ad 43), .int (nI u), .int (nI a)] s (fun o s2 => o = .inl (some (.int (nI (a + 1)))) ∧ s2 = fU 36 (nI (p + 1)) (aU 37 p (nI z) (aU 42 op (vp_nar .char (nI 0)) (mdS z 6 (nI u) (nI 0) s)))) := by
  refine MtW.of hl mfX9_partDone rfl (Nat.le_of_ble_eq_true rfl) ?_
  have hta := hT.2.2.2.1 a
  refine EW.aload_n dX9_partDone_0 rfl rfl ?_
  refine EW.iload_n dX9_partDone_1 rfl rfl ?_
  refine EM.callV (M_lookT hl 0 s a n tx hT (by omega)) mfX9_look l_X9_123 mvX9_look (by omega) dX9_partDone_2 rfl rfl rfl rfl (Nat.le_of_ble_eq_true rfl) (fun _ _ q => nomatch q.1) (fun v2 s2 q2 => ?_)
  obtain ⟨e2, h2⟩ := q2; cases e2; replace h2 := h2.symm; subst h2
  refine EW.istore_n dX9_partDone_5 rfl (by decide) ?_
  refine EW.iload_n dX9_partDone_6 rfl rfl ?_
  refine EW.bp 42 dX9_partDone_7 ?_
  refine EW.icmp_ne 22 dX9_partDone_9 (by decide) (fun c9 => ?_) (fun c9 => ?_)
  · have c9 : ¬ (tx a = 42) := fun h => c9 ((nI_eq (by omega) (by omega)).mpr h)
    refine EW.iload_n dX9_partDone_22 rfl rfl ?_
    refine EW.bp 43 dX9_partDone_23 ?_
    refine EW.icmp_ne 38 dX9_partDone_25 (by decide) (fun c25 => ?_) (fun c25 => ?_)
    · have c25 : ¬ (tx a = 43) := fun h => c25 ((nI_eq (by omega) (by omega)).mpr h)
      refine EW.iload_n dX9_partDone_38 rfl rfl ?_
      refine EW.bp 63 dX9_partDone_39 ?_
      refine EW.icmp_ne 55 dX9_partDone_41 (by decide) (fun c41 => ?_) (fun c41 => ?_)
      · have c41 : ¬ (tx a = 63) := fun h => c41 ((nI_eq (by omega) (by omega)).mpr h); omega
      · have c41 : tx a = 63 := (nI_eq (by omega) (by omega)).mp c41
        refine EW.aload_n dX9_partDone_44 rfl rfl ?_
        refine EW.bp 6 dX9_partDone_45 ?_
        refine EW.iload_n dX9_partDone_47 rfl rfl ?_
        refine EW.ic 0 dX9_partDone_48 ?_
        refine EM.callV (M_madeS hl 0 s z 6 (nI u) (nI 0) hz (by omega)) mfX9_made l_X9_127 mvX9_made (by omega) dX9_partDone_49 rfl rfl rfl rfl (Nat.le_of_ble_eq_true rfl) (fun _ _ q => nomatch q.1) (fun v49 s49 q49 => ?_)
        obtain ⟨e49, h49⟩ := q49; cases e49; replace h49 := h49.symm; subst h49
        refine EW.goto 56 dX9_partDone_52 (by decide) ?_
        refine EW.istore dX9_partDone_56 (by decide) ?_
        refine EW.aload_n dX9_partDone_58 rfl rfl ?_
        refine EM.get f_X9_99 dX9_partDone_59 rfl ?_
        refine EW.aload_n dX9_partDone_62 rfl rfl ?_
        refine EM.get f_X9_131 dX9_partDone_63 rfl ?_
        refine EW.top ho ?_
        refine EM.caldN op dX9_partDone_66 rfl rfl (by simp only [mLen]; omega) ?_
        refine EW.top ((mdS_o (by unfold pk; omega) (by omega)).trans hsg) ?_
        refine EW.bp 38 dX9_partDone_67 ?_
        refine EW.icmp_ne 84 dX9_partDone_69 (by decide) (fun c69 => ?_) (fun c69 => ?_)
        · have c69 : ¬ (sg = 38) := fun h => c69 ((nI_eq (by omega) (by omega)).mpr h)
          refine EW.aload_n dX9_partDone_84 rfl rfl ?_
          refine EM.get f_X9_99 dX9_partDone_85 rfl ?_
          refine EW.aload_n dX9_partDone_88 rfl rfl ?_
          refine EM.get f_X9_131 dX9_partDone_89 rfl ?_
          refine EW.top ho ?_
          refine EM.caldN op dX9_partDone_92 rfl rfl (by simp only [mLen]; omega) ?_
          refine EW.top ((mdS_o (by unfold pk; omega) (by omega)).trans hsg) ?_
          refine EW.bp 33 dX9_partDone_93 ?_
          refine EW.icmp_ne 110 dX9_partDone_95 (by decide) (fun c95 => ?_) (fun c95 => ?_)
          · have c95 : ¬ (sg = 33) := fun h => c95 ((nI_eq (by omega) (by omega)).mpr h)
            refine EW.iload dX9_partDone_110 rfl ?_
            refine EW.istore dX9_partDone_112 (by decide) ?_
            refine EW.aload_n dX9_partDone_114 rfl rfl ?_
            refine EM.get f_X9_99 dX9_partDone_115 rfl ?_
            refine EW.aload_n dX9_partDone_118 rfl rfl ?_
            refine EM.get f_X9_131 dX9_partDone_119 rfl ?_
            refine EW.top ho ?_
            refine EW.ic 0 dX9_partDone_122 ?_
            refine EM.castN (op) dX9_partDone_123 rfl rfl (by simp only [mLen]; omega) ?_
            refine EW.aload_n dX9_partDone_124 rfl rfl ?_
            refine EM.get f_X9_87 dX9_partDone_125 rfl ?_
            refine EW.aload_n dX9_partDone_128 rfl rfl ?_
            refine EM.get f_X9_134 dX9_partDone_129 rfl ?_
            refine EW.top hp ?_
            refine EW.iload dX9_partDone_132 rfl ?_
            refine EM.iastN (p) dX9_partDone_134 rfl rfl (by simp only [mLen]; omega) ?_
            refine EW.aload_n dX9_partDone_135 rfl rfl ?_
            refine EW.dup dX9_partDone_136 rfl ?_
            refine EM.get f_X9_134 dX9_partDone_137 rfl ?_
            refine EW.top hp ?_
            refine EW.ic 1 dX9_partDone_140 ?_
            refine EW.iadd dX9_partDone_141 ?_
            refine EW.top (nI_add _ _) ?_
            refine EM.put f_X9_134 dX9_partDone_142 rfl ?_
            refine EW.iload_n dX9_partDone_145 rfl rfl ?_
            refine EW.bp 42 dX9_partDone_146 ?_
            refine EW.icmp_eq 163 dX9_partDone_148 (by decide) (fun c148 => ?_) (fun c148 => ?_)
            · have c148 : tx a = 42 := (nI_eq (by omega) (by omega)).mp c148; omega
            · have c148 : ¬ (tx a = 42) := fun h => c148 ((nI_eq (by omega) (by omega)).mpr h)
              refine EW.iload_n dX9_partDone_151 rfl rfl ?_
              refine EW.bp 43 dX9_partDone_152 ?_
              refine EW.icmp_eq 163 dX9_partDone_154 (by decide) (fun c154 => ?_) (fun c154 => ?_)
              · have c154 : tx a = 43 := (nI_eq (by omega) (by omega)).mp c154; omega
              · have c154 : ¬ (tx a = 43) := fun h => c154 ((nI_eq (by omega) (by omega)).mpr h)
                refine EW.iload_n dX9_partDone_157 rfl rfl ?_
                refine EW.bp 63 dX9_partDone_158 ?_
                refine EW.icmp_ne 169 dX9_partDone_160 (by decide) (fun c160 => ?_) (fun c160 => ?_)
                · have c160 : ¬ (tx a = 63) := fun h => c160 ((nI_eq (by omega) (by omega)).mpr h); omega
                · have c160 : tx a = 63 := (nI_eq (by omega) (by omega)).mp c160
                  refine EW.iload_n dX9_partDone_163 rfl rfl ?_
                  refine EW.ic 1 dX9_partDone_164 ?_
                  refine EW.iadd dX9_partDone_165 ?_
                  refine EW.top (nI_add _ _) ?_
                  refine EW.goto 170 dX9_partDone_166 (by decide) ?_
                  refine EW.iret rfl dX9_partDone_170 ?_
                  exact ⟨rfl, rfl⟩
          · have c95 : sg = 33 := (nI_eq (by omega) (by omega)).mp c95; omega
        · have c69 : sg = 38 := (nI_eq (by omega) (by omega)).mp c69; omega
    · have c25 : tx a = 43 := (nI_eq (by omega) (by omega)).mp c25; omega
  · have c9 : tx a = 42 := (nI_eq (by omega) (by omega)).mp c9; omega
set_option maxHeartbeats 4000000 in
theorem M_part67 (hl : l.stackTraces = false) (s : MSt) (u a z op p sg n : Nat) (tx : Nat → Nat) (hT : TXM s n tx) (ha : a < 900) (hz : s.2 10 6 = nI z) (hz9 : z < 60) (ho : s.1 35 = nI op) (ho8 : op < 8) (hp : s.1 36 = nI p) (hp9 : p < 32) (hsg : s.2 42 op = nI sg) (hu : u < 64) (hc : tx a = 63) (hs : sg = 38) : MtW (IM cy ad hp0) l D cy base mX9_partDone (0 + 1) 0 0 [.ref (ad 43), .int (nI u), .int (nI a)] s (fun o s2 => o = .inl (some (.int (nI (a + 1)))) ∧ s2 = fU 36 (nI (p + 1)) (aU 37 p (nI (z + 1)) (aU 42 op (vp_nar .char (nI 0)) (mdS (z + 1) 7 (nI z) (nI 0) (mdS z 6 (nI u) (nI 0) s))))) := by
  refine MtW.of hl mfX9_partDone rfl (Nat.le_of_ble_eq_true rfl) ?_
  have hta := hT.2.2.2.1 a
  refine EW.aload_n dX9_partDone_0 rfl rfl ?_
  refine EW.iload_n dX9_partDone_1 rfl rfl ?_
  refine EM.callV (M_lookT hl 0 s a n tx hT (by omega)) mfX9_look l_X9_123 mvX9_look (by omega) dX9_partDone_2 rfl rfl rfl rfl (Nat.le_of_ble_eq_true rfl) (fun _ _ q => nomatch q.1) (fun v2 s2 q2 => ?_)
  obtain ⟨e2, h2⟩ := q2; cases e2; replace h2 := h2.symm; subst h2
  refine EW.istore_n dX9_partDone_5 rfl (by decide) ?_
  refine EW.iload_n dX9_partDone_6 rfl rfl ?_
  refine EW.bp 42 dX9_partDone_7 ?_
  refine EW.icmp_ne 22 dX9_partDone_9 (by decide) (fun c9 => ?_) (fun c9 => ?_)
  · have c9 : ¬ (tx a = 42) := fun h => c9 ((nI_eq (by omega) (by omega)).mpr h)
    refine EW.iload_n dX9_partDone_22 rfl rfl ?_
    refine EW.bp 43 dX9_partDone_23 ?_
    refine EW.icmp_ne 38 dX9_partDone_25 (by decide) (fun c25 => ?_) (fun c25 => ?_)
    · have c25 : ¬ (tx a = 43) := fun h => c25 ((nI_eq (by omega) (by omega)).mpr h)
      refine EW.iload_n dX9_partDone_38 rfl rfl ?_
      refine EW.bp 63 dX9_partDone_39 ?_
      refine EW.icmp_ne 55 dX9_partDone_41 (by decide) (fun c41 => ?_) (fun c41 => ?_)
      · have c41 : ¬ (tx a = 63) := fun h => c41 ((nI_eq (by omega) (by omega)).mpr h); omega
      · have c41 : tx a = 63 := (nI_eq (by omega) (by omega)).mp c41
        refine EW.aload_n dX9_partDone_44 rfl rfl ?_
        refine EW.bp 6 dX9_partDone_45 ?_
        refine EW.iload_n dX9_partDone_47 rfl rfl ?_
        refine EW.ic 0 dX9_partDone_48 ?_
        refine EM.callV (M_madeS hl 0 s z 6 (nI u) (nI 0) hz (by omega)) mfX9_made l_X9_127 mvX9_made (by omega) dX9_partDone_49 rfl rfl rfl rfl (Nat.le_of_ble_eq_true rfl) (fun _ _ q => nomatch q.1) (fun v49 s49 q49 => ?_)
        obtain ⟨e49, h49⟩ := q49; cases e49; replace h49 := h49.symm; subst h49
        refine EW.goto 56 dX9_partDone_52 (by decide) ?_
        refine EW.istore dX9_partDone_56 (by decide) ?_
        refine EW.aload_n dX9_partDone_58 rfl rfl ?_
        refine EM.get f_X9_99 dX9_partDone_59 rfl ?_
        refine EW.aload_n dX9_partDone_62 rfl rfl ?_
        refine EM.get f_X9_131 dX9_partDone_63 rfl ?_
        refine EW.top ho ?_
        refine EM.caldN op dX9_partDone_66 rfl rfl (by simp only [mLen]; omega) ?_
        refine EW.top ((mdS_o (by unfold pk; omega) (by omega)).trans hsg) ?_
        refine EW.bp 38 dX9_partDone_67 ?_
        refine EW.icmp_ne 84 dX9_partDone_69 (by decide) (fun c69 => ?_) (fun c69 => ?_)
        · have c69 : ¬ (sg = 38) := fun h => c69 ((nI_eq (by omega) (by omega)).mpr h); omega
        · have c69 : sg = 38 := (nI_eq (by omega) (by omega)).mp c69
          refine EW.aload_n dX9_partDone_72 rfl rfl ?_
          refine EW.bp 7 dX9_partDone_73 ?_
          refine EW.iload dX9_partDone_75 rfl ?_
          refine EW.ic 0 dX9_partDone_77 ?_
          refine EM.callV (M_madeS hl 0 (mdS z 6 (nI u) (nI 0) s) (z + 1) 7 (nI z) (nI 0) mdS_10 (by omega)) mfX9_made l_X9_127 mvX9_made (by omega) dX9_partDone_78 rfl rfl rfl rfl (Nat.le_of_ble_eq_true rfl) (fun _ _ q => nomatch q.1) (fun v78 s78 q78 => ?_)
          obtain ⟨e78, h78⟩ := q78; cases e78; replace h78 := h78.symm; subst h78
          refine EW.goto 112 dX9_partDone_81 (by decide) ?_
          refine EW.istore dX9_partDone_112 (by decide) ?_
          refine EW.aload_n dX9_partDone_114 rfl rfl ?_
          refine EM.get f_X9_99 dX9_partDone_115 rfl ?_
          refine EW.aload_n dX9_partDone_118 rfl rfl ?_
          refine EM.get f_X9_131 dX9_partDone_119 rfl ?_
          refine EW.top ho ?_
          refine EW.ic 0 dX9_partDone_122 ?_
          refine EM.castN (op) dX9_partDone_123 rfl rfl (by simp only [mLen]; omega) ?_
          refine EW.aload_n dX9_partDone_124 rfl rfl ?_
          refine EM.get f_X9_87 dX9_partDone_125 rfl ?_
          refine EW.aload_n dX9_partDone_128 rfl rfl ?_
          refine EM.get f_X9_134 dX9_partDone_129 rfl ?_
          refine EW.top hp ?_
          refine EW.iload dX9_partDone_132 rfl ?_
          refine EM.iastN (p) dX9_partDone_134 rfl rfl (by simp only [mLen]; omega) ?_
          refine EW.aload_n dX9_partDone_135 rfl rfl ?_
          refine EW.dup dX9_partDone_136 rfl ?_
          refine EM.get f_X9_134 dX9_partDone_137 rfl ?_
          refine EW.top hp ?_
          refine EW.ic 1 dX9_partDone_140 ?_
          refine EW.iadd dX9_partDone_141 ?_
          refine EW.top (nI_add _ _) ?_
          refine EM.put f_X9_134 dX9_partDone_142 rfl ?_
          refine EW.iload_n dX9_partDone_145 rfl rfl ?_
          refine EW.bp 42 dX9_partDone_146 ?_
          refine EW.icmp_eq 163 dX9_partDone_148 (by decide) (fun c148 => ?_) (fun c148 => ?_)
          · have c148 : tx a = 42 := (nI_eq (by omega) (by omega)).mp c148; omega
          · have c148 : ¬ (tx a = 42) := fun h => c148 ((nI_eq (by omega) (by omega)).mpr h)
            refine EW.iload_n dX9_partDone_151 rfl rfl ?_
            refine EW.bp 43 dX9_partDone_152 ?_
            refine EW.icmp_eq 163 dX9_partDone_154 (by decide) (fun c154 => ?_) (fun c154 => ?_)
            · have c154 : tx a = 43 := (nI_eq (by omega) (by omega)).mp c154; omega
            · have c154 : ¬ (tx a = 43) := fun h => c154 ((nI_eq (by omega) (by omega)).mpr h)
              refine EW.iload_n dX9_partDone_157 rfl rfl ?_
              refine EW.bp 63 dX9_partDone_158 ?_
              refine EW.icmp_ne 169 dX9_partDone_160 (by decide) (fun c160 => ?_) (fun c160 => ?_)
              · have c160 : ¬ (tx a = 63) := fun h => c160 ((nI_eq (by omega) (by omega)).mpr h); omega
              · have c160 : tx a = 63 := (nI_eq (by omega) (by omega)).mp c160
                refine EW.iload_n dX9_partDone_163 rfl rfl ?_
                refine EW.ic 1 dX9_partDone_164 ?_
                refine EW.iadd dX9_partDone_165 ?_
                refine EW.top (nI_add _ _) ?_
                refine EW.goto 170 dX9_partDone_166 (by decide) ?_
                refine EW.iret rfl dX9_partDone_170 ?_
                exact ⟨rfl, rfl⟩
    · have c25 : tx a = 43 := (nI_eq (by omega) (by omega)).mp c25; omega
  · have c9 : tx a = 42 := (nI_eq (by omega) (by omega)).mp c9; omega
set_option maxHeartbeats 4000000 in
theorem M_part68 (hl : l.stackTraces = false) (s : MSt) (u a z op p sg n : Nat) (tx : Nat → Nat) (hT : TXM s n tx) (ha : a < 900) (hz : s.2 10 6 = nI z) (hz9 : z < 60) (ho : s.1 35 = nI op) (ho8 : op < 8) (hp : s.1 36 = nI p) (hp9 : p < 32) (hsg : s.2 42 op = nI sg) (hu : u < 64) (hc : tx a = 63) (hs : sg = 33) : MtW (IM cy ad hp0) l D cy base mX9_partDone (0 + 1) 0 0 [.ref (ad 43), .int (nI u), .int (nI a)] s (fun o s2 => o = .inl (some (.int (nI (a + 1)))) ∧ s2 = fU 36 (nI (p + 1)) (aU 37 p (nI (z + 1)) (aU 42 op (vp_nar .char (nI 0)) (mdS (z + 1) 8 (nI z) (nI 0) (mdS z 6 (nI u) (nI 0) s))))) := by
  refine MtW.of hl mfX9_partDone rfl (Nat.le_of_ble_eq_true rfl) ?_
  have hta := hT.2.2.2.1 a
  refine EW.aload_n dX9_partDone_0 rfl rfl ?_
  refine EW.iload_n dX9_partDone_1 rfl rfl ?_
  refine EM.callV (M_lookT hl 0 s a n tx hT (by omega)) mfX9_look l_X9_123 mvX9_look (by omega) dX9_partDone_2 rfl rfl rfl rfl (Nat.le_of_ble_eq_true rfl) (fun _ _ q => nomatch q.1) (fun v2 s2 q2 => ?_)
  obtain ⟨e2, h2⟩ := q2; cases e2; replace h2 := h2.symm; subst h2
  refine EW.istore_n dX9_partDone_5 rfl (by decide) ?_
  refine EW.iload_n dX9_partDone_6 rfl rfl ?_
  refine EW.bp 42 dX9_partDone_7 ?_
  refine EW.icmp_ne 22 dX9_partDone_9 (by decide) (fun c9 => ?_) (fun c9 => ?_)
  · have c9 : ¬ (tx a = 42) := fun h => c9 ((nI_eq (by omega) (by omega)).mpr h)
    refine EW.iload_n dX9_partDone_22 rfl rfl ?_
    refine EW.bp 43 dX9_partDone_23 ?_
    refine EW.icmp_ne 38 dX9_partDone_25 (by decide) (fun c25 => ?_) (fun c25 => ?_)
    · have c25 : ¬ (tx a = 43) := fun h => c25 ((nI_eq (by omega) (by omega)).mpr h)
      refine EW.iload_n dX9_partDone_38 rfl rfl ?_
      refine EW.bp 63 dX9_partDone_39 ?_
      refine EW.icmp_ne 55 dX9_partDone_41 (by decide) (fun c41 => ?_) (fun c41 => ?_)
      · have c41 : ¬ (tx a = 63) := fun h => c41 ((nI_eq (by omega) (by omega)).mpr h); omega
      · have c41 : tx a = 63 := (nI_eq (by omega) (by omega)).mp c41
        refine EW.aload_n dX9_partDone_44 rfl rfl ?_
        refine EW.bp 6 dX9_partDone_45 ?_
        refine EW.iload_n dX9_partDone_47 rfl rfl ?_
        refine EW.ic 0 dX9_partDone_48 ?_
        refine EM.callV (M_madeS hl 0 s z 6 (nI u) (nI 0) hz (by omega)) mfX9_made l_X9_127 mvX9_made (by omega) dX9_partDone_49 rfl rfl rfl rfl (Nat.le_of_ble_eq_true rfl) (fun _ _ q => nomatch q.1) (fun v49 s49 q49 => ?_)
        obtain ⟨e49, h49⟩ := q49; cases e49; replace h49 := h49.symm; subst h49
        refine EW.goto 56 dX9_partDone_52 (by decide) ?_
        refine EW.istore dX9_partDone_56 (by decide) ?_
        refine EW.aload_n dX9_partDone_58 rfl rfl ?_
        refine EM.get f_X9_99 dX9_partDone_59 rfl ?_
        refine EW.aload_n dX9_partDone_62 rfl rfl ?_
        refine EM.get f_X9_131 dX9_partDone_63 rfl ?_
        refine EW.top ho ?_
        refine EM.caldN op dX9_partDone_66 rfl rfl (by simp only [mLen]; omega) ?_
        refine EW.top ((mdS_o (by unfold pk; omega) (by omega)).trans hsg) ?_
        refine EW.bp 38 dX9_partDone_67 ?_
        refine EW.icmp_ne 84 dX9_partDone_69 (by decide) (fun c69 => ?_) (fun c69 => ?_)
        · have c69 : ¬ (sg = 38) := fun h => c69 ((nI_eq (by omega) (by omega)).mpr h)
          refine EW.aload_n dX9_partDone_84 rfl rfl ?_
          refine EM.get f_X9_99 dX9_partDone_85 rfl ?_
          refine EW.aload_n dX9_partDone_88 rfl rfl ?_
          refine EM.get f_X9_131 dX9_partDone_89 rfl ?_
          refine EW.top ho ?_
          refine EM.caldN op dX9_partDone_92 rfl rfl (by simp only [mLen]; omega) ?_
          refine EW.top ((mdS_o (by unfold pk; omega) (by omega)).trans hsg) ?_
          refine EW.bp 33 dX9_partDone_93 ?_
          refine EW.icmp_ne 110 dX9_partDone_95 (by decide) (fun c95 => ?_) (fun c95 => ?_)
          · have c95 : ¬ (sg = 33) := fun h => c95 ((nI_eq (by omega) (by omega)).mpr h); omega
          · have c95 : sg = 33 := (nI_eq (by omega) (by omega)).mp c95
            refine EW.aload_n dX9_partDone_98 rfl rfl ?_
            refine EW.bp 8 dX9_partDone_99 ?_
            refine EW.iload dX9_partDone_101 rfl ?_
            refine EW.ic 0 dX9_partDone_103 ?_
            refine EM.callV (M_madeS hl 0 (mdS z 6 (nI u) (nI 0) s) (z + 1) 8 (nI z) (nI 0) mdS_10 (by omega)) mfX9_made l_X9_127 mvX9_made (by omega) dX9_partDone_104 rfl rfl rfl rfl (Nat.le_of_ble_eq_true rfl) (fun _ _ q => nomatch q.1) (fun v104 s104 q104 => ?_)
            obtain ⟨e104, h104⟩ := q104; cases e104; replace h104 := h104.symm; subst h104
            refine EW.goto 112 dX9_partDone_107 (by decide) ?_
            refine EW.istore dX9_partDone_112 (by decide) ?_
            refine EW.aload_n dX9_partDone_114 rfl rfl ?_
            refine EM.get f_X9_99 dX9_partDone_115 rfl ?_
            refine EW.aload_n dX9_partDone_118 rfl rfl ?_
            refine EM.get f_X9_131 dX9_partDone_119 rfl ?_
            refine EW.top ho ?_
            refine EW.ic 0 dX9_partDone_122 ?_
            refine EM.castN (op) dX9_partDone_123 rfl rfl (by simp only [mLen]; omega) ?_
            refine EW.aload_n dX9_partDone_124 rfl rfl ?_
            refine EM.get f_X9_87 dX9_partDone_125 rfl ?_
            refine EW.aload_n dX9_partDone_128 rfl rfl ?_
            refine EM.get f_X9_134 dX9_partDone_129 rfl ?_
            refine EW.top hp ?_
            refine EW.iload dX9_partDone_132 rfl ?_
            refine EM.iastN (p) dX9_partDone_134 rfl rfl (by simp only [mLen]; omega) ?_
            refine EW.aload_n dX9_partDone_135 rfl rfl ?_
            refine EW.dup dX9_partDone_136 rfl ?_
            refine EM.get f_X9_134 dX9_partDone_137 rfl ?_
            refine EW.top hp ?_
            refine EW.ic 1 dX9_partDone_140 ?_
            refine EW.iadd dX9_partDone_141 ?_
            refine EW.top (nI_add _ _) ?_
            refine EM.put f_X9_134 dX9_partDone_142 rfl ?_
            refine EW.iload_n dX9_partDone_145 rfl rfl ?_
            refine EW.bp 42 dX9_partDone_146 ?_
            refine EW.icmp_eq 163 dX9_partDone_148 (by decide) (fun c148 => ?_) (fun c148 => ?_)
            · have c148 : tx a = 42 := (nI_eq (by omega) (by omega)).mp c148; omega
            · have c148 : ¬ (tx a = 42) := fun h => c148 ((nI_eq (by omega) (by omega)).mpr h)
              refine EW.iload_n dX9_partDone_151 rfl rfl ?_
              refine EW.bp 43 dX9_partDone_152 ?_
              refine EW.icmp_eq 163 dX9_partDone_154 (by decide) (fun c154 => ?_) (fun c154 => ?_)
              · have c154 : tx a = 43 := (nI_eq (by omega) (by omega)).mp c154; omega
              · have c154 : ¬ (tx a = 43) := fun h => c154 ((nI_eq (by omega) (by omega)).mpr h)
                refine EW.iload_n dX9_partDone_157 rfl rfl ?_
                refine EW.bp 63 dX9_partDone_158 ?_
                refine EW.icmp_ne 169 dX9_partDone_160 (by decide) (fun c160 => ?_) (fun c160 => ?_)
                · have c160 : ¬ (tx a = 63) := fun h => c160 ((nI_eq (by omega) (by omega)).mpr h); omega
                · have c160 : tx a = 63 := (nI_eq (by omega) (by omega)).mp c160
                  refine EW.iload_n dX9_partDone_163 rfl rfl ?_
                  refine EW.ic 1 dX9_partDone_164 ?_
                  refine EW.iadd dX9_partDone_165 ?_
                  refine EW.top (nI_add _ _) ?_
                  refine EW.goto 170 dX9_partDone_166 (by decide) ?_
                  refine EW.iret rfl dX9_partDone_170 ?_
                  exact ⟨rfl, rfl⟩
        · have c69 : sg = 38 := (nI_eq (by omega) (by omega)).mp c69; omega
    · have c25 : tx a = 43 := (nI_eq (by omega) (by omega)).mp c25; omega
  · have c9 : tx a = 42 := (nI_eq (by omega) (by omega)).mp c9; omega
end M17
