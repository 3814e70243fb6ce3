section M4
variable {cy : Nat → ClassId} {ad : Nat → Nat} {hp0 : Hp} {l : Launch} {D : va_G} {base : Nat}
set_option maxHeartbeats 4000000 in
theorem M_ask0 (hl : l.stackTraces = false) (d : Nat) (s : MSt) (k p : Nat) (hk9 : k < 448) (hp9 : p ≤ 20) (n lo hi : Nat) (hkd : s.2 5 k = nI 0) (hn : s.1 3 = nI n) (hn9 : n ≤ 20) (h : ¬ p < n) : MtW (IM cy ad hp0) l D cy base mX9_ask (d + 2) 0 0 [.ref (ad 43), .int (nI k), .int (nI p)] s (fun o s2 => o = .inl (some (.int (-1))) ∧ s2 = s) := by
  refine MtW.of hl mfX9_ask rfl (Nat.le_of_ble_eq_true rfl) ?_
  refine EW.aload_n dX9_ask_0 rfl rfl ?_
  refine EM.get f_X9_17 dX9_ask_1 rfl ?_
  refine EW.iload_n dX9_ask_4 rfl rfl ?_
  refine EM.ialdN k dX9_ask_5 rfl rfl (by simp only [mLen]; omega) ?_
  refine EW.top hkd ?_
  refine EW.if_ne 49 dX9_ask_6 (by decide) (fun c6 => ?_) (fun c6 => ?_)
  · exact absurd c6 (by decide +kernel)
  · refine EW.iload_n dX9_ask_9 rfl rfl ?_
    refine EW.aload_n dX9_ask_10 rfl rfl ?_
    refine EM.get f_X9_168 dX9_ask_11 rfl ?_
    refine EW.top hn ?_
    refine EW.icmp_ge 47 dX9_ask_14 (by decide) (fun c14 => ?_) (fun c14 => ?_)
    · have c14 : n ≤ p := (nI_leI (by omega) (by omega)).mp c14
      refine EW.iconst (v := -1) dX9_ask_47 (by decide +kernel) ?_
      refine EW.iret rfl dX9_ask_48 ?_
      exact ⟨rfl, rfl⟩
    · have c14 : ¬ (n ≤ p) := fun h => c14 ((nI_leI (by omega) (by omega)).mpr h); omega
set_option maxHeartbeats 4000000 in
theorem M_ask1 (hl : l.stackTraces = false) (d : Nat) (s : MSt) (k p : Nat) (hk9 : k < 448) (hp9 : p ≤ 20) (n lo hi : Nat) (hkd : s.2 5 k = nI 0) (hn : s.1 3 = nI n) (hn9 : n ≤ 20) (q : Nat) (h : p < n) (hq : s.2 4 p = nI q) (hlo : s.2 6 k = nI lo) (hhi : s.2 7 k = nI hi) (h100 : q < 100 ∧ lo < 100 ∧ hi < 100) (h2 : lo ≤ q ∧ q ≤ hi) : MtW (IM cy ad hp0) l D cy base mX9_ask (d + 2) 0 0 [.ref (ad 43), .int (nI k), .int (nI p)] s (fun o s2 => o = .inl (some (.int (nI (p + 1)))) ∧ s2 = s) := by
  refine MtW.of hl mfX9_ask rfl (Nat.le_of_ble_eq_true rfl) ?_
  refine EW.aload_n dX9_ask_0 rfl rfl ?_
  refine EM.get f_X9_17 dX9_ask_1 rfl ?_
  refine EW.iload_n dX9_ask_4 rfl rfl ?_
  refine EM.ialdN k dX9_ask_5 rfl rfl (by simp only [mLen]; omega) ?_
  refine EW.top hkd ?_
  refine EW.if_ne 49 dX9_ask_6 (by decide) (fun c6 => ?_) (fun c6 => ?_)
  · exact absurd c6 (by decide +kernel)
  · refine EW.iload_n dX9_ask_9 rfl rfl ?_
    refine EW.aload_n dX9_ask_10 rfl rfl ?_
    refine EM.get f_X9_168 dX9_ask_11 rfl ?_
    refine EW.top hn ?_
    refine EW.icmp_ge 47 dX9_ask_14 (by decide) (fun c14 => ?_) (fun c14 => ?_)
    · have c14 : n ≤ p := (nI_leI (by omega) (by omega)).mp c14; omega
    · have c14 : ¬ (n ≤ p) := fun h => c14 ((nI_leI (by omega) (by omega)).mpr h)
      refine EW.aload_n dX9_ask_17 rfl rfl ?_
      refine EM.get f_X9_13 dX9_ask_18 rfl ?_
      refine EW.iload_n dX9_ask_21 rfl rfl ?_
      refine EM.ialdN p dX9_ask_22 rfl rfl (by simp only [mLen]; omega) ?_
      refine EW.top hq ?_
      refine EW.aload_n dX9_ask_23 rfl rfl ?_
      refine EM.get f_X9_20 dX9_ask_24 rfl ?_
      refine EW.iload_n dX9_ask_27 rfl rfl ?_
      refine EM.ialdN k dX9_ask_28 rfl rfl (by simp only [mLen]; omega) ?_
      refine EW.top hlo ?_
      refine EW.aload_n dX9_ask_29 rfl rfl ?_
      refine EM.get f_X9_23 dX9_ask_30 rfl ?_
      refine EW.iload_n dX9_ask_33 rfl rfl ?_
      refine EM.ialdN k dX9_ask_34 rfl rfl (by simp only [mLen]; omega) ?_
      refine EW.top hhi ?_
      refine EW.callS (bc := 0) (bs := 0) (M_in hl _ 0 s (nI q) (nI lo) (nI hi)) mfX9_in rfl l_X9_109 mvX9_in (by omega) dX9_ask_35 rfl rfl (Nat.le_of_ble_eq_true rfl) (fun v35 s35 q35 => ?_) (fun _ _ q => nomatch q.1)
      obtain ⟨e35, h35⟩ := q35; cases e35; replace h35 := h35.symm; subst h35
      refine EW.top (y := nI 1) ((if_pos ⟨(nI_leI (by omega) (by omega)).mpr h2.1, (nI_leI (by omega) (by omega)).mpr h2.2⟩).trans (by decide +kernel)) ?_
      refine EW.if_eq 47 dX9_ask_38 (by decide) (fun c38 => ?_) (fun c38 => ?_)
      · exact absurd c38 (by decide +kernel)
      · refine EW.iload_n dX9_ask_41 rfl rfl ?_
        refine EW.ic 1 dX9_ask_42 ?_
        refine EW.iadd dX9_ask_43 ?_
        refine EW.top (nI_add _ _) ?_
        refine EW.goto 48 dX9_ask_44 (by decide) ?_
        refine EW.iret rfl dX9_ask_48 ?_
        exact ⟨rfl, rfl⟩
set_option maxHeartbeats 4000000 in
theorem M_ask2 (hl : l.stackTraces = false) (d : Nat) (s : MSt) (k p : Nat) (hk9 : k < 448) (hp9 : p ≤ 20) (n lo hi : Nat) (hkd : s.2 5 k = nI 0) (hn : s.1 3 = nI n) (hn9 : n ≤ 20) (q : Nat) (h : p < n) (hq : s.2 4 p = nI q) (hlo : s.2 6 k = nI lo) (hhi : s.2 7 k = nI hi) (h100 : q < 100 ∧ lo < 100 ∧ hi < 100) (h2 : ¬ (lo ≤ q ∧ q ≤ hi)) : MtW (IM cy ad hp0) l D cy base mX9_ask (d + 2) 0 0 [.ref (ad 43), .int (nI k), .int (nI p)] s (fun o s2 => o = .inl (some (.int (-1))) ∧ s2 = s) := by
  refine MtW.of hl mfX9_ask rfl (Nat.le_of_ble_eq_true rfl) ?_
  refine EW.aload_n dX9_ask_0 rfl rfl ?_
  refine EM.get f_X9_17 dX9_ask_1 rfl ?_
  refine EW.iload_n dX9_ask_4 rfl rfl ?_
  refine EM.ialdN k dX9_ask_5 rfl rfl (by simp only [mLen]; omega) ?_
  refine EW.top hkd ?_
  refine EW.if_ne 49 dX9_ask_6 (by decide) (fun c6 => ?_) (fun c6 => ?_)
  · exact absurd c6 (by decide +kernel)
  · refine EW.iload_n dX9_ask_9 rfl rfl ?_
    refine EW.aload_n dX9_ask_10 rfl rfl ?_
    refine EM.get f_X9_168 dX9_ask_11 rfl ?_
    refine EW.top hn ?_
    refine EW.icmp_ge 47 dX9_ask_14 (by decide) (fun c14 => ?_) (fun c14 => ?_)
    · have c14 : n ≤ p := (nI_leI (by omega) (by omega)).mp c14; omega
    · have c14 : ¬ (n ≤ p) := fun h => c14 ((nI_leI (by omega) (by omega)).mpr h)
      refine EW.aload_n dX9_ask_17 rfl rfl ?_
      refine EM.get f_X9_13 dX9_ask_18 rfl ?_
      refine EW.iload_n dX9_ask_21 rfl rfl ?_
      refine EM.ialdN p dX9_ask_22 rfl rfl (by simp only [mLen]; omega) ?_
      refine EW.top hq ?_
      refine EW.aload_n dX9_ask_23 rfl rfl ?_
      refine EM.get f_X9_20 dX9_ask_24 rfl ?_
      refine EW.iload_n dX9_ask_27 rfl rfl ?_
      refine EM.ialdN k dX9_ask_28 rfl rfl (by simp only [mLen]; omega) ?_
      refine EW.top hlo ?_
      refine EW.aload_n dX9_ask_29 rfl rfl ?_
      refine EM.get f_X9_23 dX9_ask_30 rfl ?_
      refine EW.iload_n dX9_ask_33 rfl rfl ?_
      refine EM.ialdN k dX9_ask_34 rfl rfl (by simp only [mLen]; omega) ?_
      refine EW.top hhi ?_
      refine EW.callS (bc := 0) (bs := 0) (M_in hl _ 0 s (nI q) (nI lo) (nI hi)) mfX9_in rfl l_X9_109 mvX9_in (by omega) dX9_ask_35 rfl rfl (Nat.le_of_ble_eq_true rfl) (fun v35 s35 q35 => ?_) (fun _ _ q => nomatch q.1)
      obtain ⟨e35, h35⟩ := q35; cases e35; replace h35 := h35.symm; subst h35
      refine EW.top (y := nI 0) ((if_neg (fun g => h2 ⟨(nI_leI (by omega) (by omega)).mp g.1, (nI_leI (by omega) (by omega)).mp g.2⟩)).trans (by decide +kernel)) ?_
      refine EW.if_eq 47 dX9_ask_38 (by decide) (fun c38 => ?_) (fun c38 => ?_)
      · refine EW.iconst (v := -1) dX9_ask_47 (by decide +kernel) ?_
        refine EW.iret rfl dX9_ask_48 ?_
        exact ⟨rfl, rfl⟩
      · exact absurd c38 (by decide +kernel)
set_option maxHeartbeats 4000000 in
theorem M_ask3 (hl : l.stackTraces = false) (d : Nat) (s : MSt) (k p : Nat) (hk9 : k < 448) (hp9 : p ≤ 20) (kd h : Nat) (hkd : s.2 5 k = nI kd) (hkd2 : 2 ≤ kd) (hkd9 : kd < 100) (hh : s.1 16 = nI h) (h9 : h < 960) : MtW (IM cy ad hp0) l D cy base mX9_ask (d + 2) 0 0 [.ref (ad 43), .int (nI k), .int (nI p)] s (fun o s2 => o = .inl (some (.int (-2))) ∧ s2 = fU 16 (nI (h + 1)) (aU 20 h (vp_nar .boolean (nI 0)) (aU 19 h (s.1 24) (aU 18 h (nI p) (aU 17 h (nI k) s))))) := by
  refine MtW.of hl mfX9_ask rfl (Nat.le_of_ble_eq_true rfl) ?_
  refine EW.aload_n dX9_ask_0 rfl rfl ?_
  refine EM.get f_X9_17 dX9_ask_1 rfl ?_
  refine EW.iload_n dX9_ask_4 rfl rfl ?_
  refine EM.ialdN k dX9_ask_5 rfl rfl (by simp only [mLen]; omega) ?_
  refine EW.top hkd ?_
  refine EW.if_ne 49 dX9_ask_6 (by decide) (fun c6 => ?_) (fun c6 => ?_)
  · have c6 : ¬ kd = 0 := fun h => c6 ((nI_eq0 (by omega)).mpr h)
    refine EW.aload_n dX9_ask_49 rfl rfl ?_
    refine EM.get f_X9_17 dX9_ask_50 rfl ?_
    refine EW.iload_n dX9_ask_53 rfl rfl ?_
    refine EM.ialdN k dX9_ask_54 rfl rfl (by simp only [mLen]; omega) ?_
    refine EW.top hkd ?_
    refine EW.ic 1 dX9_ask_55 ?_
    refine EW.icmp_eq 68 dX9_ask_56 (by decide) (fun c56 => ?_) (fun c56 => ?_)
    · have c56 : kd = 1 := (nI_eq (by omega) (by omega)).mp c56; omega
    · have c56 : ¬ (kd = 1) := fun h => c56 ((nI_eq (by omega) (by omega)).mpr h)
      refine EW.aload_n dX9_ask_59 rfl rfl ?_
      refine EW.iload_n dX9_ask_60 rfl rfl ?_
      refine EW.iload_n dX9_ask_61 rfl rfl ?_
      refine EM.callV (M_push hl 0 s h (nI k) (nI p) hh h9) mfX9_push l_X9_213 mvX9_push (by omega) dX9_ask_62 rfl rfl rfl rfl (Nat.le_of_ble_eq_true rfl) (fun _ _ q => nomatch q.1) (fun v62 s62 q62 => ?_)
      obtain ⟨e62, h62⟩ := q62; cases e62; replace h62 := h62.symm; subst h62
      refine EW.bipush (v := -2) dX9_ask_65 (by decide +kernel) ?_
      refine EW.iret rfl dX9_ask_67 ?_
      exact ⟨rfl, rfl⟩
  · have c6 : kd = 0 := (nI_eq0 (by omega)).mp c6; omega
set_option maxHeartbeats 4000000 in
theorem M_ask4 (hl : l.stackTraces = false) (d : Nat) (s : MSt) (k p : Nat) (hk9 : k < 448) (hp9 : p ≤ 20) (r : Nat) (m : Int32) (hkd : s.2 5 k = nI 1) (hr : s.2 6 k = nI r) (hr6 : r < 6) (hm : s.2 13 (21 * r + p) = m) (hrec : ¬ s.1 23 = 0) (hneg : m < 0) : MtW (IM cy ad hp0) l D cy base mX9_ask (d + 2) 0 0 [.ref (ad 43), .int (nI k), .int (nI p)] s (fun o s2 => o = .inl (some (.int m)) ∧ s2 = s) := by
  refine MtW.of hl mfX9_ask rfl (Nat.le_of_ble_eq_true rfl) ?_
  refine EW.aload_n dX9_ask_0 rfl rfl ?_
  refine EM.get f_X9_17 dX9_ask_1 rfl ?_
  refine EW.iload_n dX9_ask_4 rfl rfl ?_
  refine EM.ialdN k dX9_ask_5 rfl rfl (by simp only [mLen]; omega) ?_
  refine EW.top hkd ?_
  refine EW.if_ne 49 dX9_ask_6 (by decide) (fun c6 => ?_) (fun c6 => ?_)
  · refine EW.aload_n dX9_ask_49 rfl rfl ?_
    refine EM.get f_X9_17 dX9_ask_50 rfl ?_
    refine EW.iload_n dX9_ask_53 rfl rfl ?_
    refine EM.ialdN k dX9_ask_54 rfl rfl (by simp only [mLen]; omega) ?_
    refine EW.top hkd ?_
    refine EW.ic 1 dX9_ask_55 ?_
    refine EW.icmp_eq 68 dX9_ask_56 (by decide) (fun c56 => ?_) (fun c56 => ?_)
    · refine EW.aload_n dX9_ask_68 rfl rfl ?_
      refine EM.get f_X9_20 dX9_ask_69 rfl ?_
      refine EW.iload_n dX9_ask_72 rfl rfl ?_
      refine EM.ialdN k dX9_ask_73 rfl rfl (by simp only [mLen]; omega) ?_
      refine EW.top hr ?_
      refine EW.istore_n dX9_ask_74 rfl (by decide) ?_
      refine EW.aload_n dX9_ask_75 rfl rfl ?_
      refine EM.get f_X9_42 dX9_ask_76 rfl ?_
      refine EW.bp 21 dX9_ask_79 ?_
      refine EW.iload_n dX9_ask_81 rfl rfl ?_
      refine EW.imul dX9_ask_82 ?_
      refine EW.top (pk_mul _ _) ?_
      refine EW.iload_n dX9_ask_83 rfl rfl ?_
      refine EW.iadd dX9_ask_84 ?_
      refine EW.top (nI_add _ _) ?_
      refine EM.ialdN ((21 * r) + p) dX9_ask_85 rfl rfl (by simp only [mLen]; omega) ?_
      refine EW.top hm ?_
      refine EW.istore dX9_ask_86 (by decide) ?_
      refine EW.aload_n dX9_ask_88 rfl rfl ?_
      refine EM.get f_X9_217 dX9_ask_89 rfl ?_
      refine EW.if_eq 111 dX9_ask_92 (by decide) (fun c92 => ?_) (fun c92 => ?_)
      · exact absurd c92 hrec
      · refine EW.iload dX9_ask_95 rfl ?_
        refine EW.if_lt 108 dX9_ask_97 (by decide) (fun c97 => ?_) (fun c97 => ?_)
        · refine EW.iload dX9_ask_108 rfl ?_
          refine EW.iret rfl dX9_ask_110 ?_
          exact ⟨rfl, rfl⟩
        · exact absurd hneg c97
    · exact absurd c56 (by decide +kernel)
  · exact absurd c6 (by decide +kernel)
set_option maxHeartbeats 4000000 in
theorem M_ask5a (hl : l.stackTraces = false) (d : Nat) (s : MSt) (k p : Nat) (hk9 : k < 448) (hp9 : p ≤ 20) (r : Nat) (m : Int32) (hkd : s.2 5 k = nI 1) (hr : s.2 6 k = nI r) (hr6 : r < 6) (hm : s.2 13 (21 * r + p) = m) (x : Nat) (hrec : ¬ s.1 23 = 0) (hneg : ¬ m < 0) (hx : s.1 24 = nI x) (hx9 : x < 2 ^ 30) (h64 : x < 64) : MtW (IM cy ad hp0) l D cy base mX9_ask (d + 2) 0 0 [.ref (ad 43), .int (nI k), .int (nI p)] s (fun o s2 => o = .inl (some (.int m)) ∧ s2 = fU 24 (nI (x + 1)) (aU 27 x m (aU 26 x (nI p) (aU 25 x (nI r) s)))) := by
  refine MtW.of hl mfX9_ask rfl (Nat.le_of_ble_eq_true rfl) ?_
  refine EW.aload_n dX9_ask_0 rfl rfl ?_
  refine EM.get f_X9_17 dX9_ask_1 rfl ?_
  refine EW.iload_n dX9_ask_4 rfl rfl ?_
  refine EM.ialdN k dX9_ask_5 rfl rfl (by simp only [mLen]; omega) ?_
  refine EW.top hkd ?_
  refine EW.if_ne 49 dX9_ask_6 (by decide) (fun c6 => ?_) (fun c6 => ?_)
  · refine EW.aload_n dX9_ask_49 rfl rfl ?_
    refine EM.get f_X9_17 dX9_ask_50 rfl ?_
    refine EW.iload_n dX9_ask_53 rfl rfl ?_
    refine EM.ialdN k dX9_ask_54 rfl rfl (by simp only [mLen]; omega) ?_
    refine EW.top hkd ?_
    refine EW.ic 1 dX9_ask_55 ?_
    refine EW.icmp_eq 68 dX9_ask_56 (by decide) (fun c56 => ?_) (fun c56 => ?_)
    · refine EW.aload_n dX9_ask_68 rfl rfl ?_
      refine EM.get f_X9_20 dX9_ask_69 rfl ?_
      refine EW.iload_n dX9_ask_72 rfl rfl ?_
      refine EM.ialdN k dX9_ask_73 rfl rfl (by simp only [mLen]; omega) ?_
      refine EW.top hr ?_
      refine EW.istore_n dX9_ask_74 rfl (by decide) ?_
      refine EW.aload_n dX9_ask_75 rfl rfl ?_
      refine EM.get f_X9_42 dX9_ask_76 rfl ?_
      refine EW.bp 21 dX9_ask_79 ?_
      refine EW.iload_n dX9_ask_81 rfl rfl ?_
      refine EW.imul dX9_ask_82 ?_
      refine EW.top (pk_mul _ _) ?_
      refine EW.iload_n dX9_ask_83 rfl rfl ?_
      refine EW.iadd dX9_ask_84 ?_
      refine EW.top (nI_add _ _) ?_
      refine EM.ialdN ((21 * r) + p) dX9_ask_85 rfl rfl (by simp only [mLen]; omega) ?_
      refine EW.top hm ?_
      refine EW.istore dX9_ask_86 (by decide) ?_
      refine EW.aload_n dX9_ask_88 rfl rfl ?_
      refine EM.get f_X9_217 dX9_ask_89 rfl ?_
      refine EW.if_eq 111 dX9_ask_92 (by decide) (fun c92 => ?_) (fun c92 => ?_)
      · exact absurd c92 hrec
      · refine EW.iload dX9_ask_95 rfl ?_
        refine EW.if_lt 108 dX9_ask_97 (by decide) (fun c97 => ?_) (fun c97 => ?_)
        · exact absurd c97 hneg
        · refine EW.aload_n dX9_ask_100 rfl rfl ?_
          refine EW.iload_n dX9_ask_101 rfl rfl ?_
          refine EW.iload_n dX9_ask_102 rfl rfl ?_
          refine EW.iload dX9_ask_103 rfl ?_
          refine EM.callV (M_record1 hl 0 s x (nI r) (nI p) m hx hx9 h64) mfX9_record l_X9_221 mvX9_record (by omega) dX9_ask_105 rfl rfl rfl rfl (Nat.le_of_ble_eq_true rfl) (fun _ _ q => nomatch q.1) (fun v105 s105 q105 => ?_)
          obtain ⟨e105, h105⟩ := q105; cases e105; replace h105 := h105.symm; subst h105
          refine EW.iload dX9_ask_108 rfl ?_
          refine EW.iret rfl dX9_ask_110 ?_
          exact ⟨rfl, rfl⟩
    · exact absurd c56 (by decide +kernel)
  · exact absurd c6 (by decide +kernel)
set_option maxHeartbeats 4000000 in
theorem M_ask5b (hl : l.stackTraces = false) (d : Nat) (s : MSt) (k p : Nat) (hk9 : k < 448) (hp9 : p ≤ 20) (r : Nat) (m : Int32) (hkd : s.2 5 k = nI 1) (hr : s.2 6 k = nI r) (hr6 : r < 6) (hm : s.2 13 (21 * r + p) = m) (x : Nat) (hrec : ¬ s.1 23 = 0) (hneg : ¬ m < 0) (hx : s.1 24 = nI x) (hx9 : x < 2 ^ 30) (h64 : ¬ x < 64) : MtW (IM cy ad hp0) l D cy base mX9_ask (d + 2) 0 0 [.ref (ad 43), .int (nI k), .int (nI p)] s (fun o s2 => o = .inl (some (.int m)) ∧ s2 = fU 24 (nI (x + 1)) s) := by
  refine MtW.of hl mfX9_ask rfl (Nat.le_of_ble_eq_true rfl) ?_
  refine EW.aload_n dX9_ask_0 rfl rfl ?_
  refine EM.get f_X9_17 dX9_ask_1 rfl ?_
  refine EW.iload_n dX9_ask_4 rfl rfl ?_
  refine EM.ialdN k dX9_ask_5 rfl rfl (by simp only [mLen]; omega) ?_
  refine EW.top hkd ?_
  refine EW.if_ne 49 dX9_ask_6 (by decide) (fun c6 => ?_) (fun c6 => ?_)
  · refine EW.aload_n dX9_ask_49 rfl rfl ?_
    refine EM.get f_X9_17 dX9_ask_50 rfl ?_
    refine EW.iload_n dX9_ask_53 rfl rfl ?_
    refine EM.ialdN k dX9_ask_54 rfl rfl (by simp only [mLen]; omega) ?_
    refine EW.top hkd ?_
    refine EW.ic 1 dX9_ask_55 ?_
    refine EW.icmp_eq 68 dX9_ask_56 (by decide) (fun c56 => ?_) (fun c56 => ?_)
    · refine EW.aload_n dX9_ask_68 rfl rfl ?_
      refine EM.get f_X9_20 dX9_ask_69 rfl ?_
      refine EW.iload_n dX9_ask_72 rfl rfl ?_
      refine EM.ialdN k dX9_ask_73 rfl rfl (by simp only [mLen]; omega) ?_
      refine EW.top hr ?_
      refine EW.istore_n dX9_ask_74 rfl (by decide) ?_
      refine EW.aload_n dX9_ask_75 rfl rfl ?_
      refine EM.get f_X9_42 dX9_ask_76 rfl ?_
      refine EW.bp 21 dX9_ask_79 ?_
      refine EW.iload_n dX9_ask_81 rfl rfl ?_
      refine EW.imul dX9_ask_82 ?_
      refine EW.top (pk_mul _ _) ?_
      refine EW.iload_n dX9_ask_83 rfl rfl ?_
      refine EW.iadd dX9_ask_84 ?_
      refine EW.top (nI_add _ _) ?_
      refine EM.ialdN ((21 * r) + p) dX9_ask_85 rfl rfl (by simp only [mLen]; omega) ?_
      refine EW.top hm ?_
      refine EW.istore dX9_ask_86 (by decide) ?_
      refine EW.aload_n dX9_ask_88 rfl rfl ?_
      refine EM.get f_X9_217 dX9_ask_89 rfl ?_
      refine EW.if_eq 111 dX9_ask_92 (by decide) (fun c92 => ?_) (fun c92 => ?_)
      · exact absurd c92 hrec
      · refine EW.iload dX9_ask_95 rfl ?_
        refine EW.if_lt 108 dX9_ask_97 (by decide) (fun c97 => ?_) (fun c97 => ?_)
        · exact absurd c97 hneg
        · refine EW.aload_n dX9_ask_100 rfl rfl ?_
          refine EW.iload_n dX9_ask_101 rfl rfl ?_
          refine EW.iload_n dX9_ask_102 rfl rfl ?_
          refine EW.iload dX9_ask_103 rfl ?_
          refine EM.callV (M_record0 hl 0 s x (nI r) (nI p) m hx hx9 h64) mfX9_record l_X9_221 mvX9_record (by omega) dX9_ask_105 rfl rfl rfl rfl (Nat.le_of_ble_eq_true rfl) (fun _ _ q => nomatch q.1) (fun v105 s105 q105 => ?_)
          obtain ⟨e105, h105⟩ := q105; cases e105; replace h105 := h105.symm; subst h105
          refine EW.iload dX9_ask_108 rfl ?_
          refine EW.iret rfl dX9_ask_110 ?_
          exact ⟨rfl, rfl⟩
    · exact absurd c56 (by decide +kernel)
  · exact absurd c6 (by decide +kernel)
set_option maxHeartbeats 4000000 in
theorem M_ask6 (hl : l.stackTraces = false) (d : Nat) (s : MSt) (k p : Nat) (hk9 : k < 448) (hp9 : p ≤ 20) (r : Nat) (m : Int32) (hkd : s.2 5 k = nI 1) (hr : s.2 6 k = nI r) (hr6 : r < 6) (hm : s.2 13 (21 * r + p) = m) (hrec : s.1 23 = 0) (hne : ¬ m = -2) : MtW (IM cy ad hp0) l D cy base mX9_ask (d + 2) 0 0 [.ref (ad 43), .int (nI k), .int (nI p)] s (fun o s2 => o = .inl (some (.int m)) ∧ s2 = fU 15 (s.1 15 + nI 1) s) := by
  refine MtW.of hl mfX9_ask rfl (Nat.le_of_ble_eq_true rfl) ?_
  refine EW.aload_n dX9_ask_0 rfl rfl ?_
  refine EM.get f_X9_17 dX9_ask_1 rfl ?_
  refine EW.iload_n dX9_ask_4 rfl rfl ?_
  refine EM.ialdN k dX9_ask_5 rfl rfl (by simp only [mLen]; omega) ?_
  refine EW.top hkd ?_
  refine EW.if_ne 49 dX9_ask_6 (by decide) (fun c6 => ?_) (fun c6 => ?_)
  · refine EW.aload_n dX9_ask_49 rfl rfl ?_
    refine EM.get f_X9_17 dX9_ask_50 rfl ?_
    refine EW.iload_n dX9_ask_53 rfl rfl ?_
    refine EM.ialdN k dX9_ask_54 rfl rfl (by simp only [mLen]; omega) ?_
    refine EW.top hkd ?_
    refine EW.ic 1 dX9_ask_55 ?_
    refine EW.icmp_eq 68 dX9_ask_56 (by decide) (fun c56 => ?_) (fun c56 => ?_)
    · refine EW.aload_n dX9_ask_68 rfl rfl ?_
      refine EM.get f_X9_20 dX9_ask_69 rfl ?_
      refine EW.iload_n dX9_ask_72 rfl rfl ?_
      refine EM.ialdN k dX9_ask_73 rfl rfl (by simp only [mLen]; omega) ?_
      refine EW.top hr ?_
      refine EW.istore_n dX9_ask_74 rfl (by decide) ?_
      refine EW.aload_n dX9_ask_75 rfl rfl ?_
      refine EM.get f_X9_42 dX9_ask_76 rfl ?_
      refine EW.bp 21 dX9_ask_79 ?_
      refine EW.iload_n dX9_ask_81 rfl rfl ?_
      refine EW.imul dX9_ask_82 ?_
      refine EW.top (pk_mul _ _) ?_
      refine EW.iload_n dX9_ask_83 rfl rfl ?_
      refine EW.iadd dX9_ask_84 ?_
      refine EW.top (nI_add _ _) ?_
      refine EM.ialdN ((21 * r) + p) dX9_ask_85 rfl rfl (by simp only [mLen]; omega) ?_
      refine EW.top hm ?_
      refine EW.istore dX9_ask_86 (by decide) ?_
      refine EW.aload_n dX9_ask_88 rfl rfl ?_
      refine EM.get f_X9_217 dX9_ask_89 rfl ?_
      refine EW.if_eq 111 dX9_ask_92 (by decide) (fun c92 => ?_) (fun c92 => ?_)
      · refine EW.iload dX9_ask_111 rfl ?_
        refine EW.bipush (v := -2) dX9_ask_113 (by decide +kernel) ?_
        refine EW.icmp_eq 131 dX9_ask_115 (by decide) (fun c115 => ?_) (fun c115 => ?_)
        · exact absurd c115 hne
        · refine EW.aload_n dX9_ask_118 rfl rfl ?_
          refine EW.dup dX9_ask_119 rfl ?_
          refine EM.get f_X9_225 dX9_ask_120 rfl ?_
          refine EW.ic 1 dX9_ask_123 ?_
          refine EW.iadd dX9_ask_124 ?_
          refine EM.put f_X9_225 dX9_ask_125 rfl ?_
          refine EW.iload dX9_ask_128 rfl ?_
          refine EW.iret rfl dX9_ask_130 ?_
          exact ⟨rfl, rfl⟩
      · exact absurd hrec c92
    · exact absurd c56 (by decide +kernel)
  · exact absurd c6 (by decide +kernel)
set_option maxHeartbeats 4000000 in
theorem M_ask7 (hl : l.stackTraces = false) (d : Nat) (s : MSt) (k p : Nat) (hk9 : k < 448) (hp9 : p ≤ 20) (r : Nat) (m : Int32) (hkd : s.2 5 k = nI 1) (hr : s.2 6 k = nI r) (hr6 : r < 6) (hm : s.2 13 (21 * r + p) = m) (e y : Nat) (hrec : s.1 23 = 0) (hm2 : m = -2) (he : s.2 8 k = nI e) (hy : s.1 22 + nI e + nI 2 = nI y) (hy9 : y < 2000) (h40 : 40 < y) : MtW (IM cy ad hp0) l D cy base mX9_ask (d + 2) 0 0 [.ref (ad 43), .int (nI k), .int (nI p)] s (fun o s2 => o = .inl (some (.int (-3))) ∧ s2 = s) := by
  refine MtW.of hl mfX9_ask rfl (Nat.le_of_ble_eq_true rfl) ?_
  refine EW.aload_n dX9_ask_0 rfl rfl ?_
  refine EM.get f_X9_17 dX9_ask_1 rfl ?_
  refine EW.iload_n dX9_ask_4 rfl rfl ?_
  refine EM.ialdN k dX9_ask_5 rfl rfl (by simp only [mLen]; omega) ?_
  refine EW.top hkd ?_
  refine EW.if_ne 49 dX9_ask_6 (by decide) (fun c6 => ?_) (fun c6 => ?_)
  · refine EW.aload_n dX9_ask_49 rfl rfl ?_
    refine EM.get f_X9_17 dX9_ask_50 rfl ?_
    refine EW.iload_n dX9_ask_53 rfl rfl ?_
    refine EM.ialdN k dX9_ask_54 rfl rfl (by simp only [mLen]; omega) ?_
    refine EW.top hkd ?_
    refine EW.ic 1 dX9_ask_55 ?_
    refine EW.icmp_eq 68 dX9_ask_56 (by decide) (fun c56 => ?_) (fun c56 => ?_)
    · refine EW.aload_n dX9_ask_68 rfl rfl ?_
      refine EM.get f_X9_20 dX9_ask_69 rfl ?_
      refine EW.iload_n dX9_ask_72 rfl rfl ?_
      refine EM.ialdN k dX9_ask_73 rfl rfl (by simp only [mLen]; omega) ?_
      refine EW.top hr ?_
      refine EW.istore_n dX9_ask_74 rfl (by decide) ?_
      refine EW.aload_n dX9_ask_75 rfl rfl ?_
      refine EM.get f_X9_42 dX9_ask_76 rfl ?_
      refine EW.bp 21 dX9_ask_79 ?_
      refine EW.iload_n dX9_ask_81 rfl rfl ?_
      refine EW.imul dX9_ask_82 ?_
      refine EW.top (pk_mul _ _) ?_
      refine EW.iload_n dX9_ask_83 rfl rfl ?_
      refine EW.iadd dX9_ask_84 ?_
      refine EW.top (nI_add _ _) ?_
      refine EM.ialdN ((21 * r) + p) dX9_ask_85 rfl rfl (by simp only [mLen]; omega) ?_
      refine EW.top hm ?_
      refine EW.istore dX9_ask_86 (by decide) ?_
      refine EW.aload_n dX9_ask_88 rfl rfl ?_
      refine EM.get f_X9_217 dX9_ask_89 rfl ?_
      refine EW.if_eq 111 dX9_ask_92 (by decide) (fun c92 => ?_) (fun c92 => ?_)
      · refine EW.iload dX9_ask_111 rfl ?_
        refine EW.bipush (v := -2) dX9_ask_113 (by decide +kernel) ?_
        refine EW.icmp_eq 131 dX9_ask_115 (by decide) (fun c115 => ?_) (fun c115 => ?_)
        · refine EW.aload_n dX9_ask_131 rfl rfl ?_
          refine EM.get f_X9_228 dX9_ask_132 rfl ?_
          refine EW.aload_n dX9_ask_135 rfl rfl ?_
          refine EM.get f_X9_26 dX9_ask_136 rfl ?_
          refine EW.iload_n dX9_ask_139 rfl rfl ?_
          refine EM.ialdN k dX9_ask_140 rfl rfl (by simp only [mLen]; omega) ?_
          refine EW.top he ?_
          refine EW.iadd dX9_ask_141 ?_
          refine EW.ic 2 dX9_ask_142 ?_
          refine EW.iadd dX9_ask_143 ?_
          refine EW.top hy ?_
          refine EW.bp 40 dX9_ask_144 ?_
          refine EW.icmp_le 152 dX9_ask_146 (by decide) (fun c146 => ?_) (fun c146 => ?_)
          · have c146 : y ≤ 40 := (nI_leI (by omega) (by omega)).mp c146; omega
          · have c146 : ¬ (y ≤ 40) := fun h => c146 ((nI_leI (by omega) (by omega)).mpr h)
            refine EW.bipush (v := -3) dX9_ask_149 (by decide +kernel) ?_
            refine EW.iret rfl dX9_ask_151 ?_
            exact ⟨rfl, rfl⟩
        · exact absurd hm2 c115
      · exact absurd hrec c92
    · exact absurd c56 (by decide +kernel)
  · exact absurd c6 (by decide +kernel)
set_option maxHeartbeats 4000000 in
theorem M_ask8 (hl : l.stackTraces = false) (d : Nat) (s : MSt) (k p : Nat) (hk9 : k < 448) (hp9 : p ≤ 20) (r : Nat) (m : Int32) (hkd : s.2 5 k = nI 1) (hr : s.2 6 k = nI r) (hr6 : r < 6) (hm : s.2 13 (21 * r + p) = m) (e y : Nat) (hrec : s.1 23 = 0) (hm2 : m = -2) (he : s.2 8 k = nI e) (hy : s.1 22 + nI e + nI 2 = nI y) (hy9 : y < 2000) (h : Nat) (hh : s.1 16 = nI h) (h9 : h < 960) (h40 : ¬ 40 < y) : MtW (IM cy ad hp0) l D cy base mX9_ask (d + 2) 0 0 [.ref (ad 43), .int (nI k), .int (nI p)] s (fun o s2 => o = .inl (some (.int (-2))) ∧ s2 = fU 22 (nI y) (aU 21 h (s.1 22) (fU 16 (nI (h + 1)) (aU 20 h (vp_nar .boolean (nI 0)) (aU 19 h (s.1 24) (aU 18 h (nI p) (aU 17 h (nI k) (fU 14 (s.1 14 + nI 1) s)))))))) := by
  refine MtW.of hl mfX9_ask rfl (Nat.le_of_ble_eq_true rfl) ?_
  refine EW.aload_n dX9_ask_0 rfl rfl ?_
  refine EM.get f_X9_17 dX9_ask_1 rfl ?_
  refine EW.iload_n dX9_ask_4 rfl rfl ?_
  refine EM.ialdN k dX9_ask_5 rfl rfl (by simp only [mLen]; omega) ?_
  refine EW.top hkd ?_
  refine EW.if_ne 49 dX9_ask_6 (by decide) (fun c6 => ?_) (fun c6 => ?_)
  · refine EW.aload_n dX9_ask_49 rfl rfl ?_
    refine EM.get f_X9_17 dX9_ask_50 rfl ?_
    refine EW.iload_n dX9_ask_53 rfl rfl ?_
    refine EM.ialdN k dX9_ask_54 rfl rfl (by simp only [mLen]; omega) ?_
    refine EW.top hkd ?_
    refine EW.ic 1 dX9_ask_55 ?_
    refine EW.icmp_eq 68 dX9_ask_56 (by decide) (fun c56 => ?_) (fun c56 => ?_)
    · refine EW.aload_n dX9_ask_68 rfl rfl ?_
      refine EM.get f_X9_20 dX9_ask_69 rfl ?_
      refine EW.iload_n dX9_ask_72 rfl rfl ?_
      refine EM.ialdN k dX9_ask_73 rfl rfl (by simp only [mLen]; omega) ?_
      refine EW.top hr ?_
      refine EW.istore_n dX9_ask_74 rfl (by decide) ?_
      refine EW.aload_n dX9_ask_75 rfl rfl ?_
      refine EM.get f_X9_42 dX9_ask_76 rfl ?_
      refine EW.bp 21 dX9_ask_79 ?_
      refine EW.iload_n dX9_ask_81 rfl rfl ?_
      refine EW.imul dX9_ask_82 ?_
      refine EW.top (pk_mul _ _) ?_
      refine EW.iload_n dX9_ask_83 rfl rfl ?_
      refine EW.iadd dX9_ask_84 ?_
      refine EW.top (nI_add _ _) ?_
      refine EM.ialdN ((21 * r) + p) dX9_ask_85 rfl rfl (by simp only [mLen]; omega) ?_
      refine EW.top hm ?_
      refine EW.istore dX9_ask_86 (by decide) ?_
      refine EW.aload_n dX9_ask_88 rfl rfl ?_
      refine EM.get f_X9_217 dX9_ask_89 rfl ?_
      refine EW.if_eq 111 dX9_ask_92 (by decide) (fun c92 => ?_) (fun c92 => ?_)
      · refine EW.iload dX9_ask_111 rfl ?_
        refine EW.bipush (v := -2) dX9_ask_113 (by decide +kernel) ?_
        refine EW.icmp_eq 131 dX9_ask_115 (by decide) (fun c115 => ?_) (fun c115 => ?_)
        · refine EW.aload_n dX9_ask_131 rfl rfl ?_
          refine EM.get f_X9_228 dX9_ask_132 rfl ?_
          refine EW.aload_n dX9_ask_135 rfl rfl ?_
          refine EM.get f_X9_26 dX9_ask_136 rfl ?_
          refine EW.iload_n dX9_ask_139 rfl rfl ?_
          refine EM.ialdN k dX9_ask_140 rfl rfl (by simp only [mLen]; omega) ?_
          refine EW.top he ?_
          refine EW.iadd dX9_ask_141 ?_
          refine EW.ic 2 dX9_ask_142 ?_
          refine EW.iadd dX9_ask_143 ?_
          refine EW.top hy ?_
          refine EW.bp 40 dX9_ask_144 ?_
          refine EW.icmp_le 152 dX9_ask_146 (by decide) (fun c146 => ?_) (fun c146 => ?_)
          · have c146 : y ≤ 40 := (nI_leI (by omega) (by omega)).mp c146
            refine EW.aload_n dX9_ask_152 rfl rfl ?_
            refine EW.dup dX9_ask_153 rfl ?_
            refine EM.get f_X9_231 dX9_ask_154 rfl ?_
            refine EW.ic 1 dX9_ask_157 ?_
            refine EW.iadd dX9_ask_158 ?_
            refine EM.put f_X9_231 dX9_ask_159 rfl ?_
            refine EW.aload_n dX9_ask_162 rfl rfl ?_
            refine EW.iload_n dX9_ask_163 rfl rfl ?_
            refine EW.iload_n dX9_ask_164 rfl rfl ?_
            refine EM.callV (M_push hl 0 (fU 14 (s.1 14 + nI 1) s) h (nI k) (nI p) hh h9) mfX9_push l_X9_213 mvX9_push (by omega) dX9_ask_165 rfl rfl rfl rfl (Nat.le_of_ble_eq_true rfl) (fun _ _ q => nomatch q.1) (fun v165 s165 q165 => ?_)
            obtain ⟨e165, h165⟩ := q165; cases e165; replace h165 := h165.symm; subst h165
            refine EW.aload_n dX9_ask_168 rfl rfl ?_
            refine EM.get f_X9_57 dX9_ask_169 rfl ?_
            refine EW.aload_n dX9_ask_172 rfl rfl ?_
            refine EM.get f_X9_207 dX9_ask_173 rfl ?_
            refine EW.top (show va_up (va_up s.1 14 (s.1 14 + nI 1)) 16 (nI (h + 1)) 16 = nI (h + 1) from va_up_self _ _ _) ?_
            refine EW.ic 1 dX9_ask_176 ?_
            refine EW.isub dX9_ask_177 ?_
            refine EW.top (pk_sub (by omega)) ?_
            refine EW.aload_n dX9_ask_178 rfl rfl ?_
            refine EM.get f_X9_228 dX9_ask_179 rfl ?_
            refine EM.iastN ((h + 1) - 1) dX9_ask_182 rfl rfl (by simp only [mLen]; omega) ?_
            refine EW.aload_n dX9_ask_183 rfl rfl ?_
            refine EW.aload_n dX9_ask_184 rfl rfl ?_
            refine EM.get f_X9_228 dX9_ask_185 rfl ?_
            refine EW.aload_n dX9_ask_188 rfl rfl ?_
            refine EM.get f_X9_26 dX9_ask_189 rfl ?_
            refine EW.iload_n dX9_ask_192 rfl rfl ?_
            refine EM.ialdN k dX9_ask_193 rfl rfl (by simp only [mLen]; omega) ?_
            refine EW.top he ?_
            refine EW.iadd dX9_ask_194 ?_
            refine EW.ic 2 dX9_ask_195 ?_
            refine EW.iadd dX9_ask_196 ?_
            refine EW.top hy ?_
            refine EM.put f_X9_228 dX9_ask_197 rfl ?_
            refine EW.bipush (v := -2) dX9_ask_200 (by decide +kernel) ?_
            refine EW.iret rfl dX9_ask_202 ?_
            exact ⟨rfl, rfl⟩
          · have c146 : ¬ (y ≤ 40) := fun h => c146 ((nI_leI (by omega) (by omega)).mpr h); omega
        · exact absurd hm2 c115
      · exact absurd hrec c92
    · exact absurd c56 (by decide +kernel)
  · exact absurd c6 (by decide +kernel)
end M4
