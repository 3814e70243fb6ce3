section M3
variable {cy : Nat → ClassId} {ad : Nat → Nat} {hp0 : Hp} {l : Launch} {D : va_G} {base : Nat}
set_option maxHeartbeats 4000000 in
theorem M_made (hl : l.stackTraces = false) (d : Nat) (s : MSt) (z : Nat) (k a b : Int32) (hz : s.2 10 6 = nI z) (hz9 : z < 64) : MtW (IM cy ad hp0) l D cy base mX9_made d 0 0 [.ref (ad 43), .int k, .int a, .int b] s (fun o s2 => o = .inl (some (.int (nI z))) ∧ s2 = aU 10 6 (nI (z + 1)) (aU 9 (384 + z) (vp_nar .boolean (nI 0)) (aU 7 (384 + z) b (aU 6 (384 + z) a (aU 5 (384 + z) k s))))) := by
  refine MtW.of hl mfX9_made rfl (Nat.le_of_ble_eq_true rfl) ?_
  refine EW.sp 384 dX9_made_0 ?_
  refine EW.aload_n dX9_made_3 rfl rfl ?_
  refine EM.get f_X9_33 dX9_made_4 rfl ?_
  refine EW.bp 6 dX9_made_7 ?_
  refine EM.ialdN 6 dX9_made_9 rfl rfl (by simp only [mLen]; omega) ?_
  refine EW.top hz ?_
  refine EW.iadd dX9_made_10 ?_
  refine EW.top (nI_add _ _) ?_
  refine EW.istore dX9_made_11 (by decide) ?_
  refine EW.aload_n dX9_made_13 rfl rfl ?_
  refine EM.get f_X9_17 dX9_made_14 rfl ?_
  refine EW.iload dX9_made_17 rfl ?_
  refine EW.iload_n dX9_made_19 rfl rfl ?_
  refine EM.iastN (384 + z) dX9_made_20 rfl rfl (by simp only [mLen]; omega) ?_
  refine EW.aload_n dX9_made_21 rfl rfl ?_
  refine EM.get f_X9_20 dX9_made_22 rfl ?_
  refine EW.iload dX9_made_25 rfl ?_
  refine EW.iload_n dX9_made_27 rfl rfl ?_
  refine EM.iastN (384 + z) dX9_made_28 rfl rfl (by simp only [mLen]; omega) ?_
  refine EW.aload_n dX9_made_29 rfl rfl ?_
  refine EM.get f_X9_23 dX9_made_30 rfl ?_
  refine EW.iload dX9_made_33 rfl ?_
  refine EW.iload_n dX9_made_35 rfl rfl ?_
  refine EM.iastN (384 + z) dX9_made_36 rfl rfl (by simp only [mLen]; omega) ?_
  refine EW.aload_n dX9_made_37 rfl rfl ?_
  refine EM.get f_X9_29 dX9_made_38 rfl ?_
  refine EW.iload dX9_made_41 rfl ?_
  refine EW.ic 0 dX9_made_43 ?_
  refine EM.zastN (384 + z) dX9_made_44 rfl rfl (by simp only [mLen]; omega) ?_
  refine EW.aload_n dX9_made_45 rfl rfl ?_
  refine EM.get f_X9_33 dX9_made_46 rfl ?_
  refine EW.bp 6 dX9_made_49 ?_
  refine EW.dup2 dX9_made_51 rfl rfl ?_
  refine EM.ialdN 6 dX9_made_52 rfl rfl (by simp only [mLen]; omega) ?_
  refine EW.top hz ?_
  refine EW.ic 1 dX9_made_53 ?_
  refine EW.iadd dX9_made_54 ?_
  refine EW.top (nI_add _ _) ?_
  refine EM.iastN (6) dX9_made_55 rfl rfl (by simp only [mLen]; omega) ?_
  refine EW.aload_n dX9_made_56 rfl rfl ?_
  refine EM.get f_X9_33 dX9_made_57 rfl ?_
  refine EW.bp 6 dX9_made_60 ?_
  refine EM.ialdN 6 dX9_made_62 rfl rfl (by simp only [mLen]; omega) ?_
  refine EW.top (show upd (s.2 10) 6 (nI (z + 1)) 6 = nI (z + 1) from pk_us) ?_
  refine EW.ic 1 dX9_made_63 ?_
  refine EW.isub dX9_made_64 ?_
  refine EW.top (pk_sub (by omega)) ?_
  refine EW.iret rfl dX9_made_65 ?_
  exact ⟨rfl, rfl⟩
set_option maxHeartbeats 4000000 in
theorem M_wanted1 (hl : l.stackTraces = false) (d : Nat) (s : MSt) (h k f : Nat) (hh : s.1 16 = nI (h + 1)) (h9 : h < 960) (hk : s.2 17 h = nI k) (hk9 : k < 448) (hf : s.2 6 k = nI f) (z : Nat) (hf6 : f < 6) (hz : s.2 10 f = nI z) (hz1 : 1 ≤ z) (hkd : s.2 5 k = nI 1) : MtW (IM cy ad hp0) l D cy base mX9_wanted (d + 1) 0 0 [.ref (ad 43)] s (fun o s2 => o = .inl (some (.int (nI (64 * f + z - 1)))) ∧ s2 = s) := by
  refine MtW.of hl mfX9_wanted rfl (Nat.le_of_ble_eq_true rfl) ?_
  refine EW.aload_n dX9_wanted_0 rfl rfl ?_
  refine EM.get f_X9_45 dX9_wanted_1 rfl ?_
  refine EW.aload_n dX9_wanted_4 rfl rfl ?_
  refine EM.get f_X9_207 dX9_wanted_5 rfl ?_
  refine EW.top hh ?_
  refine EW.ic 1 dX9_wanted_8 ?_
  refine EW.isub dX9_wanted_9 ?_
  refine EW.top (pk_sub (by omega)) ?_
  refine EM.ialdN ((h + 1) - 1) dX9_wanted_10 rfl rfl (by simp only [mLen]; omega) ?_
  refine EW.top hk ?_
  refine EW.istore_n dX9_wanted_11 rfl (by decide) ?_
  refine EW.aload_n dX9_wanted_12 rfl rfl ?_
  refine EM.get f_X9_17 dX9_wanted_13 rfl ?_
  refine EW.iload_n dX9_wanted_16 rfl rfl ?_
  refine EM.ialdN k dX9_wanted_17 rfl rfl (by simp only [mLen]; omega) ?_
  refine EW.top hkd ?_
  refine EW.ic 1 dX9_wanted_18 ?_
  refine EW.icmp_ne 48 dX9_wanted_19 (by decide) (fun c19 => ?_) (fun c19 => ?_)
  · exact absurd c19 (by decide +kernel)
  · refine EW.bp 64 dX9_wanted_22 ?_
    refine EW.aload_n dX9_wanted_24 rfl rfl ?_
    refine EM.get f_X9_20 dX9_wanted_25 rfl ?_
    refine EW.iload_n dX9_wanted_28 rfl rfl ?_
    refine EM.ialdN k dX9_wanted_29 rfl rfl (by simp only [mLen]; omega) ?_
    refine EW.top hf ?_
    refine EW.imul dX9_wanted_30 ?_
    refine EW.top (pk_mul _ _) ?_
    refine EW.aload_n dX9_wanted_31 rfl rfl ?_
    refine EM.get f_X9_33 dX9_wanted_32 rfl ?_
    refine EW.aload_n dX9_wanted_35 rfl rfl ?_
    refine EM.get f_X9_20 dX9_wanted_36 rfl ?_
    refine EW.iload_n dX9_wanted_39 rfl rfl ?_
    refine EM.ialdN k dX9_wanted_40 rfl rfl (by simp only [mLen]; omega) ?_
    refine EW.top hf ?_
    refine EM.ialdN f dX9_wanted_41 rfl rfl (by simp only [mLen]; omega) ?_
    refine EW.top hz ?_
    refine EW.iadd dX9_wanted_42 ?_
    refine EW.top (nI_add _ _) ?_
    refine EW.ic 1 dX9_wanted_43 ?_
    refine EW.isub dX9_wanted_44 ?_
    refine EW.top (pk_sub (by omega)) ?_
    refine EW.goto 59 dX9_wanted_45 (by decide) ?_
    refine EW.iret rfl dX9_wanted_59 ?_
    exact ⟨rfl, rfl⟩
set_option maxHeartbeats 4000000 in
theorem M_wanted2 (hl : l.stackTraces = false) (d : Nat) (s : MSt) (h k f : Nat) (hh : s.1 16 = nI (h + 1)) (h9 : h < 960) (hk : s.2 17 h = nI k) (hk9 : k < 448) (hf : s.2 6 k = nI f) (kd : Nat) (hkd : s.2 5 k = nI kd) (hk1 : ¬ kd = 1) (hkd9 : kd < 100) : MtW (IM cy ad hp0) l D cy base mX9_wanted (d + 1) 0 0 [.ref (ad 43)] s (fun o s2 => o = .inl (some (.int (nI (k / 64 * 64 + f)))) ∧ s2 = s) := by
  refine MtW.of hl mfX9_wanted rfl (Nat.le_of_ble_eq_true rfl) ?_
  refine EW.aload_n dX9_wanted_0 rfl rfl ?_
  refine EM.get f_X9_45 dX9_wanted_1 rfl ?_
  refine EW.aload_n dX9_wanted_4 rfl rfl ?_
  refine EM.get f_X9_207 dX9_wanted_5 rfl ?_
  refine EW.top hh ?_
  refine EW.ic 1 dX9_wanted_8 ?_
  refine EW.isub dX9_wanted_9 ?_
  refine EW.top (pk_sub (by omega)) ?_
  refine EM.ialdN ((h + 1) - 1) dX9_wanted_10 rfl rfl (by simp only [mLen]; omega) ?_
  refine EW.top hk ?_
  refine EW.istore_n dX9_wanted_11 rfl (by decide) ?_
  refine EW.aload_n dX9_wanted_12 rfl rfl ?_
  refine EM.get f_X9_17 dX9_wanted_13 rfl ?_
  refine EW.iload_n dX9_wanted_16 rfl rfl ?_
  refine EM.ialdN k dX9_wanted_17 rfl rfl (by simp only [mLen]; omega) ?_
  refine EW.top hkd ?_
  refine EW.ic 1 dX9_wanted_18 ?_
  refine EW.icmp_ne 48 dX9_wanted_19 (by decide) (fun c19 => ?_) (fun c19 => ?_)
  · have c19 : ¬ (kd = 1) := fun h => c19 ((nI_eq (by omega) (by omega)).mpr h)
    refine EW.iload_n dX9_wanted_48 rfl rfl ?_
    refine EW.callS (bc := 0) (bs := 0) (M_base hl _ d s k (by omega)) mfX9_base rfl l_X9_234 mvX9_base (by omega) dX9_wanted_49 rfl rfl (Nat.le_of_ble_eq_true rfl) (fun v49 s49 q49 => ?_) (fun _ _ q => nomatch q.1)
    obtain ⟨e49, h49⟩ := q49; cases e49; replace h49 := h49.symm; subst h49
    refine EW.aload_n dX9_wanted_52 rfl rfl ?_
    refine EM.get f_X9_20 dX9_wanted_53 rfl ?_
    refine EW.iload_n dX9_wanted_56 rfl rfl ?_
    refine EM.ialdN k dX9_wanted_57 rfl rfl (by simp only [mLen]; omega) ?_
    refine EW.top hf ?_
    refine EW.iadd dX9_wanted_58 ?_
    refine EW.top (nI_add _ _) ?_
    refine EW.iret rfl dX9_wanted_59 ?_
    exact ⟨rfl, rfl⟩
  · have c19 : kd = 1 := (nI_eq (by omega) (by omega)).mp c19; exact absurd c19 hk1
def rlF (f : Nat → Int32) : Nat → Nat → Nat → Nat
  | 0, _, c => c
  | n + 1, i, c => rlF f n (i + 1) (if 0 < f i then c + 1 else c)
set_option maxHeartbeats 4000000 in
theorem M_rules_loop (d : Nat) (s : MSt) : ∀ (n i c : Nat), i + n = 6 → c ≤ i → EW (IM cy ad hp0) l D cy base mX9_rules d 0 0 4 [(0, .ref (ad 43)), (1, .int (nI c)), (2, .int (nI i))] [] s (fun o s2 => o = .inl (some (.int (nI (rlF (s.2 10) n i c)))) ∧ s2 = s) := by
  intro n
  induction n with
  | zero =>
    intro i c hi hc
    refine EW.iload_n dX9_rules_4 rfl rfl ?_
    refine EW.bp 6 dX9_rules_5 ?_
    refine EW.icmp_ge 33 dX9_rules_7 (by decide) (fun c7 => ?_) (fun c7 => ?_)
    · have c7 : 6 ≤ i := (nI_leI (by omega) (by omega)).mp c7
      refine EW.iload_n dX9_rules_33 rfl rfl ?_
      refine EW.iret rfl dX9_rules_34 ?_
      exact ⟨rfl, rfl⟩
    · have c7 : ¬ (6 ≤ i) := fun h => c7 ((nI_leI (by omega) (by omega)).mpr h); omega
  | succ n ih =>
    intro i c hi hc
    refine EW.iload_n dX9_rules_4 rfl rfl ?_
    refine EW.bp 6 dX9_rules_5 ?_
    refine EW.icmp_ge 33 dX9_rules_7 (by decide) (fun c7 => ?_) (fun c7 => ?_)
    · have c7 : 6 ≤ i := (nI_leI (by omega) (by omega)).mp c7; omega
    · have c7 : ¬ (6 ≤ i) := fun h => c7 ((nI_leI (by omega) (by omega)).mpr h)
      refine EW.aload_n dX9_rules_10 rfl rfl ?_
      refine EM.get f_X9_33 dX9_rules_11 rfl ?_
      refine EW.iload_n dX9_rules_14 rfl rfl ?_
      refine EM.ialdN i dX9_rules_15 rfl rfl (by simp only [mLen]; omega) ?_
      refine EW.if_le 25 dX9_rules_16 (by decide) (fun c16 => ?_) (fun c16 => ?_)
      · have IHX := ih (i + 1) c (by omega) (by omega)
        rw [show rlF (s.2 10) (n + 1) i c = rlF (s.2 10) n (i + 1) c by rw [rlF, if_neg (Int32.not_lt.mpr c16)]]
        refine EW.iload_n dX9_rules_25 rfl rfl ?_
        refine EW.istore_n dX9_rules_26 rfl (by decide) ?_
        refine EW.iinc dX9_rules_27 rfl (nI_inc _) (by decide) ?_
        refine EW.goto 4 dX9_rules_30 (by decide) ?_
        exact EW.loc (lv' := [(0, .ref (ad 43)), (1, .int (nI _)), (2, .int (nI (i + 1)))]) ⟨rfl, rfl, rfl, trivial⟩ IHX
      · have IHX := ih (i + 1) (c + 1) (by omega) (by omega)
        rw [show rlF (s.2 10) (n + 1) i c = rlF (s.2 10) n (i + 1) (c + 1) by rw [rlF, if_pos (Int32.not_le.mp c16)]]
        refine EW.iload_n dX9_rules_19 rfl rfl ?_
        refine EW.ic 1 dX9_rules_20 ?_
        refine EW.iadd dX9_rules_21 ?_
        refine EW.top (nI_add _ _) ?_
        refine EW.goto 26 dX9_rules_22 (by decide) ?_
        refine EW.istore_n dX9_rules_26 rfl (by decide) ?_
        refine EW.iinc dX9_rules_27 rfl (nI_inc _) (by decide) ?_
        refine EW.goto 4 dX9_rules_30 (by decide) ?_
        exact EW.loc (lv' := [(0, .ref (ad 43)), (1, .int (nI _)), (2, .int (nI (i + 1)))]) ⟨rfl, rfl, rfl, trivial⟩ IHX
set_option maxHeartbeats 4000000 in
theorem M_rules (hl : l.stackTraces = false) (d : Nat) (s : MSt) : MtW (IM cy ad hp0) l D cy base mX9_rules d 0 0 [.ref (ad 43)] s (fun o s2 => o = .inl (some (.int (nI (rlF (s.2 10) 6 0 0)))) ∧ s2 = s) := by
  refine MtW.of hl mfX9_rules rfl (Nat.le_of_ble_eq_true rfl) ?_
  refine EW.ic 0 dX9_rules_0 ?_
  refine EW.istore_n dX9_rules_1 rfl (by decide) ?_
  refine EW.ic 0 dX9_rules_2 ?_
  refine EW.istore_n dX9_rules_3 rfl (by decide) ?_
  exact EW.loc (lv' := [(0, .ref (ad 43)), (1, .int (nI 0)), (2, .int (nI 0))]) ⟨rfl, rfl, rfl, trivial⟩ (M_rules_loop d s 6 0 0 rfl (Nat.le_refl 0))
set_option maxHeartbeats 4000000 in
theorem M_hasRule0 (hl : l.stackTraces = false) (d : Nat) (s : MSt) (r : Int32) (h : ¬ (nI 0 ≤ r ∧ r ≤ nI 5)) : MtW (IM cy ad hp0) l D cy base mX9_hasRule (d + 1) 0 0 [.ref (ad 43), .int r] s (fun o s2 => o = .inl (some (.int (nI 0))) ∧ s2 = s) := by
  refine MtW.of hl mfX9_hasRule rfl (Nat.le_of_ble_eq_true rfl) ?_
  refine EW.iload_n dX9_hasRule_0 rfl rfl ?_
  refine EW.ic 0 dX9_hasRule_1 ?_
  refine EW.ic 5 dX9_hasRule_2 ?_
  refine EW.callS (bc := 0) (bs := 0) (M_in hl _ d s r (nI 0) (nI 5)) mfX9_in rfl l_X9_109 mvX9_in (by omega) dX9_hasRule_3 rfl rfl (Nat.le_of_ble_eq_true rfl) (fun v3 s3 q3 => ?_) (fun _ _ q => nomatch q.1)
  obtain ⟨e3, h3⟩ := q3; cases e3; replace h3 := h3.symm; subst h3
  refine EW.top (y := nI 0) ((if_neg h).trans (by decide +kernel)) ?_
  refine EW.if_eq 35 dX9_hasRule_6 (by decide) (fun c6 => ?_) (fun c6 => ?_)
  · refine EW.ic 0 dX9_hasRule_35 ?_
    refine EW.zret (ty := .boolean) rfl (by decide +kernel) dX9_hasRule_36 ?_
    exact ⟨rfl, rfl⟩
  · exact absurd c6 (by decide +kernel)
set_option maxHeartbeats 4000000 in
theorem M_hasRule1 (hl : l.stackTraces = false) (d : Nat) (s : MSt) (r z : Nat) (hr : r < 6) (hz : s.2 10 r = nI z) (hz9 : z < 64) : MtW (IM cy ad hp0) l D cy base mX9_hasRule (d + 1) 0 0 [.ref (ad 43), .int (nI r)] s (fun o s2 => o = .inl (some (.int (nI (if z = 0 then 0 else 1)))) ∧ s2 = s) := by
  refine MtW.of hl mfX9_hasRule rfl (Nat.le_of_ble_eq_true rfl) ?_
  refine EW.iload_n dX9_hasRule_0 rfl rfl ?_
  refine EW.ic 0 dX9_hasRule_1 ?_
  refine EW.ic 5 dX9_hasRule_2 ?_
  refine EW.callS (bc := 0) (bs := 0) (M_in hl _ d s (nI r) (nI 0) (nI 5)) mfX9_in rfl l_X9_109 mvX9_in (by omega) dX9_hasRule_3 rfl rfl (Nat.le_of_ble_eq_true rfl) (fun v3 s3 q3 => ?_) (fun _ _ q => nomatch q.1)
  obtain ⟨e3, h3⟩ := q3; cases e3; replace h3 := h3.symm; subst h3
  refine EW.top (y := nI 1) ((if_pos ⟨(nI_leI (by decide) (by omega)).mpr (by omega), (nI_leI (by omega) (by decide)).mpr (by omega)⟩).trans (by decide +kernel)) ?_
  refine EW.if_eq 35 dX9_hasRule_6 (by decide) (fun c6 => ?_) (fun c6 => ?_)
  · exact absurd c6 (by decide +kernel)
  · refine EW.aload_n dX9_hasRule_9 rfl rfl ?_
    refine EM.get f_X9_33 dX9_hasRule_10 rfl ?_
    refine EW.iload_n dX9_hasRule_13 rfl rfl ?_
    refine EW.ic 0 dX9_hasRule_14 ?_
    refine EW.ic 5 dX9_hasRule_15 ?_
    refine EW.callS (bc := 0) (bs := 0) (M_in hl _ d s (nI r) (nI 0) (nI 5)) mfX9_in rfl l_X9_109 mvX9_in (by omega) dX9_hasRule_16 rfl rfl (Nat.le_of_ble_eq_true rfl) (fun v16 s16 q16 => ?_) (fun _ _ q => nomatch q.1)
    obtain ⟨e16, h16⟩ := q16; cases e16; replace h16 := h16.symm; subst h16
    refine EW.top (y := nI 1) ((if_pos ⟨(nI_leI (by decide) (by omega)).mpr (by omega), (nI_leI (by omega) (by decide)).mpr (by omega)⟩).trans (by decide +kernel)) ?_
    refine EW.if_eq 26 dX9_hasRule_19 (by decide) (fun c19 => ?_) (fun c19 => ?_)
    · exact absurd c19 (by decide +kernel)
    · refine EW.iload_n dX9_hasRule_22 rfl rfl ?_
      refine EW.goto 27 dX9_hasRule_23 (by decide) ?_
      refine EM.ialdN r dX9_hasRule_27 rfl rfl (by simp only [mLen]; omega) ?_
      refine EW.top hz ?_
      refine EW.if_le 35 dX9_hasRule_28 (by decide) (fun c28 => ?_) (fun c28 => ?_)
      · have c28 : z = 0 := (nI_le0 (by omega)).mp c28
        refine EW.ic 0 dX9_hasRule_35 ?_
        refine EW.zret (ty := .boolean) rfl (by decide +kernel) dX9_hasRule_36 ?_
        rw [if_pos c28]; exact ⟨rfl, rfl⟩
      · have c28 : ¬ z = 0 := fun h => c28 ((nI_le0 (by omega)).mpr h)
        refine EW.ic 1 dX9_hasRule_31 ?_
        refine EW.goto 36 dX9_hasRule_32 (by decide) ?_
        refine EW.zret (ty := .boolean) rfl (by decide +kernel) dX9_hasRule_36 ?_
        rw [if_neg c28]; exact ⟨rfl, rfl⟩
end M3
