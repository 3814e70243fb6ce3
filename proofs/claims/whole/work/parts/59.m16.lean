section M16
variable {cy : Nat → ClassId} {ad : Nat → Nat} {hp0 : Hp} {l : Launch} {D : va_G} {base : Nat}
def ngK (G : Nat → Int32) (r : Nat) : Nat → Nat → Bool
  | 0, _ => false
  | n + 1, i => if G (64 * r + i) = 0 then true else ngK G r n (i + 1)
def ngR (zs : Nat → Nat) (G : Nat → Int32) : Nat → Nat → Option Nat
  | 0, _ => none
  | n + 1, r => if ngK G r (zs r) 0 = true then some r else ngR zs G n (r + 1)
theorem ngR_lt {zs : Nat → Nat} {G : Nat → Int32} : ∀ n r x, ngR zs G n r = some x → x < r + n
  | 0, r, x, h => by cases h
  | n + 1, r, x, h => by
    unfold ngR at h
    split at h
    · cases h; omega
    · have := ngR_lt n (r + 1) x h; omega
def ngI (o : Option Nat) : Int32 := match o with
  | none => nI 0
  | some r => nI (3 + 10 * r)
set_option maxHeartbeats 4000000 in
theorem M_fault_in (d : Nat) (zs : Nat → Nat) (r : Nat) (hr : r < 6) (s : MSt) (hG : GM zs s.2) (Q : Oc → MSt → Prop) : ∀ (n i : Nat), i + n = zs r → (ngK (s.2 12) r n i = true → Q (.inl (some (.int (nI (3 + 10 * r))))) s) → (¬ ngK (s.2 12) r n i = true → EW (IM cy ad hp0) l D cy base mX9_fault (d + 6) 0 0 79 [(0, .ref (ad 43)), (2, .int (nI r))] [] s Q) → EW (IM cy ad hp0) l D cy base mX9_fault (d + 6) 0 0 42 [(0, .ref (ad 43)), (2, .int (nI r)), (3, .int (nI (64 * r + i)))] [] s Q
  | 0, i, hi, K1, K2 => by
    have hz := (hG r hr).1
    have hz9 := (hG r hr).2.1
    refine EW.iload_n dX9_fault_42 rfl rfl ?_
    refine EW.bp 64 dX9_fault_43 ?_
    refine EW.iload_n dX9_fault_45 rfl rfl ?_
    refine EW.imul dX9_fault_46 ?_
    refine EW.top (pk_mul _ _) ?_
    refine EW.aload_n dX9_fault_47 rfl rfl ?_
    refine EM.get f_X9_33 dX9_fault_48 rfl ?_
    refine EW.iload_n dX9_fault_51 rfl rfl ?_
    refine EM.ialdN r dX9_fault_52 rfl rfl (by simp only [mLen]; omega) ?_
    refine EW.top hz ?_
    refine EW.iadd dX9_fault_53 ?_
    refine EW.top (nI_add _ _) ?_
    refine EW.icmp_ge 79 dX9_fault_54 (by decide) (fun c54 => ?_) (fun c54 => ?_)
    · have c54 : (64 * r) + (zs r) ≤ 64 * r + i := (nI_leI (by omega) (by omega)).mp c54
      exact EW.loc (lv' := [(0, .ref (ad 43)), (2, .int (nI r))]) ⟨rfl, rfl, trivial⟩ (K2 (by intro h; cases h))
    · have c54 : ¬ ((64 * r) + (zs r) ≤ 64 * r + i) := fun h => c54 ((nI_leI (by omega) (by omega)).mpr h); omega
  | n + 1, i, hi, K1, K2 => by
    have hz := (hG r hr).1
    have hz9 := (hG r hr).2.1
    refine EW.iload_n dX9_fault_42 rfl rfl ?_
    refine EW.bp 64 dX9_fault_43 ?_
    refine EW.iload_n dX9_fault_45 rfl rfl ?_
    refine EW.imul dX9_fault_46 ?_
    refine EW.top (pk_mul _ _) ?_
    refine EW.aload_n dX9_fault_47 rfl rfl ?_
    refine EM.get f_X9_33 dX9_fault_48 rfl ?_
    refine EW.iload_n dX9_fault_51 rfl rfl ?_
    refine EM.ialdN r dX9_fault_52 rfl rfl (by simp only [mLen]; omega) ?_
    refine EW.top hz ?_
    refine EW.iadd dX9_fault_53 ?_
    refine EW.top (nI_add _ _) ?_
    refine EW.icmp_ge 79 dX9_fault_54 (by decide) (fun c54 => ?_) (fun c54 => ?_)
    · have c54 : (64 * r) + (zs r) ≤ 64 * r + i := (nI_leI (by omega) (by omega)).mp c54; omega
    · have c54 : ¬ ((64 * r) + (zs r) ≤ 64 * r + i) := fun h => c54 ((nI_leI (by omega) (by omega)).mpr h)
      refine EW.aload_n dX9_fault_57 rfl rfl ?_
      refine EM.get f_X9_39 dX9_fault_58 rfl ?_
      refine EW.iload_n dX9_fault_61 rfl rfl ?_
      refine EM.zaldN (64 * r + i) dX9_fault_62 rfl rfl (by simp only [mLen]; omega) ?_
      refine EW.if_ne 73 dX9_fault_63 (by decide) (fun c63 => ?_) (fun c63 => ?_)
      · refine EW.iinc dX9_fault_73 rfl (nI_inc _) (by decide) ?_
        refine EW.goto 42 dX9_fault_76 (by decide) ?_
        have ek : ngK (s.2 12) r (n + 1) i = ngK (s.2 12) r n (i + 1) := by rw [ngK, if_neg c63]
        rw [ek] at K1 K2
        exact EW.loc (lv' := [(0, .ref (ad 43)), (2, .int (nI r)), (3, .int (nI (64 * r + (i + 1))))]) ⟨rfl, rfl, rfl, trivial⟩ (M_fault_in d zs r hr s hG Q n (i + 1) (by omega) K1 K2)
      · have ek : ngK (s.2 12) r (n + 1) i = true := by unfold ngK; rw [if_pos c63]
        refine EW.ic 3 dX9_fault_66 ?_
        refine EW.bp 10 dX9_fault_67 ?_
        refine EW.iload_n dX9_fault_69 rfl rfl ?_
        refine EW.imul dX9_fault_70 ?_
        refine EW.top (pk_mul _ _) ?_
        refine EW.iadd dX9_fault_71 ?_
        refine EW.top (nI_add _ _) ?_
        refine EW.iret rfl dX9_fault_72 ?_
        exact K1 ek
set_option maxHeartbeats 4000000 in
theorem M_fault_out (d : Nat) (zs : Nat → Nat) (s : MSt) (hG : GM zs s.2) : ∀ (n r : Nat), r + n = 6 → EW (IM cy ad hp0) l D cy base mX9_fault (d + 6) 0 0 31 [(0, .ref (ad 43)), (2, .int (nI r))] [] s (fun o s2 => o = .inl (some (.int (ngI (ngR zs (s.2 12) n r)))) ∧ s2 = s)
  | 0, r, hr => by
    refine EW.iload_n dX9_fault_31 rfl rfl ?_
    refine EW.bp 6 dX9_fault_32 ?_
    refine EW.icmp_ge 85 dX9_fault_34 (by decide) (fun c34 => ?_) (fun c34 => ?_)
    · have c34 : 6 ≤ r := (nI_leI (by omega) (by omega)).mp c34
      refine EW.ic 0 dX9_fault_85 ?_
      refine EW.iret rfl dX9_fault_86 ?_
      exact ⟨rfl, rfl⟩
    · have c34 : ¬ (6 ≤ r) := fun h => c34 ((nI_leI (by omega) (by omega)).mpr h); omega
  | n + 1, r, hr => by
    refine EW.iload_n dX9_fault_31 rfl rfl ?_
    refine EW.bp 6 dX9_fault_32 ?_
    refine EW.icmp_ge 85 dX9_fault_34 (by decide) (fun c34 => ?_) (fun c34 => ?_)
    · have c34 : 6 ≤ r := (nI_leI (by omega) (by omega)).mp c34; omega
    · have c34 : ¬ (6 ≤ r) := fun h => c34 ((nI_leI (by omega) (by omega)).mpr h)
      refine EW.bp 64 dX9_fault_37 ?_
      refine EW.iload_n dX9_fault_39 rfl rfl ?_
      refine EW.imul dX9_fault_40 ?_
      refine EW.top (pk_mul _ _) ?_
      refine EW.istore_n dX9_fault_41 rfl (by decide) ?_
      refine EW.loc (lv' := [(0, .ref (ad 43)), (2, .int (nI r)), (3, .int (nI (64 * r + 0)))]) ⟨rfl, rfl, rfl, trivial⟩ ?_
      refine M_fault_in d zs r (by omega) s hG _ (zs r) 0 (by omega) (fun hk => ⟨by rw [ngR, if_pos hk]; rfl, rfl⟩) (fun hk => ?_)
      refine EW.iinc dX9_fault_79 rfl (nI_inc _) (by decide) ?_
      refine EW.goto 31 dX9_fault_82 (by decide) ?_
      rw [ngR, if_neg hk]
      exact EW.loc (lv' := [(0, .ref (ad 43)), (2, .int (nI (r + 1)))]) ⟨rfl, rfl, trivial⟩ <| M_fault_out d zs s hG n (r + 1) (by omega)
theorem rlF_le {f : Nat → Int32} : ∀ n i c, rlF f n i c ≤ c + n
  | 0, i, c => Nat.le_refl _
  | n + 1, i, c => by
    unfold rlF
    refine Nat.le_trans (rlF_le n (i + 1) _) ?_
    split <;> omega
set_option maxHeartbeats 4000000 in
theorem M_fault0 (hl : l.stackTraces = false) (d : Nat) (s : MSt) (h : rlF (s.2 10) 6 0 0 = 0) : MtW (IM cy ad hp0) l D cy base mX9_fault (d + 6) 0 0 [.ref (ad 43)] s (fun o s2 => o = .inl (some (.int (nI 1))) ∧ s2 = s) := by
  refine MtW.of hl mfX9_fault rfl (Nat.le_of_ble_eq_true rfl) ?_
  have hrl := rlF_le (f := s.2 10) 6 0 0
  refine EW.aload_n dX9_fault_0 rfl rfl ?_
  refine EM.callV (M_rules hl 0 s) mfX9_rules l_X9_201 mvX9_rules (by omega) dX9_fault_1 rfl rfl rfl rfl (Nat.le_of_ble_eq_true rfl) (fun _ _ q => nomatch q.1) (fun v1 s1 q1 => ?_)
  obtain ⟨e1, h1⟩ := q1; cases e1; replace h1 := h1.symm; subst h1
  refine EW.if_ne 9 dX9_fault_4 (by decide) (fun c4 => ?_) (fun c4 => ?_)
  · have c4 : ¬ rlF (s.2 10) 6 0 0 = 0 := fun h => c4 ((nI_eq0 (by omega)).mpr h); exact absurd h c4
  · have c4 : rlF (s.2 10) 6 0 0 = 0 := (nI_eq0 (by omega)).mp c4
    refine EW.ic 1 dX9_fault_7 ?_
    refine EW.iret rfl dX9_fault_8 ?_
    exact ⟨rfl, rfl⟩
set_option maxHeartbeats 4000000 in
theorem M_fault1 (hl : l.stackTraces = false) (d : Nat) (s : MSt) (zs : Nat → Nat) (hG : GM zs s.2) (h : ¬ rlF (s.2 10) 6 0 0 = 0) (x : Nat) (hx : lkR zs s.2 6 0 none = some x) : MtW (IM cy ad hp0) l D cy base mX9_fault (d + 6) 0 0 [.ref (ad 43)] s (fun o s2 => o = .inl (some (.int (nI (2 + 10 * x)))) ∧ s2 = s) := by
  refine MtW.of hl mfX9_fault rfl (Nat.le_of_ble_eq_true rfl) ?_
  have hrl := rlF_le (f := s.2 10) 6 0 0
  have hx6 : x < 6 := lkR_6 hG 6 0 none (by decide) (fun _ h => by cases h) x hx
  refine EW.aload_n dX9_fault_0 rfl rfl ?_
  refine EM.callV (M_rules hl 0 s) mfX9_rules l_X9_201 mvX9_rules (by omega) dX9_fault_1 rfl rfl rfl rfl (Nat.le_of_ble_eq_true rfl) (fun _ _ q => nomatch q.1) (fun v1 s1 q1 => ?_)
  obtain ⟨e1, h1⟩ := q1; cases e1; replace h1 := h1.symm; subst h1
  refine EW.if_ne 9 dX9_fault_4 (by decide) (fun c4 => ?_) (fun c4 => ?_)
  · have c4 : ¬ rlF (s.2 10) 6 0 0 = 0 := fun h => c4 ((nI_eq0 (by omega)).mpr h)
    refine EW.aload_n dX9_fault_9 rfl rfl ?_
    refine EM.callV (hx ▸ M_lacking hl 0 zs s hG) mfX9_lacking l_X9_195 mvX9_lacking (by omega) dX9_fault_10 rfl rfl rfl rfl (Nat.le_of_ble_eq_true rfl) (fun _ _ q => nomatch q.1) (fun v10 s10 q10 => ?_)
    obtain ⟨e10, h10⟩ := q10; cases e10; replace h10 := h10.symm; subst h10
    refine EW.istore_n dX9_fault_13 rfl (by decide) ?_
    refine EW.iload_n dX9_fault_14 rfl rfl ?_
    refine EW.if_lt 25 dX9_fault_15 (by decide) (fun c15 => ?_) (fun c15 => ?_)
    · exact absurd c15 (nI_pos (by omega))
    · refine EW.ic 2 dX9_fault_18 ?_
      refine EW.bp 10 dX9_fault_19 ?_
      refine EW.iload_n dX9_fault_21 rfl rfl ?_
      refine EW.imul dX9_fault_22 ?_
      refine EW.top (pk_mul _ _) ?_
      refine EW.iadd dX9_fault_23 ?_
      refine EW.top (nI_add _ _) ?_
      refine EW.iret rfl dX9_fault_24 ?_
      exact ⟨rfl, rfl⟩
  · have c4 : rlF (s.2 10) 6 0 0 = 0 := (nI_eq0 (by omega)).mp c4; exact absurd c4 h
set_option maxHeartbeats 4000000 in
theorem M_fault2 (hl : l.stackTraces = false) (d : Nat) (s : MSt) (zs : Nat → Nat) (hG : GM zs s.2) (h : ¬ rlF (s.2 10) 6 0 0 = 0) (hx : lkR zs s.2 6 0 none = none) (P : MSt → Prop) (hE : ∀ s1, ZR s s1 → ∃ n s2 n2 s3, stpO zs n s1 s2 ∧ stpG zs n2 s2 s3 ∧ P s3) (hPG : ∀ s3, P s3 → GM zs s3.2) : MtW (IM cy ad hp0) l D cy base mX9_fault (d + 6) 0 0 [.ref (ad 43)] s (fun o s2 => o = .inl (some (.int (ngI (ngR zs (s2.2 12) 6 0)))) ∧ P s2) := by
  refine MtW.of hl mfX9_fault rfl (Nat.le_of_ble_eq_true rfl) ?_
  have hrl := rlF_le (f := s.2 10) 6 0 0
  refine EW.aload_n dX9_fault_0 rfl rfl ?_
  refine EM.callV (M_rules hl 0 s) mfX9_rules l_X9_201 mvX9_rules (by omega) dX9_fault_1 rfl rfl rfl rfl (Nat.le_of_ble_eq_true rfl) (fun _ _ q => nomatch q.1) (fun v1 s1 q1 => ?_)
  obtain ⟨e1, h1⟩ := q1; cases e1; replace h1 := h1.symm; subst h1
  refine EW.if_ne 9 dX9_fault_4 (by decide) (fun c4 => ?_) (fun c4 => ?_)
  · have c4 : ¬ rlF (s.2 10) 6 0 0 = 0 := fun h => c4 ((nI_eq0 (by omega)).mpr h)
    refine EW.aload_n dX9_fault_9 rfl rfl ?_
    refine EM.callV (hx ▸ M_lacking hl 0 zs s hG) mfX9_lacking l_X9_195 mvX9_lacking (by omega) dX9_fault_10 rfl rfl rfl rfl (Nat.le_of_ble_eq_true rfl) (fun _ _ q => nomatch q.1) (fun v10 s10 q10 => ?_)
    obtain ⟨e10, h10⟩ := q10; cases e10; replace h10 := h10.symm; subst h10
    refine EW.istore_n dX9_fault_13 rfl (by decide) ?_
    refine EW.iload_n dX9_fault_14 rfl rfl ?_
    refine EW.if_lt 25 dX9_fault_15 (by decide) (fun c15 => ?_) (fun c15 => ?_)
    · refine EW.aload_n dX9_fault_25 rfl rfl ?_
      refine EM.callV (M_study hl d zs s hG P hE) mfX9_study l_X9_198 mvX9_study (by omega) dX9_fault_26 rfl rfl rfl rfl (Nat.le_of_ble_eq_true rfl) (fun _ _ q => nomatch q.1) (fun v26 s26 q26 => ?_)
      obtain ⟨e26, hP26⟩ := q26; cases e26
      refine EW.ic 0 dX9_fault_29 ?_
      refine EW.istore_n dX9_fault_30 rfl (by decide) ?_
      exact EW.loc (lv' := [(0, .ref (ad 43)), (2, .int (nI 0))]) ⟨rfl, rfl, trivial⟩ (EW.post (fun o s3 q => by obtain ⟨q1, q2⟩ := q; subst q2; exact ⟨q1, hP26⟩) (M_fault_out d zs s26 (hPG s26 hP26) 6 0 rfl))
    · exact absurd (by decide +kernel) c15
  · have c4 : rlF (s.2 10) 6 0 0 = 0 := (nI_eq0 (by omega)).mp c4; exact absurd c4 h
set_option maxHeartbeats 4000000 in
theorem M_check (hl : l.stackTraces = false) (d : Nat) (s : MSt) (Q : Oc → MSt → Prop) (hF : MtW (IM cy ad hp0) l D cy base mX9_fault (d + 6) 0 0 [.ref (ad 43)] (fU 0 (nI 0) s) Q) (hQ : ∀ o s2, Q o s2 → ∃ v, o = .inl (some (.int v))) : MtW (IM cy ad hp0) l D cy base mX9_check (d + 7) 0 0 [.ref (ad 43)] s (fun o s2 => Q o s2) := by
  refine MtW.of hl mfX9_check rfl (Nat.le_of_ble_eq_true rfl) ?_
  refine EW.aload_n dX9_check_0 rfl rfl ?_
  refine EW.ic 0 dX9_check_1 ?_
  refine EM.put f_X9_105 dX9_check_2 rfl ?_
  refine EW.aload_n dX9_check_5 rfl rfl ?_
  refine EM.callV (hF) mfX9_fault l_X9_204 mvX9_fault (by omega) dX9_check_6 rfl rfl rfl rfl (Nat.le_of_ble_eq_true rfl) (fun X s9 q => by obtain ⟨v, e⟩ := hQ _ _ q; cases e) (fun v6 s6 q6 => ?_)
  obtain ⟨v9, e9⟩ := hQ _ _ q6; cases e9
  refine EW.iret rfl dX9_check_9 ?_
  exact q6
set_option maxHeartbeats 4000000 in
theorem M_outs1 (hl : l.stackTraces = false) (d : Nat) (s : MSt) (r : Int32) (hR : MtW (IM cy ad hp0) l D cy base mX9_hasRule (0 + 1) 0 0 [.ref (ad 43), .int r] s (fun o s2 => o = .inl (some (.int (nI 0))) ∧ s2 = s)) : MtW (IM cy ad hp0) l D cy base mX9_outcomes (d + 6) 0 0 [.ref (ad 43), .int r] s (fun o s2 => o = .inl (some (.int (nI 0))) ∧ s2 = fU 0 (nI 1) s) := by
  refine MtW.of hl mfX9_outcomes rfl (Nat.le_of_ble_eq_true rfl) ?_
  refine EW.aload_n dX9_outcomes_0 rfl rfl ?_
  refine EW.aload_n dX9_outcomes_1 rfl rfl ?_
  refine EW.iload_n dX9_outcomes_2 rfl rfl ?_
  refine EM.callV (hR) mfX9_hasRule l_X9_191 mvX9_hasRule (by omega) dX9_outcomes_3 rfl rfl rfl rfl (Nat.le_of_ble_eq_true rfl) (fun _ _ q => nomatch q.1) (fun v3 s3 q3 => ?_)
  obtain ⟨e3, h3⟩ := q3; cases e3; replace h3 := h3.symm; subst h3
  refine EW.if_ne 13 dX9_outcomes_6 (by decide) (fun c6 => ?_) (fun c6 => ?_)
  · exact absurd c6 (by decide +kernel)
  · refine EW.ic 1 dX9_outcomes_9 ?_
    refine EW.goto 25 dX9_outcomes_10 (by decide) ?_
    refine EM.put f_X9_105 dX9_outcomes_25 rfl ?_
    refine EW.aload_n dX9_outcomes_28 rfl rfl ?_
    refine EM.get f_X9_105 dX9_outcomes_29 rfl ?_
    refine EW.top (show va_up s.1 0 (nI 1) 0 = nI 1 from va_up_self _ _ _) ?_
    refine EW.if_le 37 dX9_outcomes_32 (by decide) (fun c32 => ?_) (fun c32 => ?_)
    · exact absurd c32 (by decide +kernel)
    · refine EW.ic 0 dX9_outcomes_35 ?_
      refine EW.iret rfl dX9_outcomes_36 ?_
      exact ⟨rfl, rfl⟩
set_option maxHeartbeats 4000000 in
theorem M_outs2 (hl : l.stackTraces = false) (d : Nat) (s : MSt) (r : Nat) (hr : r < 6) (hR : MtW (IM cy ad hp0) l D cy base mX9_hasRule (0 + 1) 0 0 [.ref (ad 43), .int (nI r)] s (fun o s2 => o = .inl (some (.int (nI 1))) ∧ s2 = s)) (zs : Nat → Nat) (hG : GM zs s.2) (x : Nat) (hx : lkR zs s.2 6 0 none = some x) (hx6 : x < 6) : MtW (IM cy ad hp0) l D cy base mX9_outcomes (d + 6) 0 0 [.ref (ad 43), .int (nI r)] s (fun o s2 => o = .inl (some (.int (nI 0))) ∧ s2 = fU 0 (nI 2) s) := by
  refine MtW.of hl mfX9_outcomes rfl (Nat.le_of_ble_eq_true rfl) ?_
  refine EW.aload_n dX9_outcomes_0 rfl rfl ?_
  refine EW.aload_n dX9_outcomes_1 rfl rfl ?_
  refine EW.iload_n dX9_outcomes_2 rfl rfl ?_
  refine EM.callV (hR) mfX9_hasRule l_X9_191 mvX9_hasRule (by omega) dX9_outcomes_3 rfl rfl rfl rfl (Nat.le_of_ble_eq_true rfl) (fun _ _ q => nomatch q.1) (fun v3 s3 q3 => ?_)
  obtain ⟨e3, h3⟩ := q3; cases e3; replace h3 := h3.symm; subst h3
  refine EW.if_ne 13 dX9_outcomes_6 (by decide) (fun c6 => ?_) (fun c6 => ?_)
  · refine EW.aload_n dX9_outcomes_13 rfl rfl ?_
    refine EM.callV (hx ▸ M_lacking hl 0 zs s hG) mfX9_lacking l_X9_195 mvX9_lacking (by omega) dX9_outcomes_14 rfl rfl rfl rfl (Nat.le_of_ble_eq_true rfl) (fun _ _ q => nomatch q.1) (fun v14 s14 q14 => ?_)
    obtain ⟨e14, h14⟩ := q14; cases e14; replace h14 := h14.symm; subst h14
    refine EW.if_lt 24 dX9_outcomes_17 (by decide) (fun c17 => ?_) (fun c17 => ?_)
    · exact absurd c17 (nI_pos (by omega))
    · refine EW.ic 2 dX9_outcomes_20 ?_
      refine EW.goto 25 dX9_outcomes_21 (by decide) ?_
      refine EM.put f_X9_105 dX9_outcomes_25 rfl ?_
      refine EW.aload_n dX9_outcomes_28 rfl rfl ?_
      refine EM.get f_X9_105 dX9_outcomes_29 rfl ?_
      refine EW.top (show va_up s.1 0 (nI 2) 0 = nI 2 from va_up_self _ _ _) ?_
      refine EW.if_le 37 dX9_outcomes_32 (by decide) (fun c32 => ?_) (fun c32 => ?_)
      · exact absurd c32 (by decide +kernel)
      · refine EW.ic 0 dX9_outcomes_35 ?_
        refine EW.iret rfl dX9_outcomes_36 ?_
        exact ⟨rfl, rfl⟩
  · exact absurd c6 (by decide +kernel)
set_option maxHeartbeats 4000000 in
theorem M_outs3 (hl : l.stackTraces = false) (d : Nat) (s : MSt) (r : Nat) (hr : r < 6) (hR : MtW (IM cy ad hp0) l D cy base mX9_hasRule (0 + 1) 0 0 [.ref (ad 43), .int (nI r)] s (fun o s2 => o = .inl (some (.int (nI 1))) ∧ s2 = s)) (zs : Nat → Nat) (hG : GM zs s.2) (hz1 : 1 ≤ zs r) (hx : lkR zs s.2 6 0 none = none) (P : MSt → Prop) (hE : ∀ s1, ZR (fU 0 (nI 0) s) s1 → ∃ n s2 n2 s3, stpO zs n s1 s2 ∧ stpG zs n2 s2 s3 ∧ P s3) (hPG : ∀ s3, P s3 → GM zs s3.2) : MtW (IM cy ad hp0) l D cy base mX9_outcomes (d + 6) 0 0 [.ref (ad 43), .int (nI r)] s (fun o s2 => o = .inl (some (.int (s2.2 11 (64 * r + zs r - 1)))) ∧ P s2) := by
  refine MtW.of hl mfX9_outcomes rfl (Nat.le_of_ble_eq_true rfl) ?_
  refine EW.aload_n dX9_outcomes_0 rfl rfl ?_
  refine EW.aload_n dX9_outcomes_1 rfl rfl ?_
  refine EW.iload_n dX9_outcomes_2 rfl rfl ?_
  refine EM.callV (hR) mfX9_hasRule l_X9_191 mvX9_hasRule (by omega) dX9_outcomes_3 rfl rfl rfl rfl (Nat.le_of_ble_eq_true rfl) (fun _ _ q => nomatch q.1) (fun v3 s3 q3 => ?_)
  obtain ⟨e3, h3⟩ := q3; cases e3; replace h3 := h3.symm; subst h3
  refine EW.if_ne 13 dX9_outcomes_6 (by decide) (fun c6 => ?_) (fun c6 => ?_)
  · refine EW.aload_n dX9_outcomes_13 rfl rfl ?_
    refine EM.callV (hx ▸ M_lacking hl 0 zs s hG) mfX9_lacking l_X9_195 mvX9_lacking (by omega) dX9_outcomes_14 rfl rfl rfl rfl (Nat.le_of_ble_eq_true rfl) (fun _ _ q => nomatch q.1) (fun v14 s14 q14 => ?_)
    obtain ⟨e14, h14⟩ := q14; cases e14; replace h14 := h14.symm; subst h14
    refine EW.if_lt 24 dX9_outcomes_17 (by decide) (fun c17 => ?_) (fun c17 => ?_)
    · refine EW.ic 0 dX9_outcomes_24 ?_
      refine EM.put f_X9_105 dX9_outcomes_25 rfl ?_
      refine EW.aload_n dX9_outcomes_28 rfl rfl ?_
      refine EM.get f_X9_105 dX9_outcomes_29 rfl ?_
      refine EW.top (show va_up s.1 0 (nI 0) 0 = nI 0 from va_up_self _ _ _) ?_
      refine EW.if_le 37 dX9_outcomes_32 (by decide) (fun c32 => ?_) (fun c32 => ?_)
      · refine EW.aload_n dX9_outcomes_37 rfl rfl ?_
        refine EM.callV (M_study hl d zs (fU 0 (nI 0) s) hG P hE) mfX9_study l_X9_198 mvX9_study (by omega) dX9_outcomes_38 rfl rfl rfl rfl (Nat.le_of_ble_eq_true rfl) (fun _ _ q => nomatch q.1) (fun v38 s38 q38 => ?_)
        obtain ⟨e38, hP38⟩ := q38; cases e38
        have hz2 := (hPG _ hP38 r hr).1
        have hz9 := (hPG _ hP38 r hr).2.1
        refine EW.aload_n dX9_outcomes_41 rfl rfl ?_
        refine EM.get f_X9_36 dX9_outcomes_42 rfl ?_
        refine EW.bp 64 dX9_outcomes_45 ?_
        refine EW.iload_n dX9_outcomes_47 rfl rfl ?_
        refine EW.imul dX9_outcomes_48 ?_
        refine EW.top (pk_mul _ _) ?_
        refine EW.aload_n dX9_outcomes_49 rfl rfl ?_
        refine EM.get f_X9_33 dX9_outcomes_50 rfl ?_
        refine EW.iload_n dX9_outcomes_53 rfl rfl ?_
        refine EM.ialdN r dX9_outcomes_54 rfl rfl (by simp only [mLen]; omega) ?_
        refine EW.top hz2 ?_
        refine EW.iadd dX9_outcomes_55 ?_
        refine EW.top (nI_add _ _) ?_
        refine EW.ic 1 dX9_outcomes_56 ?_
        refine EW.isub dX9_outcomes_57 ?_
        refine EW.top (pk_sub (by omega)) ?_
        refine EM.ialdN (((64 * r) + (zs r)) - 1) dX9_outcomes_58 rfl rfl (by simp only [mLen]; omega) ?_
        refine EW.iret rfl dX9_outcomes_59 ?_
        exact ⟨rfl, hP38⟩
      · exact absurd c32 (by decide +kernel)
    · exact absurd (by decide +kernel) c17
  · exact absurd c6 (by decide +kernel)
set_option maxHeartbeats 4000000 in
theorem M_node0 (hl : l.stackTraces = false) (d : Nat) (s : MSt) (i q : Int32) (h : ¬ (nI 0 ≤ i ∧ i ≤ s.1 28 - nI 1)) : MtW (IM cy ad hp0) l D cy base mX9_node (d + 1) 0 0 [.ref (ad 43), .int i, .int q] s (fun o s2 => o = .inl (some (.int (nI 0))) ∧ s2 = fU 0 (nI 1) s) := by
  refine MtW.of hl mfX9_node rfl (Nat.le_of_ble_eq_true rfl) ?_
  refine EW.aload_n dX9_node_0 rfl rfl ?_
  refine EW.iload_n dX9_node_1 rfl rfl ?_
  refine EW.ic 0 dX9_node_2 ?_
  refine EW.aload_n dX9_node_3 rfl rfl ?_
  refine EM.get f_X9_246 dX9_node_4 rfl ?_
  refine EW.ic 1 dX9_node_7 ?_
  refine EW.isub dX9_node_8 ?_
  refine EW.callS (bc := 0) (bs := 0) (M_in hl _ 0 s _ _ _) mfX9_in rfl l_X9_109 mvX9_in (by omega) dX9_node_9 rfl rfl (Nat.le_of_ble_eq_true rfl) (fun v9 s9 q9 => ?_) (fun _ _ q => nomatch q.1)
  obtain ⟨e9, h9⟩ := q9; cases e9; replace h9 := h9.symm; subst h9
  refine EW.top (y := nI 0) ((if_neg h).trans (by decide +kernel)) ?_
  refine EW.if_eq 28 dX9_node_12 (by decide) (fun c12 => ?_) (fun c12 => ?_)
  · refine EW.ic 1 dX9_node_28 ?_
    refine EM.put f_X9_105 dX9_node_29 rfl ?_
    refine EW.aload_n dX9_node_32 rfl rfl ?_
    refine EM.get f_X9_105 dX9_node_33 rfl ?_
    refine EW.top (show va_up s.1 0 (nI 1) 0 = nI 1 from va_up_self _ _ _) ?_
    refine EW.if_le 41 dX9_node_36 (by decide) (fun c36 => ?_) (fun c36 => ?_)
    · exact absurd c36 (by decide +kernel)
    · refine EW.ic 0 dX9_node_39 ?_
      refine EW.iret rfl dX9_node_40 ?_
      exact ⟨rfl, rfl⟩
  · exact absurd c12 (by decide +kernel)
set_option maxHeartbeats 4000000 in
theorem M_node1 (hl : l.stackTraces = false) (d : Nat) (s : MSt) (i q : Int32) (h : nI 0 ≤ i ∧ i ≤ s.1 28 - nI 1) (h2 : ¬ (nI 0 ≤ q ∧ q ≤ nI 3)) : MtW (IM cy ad hp0) l D cy base mX9_node (d + 1) 0 0 [.ref (ad 43), .int i, .int q] s (fun o s2 => o = .inl (some (.int (nI 0))) ∧ s2 = fU 0 (nI 1) s) := by
  refine MtW.of hl mfX9_node rfl (Nat.le_of_ble_eq_true rfl) ?_
  refine EW.aload_n dX9_node_0 rfl rfl ?_
  refine EW.iload_n dX9_node_1 rfl rfl ?_
  refine EW.ic 0 dX9_node_2 ?_
  refine EW.aload_n dX9_node_3 rfl rfl ?_
  refine EM.get f_X9_246 dX9_node_4 rfl ?_
  refine EW.ic 1 dX9_node_7 ?_
  refine EW.isub dX9_node_8 ?_
  refine EW.callS (bc := 0) (bs := 0) (M_in hl _ 0 s _ _ _) mfX9_in rfl l_X9_109 mvX9_in (by omega) dX9_node_9 rfl rfl (Nat.le_of_ble_eq_true rfl) (fun v9 s9 q9 => ?_) (fun _ _ q => nomatch q.1)
  obtain ⟨e9, h9⟩ := q9; cases e9; replace h9 := h9.symm; subst h9
  refine EW.top (y := nI 1) ((if_pos h).trans (by decide +kernel)) ?_
  refine EW.if_eq 28 dX9_node_12 (by decide) (fun c12 => ?_) (fun c12 => ?_)
  · exact absurd c12 (by decide +kernel)
  · refine EW.iload_n dX9_node_15 rfl rfl ?_
    refine EW.ic 0 dX9_node_16 ?_
    refine EW.ic 3 dX9_node_17 ?_
    refine EW.callS (bc := 0) (bs := 0) (M_in hl _ 0 s _ _ _) mfX9_in rfl l_X9_109 mvX9_in (by omega) dX9_node_18 rfl rfl (Nat.le_of_ble_eq_true rfl) (fun v18 s18 q18 => ?_) (fun _ _ q => nomatch q.1)
    obtain ⟨e18, h18⟩ := q18; cases e18; replace h18 := h18.symm; subst h18
    refine EW.top (y := nI 0) ((if_neg h2).trans (by decide +kernel)) ?_
    refine EW.if_eq 28 dX9_node_21 (by decide) (fun c21 => ?_) (fun c21 => ?_)
    · refine EW.ic 1 dX9_node_28 ?_
      refine EM.put f_X9_105 dX9_node_29 rfl ?_
      refine EW.aload_n dX9_node_32 rfl rfl ?_
      refine EM.get f_X9_105 dX9_node_33 rfl ?_
      refine EW.top (show va_up s.1 0 (nI 1) 0 = nI 1 from va_up_self _ _ _) ?_
      refine EW.if_le 41 dX9_node_36 (by decide) (fun c36 => ?_) (fun c36 => ?_)
      · exact absurd c36 (by decide +kernel)
      · refine EW.ic 0 dX9_node_39 ?_
        refine EW.iret rfl dX9_node_40 ?_
        exact ⟨rfl, rfl⟩
    · exact absurd c21 (by decide +kernel)
set_option maxHeartbeats 4000000 in
theorem M_node20 (hl : l.stackTraces = false) (d : Nat) (s : MSt) (i m : Nat) (h : nI 0 ≤ nI i ∧ nI i ≤ s.1 28 - nI 1) (hi : i < 60) : MtW (IM cy ad hp0) l D cy base mX9_node (d + 1) 0 0 [.ref (ad 43), .int (nI i), .int (nI 0)] s (fun o s2 => o = .inl (some (.int (s.2 29 i))) ∧ s2 = fU 0 (nI 0) s) := by
  refine MtW.of hl mfX9_node rfl (Nat.le_of_ble_eq_true rfl) ?_
  refine EW.aload_n dX9_node_0 rfl rfl ?_
  refine EW.iload_n dX9_node_1 rfl rfl ?_
  refine EW.ic 0 dX9_node_2 ?_
  refine EW.aload_n dX9_node_3 rfl rfl ?_
  refine EM.get f_X9_246 dX9_node_4 rfl ?_
  refine EW.ic 1 dX9_node_7 ?_
  refine EW.isub dX9_node_8 ?_
  refine EW.callS (bc := 0) (bs := 0) (M_in hl _ 0 s _ _ _) mfX9_in rfl l_X9_109 mvX9_in (by omega) dX9_node_9 rfl rfl (Nat.le_of_ble_eq_true rfl) (fun v9 s9 q9 => ?_) (fun _ _ q => nomatch q.1)
  obtain ⟨e9, h9⟩ := q9; cases e9; replace h9 := h9.symm; subst h9
  refine EW.top (y := nI 1) ((if_pos h).trans (by decide +kernel)) ?_
  refine EW.if_eq 28 dX9_node_12 (by decide) (fun c12 => ?_) (fun c12 => ?_)
  · exact absurd c12 (by decide +kernel)
  · refine EW.iload_n dX9_node_15 rfl rfl ?_
    refine EW.ic 0 dX9_node_16 ?_
    refine EW.ic 3 dX9_node_17 ?_
    refine EW.callS (bc := 0) (bs := 0) (M_in hl _ 0 s _ _ _) mfX9_in rfl l_X9_109 mvX9_in (by omega) dX9_node_18 rfl rfl (Nat.le_of_ble_eq_true rfl) (fun v18 s18 q18 => ?_) (fun _ _ q => nomatch q.1)
    obtain ⟨e18, h18⟩ := q18; cases e18; replace h18 := h18.symm; subst h18
    refine EW.top (y := nI 1) (by decide +kernel) ?_
    refine EW.if_eq 28 dX9_node_21 (by decide) (fun c21 => ?_) (fun c21 => ?_)
    · exact absurd c21 (by decide +kernel)
    · refine EW.ic 0 dX9_node_24 ?_
      refine EW.goto 29 dX9_node_25 (by decide) ?_
      refine EM.put f_X9_105 dX9_node_29 rfl ?_
      refine EW.aload_n dX9_node_32 rfl rfl ?_
      refine EM.get f_X9_105 dX9_node_33 rfl ?_
      refine EW.top (show va_up s.1 0 (nI 0) 0 = nI 0 from va_up_self _ _ _) ?_
      refine EW.if_le 41 dX9_node_36 (by decide) (fun c36 => ?_) (fun c36 => ?_)
      · refine EW.iload_n dX9_node_41 rfl rfl ?_
        refine EW.if_ne 54 dX9_node_42 (by decide) (fun c42 => ?_) (fun c42 => ?_)
        · exact absurd c42 (by decide +kernel)
        · refine EW.aload_n dX9_node_45 rfl rfl ?_
          refine EM.get f_X9_69 dX9_node_46 rfl ?_
          refine EW.iload_n dX9_node_49 rfl rfl ?_
          refine EM.ialdN i dX9_node_50 rfl rfl (by simp only [mLen]; omega) ?_
          refine EW.goto 88 dX9_node_51 (by decide) ?_
          refine EW.iret rfl dX9_node_88 ?_
          exact ⟨rfl, rfl⟩
      · exact absurd c36 (by decide +kernel)
set_option maxHeartbeats 4000000 in
theorem M_node21 (hl : l.stackTraces = false) (d : Nat) (s : MSt) (i m : Nat) (h : nI 0 ≤ nI i ∧ nI i ≤ s.1 28 - nI 1) (hi : i < 60) : MtW (IM cy ad hp0) l D cy base mX9_node (d + 1) 0 0 [.ref (ad 43), .int (nI i), .int (nI 1)] s (fun o s2 => o = .inl (some (.int (s.2 30 i))) ∧ s2 = fU 0 (nI 0) s) := by
  refine MtW.of hl mfX9_node rfl (Nat.le_of_ble_eq_true rfl) ?_
  refine EW.aload_n dX9_node_0 rfl rfl ?_
  refine EW.iload_n dX9_node_1 rfl rfl ?_
  refine EW.ic 0 dX9_node_2 ?_
  refine EW.aload_n dX9_node_3 rfl rfl ?_
  refine EM.get f_X9_246 dX9_node_4 rfl ?_
  refine EW.ic 1 dX9_node_7 ?_
  refine EW.isub dX9_node_8 ?_
  refine EW.callS (bc := 0) (bs := 0) (M_in hl _ 0 s _ _ _) mfX9_in rfl l_X9_109 mvX9_in (by omega) dX9_node_9 rfl rfl (Nat.le_of_ble_eq_true rfl) (fun v9 s9 q9 => ?_) (fun _ _ q => nomatch q.1)
  obtain ⟨e9, h9⟩ := q9; cases e9; replace h9 := h9.symm; subst h9
  refine EW.top (y := nI 1) ((if_pos h).trans (by decide +kernel)) ?_
  refine EW.if_eq 28 dX9_node_12 (by decide) (fun c12 => ?_) (fun c12 => ?_)
  · exact absurd c12 (by decide +kernel)
  · refine EW.iload_n dX9_node_15 rfl rfl ?_
    refine EW.ic 0 dX9_node_16 ?_
    refine EW.ic 3 dX9_node_17 ?_
    refine EW.callS (bc := 0) (bs := 0) (M_in hl _ 0 s _ _ _) mfX9_in rfl l_X9_109 mvX9_in (by omega) dX9_node_18 rfl rfl (Nat.le_of_ble_eq_true rfl) (fun v18 s18 q18 => ?_) (fun _ _ q => nomatch q.1)
    obtain ⟨e18, h18⟩ := q18; cases e18; replace h18 := h18.symm; subst h18
    refine EW.top (y := nI 1) (by decide +kernel) ?_
    refine EW.if_eq 28 dX9_node_21 (by decide) (fun c21 => ?_) (fun c21 => ?_)
    · exact absurd c21 (by decide +kernel)
    · refine EW.ic 0 dX9_node_24 ?_
      refine EW.goto 29 dX9_node_25 (by decide) ?_
      refine EM.put f_X9_105 dX9_node_29 rfl ?_
      refine EW.aload_n dX9_node_32 rfl rfl ?_
      refine EM.get f_X9_105 dX9_node_33 rfl ?_
      refine EW.top (show va_up s.1 0 (nI 0) 0 = nI 0 from va_up_self _ _ _) ?_
      refine EW.if_le 41 dX9_node_36 (by decide) (fun c36 => ?_) (fun c36 => ?_)
      · refine EW.iload_n dX9_node_41 rfl rfl ?_
        refine EW.if_ne 54 dX9_node_42 (by decide) (fun c42 => ?_) (fun c42 => ?_)
        · refine EW.iload_n dX9_node_54 rfl rfl ?_
          refine EW.ic 1 dX9_node_55 ?_
          refine EW.icmp_ne 68 dX9_node_56 (by decide) (fun c56 => ?_) (fun c56 => ?_)
          · exact absurd c56 (by decide +kernel)
          · refine EW.aload_n dX9_node_59 rfl rfl ?_
            refine EM.get f_X9_72 dX9_node_60 rfl ?_
            refine EW.iload_n dX9_node_63 rfl rfl ?_
            refine EM.ialdN i dX9_node_64 rfl rfl (by simp only [mLen]; omega) ?_
            refine EW.goto 88 dX9_node_65 (by decide) ?_
            refine EW.iret rfl dX9_node_88 ?_
            exact ⟨rfl, rfl⟩
        · exact absurd c42 (by decide +kernel)
      · exact absurd c36 (by decide +kernel)
set_option maxHeartbeats 4000000 in
theorem M_node22 (hl : l.stackTraces = false) (d : Nat) (s : MSt) (i m : Nat) (h : nI 0 ≤ nI i ∧ nI i ≤ s.1 28 - nI 1) (hi : i < 60) : MtW (IM cy ad hp0) l D cy base mX9_node (d + 1) 0 0 [.ref (ad 43), .int (nI i), .int (nI 2)] s (fun o s2 => o = .inl (some (.int (s.2 31 i))) ∧ s2 = fU 0 (nI 0) s) := by
  refine MtW.of hl mfX9_node rfl (Nat.le_of_ble_eq_true rfl) ?_
  refine EW.aload_n dX9_node_0 rfl rfl ?_
  refine EW.iload_n dX9_node_1 rfl rfl ?_
  refine EW.ic 0 dX9_node_2 ?_
  refine EW.aload_n dX9_node_3 rfl rfl ?_
  refine EM.get f_X9_246 dX9_node_4 rfl ?_
  refine EW.ic 1 dX9_node_7 ?_
  refine EW.isub dX9_node_8 ?_
  refine EW.callS (bc := 0) (bs := 0) (M_in hl _ 0 s _ _ _) mfX9_in rfl l_X9_109 mvX9_in (by omega) dX9_node_9 rfl rfl (Nat.le_of_ble_eq_true rfl) (fun v9 s9 q9 => ?_) (fun _ _ q => nomatch q.1)
  obtain ⟨e9, h9⟩ := q9; cases e9; replace h9 := h9.symm; subst h9
  refine EW.top (y := nI 1) ((if_pos h).trans (by decide +kernel)) ?_
  refine EW.if_eq 28 dX9_node_12 (by decide) (fun c12 => ?_) (fun c12 => ?_)
  · exact absurd c12 (by decide +kernel)
  · refine EW.iload_n dX9_node_15 rfl rfl ?_
    refine EW.ic 0 dX9_node_16 ?_
    refine EW.ic 3 dX9_node_17 ?_
    refine EW.callS (bc := 0) (bs := 0) (M_in hl _ 0 s _ _ _) mfX9_in rfl l_X9_109 mvX9_in (by omega) dX9_node_18 rfl rfl (Nat.le_of_ble_eq_true rfl) (fun v18 s18 q18 => ?_) (fun _ _ q => nomatch q.1)
    obtain ⟨e18, h18⟩ := q18; cases e18; replace h18 := h18.symm; subst h18
    refine EW.top (y := nI 1) (by decide +kernel) ?_
    refine EW.if_eq 28 dX9_node_21 (by decide) (fun c21 => ?_) (fun c21 => ?_)
    · exact absurd c21 (by decide +kernel)
    · refine EW.ic 0 dX9_node_24 ?_
      refine EW.goto 29 dX9_node_25 (by decide) ?_
      refine EM.put f_X9_105 dX9_node_29 rfl ?_
      refine EW.aload_n dX9_node_32 rfl rfl ?_
      refine EM.get f_X9_105 dX9_node_33 rfl ?_
      refine EW.top (show va_up s.1 0 (nI 0) 0 = nI 0 from va_up_self _ _ _) ?_
      refine EW.if_le 41 dX9_node_36 (by decide) (fun c36 => ?_) (fun c36 => ?_)
      · refine EW.iload_n dX9_node_41 rfl rfl ?_
        refine EW.if_ne 54 dX9_node_42 (by decide) (fun c42 => ?_) (fun c42 => ?_)
        · refine EW.iload_n dX9_node_54 rfl rfl ?_
          refine EW.ic 1 dX9_node_55 ?_
          refine EW.icmp_ne 68 dX9_node_56 (by decide) (fun c56 => ?_) (fun c56 => ?_)
          · refine EW.iload_n dX9_node_68 rfl rfl ?_
            refine EW.ic 2 dX9_node_69 ?_
            refine EW.icmp_ne 82 dX9_node_70 (by decide) (fun c70 => ?_) (fun c70 => ?_)
            · exact absurd c70 (by decide +kernel)
            · refine EW.aload_n dX9_node_73 rfl rfl ?_
              refine EM.get f_X9_75 dX9_node_74 rfl ?_
              refine EW.iload_n dX9_node_77 rfl rfl ?_
              refine EM.ialdN i dX9_node_78 rfl rfl (by simp only [mLen]; omega) ?_
              refine EW.goto 88 dX9_node_79 (by decide) ?_
              refine EW.iret rfl dX9_node_88 ?_
              exact ⟨rfl, rfl⟩
          · exact absurd c56 (by decide +kernel)
        · exact absurd c42 (by decide +kernel)
      · exact absurd c36 (by decide +kernel)
set_option maxHeartbeats 4000000 in
theorem M_node23 (hl : l.stackTraces = false) (d : Nat) (s : MSt) (i m : Nat) (h : nI 0 ≤ nI i ∧ nI i ≤ s.1 28 - nI 1) (hi : i < 60) : MtW (IM cy ad hp0) l D cy base mX9_node (d + 1) 0 0 [.ref (ad 43), .int (nI i), .int (nI 3)] s (fun o s2 => o = .inl (some (.int (s.2 32 i))) ∧ s2 = fU 0 (nI 0) s) := by
  refine MtW.of hl mfX9_node rfl (Nat.le_of_ble_eq_true rfl) ?_
  refine EW.aload_n dX9_node_0 rfl rfl ?_
  refine EW.iload_n dX9_node_1 rfl rfl ?_
  refine EW.ic 0 dX9_node_2 ?_
  refine EW.aload_n dX9_node_3 rfl rfl ?_
  refine EM.get f_X9_246 dX9_node_4 rfl ?_
  refine EW.ic 1 dX9_node_7 ?_
  refine EW.isub dX9_node_8 ?_
  refine EW.callS (bc := 0) (bs := 0) (M_in hl _ 0 s _ _ _) mfX9_in rfl l_X9_109 mvX9_in (by omega) dX9_node_9 rfl rfl (Nat.le_of_ble_eq_true rfl) (fun v9 s9 q9 => ?_) (fun _ _ q => nomatch q.1)
  obtain ⟨e9, h9⟩ := q9; cases e9; replace h9 := h9.symm; subst h9
  refine EW.top (y := nI 1) ((if_pos h).trans (by decide +kernel)) ?_
  refine EW.if_eq 28 dX9_node_12 (by decide) (fun c12 => ?_) (fun c12 => ?_)
  · exact absurd c12 (by decide +kernel)
  · refine EW.iload_n dX9_node_15 rfl rfl ?_
    refine EW.ic 0 dX9_node_16 ?_
    refine EW.ic 3 dX9_node_17 ?_
    refine EW.callS (bc := 0) (bs := 0) (M_in hl _ 0 s _ _ _) mfX9_in rfl l_X9_109 mvX9_in (by omega) dX9_node_18 rfl rfl (Nat.le_of_ble_eq_true rfl) (fun v18 s18 q18 => ?_) (fun _ _ q => nomatch q.1)
    obtain ⟨e18, h18⟩ := q18; cases e18; replace h18 := h18.symm; subst h18
    refine EW.top (y := nI 1) (by decide +kernel) ?_
    refine EW.if_eq 28 dX9_node_21 (by decide) (fun c21 => ?_) (fun c21 => ?_)
    · exact absurd c21 (by decide +kernel)
    · refine EW.ic 0 dX9_node_24 ?_
      refine EW.goto 29 dX9_node_25 (by decide) ?_
      refine EM.put f_X9_105 dX9_node_29 rfl ?_
      refine EW.aload_n dX9_node_32 rfl rfl ?_
      refine EM.get f_X9_105 dX9_node_33 rfl ?_
      refine EW.top (show va_up s.1 0 (nI 0) 0 = nI 0 from va_up_self _ _ _) ?_
      refine EW.if_le 41 dX9_node_36 (by decide) (fun c36 => ?_) (fun c36 => ?_)
      · refine EW.iload_n dX9_node_41 rfl rfl ?_
        refine EW.if_ne 54 dX9_node_42 (by decide) (fun c42 => ?_) (fun c42 => ?_)
        · refine EW.iload_n dX9_node_54 rfl rfl ?_
          refine EW.ic 1 dX9_node_55 ?_
          refine EW.icmp_ne 68 dX9_node_56 (by decide) (fun c56 => ?_) (fun c56 => ?_)
          · refine EW.iload_n dX9_node_68 rfl rfl ?_
            refine EW.ic 2 dX9_node_69 ?_
            refine EW.icmp_ne 82 dX9_node_70 (by decide) (fun c70 => ?_) (fun c70 => ?_)
            · refine EW.aload_n dX9_node_82 rfl rfl ?_
              refine EM.get f_X9_78 dX9_node_83 rfl ?_
              refine EW.iload_n dX9_node_86 rfl rfl ?_
              refine EM.ialdN i dX9_node_87 rfl rfl (by simp only [mLen]; omega) ?_
              refine EW.iret rfl dX9_node_88 ?_
              exact ⟨rfl, rfl⟩
            · exact absurd c70 (by decide +kernel)
          · exact absurd c56 (by decide +kernel)
        · exact absurd c42 (by decide +kernel)
      · exact absurd c36 (by decide +kernel)
set_option maxHeartbeats 4000000 in
theorem M_countX (hl : l.stackTraces = false) (d : Nat) (s : MSt) (i : Int32) (h : ¬ (nI 0 ≤ i ∧ i ≤ nI 5)) (ht : i.toInt < 0 ∨ 5 < i.toInt) : MtW (IM cy ad hp0) l D cy base mX9_count (d + 2) 0 0 [.ref (ad 43), .int i] s (fun o s2 => o = .inl (some (.int (nI 0))) ∧ s2 = fU 0 (nI 1) s) := by
  refine MtW.of hl mfX9_count rfl (Nat.le_of_ble_eq_true rfl) ?_
  refine EW.aload_n dX9_count_0 rfl rfl ?_
  refine EW.iload_n dX9_count_1 rfl rfl ?_
  refine EW.ic 0 dX9_count_2 ?_
  refine EW.ic 5 dX9_count_3 ?_
  refine EW.callS (bc := 0) (bs := 0) (M_in hl _ 0 s _ _ _) mfX9_in rfl l_X9_109 mvX9_in (by omega) dX9_count_4 rfl rfl (Nat.le_of_ble_eq_true rfl) (fun v4 s4 q4 => ?_) (fun _ _ q => nomatch q.1)
  obtain ⟨e4, h4⟩ := q4; cases e4; replace h4 := h4.symm; subst h4
  refine EW.top (y := nI 0) ((if_neg h).trans (by decide +kernel)) ?_
  refine EW.if_eq 14 dX9_count_7 (by decide) (fun c7 => ?_) (fun c7 => ?_)
  · refine EW.ic 1 dX9_count_14 ?_
    refine EM.put f_X9_105 dX9_count_15 rfl ?_
    refine EW.iload_n dX9_count_18 rfl rfl ?_
    refine EW.tableOut 86 dX9_count_19 ?_ (by decide) ?_
    · exact ht
    refine EW.ic 0 dX9_count_86 ?_
    refine EW.iret rfl dX9_count_87 ?_
    exact ⟨rfl, rfl⟩
  · exact absurd c7 (by decide +kernel)
set_option maxHeartbeats 4000000 in
theorem M_full_in (d : Nat) (s : MSt) (Q : Oc → MSt → Prop) : ∀ (n i c : Nat), i + n = 126 → c ≤ i → EW (IM cy ad hp0) l D cy base mX9_full (d + 2) 0 0 40 [(0, .ref (ad 43)), (1, .int (nI (mzF (s.2 13) n i c)))] [] s Q → EW (IM cy ad hp0) l D cy base mX9_full (d + 2) 0 0 9 [(0, .ref (ad 43)), (1, .int (nI c)), (2, .int (nI i))] [] s Q
  | 0, i, c, hi, hc, K => by
    refine EW.iload_n dX9_full_9 rfl rfl ?_
    refine EW.bp 126 dX9_full_10 ?_
    refine EW.icmp_ge 40 dX9_full_12 (by decide) (fun c12 => ?_) (fun c12 => ?_)
    · have c12 : 126 ≤ i := (nI_leI (by omega) (by omega)).mp c12
      exact EW.loc (lv' := [(0, .ref (ad 43)), (1, .int (nI c))]) ⟨rfl, rfl, trivial⟩ K
    · have c12 : ¬ (126 ≤ i) := fun h => c12 ((nI_leI (by omega) (by omega)).mpr h); omega
  | n + 1, i, c, hi, hc, K => by
    refine EW.iload_n dX9_full_9 rfl rfl ?_
    refine EW.bp 126 dX9_full_10 ?_
    refine EW.icmp_ge 40 dX9_full_12 (by decide) (fun c12 => ?_) (fun c12 => ?_)
    · have c12 : 126 ≤ i := (nI_leI (by omega) (by omega)).mp c12; omega
    · have c12 : ¬ (126 ≤ i) := fun h => c12 ((nI_leI (by omega) (by omega)).mpr h)
      refine EW.aload_n dX9_full_15 rfl rfl ?_
      refine EM.get f_X9_42 dX9_full_16 rfl ?_
      refine EW.iload_n dX9_full_19 rfl rfl ?_
      refine EM.ialdN i dX9_full_20 rfl rfl (by simp only [mLen]; omega) ?_
      refine EW.bipush (v := -2) dX9_full_21 (by decide +kernel) ?_
      refine EW.icmp_eq 32 dX9_full_23 (by decide) (fun c23 => ?_) (fun c23 => ?_)
      · refine EW.iload_n dX9_full_32 rfl rfl ?_
        refine EW.istore_n dX9_full_33 rfl (by decide) ?_
        refine EW.iinc dX9_full_34 rfl (nI_inc _) (by decide) ?_
        refine EW.goto 9 dX9_full_37 (by decide) ?_
        rw [mzF, if_pos c23] at K
        exact EW.loc (lv' := [(0, .ref (ad 43)), (1, .int (nI (c))), (2, .int (nI (i + 1)))]) ⟨rfl, rfl, rfl, trivial⟩ (M_full_in d s Q n (i + 1) _ (by omega) (by omega) K)
      · refine EW.iload_n dX9_full_26 rfl rfl ?_
        refine EW.ic 1 dX9_full_27 ?_
        refine EW.iadd dX9_full_28 ?_
        refine EW.top (nI_add _ _) ?_
        refine EW.goto 33 dX9_full_29 (by decide) ?_
        refine EW.istore_n dX9_full_33 rfl (by decide) ?_
        refine EW.iinc dX9_full_34 rfl (nI_inc _) (by decide) ?_
        refine EW.goto 9 dX9_full_37 (by decide) ?_
        rw [mzF, if_neg c23] at K
        exact EW.loc (lv' := [(0, .ref (ad 43)), (1, .int (nI (c + 1))), (2, .int (nI (i + 1)))]) ⟨rfl, rfl, rfl, trivial⟩ (M_full_in d s Q n (i + 1) _ (by omega) (by omega) K)
set_option maxHeartbeats 4000000 in
theorem M_full0 (hl : l.stackTraces = false) (d : Nat) (s : MSt) (h : rlF (s.2 10) 6 0 0 = 0) : MtW (IM cy ad hp0) l D cy base mX9_full (d + 2) 0 0 [.ref (ad 43)] s (fun o s2 => o = .inl (some (.float FP.fconst0)) ∧ s2 = fU 0 (nI 0) s) := by
  refine MtW.of hl mfX9_full rfl (Nat.le_of_ble_eq_true rfl) ?_
  have hrl := rlF_le (f := s.2 10) 6 0 0
  have hrl2 := rlF_le (f := (fU 0 (nI 0) s).2 10) 6 0 0
  refine EW.aload_n dX9_full_0 rfl rfl ?_
  refine EW.ic 0 dX9_full_1 ?_
  refine EM.put f_X9_105 dX9_full_2 rfl ?_
  refine EW.ic 0 dX9_full_5 ?_
  refine EW.istore_n dX9_full_6 rfl (by decide) ?_
  refine EW.ic 0 dX9_full_7 ?_
  refine EW.istore_n dX9_full_8 rfl (by decide) ?_
  refine EW.loc (lv' := [(0, .ref (ad 43)), (1, .int (nI 0)), (2, .int (nI 0))]) ⟨rfl, rfl, rfl, trivial⟩ ?_
  refine M_full_in d (fU 0 (nI 0) s) _ 126 0 0 rfl (Nat.le_refl _) ?_
  refine EW.aload_n dX9_full_40 rfl rfl ?_
  refine EM.callV (M_rules hl 0 (fU 0 (nI 0) s)) mfX9_rules l_X9_201 mvX9_rules (by omega) dX9_full_41 rfl rfl rfl rfl (Nat.le_of_ble_eq_true rfl) (fun _ _ q => nomatch q.1) (fun v41 s41 q41 => ?_)
  obtain ⟨e41, h41⟩ := q41; cases e41; replace h41 := h41.symm; subst h41
  refine EW.if_ne 49 dX9_full_44 (by decide) (fun c44 => ?_) (fun c44 => ?_)
  · have c44 : ¬ rlF (s.2 10) 6 0 0 = 0 := fun h => c44 ((nI_eq0 (by omega)).mpr h); exact absurd h c44
  · have c44 : rlF (s.2 10) 6 0 0 = 0 := (nI_eq0 (by omega)).mp c44
    refine EW.fconst0 dX9_full_47 ?_
    refine EW.fret rfl dX9_full_48 ?_
    exact ⟨rfl, rfl⟩
set_option maxHeartbeats 4000000 in
theorem M_full1 (hl : l.stackTraces = false) (d : Nat) (s : MSt) (n : Nat) (hn : s.1 3 = nI n) (hn9 : n ≤ 20) (h : ¬ rlF (s.2 10) 6 0 0 = 0) (hne : vf_n32 (FP.fdiv (FP.i2f (nI (mzF (s.2 13) 126 0 0))) (FP.i2f (nI (rlF (s.2 10) 6 0 0 * (n + 1)))))) : MtW (IM cy ad hp0) l D cy base mX9_full (d + 2) 0 0 [.ref (ad 43)] s (fun o s2 => o = .inl (some (.float (FP.fdiv (FP.i2f (nI (mzF (s.2 13) 126 0 0))) (FP.i2f (nI (rlF (s.2 10) 6 0 0 * (n + 1))))))) ∧ s2 = fU 0 (nI 0) s) := by
  refine MtW.of hl mfX9_full rfl (Nat.le_of_ble_eq_true rfl) ?_
  have hrl := rlF_le (f := s.2 10) 6 0 0
  have hrl2 := rlF_le (f := (fU 0 (nI 0) s).2 10) 6 0 0
  refine EW.aload_n dX9_full_0 rfl rfl ?_
  refine EW.ic 0 dX9_full_1 ?_
  refine EM.put f_X9_105 dX9_full_2 rfl ?_
  refine EW.ic 0 dX9_full_5 ?_
  refine EW.istore_n dX9_full_6 rfl (by decide) ?_
  refine EW.ic 0 dX9_full_7 ?_
  refine EW.istore_n dX9_full_8 rfl (by decide) ?_
  refine EW.loc (lv' := [(0, .ref (ad 43)), (1, .int (nI 0)), (2, .int (nI 0))]) ⟨rfl, rfl, rfl, trivial⟩ ?_
  refine M_full_in d (fU 0 (nI 0) s) _ 126 0 0 rfl (Nat.le_refl _) ?_
  refine EW.aload_n dX9_full_40 rfl rfl ?_
  refine EM.callV (M_rules hl 0 (fU 0 (nI 0) s)) mfX9_rules l_X9_201 mvX9_rules (by omega) dX9_full_41 rfl rfl rfl rfl (Nat.le_of_ble_eq_true rfl) (fun _ _ q => nomatch q.1) (fun v41 s41 q41 => ?_)
  obtain ⟨e41, h41⟩ := q41; cases e41; replace h41 := h41.symm; subst h41
  refine EW.if_ne 49 dX9_full_44 (by decide) (fun c44 => ?_) (fun c44 => ?_)
  · have c44 : ¬ rlF (s.2 10) 6 0 0 = 0 := fun h => c44 ((nI_eq0 (by omega)).mpr h)
    refine EW.iload_n dX9_full_49 rfl rfl ?_
    refine EW.i2f dX9_full_50 ?_
    refine EW.fstore_n dX9_full_51 rfl (by decide) ?_
    refine EW.aload_n dX9_full_52 rfl rfl ?_
    refine EM.callV (M_rules hl 0 (fU 0 (nI 0) s)) mfX9_rules l_X9_201 mvX9_rules (by omega) dX9_full_53 rfl rfl rfl rfl (Nat.le_of_ble_eq_true rfl) (fun _ _ q => nomatch q.1) (fun v53 s53 q53 => ?_)
    obtain ⟨e53, h53⟩ := q53; cases e53; replace h53 := h53.symm; subst h53
    refine EW.aload_n dX9_full_56 rfl rfl ?_
    refine EM.get f_X9_168 dX9_full_57 rfl ?_
    refine EW.top hn ?_
    refine EW.ic 1 dX9_full_60 ?_
    refine EW.iadd dX9_full_61 ?_
    refine EW.top (nI_add _ _) ?_
    refine EW.imul dX9_full_62 ?_
    refine EW.top (pk_mul _ _) ?_
    refine EW.i2f dX9_full_63 ?_
    refine EW.fstore_n dX9_full_64 rfl (by decide) ?_
    refine EW.fload_n dX9_full_65 rfl rfl ?_
    refine EW.fload_n dX9_full_66 rfl rfl ?_
    refine EW.fdiv dX9_full_67 hne ?_
    refine EW.fret rfl dX9_full_68 ?_
    exact ⟨rfl, rfl⟩
  · have c44 : rlF (s.2 10) 6 0 0 = 0 := (nI_eq0 (by omega)).mp c44; exact absurd c44 h
end M16
