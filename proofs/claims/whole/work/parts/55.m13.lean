section M13
variable {cy : Nat → ClassId} {ad : Nat → Nat} {hp0 : Hp} {l : Launch} {D : va_G} {base : Nat}
set_option maxHeartbeats 4000000 in
theorem R_end0 {dd : Nat} {g : Int32} {s : MSt} {Q : Oc → MSt → Prop} (hh : s.1 16 = nI 0) (hg : ¬ g = -2) (hq : Q (.inl (some (.int g))) s) : EW29 cy ad hp0 l D base dd g s Q := by
  refine EW.iload dX9_run_29 rfl ?_
  refine EW.bipush (v := -2) dX9_run_31 (by decide +kernel) ?_
  refine EW.icmp_eq 50 dX9_run_33 (by decide) (fun c33 => ?_) (fun c33 => ?_)
  · exact absurd c33 hg
  · refine EW.aload_n dX9_run_36 rfl rfl ?_
    refine EM.get f_X9_207 dX9_run_37 rfl ?_
    refine EW.top hh ?_
    refine EW.if_le 260 dX9_run_40 (by decide) (fun c40 => ?_) (fun c40 => ?_)
    · refine EW.iload dX9_run_260 rfl ?_
      refine EW.iret rfl dX9_run_262 ?_
      exact hq
    · exact absurd c40 (by decide +kernel)
set_option maxHeartbeats 4000000 in
theorem R_endD {dd : Nat} {s : MSt} {Q : Oc → MSt → Prop} (hq : Q (.inl (some (.int (-3)))) s) : EW29 cy ad hp0 l D base dd (-3) s Q := by
  refine EW.iload dX9_run_29 rfl ?_
  refine EW.bipush (v := -2) dX9_run_31 (by decide +kernel) ?_
  refine EW.icmp_eq 50 dX9_run_33 (by decide) (fun c33 => ?_) (fun c33 => ?_)
  · exact absurd c33 (by decide +kernel)
  · refine EW.aload_n dX9_run_36 rfl rfl ?_
    refine EM.get f_X9_207 dX9_run_37 rfl ?_
    refine EW.if_le 260 dX9_run_40 (by decide) (fun c40 => ?_) (fun c40 => ?_)
    · refine EW.iload dX9_run_260 rfl ?_
      refine EW.iret rfl dX9_run_262 ?_
      exact hq
    · refine EW.iload dX9_run_43 rfl ?_
      refine EW.bipush (v := -3) dX9_run_45 (by decide +kernel) ?_
      refine EW.icmp_eq 260 dX9_run_47 (by decide) (fun c47 => ?_) (fun c47 => ?_)
      · refine EW.iload dX9_run_260 rfl ?_
        refine EW.iret rfl dX9_run_262 ?_
        exact hq
      · exact absurd rfl c47
set_option maxHeartbeats 4000000 in
theorem M_run (hl : l.stackTraces = false) {dd k p : Nat} {s : MSt} {Q : Oc → MSt → Prop} (hdd : 5 ≤ dd) (G : RGoal cy ad hp0 l D base dd (fU 24 (nI 0) (fU 22 (-1) (fU 16 (nI 0) s))) k p Q) : MtW (IM cy ad hp0) l D cy base mX9_run dd 0 0 [.ref (ad 43), .int (nI k), .int (nI p)] s Q := by
  obtain ⟨o9, s1, hA, K⟩ := G
  refine MtW.of hl mfX9_run rfl (Nat.le_of_ble_eq_true rfl) ?_
  refine EW.aload_n dX9_run_0 rfl rfl ?_
  refine EW.ic 0 dX9_run_1 ?_
  refine EM.put f_X9_207 dX9_run_2 rfl ?_
  refine EW.aload_n dX9_run_5 rfl rfl ?_
  refine EW.iconst (v := -1) dX9_run_6 (by decide +kernel) ?_
  refine EM.put f_X9_228 dX9_run_7 rfl ?_
  refine EW.aload_n dX9_run_10 rfl rfl ?_
  refine EW.ic 0 dX9_run_11 ?_
  refine EM.put f_X9_210 dX9_run_12 rfl ?_
  refine EW.iload_n dX9_run_15 rfl rfl ?_
  refine EW.istore_n dX9_run_16 rfl (by decide) ?_
  refine EW.iload_n dX9_run_17 rfl rfl ?_
  refine EW.istore dX9_run_18 (by decide) ?_
  refine EW.aload_n dX9_run_20 rfl rfl ?_
  refine EW.iload_n dX9_run_21 rfl rfl ?_
  refine EW.iload dX9_run_22 rfl ?_
  refine EM.callV (hA) mfX9_ask l_X9_237 mvX9_ask (by omega) dX9_run_24 rfl rfl rfl rfl (Nat.le_of_ble_eq_true rfl) (fun _ _ q => nomatch q.1) (fun v24 s24 q24 => ?_)
  obtain ⟨e24, h24⟩ := q24; cases e24; replace h24 := h24.symm; subst h24
  refine EW.istore dX9_run_27 (by decide) ?_
  exact EW.loc (lv' := [(0, .ref (ad 43)), (5, .int o9)]) ⟨rfl, rfl, trivial⟩ K
end M13
