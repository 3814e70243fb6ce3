section M2
variable {cy : Nat → ClassId} {ad : Nat → Nat} {hp0 : Hp} {l : Launch} {D : va_G} {base : Nat}
def fU (k : Nat) (v : Int32) (s : MSt) : MSt := (va_up s.1 k v, s.2)
def aU (k i : Nat) (v : Int32) (s : MSt) : MSt := (s.1, va_up s.2 k (upd (s.2 k) i v))
set_option maxHeartbeats 4000000 in
theorem M_thrown (hl : l.stackTraces = false) (d : Nat) (s : MSt) : MtW (IM cy ad hp0) l D cy base mX9_thrown d 0 0 [.ref (ad 43)] s (fun o s2 => o = .inl (some (.int (s.1 0))) ∧ s2 = s) := by
  refine MtW.of hl mfX9_thrown rfl (Nat.le_of_ble_eq_true rfl) ?_
  refine EW.aload_n dX9_thrown_0 rfl rfl ?_
  refine EM.get f_X9_105 dX9_thrown_1 rfl ?_
  refine EW.iret rfl dX9_thrown_4 ?_
  exact ⟨rfl, rfl⟩
set_option maxHeartbeats 4000000 in
theorem M_fail (hl : l.stackTraces = false) (d : Nat) (s : MSt) (c : Int32) : MtW (IM cy ad hp0) l D cy base mX9_fail d 0 0 [.ref (ad 43), .int c] s (fun o s2 => o = .inl (some (.int (nI 0))) ∧ s2 = fU 0 c s) := by
  refine MtW.of hl mfX9_fail rfl (Nat.le_of_ble_eq_true rfl) ?_
  refine EW.aload_n dX9_fail_0 rfl rfl ?_
  refine EW.iload_n dX9_fail_1 rfl rfl ?_
  refine EM.put f_X9_105 dX9_fail_2 rfl ?_
  refine EW.ic 0 dX9_fail_5 ?_
  refine EW.iret rfl dX9_fail_6 ?_
  exact ⟨rfl, rfl⟩
set_option maxHeartbeats 4000000 in
theorem M_look (hl : l.stackTraces = false) (d : Nat) (s : MSt) (k n q : Nat) (hn : s.1 1 = nI n) (hn24 : n ≤ 24) (hk : k < 1000) (hq : k < n → s.2 2 k = nI q ∧ q < 65536) (h0 : ¬ k < n → q = 0) : MtW (IM cy ad hp0) l D cy base mX9_look d 0 0 [.ref (ad 43), .int (nI k)] s (fun o s2 => o = .inl (some (.int (nI q))) ∧ s2 = s) := by
  refine MtW.of hl mfX9_look rfl (Nat.le_of_ble_eq_true rfl) ?_
  refine EW.iload_n dX9_look_0 rfl rfl ?_
  refine EW.aload_n dX9_look_1 rfl rfl ?_
  refine EM.get f_X9_120 dX9_look_2 rfl ?_
  refine EW.top hn ?_
  refine EW.icmp_ge 17 dX9_look_5 (by decide) (fun c5 => ?_) (fun c5 => ?_)
  · have c5 : n ≤ k := (nI_leI (by omega) (by omega)).mp c5
    refine EW.ic 0 dX9_look_17 ?_
    refine EW.zret (ty := .char) rfl (by decide +kernel) dX9_look_18 ?_
    rw [h0 (by omega)]; exact ⟨rfl, rfl⟩
  · have c5 : ¬ (n ≤ k) := fun h => c5 ((nI_leI (by omega) (by omega)).mpr h)
    refine EW.aload_n dX9_look_8 rfl rfl ?_
    refine EM.get f_X9_7 dX9_look_9 rfl ?_
    refine EW.iload_n dX9_look_12 rfl rfl ?_
    refine EM.caldN k dX9_look_13 rfl rfl (by simp only [mLen]; omega) ?_
    refine EW.goto 18 dX9_look_14 (by decide) ?_
    refine EW.zret (ty := .char) rfl (by rw [(hq (by omega)).1]; exact (pk_charN (hq (by omega)).2).1) dX9_look_18 ?_
    rw [(hq (by omega)).1]; exact ⟨rfl, rfl⟩
set_option maxHeartbeats 4000000 in
theorem M_push (hl : l.stackTraces = false) (d : Nat) (s : MSt) (h : Nat) (k p : Int32) (hh : s.1 16 = nI h) (h9 : h < 960) : MtW (IM cy ad hp0) l D cy base mX9_push d 0 0 [.ref (ad 43), .int k, .int p] s (fun o s2 => o = .inl none ∧ s2 = fU 16 (nI (h + 1)) (aU 20 h (vp_nar .boolean (nI 0)) (aU 19 h (s.1 24) (aU 18 h p (aU 17 h k s))))) := by
  refine MtW.of hl mfX9_push rfl (Nat.le_of_ble_eq_true rfl) ?_
  refine EW.aload_n dX9_push_0 rfl rfl ?_
  refine EM.get f_X9_45 dX9_push_1 rfl ?_
  refine EW.aload_n dX9_push_4 rfl rfl ?_
  refine EM.get f_X9_207 dX9_push_5 rfl ?_
  refine EW.top hh ?_
  refine EW.iload_n dX9_push_8 rfl rfl ?_
  refine EM.iastN (h) dX9_push_9 rfl rfl (by simp only [mLen]; omega) ?_
  refine EW.aload_n dX9_push_10 rfl rfl ?_
  refine EM.get f_X9_48 dX9_push_11 rfl ?_
  refine EW.aload_n dX9_push_14 rfl rfl ?_
  refine EM.get f_X9_207 dX9_push_15 rfl ?_
  refine EW.top hh ?_
  refine EW.iload_n dX9_push_18 rfl rfl ?_
  refine EM.iastN (h) dX9_push_19 rfl rfl (by simp only [mLen]; omega) ?_
  refine EW.aload_n dX9_push_20 rfl rfl ?_
  refine EM.get f_X9_51 dX9_push_21 rfl ?_
  refine EW.aload_n dX9_push_24 rfl rfl ?_
  refine EM.get f_X9_207 dX9_push_25 rfl ?_
  refine EW.top hh ?_
  refine EW.aload_n dX9_push_28 rfl rfl ?_
  refine EM.get f_X9_210 dX9_push_29 rfl ?_
  refine EM.iastN (h) dX9_push_32 rfl rfl (by simp only [mLen]; omega) ?_
  refine EW.aload_n dX9_push_33 rfl rfl ?_
  refine EM.get f_X9_54 dX9_push_34 rfl ?_
  refine EW.aload_n dX9_push_37 rfl rfl ?_
  refine EM.get f_X9_207 dX9_push_38 rfl ?_
  refine EW.top hh ?_
  refine EW.ic 0 dX9_push_41 ?_
  refine EM.zastN (h) dX9_push_42 rfl rfl (by simp only [mLen]; omega) ?_
  refine EW.aload_n dX9_push_43 rfl rfl ?_
  refine EW.dup dX9_push_44 rfl ?_
  refine EM.get f_X9_207 dX9_push_45 rfl ?_
  refine EW.top hh ?_
  refine EW.ic 1 dX9_push_48 ?_
  refine EW.iadd dX9_push_49 ?_
  refine EW.top (nI_add _ _) ?_
  refine EM.put f_X9_207 dX9_push_50 rfl ?_
  refine EW.vret rfl dX9_push_53 ?_
  exact ⟨rfl, rfl⟩
set_option maxHeartbeats 4000000 in
theorem M_record1 (hl : l.stackTraces = false) (d : Nat) (s : MSt) (n : Nat) (r f t : Int32) (hn : s.1 24 = nI n) (hn9 : n < 2 ^ 30) (h : n < 64) : MtW (IM cy ad hp0) l D cy base mX9_record d 0 0 [.ref (ad 43), .int r, .int f, .int t] s (fun o s2 => o = .inl none ∧ s2 = fU 24 (nI (n + 1)) (aU 27 n t (aU 26 n f (aU 25 n r s)))) := by
  refine MtW.of hl mfX9_record rfl (Nat.le_of_ble_eq_true rfl) ?_
  refine EW.aload_n dX9_record_0 rfl rfl ?_
  refine EM.get f_X9_210 dX9_record_1 rfl ?_
  refine EW.top hn ?_
  refine EW.bp 64 dX9_record_4 ?_
  refine EW.icmp_ge 39 dX9_record_6 (by decide) (fun c6 => ?_) (fun c6 => ?_)
  · have c6 : 64 ≤ n := (nI_leI (by omega) (by omega)).mp c6; omega
  · have c6 : ¬ (64 ≤ n) := fun h => c6 ((nI_leI (by omega) (by omega)).mpr h)
    refine EW.aload_n dX9_record_9 rfl rfl ?_
    refine EM.get f_X9_60 dX9_record_10 rfl ?_
    refine EW.aload_n dX9_record_13 rfl rfl ?_
    refine EM.get f_X9_210 dX9_record_14 rfl ?_
    refine EW.top hn ?_
    refine EW.iload_n dX9_record_17 rfl rfl ?_
    refine EM.iastN (n) dX9_record_18 rfl rfl (by simp only [mLen]; omega) ?_
    refine EW.aload_n dX9_record_19 rfl rfl ?_
    refine EM.get f_X9_63 dX9_record_20 rfl ?_
    refine EW.aload_n dX9_record_23 rfl rfl ?_
    refine EM.get f_X9_210 dX9_record_24 rfl ?_
    refine EW.top hn ?_
    refine EW.iload_n dX9_record_27 rfl rfl ?_
    refine EM.iastN (n) dX9_record_28 rfl rfl (by simp only [mLen]; omega) ?_
    refine EW.aload_n dX9_record_29 rfl rfl ?_
    refine EM.get f_X9_66 dX9_record_30 rfl ?_
    refine EW.aload_n dX9_record_33 rfl rfl ?_
    refine EM.get f_X9_210 dX9_record_34 rfl ?_
    refine EW.top hn ?_
    refine EW.iload_n dX9_record_37 rfl rfl ?_
    refine EM.iastN (n) dX9_record_38 rfl rfl (by simp only [mLen]; omega) ?_
    refine EW.aload_n dX9_record_39 rfl rfl ?_
    refine EW.dup dX9_record_40 rfl ?_
    refine EM.get f_X9_210 dX9_record_41 rfl ?_
    refine EW.top hn ?_
    refine EW.ic 1 dX9_record_44 ?_
    refine EW.iadd dX9_record_45 ?_
    refine EW.top (nI_add _ _) ?_
    refine EM.put f_X9_210 dX9_record_46 rfl ?_
    refine EW.vret rfl dX9_record_49 ?_
    exact ⟨rfl, rfl⟩
set_option maxHeartbeats 4000000 in
theorem M_record0 (hl : l.stackTraces = false) (d : Nat) (s : MSt) (n : Nat) (r f t : Int32) (hn : s.1 24 = nI n) (hn9 : n < 2 ^ 30) (h : ¬ n < 64) : MtW (IM cy ad hp0) l D cy base mX9_record d 0 0 [.ref (ad 43), .int r, .int f, .int t] s (fun o s2 => o = .inl none ∧ s2 = fU 24 (nI (n + 1)) s) := by
  refine MtW.of hl mfX9_record rfl (Nat.le_of_ble_eq_true rfl) ?_
  refine EW.aload_n dX9_record_0 rfl rfl ?_
  refine EM.get f_X9_210 dX9_record_1 rfl ?_
  refine EW.top hn ?_
  refine EW.bp 64 dX9_record_4 ?_
  refine EW.icmp_ge 39 dX9_record_6 (by decide) (fun c6 => ?_) (fun c6 => ?_)
  · have c6 : 64 ≤ n := (nI_leI (by omega) (by omega)).mp c6
    refine EW.aload_n dX9_record_39 rfl rfl ?_
    refine EW.dup dX9_record_40 rfl ?_
    refine EM.get f_X9_210 dX9_record_41 rfl ?_
    refine EW.top hn ?_
    refine EW.ic 1 dX9_record_44 ?_
    refine EW.iadd dX9_record_45 ?_
    refine EW.top (nI_add _ _) ?_
    refine EM.put f_X9_210 dX9_record_46 rfl ?_
    refine EW.vret rfl dX9_record_49 ?_
    exact ⟨rfl, rfl⟩
  · have c6 : ¬ (64 ≤ n) := fun h => c6 ((nI_leI (by omega) (by omega)).mpr h); omega
set_option maxHeartbeats 4000000 in
theorem M_base (hl : l.stackTraces = false) {S : Type} (I : S → Hp → Prop) (d : Nat) (s : S) (k : Nat) (hk : k < 1000) : MtW I l D cy base mX9_base d 0 0 [.int (nI k)] s (fun o s2 => o = .inl (some (.int (nI (k / 64 * 64)))) ∧ s2 = s) := by
  refine MtW.of hl mfX9_base rfl (Nat.le_of_ble_eq_true rfl) ?_
  refine EW.iload_n dX9_base_0 rfl rfl ?_
  refine EW.bp 64 dX9_base_1 ?_
  refine EW.idiv dX9_base_3 (by decide +kernel) ?_
  refine EW.top (pk_div (by omega) (by decide) (by decide)) ?_
  refine EW.bp 64 dX9_base_4 ?_
  refine EW.imul dX9_base_6 ?_
  refine EW.top (pk_mul _ _) ?_
  refine EW.iret rfl dX9_base_7 ?_
  exact ⟨rfl, rfl⟩
set_option maxHeartbeats 4000000 in
theorem M_keep (hl : l.stackTraces = false) (d : Nat) (s : MSt) (m lv : Nat) (r f t : Int32) (hm : s.1 28 = nI m) (h60 : m < 60) (hlv : lv < 64) : MtW (IM cy ad hp0) l D cy base mX9_keep d 0 0 [.ref (ad 43), .int r, .int f, .int t, .int (nI lv)] s (fun o s2 => o = .inl none ∧ s2 = fU 28 (nI (m + 1)) (aU 34 lv (nI 0) (aU 33 lv (nI m) (aU 32 m (nI lv) (aU 31 m t (aU 30 m f (aU 29 m r s))))))) := by
  refine MtW.of hl mfX9_keep rfl (Nat.le_of_ble_eq_true rfl) ?_
  refine EW.aload_n dX9_keep_0 rfl rfl ?_
  refine EM.get f_X9_69 dX9_keep_1 rfl ?_
  refine EW.aload_n dX9_keep_4 rfl rfl ?_
  refine EM.get f_X9_246 dX9_keep_5 rfl ?_
  refine EW.top hm ?_
  refine EW.iload_n dX9_keep_8 rfl rfl ?_
  refine EM.iastN (m) dX9_keep_9 rfl rfl (by simp only [mLen]; omega) ?_
  refine EW.aload_n dX9_keep_10 rfl rfl ?_
  refine EM.get f_X9_72 dX9_keep_11 rfl ?_
  refine EW.aload_n dX9_keep_14 rfl rfl ?_
  refine EM.get f_X9_246 dX9_keep_15 rfl ?_
  refine EW.top hm ?_
  refine EW.iload_n dX9_keep_18 rfl rfl ?_
  refine EM.iastN (m) dX9_keep_19 rfl rfl (by simp only [mLen]; omega) ?_
  refine EW.aload_n dX9_keep_20 rfl rfl ?_
  refine EM.get f_X9_75 dX9_keep_21 rfl ?_
  refine EW.aload_n dX9_keep_24 rfl rfl ?_
  refine EM.get f_X9_246 dX9_keep_25 rfl ?_
  refine EW.top hm ?_
  refine EW.iload_n dX9_keep_28 rfl rfl ?_
  refine EM.iastN (m) dX9_keep_29 rfl rfl (by simp only [mLen]; omega) ?_
  refine EW.aload_n dX9_keep_30 rfl rfl ?_
  refine EM.get f_X9_78 dX9_keep_31 rfl ?_
  refine EW.aload_n dX9_keep_34 rfl rfl ?_
  refine EM.get f_X9_246 dX9_keep_35 rfl ?_
  refine EW.top hm ?_
  refine EW.iload dX9_keep_38 rfl ?_
  refine EM.iastN (m) dX9_keep_40 rfl rfl (by simp only [mLen]; omega) ?_
  refine EW.aload_n dX9_keep_41 rfl rfl ?_
  refine EM.get f_X9_81 dX9_keep_42 rfl ?_
  refine EW.iload dX9_keep_45 rfl ?_
  refine EW.aload_n dX9_keep_47 rfl rfl ?_
  refine EM.get f_X9_246 dX9_keep_48 rfl ?_
  refine EW.top hm ?_
  refine EM.iastN (lv) dX9_keep_51 rfl rfl (by simp only [mLen]; omega) ?_
  refine EW.aload_n dX9_keep_52 rfl rfl ?_
  refine EM.get f_X9_84 dX9_keep_53 rfl ?_
  refine EW.iload dX9_keep_56 rfl ?_
  refine EW.ic 0 dX9_keep_58 ?_
  refine EM.iastN (lv) dX9_keep_59 rfl rfl (by simp only [mLen]; omega) ?_
  refine EW.aload_n dX9_keep_60 rfl rfl ?_
  refine EW.dup dX9_keep_61 rfl ?_
  refine EM.get f_X9_246 dX9_keep_62 rfl ?_
  refine EW.top hm ?_
  refine EW.ic 1 dX9_keep_65 ?_
  refine EW.iadd dX9_keep_66 ?_
  refine EW.top (nI_add _ _) ?_
  refine EM.put f_X9_246 dX9_keep_67 rfl ?_
  refine EW.vret rfl dX9_keep_70 ?_
  exact ⟨rfl, rfl⟩
set_option maxHeartbeats 4000000 in
theorem M_enter (hl : l.stackTraces = false) (d : Nat) (s : MSt) (op : Nat) (ho : s.1 35 = nI op) (h8 : op < 8) : MtW (IM cy ad hp0) l D cy base mX9_enter d 0 0 [.ref (ad 43)] s (fun o s2 => o = .inl none ∧ s2 = aU 42 op (vp_nar .char (nI 0)) (aU 41 op (s.1 38) (aU 40 op (s.1 36) s))) := by
  refine MtW.of hl mfX9_enter rfl (Nat.le_of_ble_eq_true rfl) ?_
  refine EW.aload_n dX9_enter_0 rfl rfl ?_
  refine EM.get f_X9_93 dX9_enter_1 rfl ?_
  refine EW.aload_n dX9_enter_4 rfl rfl ?_
  refine EM.get f_X9_131 dX9_enter_5 rfl ?_
  refine EW.top ho ?_
  refine EW.aload_n dX9_enter_8 rfl rfl ?_
  refine EM.get f_X9_134 dX9_enter_9 rfl ?_
  refine EM.iastN (op) dX9_enter_12 rfl rfl (by simp only [mLen]; omega) ?_
  refine EW.aload_n dX9_enter_13 rfl rfl ?_
  refine EM.get f_X9_96 dX9_enter_14 rfl ?_
  refine EW.aload_n dX9_enter_17 rfl rfl ?_
  refine EM.get f_X9_131 dX9_enter_18 rfl ?_
  refine EW.top ho ?_
  refine EW.aload_n dX9_enter_21 rfl rfl ?_
  refine EM.get f_X9_137 dX9_enter_22 rfl ?_
  refine EM.iastN (op) dX9_enter_25 rfl rfl (by simp only [mLen]; omega) ?_
  refine EW.aload_n dX9_enter_26 rfl rfl ?_
  refine EM.get f_X9_99 dX9_enter_27 rfl ?_
  refine EW.aload_n dX9_enter_30 rfl rfl ?_
  refine EM.get f_X9_131 dX9_enter_31 rfl ?_
  refine EW.top ho ?_
  refine EW.ic 0 dX9_enter_34 ?_
  refine EM.castN (op) dX9_enter_35 rfl rfl (by simp only [mLen]; omega) ?_
  refine EW.vret rfl dX9_enter_36 ?_
  exact ⟨rfl, rfl⟩
set_option maxHeartbeats 4000000 in
theorem M_forget_loop (d : Nat) : ∀ (n i : Nat) (s : MSt), i + n = 126 → (∀ j, j < i → s.2 13 j = -2) → EW (IM cy ad hp0) l D cy base mX9_forget d 0 0 2 [(0, .ref (ad 43)), (1, .int (nI i))] [] s (fun o s2 => ∃ f, o = .inl none ∧ s2 = (s.1, va_up s.2 13 f) ∧ ∀ j, j < 126 → f j = -2) := by
  intro n
  induction n with
  | zero =>
    intro i s hi hv
    refine EW.iload_n dX9_forget_2 rfl rfl ?_
    refine EW.bp 126 dX9_forget_3 ?_
    refine EW.icmp_ge 22 dX9_forget_5 (by decide) (fun c5 => ?_) (fun c5 => ?_)
    · have c5 : 126 ≤ i := (nI_leI (by omega) (by omega)).mp c5
      refine EW.vret rfl dX9_forget_22 ?_
      exact ⟨s.2 13, rfl, by rw [va_same], fun j hj => hv j (by omega)⟩
    · have c5 : ¬ (126 ≤ i) := fun h => c5 ((nI_leI (by omega) (by omega)).mpr h); omega
  | succ n ih =>
    intro i s hi hv
    refine EW.iload_n dX9_forget_2 rfl rfl ?_
    refine EW.bp 126 dX9_forget_3 ?_
    refine EW.icmp_ge 22 dX9_forget_5 (by decide) (fun c5 => ?_) (fun c5 => ?_)
    · have c5 : 126 ≤ i := (nI_leI (by omega) (by omega)).mp c5; omega
    · have c5 : ¬ (126 ≤ i) := fun h => c5 ((nI_leI (by omega) (by omega)).mpr h)
      refine EW.aload_n dX9_forget_8 rfl rfl ?_
      refine EM.get f_X9_42 dX9_forget_9 rfl ?_
      refine EW.iload_n dX9_forget_12 rfl rfl ?_
      refine EW.bipush (v := -2) dX9_forget_13 (by decide +kernel) ?_
      refine EM.iastN (i) dX9_forget_15 rfl rfl (by simp only [mLen]; omega) ?_
      refine EW.iinc dX9_forget_16 rfl (nI_inc _) (by decide) ?_
      refine EW.goto 2 dX9_forget_19 (by decide) ?_
      refine EW.loc (lv' := [(0, .ref (ad 43)), (1, .int (nI (i + 1)))]) ⟨rfl, rfl, trivial⟩ (EW.post ?_ (ih (i + 1) _ (by omega) (fun j hj => ?_)))
      · intro o s2 ⟨f, h1, h2, h3⟩
        refine ⟨f, h1, ?_, h3⟩
        rw [h2, va_uu]
      · show upd (s.2 13) i (-2) j = -2
        by_cases h : j = i
        · subst h; exact pk_us
        · rw [pk_un h]; exact hv j (by omega)
set_option maxHeartbeats 4000000 in
theorem M_forget (hl : l.stackTraces = false) (d : Nat) (s : MSt) : MtW (IM cy ad hp0) l D cy base mX9_forget d 0 0 [.ref (ad 43)] s (fun o s2 => ∃ f, o = .inl none ∧ s2 = (s.1, va_up s.2 13 f) ∧ ∀ j, j < 126 → f j = -2) := by
  refine MtW.of hl mfX9_forget rfl (Nat.le_of_ble_eq_true rfl) ?_
  refine EW.ic 0 dX9_forget_0 ?_
  refine EW.istore_n dX9_forget_1 rfl (by decide) ?_
  exact EW.loc (lv' := [(0, .ref (ad 43)), (1, .int (nI 0))]) ⟨rfl, rfl, trivial⟩ (M_forget_loop d 126 0 s rfl (fun j hj => absurd hj (Nat.not_lt_zero j)))
end M2
