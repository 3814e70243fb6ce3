section HELP
variable {cy : Nat → ClassId} {ax ad : Nat → Nat} {o : Nat} {l : Launch} {D : va_G} {base : Nat}
/-- how a helper of the law ends -/
def HQ (bo : Bool) (xs : List String) (P : Oc → CSt → Prop) (m : MSt) : Oc → LWt → Prop := fun oc s => ∃ (o1 : Oc) (k : Nat), P o1 s.1 ∧ s.2.1 = m ∧ k ≤ 3 ∧ oc = .inl (some (.int (nI k))) ∧ ((k = 0 ∧ ∃ a : Int32, o1 = .inl (some (.int a)) ∧ s.2.2 0 = (if bo then (if a = 0 then 0 else 1) else a.toInt64)) ∨ ∃ X, xs[k - 1]? = some X ∧ 0 < k ∧ o1 = .inr X)
set_option maxHeartbeats 2000000 in
theorem H_drop (hl : l.stackTraces = false) {c : CSt} {m : MSt} {f : Nat → Int64} (r0 : Int32) {mc ms : Nat} {P : Oc → CSt → Prop} (hM : ∀ hp0, MtW (IC cy ax hp0) l D cy base mX8_drop 1800 mc ms [.ref (ax 0), .int r0] c P) (hS : ∀ o c', P o c' → SH [yCls] o) : MtW (LW cy ax ad o) l D cy base mL_drop 1801 mc ms [.ref (ax 0), .int r0, .ref o] (c, m, f) (HQ true [yCls] P m) := by
  refine MtW.ofH hl mfL_drop (List.cons_ne_nil _ _) (Nat.le_of_ble_eq_true rfl) ?_
  refine EW.aload_n dL_drop_0 rfl rfl ?_
  refine EW.ic 0 dL_drop_1 ?_
  refine EW.aload_n dL_drop_2 rfl rfl ?_
  refine EW.iload_n dL_drop_3 rfl rfl ?_
  refine EW.more (bc' := 0 + mc) (bs' := 0 + ms) (by omega) (by omega) ?_
  refine EW.callV (ci := 8) (bc := 0) (bs := 0) (mc' := mc) (ms' := ms) (LW.cls hM) mfX8_drop rfl l_L_7 mvX8_drop (by omega) dL_drop_4 rfl rfl (fun hp h => h.obC) rfl (Nat.le_of_ble_eq_true rfl) (fun v s1 q9 => ?_) (fun X s1 q9 => ?_)
  · obtain ⟨c', m', g'⟩ := s1
    obtain ⟨p9, e9⟩ := q9
    cases e9
    rcases hS _ _ p9 with ⟨a, ea⟩ | ⟨i, X, -, ea⟩
    · cases ea
      refine EW.if_eq 14 dL_drop_7 (by decide) (fun c7 => ?_) (fun c7 => ?_)
      · refine EW.lconst (v := 0) dL_drop_14 rfl ?_
        refine ELW.last dL_drop_15 (fun g hg => ?_)
        refine EW.goto 22 dL_drop_16 (by decide) ?_
        refine EW.ic 0 dL_drop_22 ?_
        refine EW.iret rfl dL_drop_23 ?_
        exact ⟨_, 0, p9, rfl, by decide, rfl, Or.inl ⟨rfl, a, rfl, (show g 0 = _ by rw [hg, if_pos rfl, if_pos c7])⟩⟩
      · refine EW.lconst (v := 1) dL_drop_10 rfl ?_
        refine EW.goto 15 dL_drop_11 (by decide) ?_
        refine ELW.last dL_drop_15 (fun g hg => ?_)
        refine EW.goto 22 dL_drop_16 (by decide) ?_
        refine EW.ic 0 dL_drop_22 ?_
        refine EW.iret rfl dL_drop_23 ?_
        exact ⟨_, 0, p9, rfl, by decide, rfl, Or.inl ⟨rfl, a, rfl, (show g 0 = _ by rw [hg, if_pos rfl, if_neg c7])⟩⟩
    · cases ea
  · obtain ⟨c', m', g'⟩ := s1
    obtain ⟨p9, e9⟩ := q9
    cases e9
    rcases hS _ _ p9 with ⟨a, ea⟩ | ⟨i, X', hi, ea⟩
    · cases ea
    · cases ea
      have hlt : i < 1 := lst_lt hi
      have hor : i = 0 := by omega
      subst hor
      cases hi
      refine EWX.catch (name := yCls) [] rfl (fun z hz => absurd hz List.not_mem_nil) (by decide) (by decide) k_nse x_nse (fun q => ?_)
      refine EW.astore_n dL_drop_19 rfl (by decide) ?_
      refine EW.ic 1 dL_drop_20 ?_
      refine EW.iret rfl dL_drop_21 ?_
      exact ⟨_, 1, p9, rfl, by decide, rfl, Or.inr ⟨_, rfl, by decide, rfl⟩⟩
set_option maxHeartbeats 2000000 in
theorem H_feed (hl : l.stackTraces = false) {c : CSt} {m : MSt} {f : Nat → Int64} (r0 : Int32) {mc ms : Nat} {P : Oc → CSt → Prop} (hM : ∀ hp0, MtW (IC cy ax hp0) l D cy base mX8_feed 1800 mc ms [.ref (ax 0), .int r0] c P) (hS : ∀ o c', P o c' → SH ["java/lang/IllegalArgumentException", "java/lang/IllegalStateException"] o) : MtW (LW cy ax ad o) l D cy base mL_feed 1801 mc ms [.ref (ax 0), .int r0, .ref o] (c, m, f) (HQ false ["java/lang/IllegalArgumentException", "java/lang/IllegalStateException"] P m) := by
  refine MtW.ofH hl mfL_feed (List.cons_ne_nil _ _) (Nat.le_of_ble_eq_true rfl) ?_
  refine EW.aload_n dL_feed_0 rfl rfl ?_
  refine EW.ic 0 dL_feed_1 ?_
  refine EW.aload_n dL_feed_2 rfl rfl ?_
  refine EW.iload_n dL_feed_3 rfl rfl ?_
  refine EW.more (bc' := 0 + mc) (bs' := 0 + ms) (by omega) (by omega) ?_
  refine EW.callV (ci := 8) (bc := 0) (bs := 0) (mc' := mc) (ms' := ms) (LW.cls hM) mfX8_feed rfl l_L_15 mvX8_feed (by omega) dL_feed_4 rfl rfl (fun hp h => h.obC) rfl (Nat.le_of_ble_eq_true rfl) (fun v s1 q9 => ?_) (fun X s1 q9 => ?_)
  · obtain ⟨c', m', g'⟩ := s1
    obtain ⟨p9, e9⟩ := q9
    cases e9
    rcases hS _ _ p9 with ⟨a, ea⟩ | ⟨i, X, -, ea⟩
    · cases ea
      refine EW.i2l dL_feed_7 rfl ?_
      refine ELW.last dL_feed_8 (fun g hg => ?_)
      refine EW.goto 18 dL_feed_9 (by decide) ?_
      refine EW.ic 0 dL_feed_18 ?_
      refine EW.iret rfl dL_feed_19 ?_
      exact ⟨_, 0, p9, rfl, by decide, rfl, Or.inl ⟨rfl, a, rfl, (show g 0 = _ by rw [hg, if_neg Bool.false_ne_true])⟩⟩
    · cases ea
  · obtain ⟨c', m', g'⟩ := s1
    obtain ⟨p9, e9⟩ := q9
    cases e9
    rcases hS _ _ p9 with ⟨a, ea⟩ | ⟨i, X', hi, ea⟩
    · cases ea
    · cases ea
      have hlt : i < 2 := lst_lt hi
      have hor : i = 0 ∨ i = 1 := by omega
      rcases hor with rfl | rfl
      · cases hi
        refine EWX.catch (name := "java/lang/IllegalArgumentException") [] rfl (fun z hz => absurd hz List.not_mem_nil) (by decide) (by decide) k_iae x_iae (fun q => ?_)
        refine EW.astore_n dL_feed_12 rfl (by decide) ?_
        refine EW.ic 1 dL_feed_13 ?_
        refine EW.iret rfl dL_feed_14 ?_
        exact ⟨_, 1, p9, rfl, by decide, rfl, Or.inr ⟨_, rfl, by decide, rfl⟩⟩
      · cases hi
        refine EWX.catch (name := "java/lang/IllegalStateException") [(0, 9, 12, 19)] rfl (fun z hz => by
            rcases List.mem_cons.mp hz with rfl | hz
            · exact ⟨by decide, _, k_iae, by decide +kernel⟩
            exact absurd hz List.not_mem_nil) (by decide) (by decide) k_ise x_ise (fun q => ?_)
        refine EW.astore_n dL_feed_15 rfl (by decide) ?_
        refine EW.ic 2 dL_feed_16 ?_
        refine EW.iret rfl dL_feed_17 ?_
        exact ⟨_, 2, p9, rfl, by decide, rfl, Or.inr ⟨_, rfl, by decide, rfl⟩⟩
set_option maxHeartbeats 2000000 in
theorem H_outcomes (hl : l.stackTraces = false) {c : CSt} {m : MSt} {f : Nat → Int64} (r0 : Int32) {mc ms : Nat} {P : Oc → CSt → Prop} (hM : ∀ hp0, MtW (IC cy ax hp0) l D cy base mX8_outcomes 1800 mc ms [.ref (ax 0), .int r0] c P) (hS : ∀ o c', P o c' → SH [yCls, "java/lang/IllegalStateException"] o) : MtW (LW cy ax ad o) l D cy base mL_outcomes 1801 mc ms [.ref (ax 0), .int r0, .ref o] (c, m, f) (HQ false [yCls, "java/lang/IllegalStateException"] P m) := by
  refine MtW.ofH hl mfL_outcomes (List.cons_ne_nil _ _) (Nat.le_of_ble_eq_true rfl) ?_
  refine EW.aload_n dL_outcomes_0 rfl rfl ?_
  refine EW.ic 0 dL_outcomes_1 ?_
  refine EW.aload_n dL_outcomes_2 rfl rfl ?_
  refine EW.iload_n dL_outcomes_3 rfl rfl ?_
  refine EW.more (bc' := 0 + mc) (bs' := 0 + ms) (by omega) (by omega) ?_
  refine EW.callV (ci := 8) (bc := 0) (bs := 0) (mc' := mc) (ms' := ms) (LW.cls hM) mfX8_outcomes rfl l_L_23 mvX8_outcomes (by omega) dL_outcomes_4 rfl rfl (fun hp h => h.obC) rfl (Nat.le_of_ble_eq_true rfl) (fun v s1 q9 => ?_) (fun X s1 q9 => ?_)
  · obtain ⟨c', m', g'⟩ := s1
    obtain ⟨p9, e9⟩ := q9
    cases e9
    rcases hS _ _ p9 with ⟨a, ea⟩ | ⟨i, X, -, ea⟩
    · cases ea
      refine EW.i2l dL_outcomes_7 rfl ?_
      refine ELW.last dL_outcomes_8 (fun g hg => ?_)
      refine EW.goto 18 dL_outcomes_9 (by decide) ?_
      refine EW.ic 0 dL_outcomes_18 ?_
      refine EW.iret rfl dL_outcomes_19 ?_
      exact ⟨_, 0, p9, rfl, by decide, rfl, Or.inl ⟨rfl, a, rfl, (show g 0 = _ by rw [hg, if_neg Bool.false_ne_true])⟩⟩
    · cases ea
  · obtain ⟨c', m', g'⟩ := s1
    obtain ⟨p9, e9⟩ := q9
    cases e9
    rcases hS _ _ p9 with ⟨a, ea⟩ | ⟨i, X', hi, ea⟩
    · cases ea
    · cases ea
      have hlt : i < 2 := lst_lt hi
      have hor : i = 0 ∨ i = 1 := by omega
      rcases hor with rfl | rfl
      · cases hi
        refine EWX.catch (name := yCls) [] rfl (fun z hz => absurd hz List.not_mem_nil) (by decide) (by decide) k_nse x_nse (fun q => ?_)
        refine EW.astore_n dL_outcomes_12 rfl (by decide) ?_
        refine EW.ic 1 dL_outcomes_13 ?_
        refine EW.iret rfl dL_outcomes_14 ?_
        exact ⟨_, 1, p9, rfl, by decide, rfl, Or.inr ⟨_, rfl, by decide, rfl⟩⟩
      · cases hi
        refine EWX.catch (name := "java/lang/IllegalStateException") [(0, 9, 12, 13)] rfl (fun z hz => by
            rcases List.mem_cons.mp hz with rfl | hz
            · exact ⟨by decide, _, k_nse, by decide +kernel⟩
            exact absurd hz List.not_mem_nil) (by decide) (by decide) k_ise x_ise (fun q => ?_)
        refine EW.astore_n dL_outcomes_15 rfl (by decide) ?_
        refine EW.ic 2 dL_outcomes_16 ?_
        refine EW.iret rfl dL_outcomes_17 ?_
        exact ⟨_, 2, p9, rfl, by decide, rfl, Or.inr ⟨_, rfl, by decide, rfl⟩⟩
set_option maxHeartbeats 2000000 in
theorem H_match (hl : l.stackTraces = false) {c : CSt} {m : MSt} {f : Nat → Int64} (r0 r1 : Int32) {mc ms : Nat} {P : Oc → CSt → Prop} (hM : ∀ hp0, MtW (IC cy ax hp0) l D cy base mX8_match 1800 mc ms [.ref (ax 0), .int r0, .int r1] c P) (hS : ∀ o c', P o c' → SH [yCls, "java/lang/IllegalArgumentException", "java/lang/IllegalStateException"] o) : MtW (LW cy ax ad o) l D cy base mL_match 1801 mc ms [.ref (ax 0), .int r0, .int r1, .ref o] (c, m, f) (HQ false [yCls, "java/lang/IllegalArgumentException", "java/lang/IllegalStateException"] P m) := by
  refine MtW.ofH hl mfL_match (List.cons_ne_nil _ _) (Nat.le_of_ble_eq_true rfl) ?_
  refine EW.aload_n dL_match_0 rfl rfl ?_
  refine EW.ic 0 dL_match_1 ?_
  refine EW.aload_n dL_match_2 rfl rfl ?_
  refine EW.iload_n dL_match_3 rfl rfl ?_
  refine EW.iload_n dL_match_4 rfl rfl ?_
  refine EW.more (bc' := 0 + mc) (bs' := 0 + ms) (by omega) (by omega) ?_
  refine EW.callV (ci := 8) (bc := 0) (bs := 0) (mc' := mc) (ms' := ms) (LW.cls hM) mfX8_match rfl l_L_27 mvX8_match (by omega) dL_match_5 rfl rfl (fun hp h => h.obC) rfl (Nat.le_of_ble_eq_true rfl) (fun v s1 q9 => ?_) (fun X s1 q9 => ?_)
  · obtain ⟨c', m', g'⟩ := s1
    obtain ⟨p9, e9⟩ := q9
    cases e9
    rcases hS _ _ p9 with ⟨a, ea⟩ | ⟨i, X, -, ea⟩
    · cases ea
      refine EW.i2l dL_match_8 rfl ?_
      refine ELW.last dL_match_9 (fun g hg => ?_)
      refine EW.goto 25 dL_match_10 (by decide) ?_
      refine EW.ic 0 dL_match_25 ?_
      refine EW.iret rfl dL_match_26 ?_
      exact ⟨_, 0, p9, rfl, by decide, rfl, Or.inl ⟨rfl, a, rfl, (show g 0 = _ by rw [hg, if_neg Bool.false_ne_true])⟩⟩
    · cases ea
  · obtain ⟨c', m', g'⟩ := s1
    obtain ⟨p9, e9⟩ := q9
    cases e9
    rcases hS _ _ p9 with ⟨a, ea⟩ | ⟨i, X', hi, ea⟩
    · cases ea
    · cases ea
      have hlt : i < 3 := lst_lt hi
      have hor : i = 0 ∨ i = 1 ∨ i = 2 := by omega
      rcases hor with rfl | rfl | rfl
      · cases hi
        refine EWX.catch (name := yCls) [] rfl (fun z hz => absurd hz List.not_mem_nil) (by decide) (by decide) k_nse x_nse (fun q => ?_)
        refine EW.astore dL_match_13 (by decide) ?_
        refine EW.ic 1 dL_match_15 ?_
        refine EW.iret rfl dL_match_16 ?_
        exact ⟨_, 1, p9, rfl, by decide, rfl, Or.inr ⟨_, rfl, by decide, rfl⟩⟩
      · cases hi
        refine EWX.catch (name := "java/lang/IllegalArgumentException") [(0, 10, 13, 13)] rfl (fun z hz => by
            rcases List.mem_cons.mp hz with rfl | hz
            · exact ⟨by decide, _, k_nse, by decide +kernel⟩
            exact absurd hz List.not_mem_nil) (by decide) (by decide) k_iae x_iae (fun q => ?_)
        refine EW.astore dL_match_17 (by decide) ?_
        refine EW.ic 2 dL_match_19 ?_
        refine EW.iret rfl dL_match_20 ?_
        exact ⟨_, 2, p9, rfl, by decide, rfl, Or.inr ⟨_, rfl, by decide, rfl⟩⟩
      · cases hi
        refine EWX.catch (name := "java/lang/IllegalStateException") [(0, 10, 13, 13), (0, 10, 17, 19)] rfl (fun z hz => by
            rcases List.mem_cons.mp hz with rfl | hz
            · exact ⟨by decide, _, k_nse, by decide +kernel⟩
            rcases List.mem_cons.mp hz with rfl | hz
            · exact ⟨by decide, _, k_iae, by decide +kernel⟩
            exact absurd hz List.not_mem_nil) (by decide) (by decide) k_ise x_ise (fun q => ?_)
        refine EW.astore dL_match_21 (by decide) ?_
        refine EW.ic 3 dL_match_23 ?_
        refine EW.iret rfl dL_match_24 ?_
        exact ⟨_, 3, p9, rfl, by decide, rfl, Or.inr ⟨_, rfl, by decide, rfl⟩⟩
set_option maxHeartbeats 2000000 in
theorem H_memory (hl : l.stackTraces = false) {c : CSt} {m : MSt} {f : Nat → Int64} (r0 r1 : Int32) {mc ms : Nat} {P : Oc → CSt → Prop} (hM : ∀ hp0, MtW (IC cy ax hp0) l D cy base mX8_memory 1800 mc ms [.ref (ax 0), .int r0, .int r1] c P) (hS : ∀ o c', P o c' → SH ["java/lang/IndexOutOfBoundsException"] o) : MtW (LW cy ax ad o) l D cy base mL_memory 1801 mc ms [.ref (ax 0), .int r0, .int r1, .ref o] (c, m, f) (HQ false ["java/lang/IndexOutOfBoundsException"] P m) := by
  refine MtW.ofH hl mfL_memory (List.cons_ne_nil _ _) (Nat.le_of_ble_eq_true rfl) ?_
  refine EW.aload_n dL_memory_0 rfl rfl ?_
  refine EW.ic 0 dL_memory_1 ?_
  refine EW.aload_n dL_memory_2 rfl rfl ?_
  refine EW.iload_n dL_memory_3 rfl rfl ?_
  refine EW.iload_n dL_memory_4 rfl rfl ?_
  refine EW.more (bc' := 0 + mc) (bs' := 0 + ms) (by omega) (by omega) ?_
  refine EW.callV (ci := 8) (bc := 0) (bs := 0) (mc' := mc) (ms' := ms) (LW.cls hM) mfX8_memory rfl l_L_31 mvX8_memory (by omega) dL_memory_5 rfl rfl (fun hp h => h.obC) rfl (Nat.le_of_ble_eq_true rfl) (fun v s1 q9 => ?_) (fun X s1 q9 => ?_)
  · obtain ⟨c', m', g'⟩ := s1
    obtain ⟨p9, e9⟩ := q9
    cases e9
    rcases hS _ _ p9 with ⟨a, ea⟩ | ⟨i, X, -, ea⟩
    · cases ea
      refine EW.i2l dL_memory_8 rfl ?_
      refine ELW.last dL_memory_9 (fun g hg => ?_)
      refine EW.goto 17 dL_memory_10 (by decide) ?_
      refine EW.ic 0 dL_memory_17 ?_
      refine EW.iret rfl dL_memory_18 ?_
      exact ⟨_, 0, p9, rfl, by decide, rfl, Or.inl ⟨rfl, a, rfl, (show g 0 = _ by rw [hg, if_neg Bool.false_ne_true])⟩⟩
    · cases ea
  · obtain ⟨c', m', g'⟩ := s1
    obtain ⟨p9, e9⟩ := q9
    cases e9
    rcases hS _ _ p9 with ⟨a, ea⟩ | ⟨i, X', hi, ea⟩
    · cases ea
    · cases ea
      have hlt : i < 1 := lst_lt hi
      have hor : i = 0 := by omega
      subst hor
      cases hi
      refine EWX.catch (name := "java/lang/IndexOutOfBoundsException") [] rfl (fun z hz => absurd hz List.not_mem_nil) (by decide) (by decide) k_ioob x_ioob (fun q => ?_)
      refine EW.astore dL_memory_13 (by decide) ?_
      refine EW.ic 1 dL_memory_15 ?_
      refine EW.iret rfl dL_memory_16 ?_
      exact ⟨_, 1, p9, rfl, by decide, rfl, Or.inr ⟨_, rfl, by decide, rfl⟩⟩
set_option maxHeartbeats 2000000 in
theorem H_node (hl : l.stackTraces = false) {c : CSt} {m : MSt} {f : Nat → Int64} (r0 r1 : Int32) {mc ms : Nat} {P : Oc → CSt → Prop} (hM : ∀ hp0, MtW (IC cy ax hp0) l D cy base mX8_node 1800 mc ms [.ref (ax 0), .int r0, .int r1] c P) (hS : ∀ o c', P o c' → SH ["java/lang/IndexOutOfBoundsException"] o) : MtW (LW cy ax ad o) l D cy base mL_node 1801 mc ms [.ref (ax 0), .int r0, .int r1, .ref o] (c, m, f) (HQ false ["java/lang/IndexOutOfBoundsException"] P m) := by
  refine MtW.ofH hl mfL_node (List.cons_ne_nil _ _) (Nat.le_of_ble_eq_true rfl) ?_
  refine EW.aload_n dL_node_0 rfl rfl ?_
  refine EW.ic 0 dL_node_1 ?_
  refine EW.aload_n dL_node_2 rfl rfl ?_
  refine EW.iload_n dL_node_3 rfl rfl ?_
  refine EW.iload_n dL_node_4 rfl rfl ?_
  refine EW.more (bc' := 0 + mc) (bs' := 0 + ms) (by omega) (by omega) ?_
  refine EW.callV (ci := 8) (bc := 0) (bs := 0) (mc' := mc) (ms' := ms) (LW.cls hM) mfX8_node rfl l_L_36 mvX8_node (by omega) dL_node_5 rfl rfl (fun hp h => h.obC) rfl (Nat.le_of_ble_eq_true rfl) (fun v s1 q9 => ?_) (fun X s1 q9 => ?_)
  · obtain ⟨c', m', g'⟩ := s1
    obtain ⟨p9, e9⟩ := q9
    cases e9
    rcases hS _ _ p9 with ⟨a, ea⟩ | ⟨i, X, -, ea⟩
    · cases ea
      refine EW.i2l dL_node_8 rfl ?_
      refine ELW.last dL_node_9 (fun g hg => ?_)
      refine EW.goto 17 dL_node_10 (by decide) ?_
      refine EW.ic 0 dL_node_17 ?_
      refine EW.iret rfl dL_node_18 ?_
      exact ⟨_, 0, p9, rfl, by decide, rfl, Or.inl ⟨rfl, a, rfl, (show g 0 = _ by rw [hg, if_neg Bool.false_ne_true])⟩⟩
    · cases ea
  · obtain ⟨c', m', g'⟩ := s1
    obtain ⟨p9, e9⟩ := q9
    cases e9
    rcases hS _ _ p9 with ⟨a, ea⟩ | ⟨i, X', hi, ea⟩
    · cases ea
    · cases ea
      have hlt : i < 1 := lst_lt hi
      have hor : i = 0 := by omega
      subst hor
      cases hi
      refine EWX.catch (name := "java/lang/IndexOutOfBoundsException") [] rfl (fun z hz => absurd hz List.not_mem_nil) (by decide) (by decide) k_ioob x_ioob (fun q => ?_)
      refine EW.astore dL_node_13 (by decide) ?_
      refine EW.ic 1 dL_node_15 ?_
      refine EW.iret rfl dL_node_16 ?_
      exact ⟨_, 1, p9, rfl, by decide, rfl, Or.inr ⟨_, rfl, by decide, rfl⟩⟩
set_option maxHeartbeats 2000000 in
theorem H_count (hl : l.stackTraces = false) {c : CSt} {m : MSt} {f : Nat → Int64} (r0 : Int32) {mc ms : Nat} {P : Oc → CSt → Prop} (hM : ∀ hp0, MtW (IC cy ax hp0) l D cy base mX8_count 1800 mc ms [.ref (ax 0), .int r0] c P) (hS : ∀ o c', P o c' → SH ["java/lang/IndexOutOfBoundsException"] o) : MtW (LW cy ax ad o) l D cy base mL_count 1801 mc ms [.ref (ax 0), .int r0, .ref o] (c, m, f) (HQ false ["java/lang/IndexOutOfBoundsException"] P m) := by
  refine MtW.ofH hl mfL_count (List.cons_ne_nil _ _) (Nat.le_of_ble_eq_true rfl) ?_
  refine EW.aload_n dL_count_0 rfl rfl ?_
  refine EW.ic 0 dL_count_1 ?_
  refine EW.aload_n dL_count_2 rfl rfl ?_
  refine EW.iload_n dL_count_3 rfl rfl ?_
  refine EW.more (bc' := 0 + mc) (bs' := 0 + ms) (by omega) (by omega) ?_
  refine EW.callV (ci := 8) (bc := 0) (bs := 0) (mc' := mc) (ms' := ms) (LW.cls hM) mfX8_count rfl l_L_39 mvX8_count (by omega) dL_count_4 rfl rfl (fun hp h => h.obC) rfl (Nat.le_of_ble_eq_true rfl) (fun v s1 q9 => ?_) (fun X s1 q9 => ?_)
  · obtain ⟨c', m', g'⟩ := s1
    obtain ⟨p9, e9⟩ := q9
    cases e9
    rcases hS _ _ p9 with ⟨a, ea⟩ | ⟨i, X, -, ea⟩
    · cases ea
      refine EW.i2l dL_count_7 rfl ?_
      refine ELW.last dL_count_8 (fun g hg => ?_)
      refine EW.goto 15 dL_count_9 (by decide) ?_
      refine EW.ic 0 dL_count_15 ?_
      refine EW.iret rfl dL_count_16 ?_
      exact ⟨_, 0, p9, rfl, by decide, rfl, Or.inl ⟨rfl, a, rfl, (show g 0 = _ by rw [hg, if_neg Bool.false_ne_true])⟩⟩
    · cases ea
  · obtain ⟨c', m', g'⟩ := s1
    obtain ⟨p9, e9⟩ := q9
    cases e9
    rcases hS _ _ p9 with ⟨a, ea⟩ | ⟨i, X', hi, ea⟩
    · cases ea
    · cases ea
      have hlt : i < 1 := lst_lt hi
      have hor : i = 0 := by omega
      subst hor
      cases hi
      refine EWX.catch (name := "java/lang/IndexOutOfBoundsException") [] rfl (fun z hz => absurd hz List.not_mem_nil) (by decide) (by decide) k_ioob x_ioob (fun q => ?_)
      refine EW.astore_n dL_count_12 rfl (by decide) ?_
      refine EW.ic 1 dL_count_13 ?_
      refine EW.iret rfl dL_count_14 ?_
      exact ⟨_, 1, p9, rfl, by decide, rfl, Or.inr ⟨_, rfl, by decide, rfl⟩⟩
end HELP
