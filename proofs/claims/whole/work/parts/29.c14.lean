section C14
variable {cy : Nat → ClassId} {ax : Nat → Nat} {hp0 : Hp} {l : Launch} {D : va_G} {base : Nat}
theorem EW.callI {S : Type} {I : S → Hp → Prop} {M M' : Mth} {d bc bs pc : Nat} {lv : List (Nat × Value)} {st : List Value} {s : S} {Q Q' : Oc → S → Prop} {idx d' mc' ms' n b : Nat} {As rest : List Value} (hM : MtW I l D cy base M' d' mc' ms' (.ref b :: As) s Q') (mf : MF M') (h0 : M'.2.2.2.2.2 = []) (ml : ML M.1 idx M' ∨ MN M.1 idx M') (mv : MI M' n) (hd : d' < d) (hdg : decode M.2.1 pc = .ok (.invokespecial idx, 3)) (hst : st = As.reverse ++ .ref b :: rest) (hn : As.length = n) (hw : (rest.map fun v => v.category).sum ≤ 8) (hno : ∀ X s, ¬ Q' (.inr X) s)
    (kk : ∀ v s', Q' (.inl v) s' → EW I l D cy base M d bc bs (pc + 3) lv (v.toList ++ rest) s' Q) : EW I l D cy base M d (bc + mc') (bs + ms') pc lv st s Q := fun hp8 h8 =>
  E.callI (hM hp8 h8) mf h0 ml mv hd hdg hst hn hw (fun X hp' ⟨s', q, _⟩ => hno X s' q) (fun v hp' ⟨s', q, i⟩ => kk v s' q hp' i)
theorem EW.objInit {S : Type} {I : S → Hp → Prop} {M : Mth} {d bc bs pc : Nat} {lv : List (Nat × Value)} {st : List Value} {s : S} {Q : Oc → S → Prop} {idx a : Nat} (hl : Cond.methodLink M.1 idx Lib.objectInit ∈ gw ∧ Cond.instanceMethod Lib.objectInit ∈ gw ∧ Cond.code Lib.objectInit ⟨#[0xb1]⟩ 1 none ∈ gw) (hd : 0 < d) (hdg : decode M.2.1 pc = .ok (.invokespecial idx, 3)) (hw : (st.map fun v => v.category).sum ≤ 8) (k : EW I l D cy base M d bc bs (pc + 3) lv st s Q) : EW I l D cy base M d bc bs pc lv (.ref a :: st) s Q := fun hp8 h8 => E.objInit hl hd hdg hw (k hp8 h8)
theorem EC.ndputF {M : Mth} {d bc bs pc : Nat} {lv : List (Nat × Value)} {st : List Value} {s : CSt} {Q : Oc → CSt → Prop} {idx j a : Nat} {ty : FieldType} {n n' : ND} {v : Value} (hf : FLF M.1 idx 5 j ty) (hin : M.2.2.1.name = "<init>") (hdg : decode M.2.1 pc = .ok (.putfield idx, 3)) (hn : s.2.2.2.2.1 a = some n) (hj : j < 8) (hna : narrow ty v = v) (hfi : fits ty v = true) (he : (ndF n).set j v = ndF n') (kk : EW (IC cy ax hp0) l D cy base M d bc bs (pc + 3) lv st (ndP s (va_up s.2.2.2.2.1 a (some n'))) Q) : EW (IC cy ax hp0) l D cy base M d bc bs pc lv (v :: .ref a :: st) s Q :=
  fun hp h => E.putF hf hin hdg (h.2.2.1 a n hn) hj hna hfi (by rw [he]; exact kk _ (h.nd n' (Or.inl ⟨n, hn⟩)))
def nd0 : ND := (0, 0, 0, none, none, none, 0, 0)
def ndN (k lo hi : Int32) (f : Option Nat) : ND := (k, lo, hi, f, none, none, 0, 0)
set_option maxHeartbeats 4000000 in
theorem C_nodeN (hl : l.stackTraces = false) (d : Nat) (s : CSt) (q : Nat) (hq : s.2.2.2.2.1 q = some nd0) (k lo hi : Int32) : MtW (IC cy ax hp0) l D cy base mX5_init (d + 1) 0 0 [.ref q, .int k, .int lo, .int hi, va_rf none] s (fun o s2 => o = .inl none ∧ s2 = ndP s (va_up s.2.2.2.2.1 q (some (ndN k lo hi none)))) := by
  refine MtW.of hl mfX5_init rfl (Nat.le_of_ble_eq_true rfl) ?_
  refine EW.aload_n dX5_init_0 rfl rfl ?_
  refine EW.objInit o_X5_1 (by omega) dX5_init_1 (Nat.le_of_ble_eq_true rfl) ?_
  refine EW.aload_n dX5_init_4 rfl rfl ?_
  refine EW.iload_n dX5_init_5 rfl rfl ?_
  refine EC.ndputF (n' := (k, 0, 0, none, none, none, 0, 0)) ff_X5_7 rfl dX5_init_6 hq (by decide) rfl rfl rfl ?_
  refine EW.aload_n dX5_init_9 rfl rfl ?_
  refine EW.iload_n dX5_init_10 rfl rfl ?_
  refine EC.ndputF (n := (k, 0, 0, none, none, none, 0, 0)) (n' := (k, lo, 0, none, none, none, 0, 0)) ff_X5_13 rfl dX5_init_11 (va_up_self _ _ _) (by decide) rfl rfl rfl ?_
  refine EW.aload_n dX5_init_14 rfl rfl ?_
  refine EW.iload_n dX5_init_15 rfl rfl ?_
  refine EC.ndputF (n := (k, lo, 0, none, none, none, 0, 0)) (n' := (k, lo, hi, none, none, none, 0, 0)) ff_X5_16 rfl dX5_init_16 (va_up_self _ _ _) (by decide) rfl rfl rfl ?_
  refine EW.aload_n dX5_init_19 rfl rfl ?_
  refine EW.aloadq dX5_init_20 rfl ?_
  refine EC.ndputF (n := (k, lo, hi, none, none, none, 0, 0)) (n' := ndN k lo hi none) ff_X5_19 rfl dX5_init_22 (va_up_self _ _ _) (by decide) rfl rfl rfl ?_
  refine EW.vret rfl dX5_init_25 ?_
  refine ⟨rfl, ?_⟩
  show ndP s (va_up (va_up (va_up (va_up s.2.2.2.2.1 q _) q _) q _) q _) = _
  rw [va_uu, va_uu, va_uu]
set_option maxHeartbeats 4000000 in
theorem C_nodeS (hl : l.stackTraces = false) (d : Nat) (s : CSt) (q : Nat) (hq : s.2.2.2.2.1 q = some nd0) (k lo hi : Int32) (b : Nat) : MtW (IC cy ax hp0) l D cy base mX5_init (d + 1) 0 0 [.ref q, .int k, .int lo, .int hi, .ref b] s (fun o s2 => o = .inl none ∧ s2 = ndP s (va_up s.2.2.2.2.1 q (some (ndN k lo hi (some b))))) := by
  refine MtW.of hl mfX5_init rfl (Nat.le_of_ble_eq_true rfl) ?_
  refine EW.aload_n dX5_init_0 rfl rfl ?_
  refine EW.objInit o_X5_1 (by omega) dX5_init_1 (Nat.le_of_ble_eq_true rfl) ?_
  refine EW.aload_n dX5_init_4 rfl rfl ?_
  refine EW.iload_n dX5_init_5 rfl rfl ?_
  refine EC.ndputF (n' := (k, 0, 0, none, none, none, 0, 0)) ff_X5_7 rfl dX5_init_6 hq (by decide) rfl rfl rfl ?_
  refine EW.aload_n dX5_init_9 rfl rfl ?_
  refine EW.iload_n dX5_init_10 rfl rfl ?_
  refine EC.ndputF (n := (k, 0, 0, none, none, none, 0, 0)) (n' := (k, lo, 0, none, none, none, 0, 0)) ff_X5_13 rfl dX5_init_11 (va_up_self _ _ _) (by decide) rfl rfl rfl ?_
  refine EW.aload_n dX5_init_14 rfl rfl ?_
  refine EW.iload_n dX5_init_15 rfl rfl ?_
  refine EC.ndputF (n := (k, lo, 0, none, none, none, 0, 0)) (n' := (k, lo, hi, none, none, none, 0, 0)) ff_X5_16 rfl dX5_init_16 (va_up_self _ _ _) (by decide) rfl rfl rfl ?_
  refine EW.aload_n dX5_init_19 rfl rfl ?_
  refine EW.aload dX5_init_20 rfl ?_
  refine EC.ndputF (n := (k, lo, hi, none, none, none, 0, 0)) (n' := ndN k lo hi (some b)) ff_X5_19 rfl dX5_init_22 (va_up_self _ _ _) (by decide) rfl rfl rfl ?_
  refine EW.vret rfl dX5_init_25 ?_
  refine ⟨rfl, ?_⟩
  show ndP s (va_up (va_up (va_up (va_up s.2.2.2.2.1 q _) q _) q _) q _) = _
  rw [va_uu, va_uu, va_uu]
def latN (n : ND) (q : Nat) : ND := (n.1, n.2.1, n.2.2.1, n.2.2.2.1, n.2.2.2.2.1, some q, n.2.2.2.2.2.2.1, n.2.2.2.2.2.2.2)
/-- a node is added to an expression that is empty; to one whose root is p -/
def add0 (s : CSt) (x q : Nat) (n : ND) : CSt := (s.1, s.2.1, s.2.2.1, s.2.2.2.1, va_up s.2.2.2.2.1 q (some n), va_up s.2.2.2.2.2 x (some (some q, some q)))
def add1 (s : CSt) (x q : Nat) (n : ND) (e9 : Option Nat × Option Nat) (p : Nat) (pn : ND) : CSt := (s.1, s.2.1, s.2.2.1, s.2.2.2.1, va_up (va_up s.2.2.2.2.1 q (some n)) p (some (latN pn q)), va_up s.2.2.2.2.2 x (some (e9.1, some q)))
set_option maxHeartbeats 4000000 in
theorem C_addN0 (hl : l.stackTraces = false) (d : Nat) (s : CSt) (x : Nat) (e9 : Option Nat × Option Nat) (he : s.2.2.2.2.2 x = some e9) (k lo hi : Int32) (h2 : e9.2 = none) : MtW (IC cy ax hp0) l D cy base mX1_add (d + 2) 1 8 [.ref x, .int k, .int lo, .int hi, va_rf none] s (fun o s2 => ∃ q, o = .inl (some (.ref q)) ∧ s.2.2.2.2.1 q = none ∧ s.2.2.2.2.2 q = none ∧ s2 = add0 s x q (ndN k lo hi none)) := by
  refine MtW.of hl mfX1_add rfl (Nat.le_of_ble_eq_true rfl) ?_
  refine EC.newNode (bc := 0) (bs := 0) n_X1_9 dX1_add_0 (fun q hq1 hq2 => ?_)
  refine EW.dup dX1_add_3 rfl ?_
  refine EW.iload_n dX1_add_4 rfl rfl ?_
  refine EW.iload_n dX1_add_5 rfl rfl ?_
  refine EW.iload_n dX1_add_6 rfl rfl ?_
  refine EW.aloadq dX1_add_7 rfl ?_
  refine EW.callI (bc := 0) (bs := 0) (mc' := 0) (ms' := 0) (C_nodeN hl d (ndP s (va_up s.2.2.2.2.1 q (some nd0))) q (va_up_self _ _ _) k lo hi) mfX5_init rfl (Or.inl l_X1_11) mvX5_init (by omega) dX1_add_9 rfl rfl (Nat.le_of_ble_eq_true rfl) (fun _ _ q => nomatch q.1) (fun v s1 q9 => ?_)
  obtain ⟨e1, e2⟩ := q9
  cases e1
  have e3 : s1 = ndP s (va_up s.2.2.2.2.1 q (some (ndN k lo hi none))) := by rw [e2]; show ndP s (va_up (va_up s.2.2.2.2.1 q _) q _) = _; rw [va_uu]
  subst e3
  refine EW.astore dX1_add_12 (by decide) ?_
  refine EW.aload_n dX1_add_14 rfl rfl ?_
  refine EC.exget f_X1_14 dX1_add_15 he rfl ?_
  refine EW.rn h2 ?_
  refine EW.ifnonnull (r := none) 30 dX1_add_18 (by decide) (fun _ h => nomatch h) (fun _ => ?_)
  refine EW.aload_n dX1_add_21 rfl rfl ?_
  refine EW.aload dX1_add_22 rfl ?_
  refine EC.exput (n' := (some q, e9.2)) f_X1_20 dX1_add_24 he (by decide) rfl rfl rfl ?_
  refine EW.goto 39 dX1_add_27 (by decide) ?_
  refine EW.aload_n dX1_add_39 rfl rfl ?_
  refine EW.aload dX1_add_40 rfl ?_
  refine EC.exput (n := (some q, e9.2)) (n' := (some q, some q)) f_X1_14 dX1_add_42 (va_up_self _ _ _) (by decide) rfl rfl rfl ?_
  refine EW.aload dX1_add_45 rfl ?_
  refine EW.aret (r := some q) rfl dX1_add_47 ?_
  refine ⟨q, rfl, hq1, hq2, ?_⟩
  show (s.1, s.2.1, s.2.2.1, s.2.2.2.1, va_up s.2.2.2.2.1 q _, va_up (va_up s.2.2.2.2.2 x _) x _) = _
  rw [va_uu]
  rfl
set_option maxHeartbeats 4000000 in
theorem C_addN1 (hl : l.stackTraces = false) (d : Nat) (s : CSt) (x : Nat) (e9 : Option Nat × Option Nat) (he : s.2.2.2.2.2 x = some e9) (k lo hi : Int32) (p : Nat) (pn : ND) (h2 : e9.2 = some p) (hp : s.2.2.2.2.1 p = some pn) : MtW (IC cy ax hp0) l D cy base mX1_add (d + 2) 1 8 [.ref x, .int k, .int lo, .int hi, va_rf none] s (fun o s2 => ∃ q, o = .inl (some (.ref q)) ∧ s.2.2.2.2.1 q = none ∧ s.2.2.2.2.2 q = none ∧ s2 = add1 s x q (ndN k lo hi none) e9 p pn) := by
  refine MtW.of hl mfX1_add rfl (Nat.le_of_ble_eq_true rfl) ?_
  refine EC.newNode (bc := 0) (bs := 0) n_X1_9 dX1_add_0 (fun q hq1 hq2 => ?_)
  refine EW.dup dX1_add_3 rfl ?_
  refine EW.iload_n dX1_add_4 rfl rfl ?_
  refine EW.iload_n dX1_add_5 rfl rfl ?_
  refine EW.iload_n dX1_add_6 rfl rfl ?_
  refine EW.aloadq dX1_add_7 rfl ?_
  refine EW.callI (bc := 0) (bs := 0) (mc' := 0) (ms' := 0) (C_nodeN hl d (ndP s (va_up s.2.2.2.2.1 q (some nd0))) q (va_up_self _ _ _) k lo hi) mfX5_init rfl (Or.inl l_X1_11) mvX5_init (by omega) dX1_add_9 rfl rfl (Nat.le_of_ble_eq_true rfl) (fun _ _ q => nomatch q.1) (fun v s1 q9 => ?_)
  obtain ⟨e1, e2⟩ := q9
  cases e1
  have e3 : s1 = ndP s (va_up s.2.2.2.2.1 q (some (ndN k lo hi none))) := by rw [e2]; show ndP s (va_up (va_up s.2.2.2.2.1 q _) q _) = _; rw [va_uu]
  subst e3
  refine EW.astore dX1_add_12 (by decide) ?_
  refine EW.aload_n dX1_add_14 rfl rfl ?_
  refine EC.exget f_X1_14 dX1_add_15 he rfl ?_
  refine EW.rf h2 ?_
  have hpq : p ≠ q := fun h => by rw [h, hq1] at hp; cases hp
  refine EW.ifnonnull (r := some p) 30 dX1_add_18 (by decide) (fun _ _ => ?_) (fun h => nomatch h)
  refine EW.aload_n dX1_add_30 rfl rfl ?_
  refine EC.exget f_X1_14 dX1_add_31 he rfl ?_
  refine EW.rf h2 ?_
  refine EW.aload dX1_add_34 rfl ?_
  refine EC.ndput (n := pn) (n' := latN pn q) f_X1_23 dX1_add_36 (show va_up s.2.2.2.2.1 q _ p = some pn by rw [va_up_ne _ _ hpq]; exact hp) (by decide) rfl rfl rfl ?_
  refine EW.aload_n dX1_add_39 rfl rfl ?_
  refine EW.aload dX1_add_40 rfl ?_
  refine EC.exput (n' := (e9.1, some q)) f_X1_14 dX1_add_42 he (by decide) rfl rfl rfl ?_
  refine EW.aload dX1_add_45 rfl ?_
  refine EW.aret (r := some q) rfl dX1_add_47 ?_
  exact ⟨q, rfl, hq1, hq2, rfl⟩
set_option maxHeartbeats 4000000 in
theorem C_addS0 (hl : l.stackTraces = false) (d : Nat) (s : CSt) (x : Nat) (e9 : Option Nat × Option Nat) (he : s.2.2.2.2.2 x = some e9) (k lo hi : Int32) (b : Nat) (h2 : e9.2 = none) : MtW (IC cy ax hp0) l D cy base mX1_add (d + 2) 1 8 [.ref x, .int k, .int lo, .int hi, .ref b] s (fun o s2 => ∃ q, o = .inl (some (.ref q)) ∧ s.2.2.2.2.1 q = none ∧ s.2.2.2.2.2 q = none ∧ s2 = add0 s x q (ndN k lo hi (some b))) := by
  refine MtW.of hl mfX1_add rfl (Nat.le_of_ble_eq_true rfl) ?_
  refine EC.newNode (bc := 0) (bs := 0) n_X1_9 dX1_add_0 (fun q hq1 hq2 => ?_)
  refine EW.dup dX1_add_3 rfl ?_
  refine EW.iload_n dX1_add_4 rfl rfl ?_
  refine EW.iload_n dX1_add_5 rfl rfl ?_
  refine EW.iload_n dX1_add_6 rfl rfl ?_
  refine EW.aload dX1_add_7 rfl ?_
  refine EW.callI (bc := 0) (bs := 0) (mc' := 0) (ms' := 0) (C_nodeS hl d (ndP s (va_up s.2.2.2.2.1 q (some nd0))) q (va_up_self _ _ _) k lo hi b) mfX5_init rfl (Or.inl l_X1_11) mvX5_init (by omega) dX1_add_9 rfl rfl (Nat.le_of_ble_eq_true rfl) (fun _ _ q => nomatch q.1) (fun v s1 q9 => ?_)
  obtain ⟨e1, e2⟩ := q9
  cases e1
  have e3 : s1 = ndP s (va_up s.2.2.2.2.1 q (some (ndN k lo hi (some b)))) := by rw [e2]; show ndP s (va_up (va_up s.2.2.2.2.1 q _) q _) = _; rw [va_uu]
  subst e3
  refine EW.astore dX1_add_12 (by decide) ?_
  refine EW.aload_n dX1_add_14 rfl rfl ?_
  refine EC.exget f_X1_14 dX1_add_15 he rfl ?_
  refine EW.rn h2 ?_
  refine EW.ifnonnull (r := none) 30 dX1_add_18 (by decide) (fun _ h => nomatch h) (fun _ => ?_)
  refine EW.aload_n dX1_add_21 rfl rfl ?_
  refine EW.aload dX1_add_22 rfl ?_
  refine EC.exput (n' := (some q, e9.2)) f_X1_20 dX1_add_24 he (by decide) rfl rfl rfl ?_
  refine EW.goto 39 dX1_add_27 (by decide) ?_
  refine EW.aload_n dX1_add_39 rfl rfl ?_
  refine EW.aload dX1_add_40 rfl ?_
  refine EC.exput (n := (some q, e9.2)) (n' := (some q, some q)) f_X1_14 dX1_add_42 (va_up_self _ _ _) (by decide) rfl rfl rfl ?_
  refine EW.aload dX1_add_45 rfl ?_
  refine EW.aret (r := some q) rfl dX1_add_47 ?_
  refine ⟨q, rfl, hq1, hq2, ?_⟩
  show (s.1, s.2.1, s.2.2.1, s.2.2.2.1, va_up s.2.2.2.2.1 q _, va_up (va_up s.2.2.2.2.2 x _) x _) = _
  rw [va_uu]
  rfl
set_option maxHeartbeats 4000000 in
theorem C_addS1 (hl : l.stackTraces = false) (d : Nat) (s : CSt) (x : Nat) (e9 : Option Nat × Option Nat) (he : s.2.2.2.2.2 x = some e9) (k lo hi : Int32) (b : Nat) (p : Nat) (pn : ND) (h2 : e9.2 = some p) (hp : s.2.2.2.2.1 p = some pn) : MtW (IC cy ax hp0) l D cy base mX1_add (d + 2) 1 8 [.ref x, .int k, .int lo, .int hi, .ref b] s (fun o s2 => ∃ q, o = .inl (some (.ref q)) ∧ s.2.2.2.2.1 q = none ∧ s.2.2.2.2.2 q = none ∧ s2 = add1 s x q (ndN k lo hi (some b)) e9 p pn) := by
  refine MtW.of hl mfX1_add rfl (Nat.le_of_ble_eq_true rfl) ?_
  refine EC.newNode (bc := 0) (bs := 0) n_X1_9 dX1_add_0 (fun q hq1 hq2 => ?_)
  refine EW.dup dX1_add_3 rfl ?_
  refine EW.iload_n dX1_add_4 rfl rfl ?_
  refine EW.iload_n dX1_add_5 rfl rfl ?_
  refine EW.iload_n dX1_add_6 rfl rfl ?_
  refine EW.aload dX1_add_7 rfl ?_
  refine EW.callI (bc := 0) (bs := 0) (mc' := 0) (ms' := 0) (C_nodeS hl d (ndP s (va_up s.2.2.2.2.1 q (some nd0))) q (va_up_self _ _ _) k lo hi b) mfX5_init rfl (Or.inl l_X1_11) mvX5_init (by omega) dX1_add_9 rfl rfl (Nat.le_of_ble_eq_true rfl) (fun _ _ q => nomatch q.1) (fun v s1 q9 => ?_)
  obtain ⟨e1, e2⟩ := q9
  cases e1
  have e3 : s1 = ndP s (va_up s.2.2.2.2.1 q (some (ndN k lo hi (some b)))) := by rw [e2]; show ndP s (va_up (va_up s.2.2.2.2.1 q _) q _) = _; rw [va_uu]
  subst e3
  refine EW.astore dX1_add_12 (by decide) ?_
  refine EW.aload_n dX1_add_14 rfl rfl ?_
  refine EC.exget f_X1_14 dX1_add_15 he rfl ?_
  refine EW.rf h2 ?_
  have hpq : p ≠ q := fun h => by rw [h, hq1] at hp; cases hp
  refine EW.ifnonnull (r := some p) 30 dX1_add_18 (by decide) (fun _ _ => ?_) (fun h => nomatch h)
  refine EW.aload_n dX1_add_30 rfl rfl ?_
  refine EC.exget f_X1_14 dX1_add_31 he rfl ?_
  refine EW.rf h2 ?_
  refine EW.aload dX1_add_34 rfl ?_
  refine EC.ndput (n := pn) (n' := latN pn q) f_X1_23 dX1_add_36 (show va_up s.2.2.2.2.1 q _ p = some pn by rw [va_up_ne _ _ hpq]; exact hp) (by decide) rfl rfl rfl ?_
  refine EW.aload_n dX1_add_39 rfl rfl ?_
  refine EW.aload dX1_add_40 rfl ?_
  refine EC.exput (n' := (e9.1, some q)) f_X1_14 dX1_add_42 he (by decide) rfl rfl rfl ?_
  refine EW.aload dX1_add_45 rfl ?_
  refine EW.aret (r := some q) rfl dX1_add_47 ?_
  exact ⟨q, rfl, hq1, hq2, rfl⟩
/-- the text on the pad: n signs, tx gives them, 0 behind the last -/
def TXT (s : CSt) (n : Nat) (tx : Nat → Nat) : Prop := s.1 0 = nI n ∧ n ≤ 24 ∧ (∀ j, j < n → s.2.1 2 j = nI (tx j)) ∧ (∀ j, tx j < 128) ∧ ∀ j, n ≤ j → tx j = 0
abbrev isL (c : Nat) : Prop := 97 ≤ c ∧ c ≤ 105
abbrev isR (c : Nat) : Prop := 65 ≤ c ∧ c ≤ 70
def sB (c : Nat) : Nat := if c = 38 then 8 else if c = 33 then 9 else 0
def sE (c : Nat) : Nat := if c = 42 then 5 else if c = 43 then 6 else if c = 63 then 7 else 0
abbrev bgP (c : Nat) : Prop := isL c ∨ isR c ∨ c = 38 ∨ c = 33 ∨ c = 46 ∨ c = 91 ∨ c = 40
theorem bgP_s {c : Nat} (h : ¬ sB c = 0) : bgP c := by
  unfold sB at h
  by_cases h1 : c = 38
  · exact Or.inr (Or.inr (Or.inl h1))
  · by_cases h2 : c = 33
    · exact Or.inr (Or.inr (Or.inr (Or.inl h2)))
    · rw [if_neg h1, if_neg h2] at h; exact absurd rfl h
theorem bgP_o {c : Nat} (h : c = 46 ∨ c = 91 ∨ c = 40) : bgP c := Or.inr (Or.inr (Or.inr (Or.inr h)))
theorem bgP_n {c : Nat} (h1 : ¬ isL c) (h2 : ¬ isR c) (h3 : sB c = 0) (h4 : ¬ c = 46) (h5 : ¬ c = 91) (h6 : ¬ c = 40) : ¬ bgP c := by
  rintro (h | h | h | h | h | h | h)
  · exact h1 h
  · exact h2 h
  · rw [h] at h3; exact absurd h3 (by decide)
  · rw [h] at h3; exact absurd h3 (by decide)
  · exact h4 h
  · exact h5 h
  · exact h6 h
theorem it0 {p : Prop} [Decidable p] (h : (if p then 1 else 0 : Nat) = 0) : ¬ p := fun hp => by rw [if_pos hp] at h; cases h
theorem it1 {p : Prop} [Decidable p] (h : ¬ (if p then 1 else 0 : Nat) = 0) : p := by
  by_cases hp : p
  · exact hp
  · exact absurd (if_neg hp) h
theorem it9 {p : Prop} [Decidable p] : nI (if p then 1 else 0) = if p then 1 else 0 := by split <;> decide +kernel
theorem itlt {p : Prop} [Decidable p] : (if p then 1 else 0 : Nat) < 2 ^ 31 := by split <;> decide
theorem C_isL (hl : l.stackTraces = false) {S : Type} (I : S → Hp → Prop) (d : Nat) (s : S) (c : Nat) (hc : c < 65536) : MtW I l D cy base mX8_isLetter d 0 0 [.int (nI c)] s (fun o s2 => o = .inl (some (.int (nI (if isL c then 1 else 0)))) ∧ s2 = s) := by
  refine MtW.post (fun o s2 h => ?_) (C_isLetter hl I d s (nI c))
  obtain ⟨h1, h2⟩ := h
  refine ⟨?_, h2⟩
  rw [h1, it9]
  have e : (97 ≤ nI c ∧ nI c ≤ 105) ↔ isL c := by
    rw [show (97 : Int32) = nI 97 by decide +kernel, show (105 : Int32) = nI 105 by decide +kernel, nI_leI (by decide) (by omega), nI_leI (by omega) (by decide)]
  by_cases h : isL c
  · rw [if_pos (e.mpr h), if_pos h]
  · rw [if_neg (fun q => h (e.mp q)), if_neg h]
theorem C_isR (hl : l.stackTraces = false) {S : Type} (I : S → Hp → Prop) (d : Nat) (s : S) (c : Nat) (hc : c < 65536) : MtW I l D cy base mX8_isRuleLetter d 0 0 [.int (nI c)] s (fun o s2 => o = .inl (some (.int (nI (if isR c then 1 else 0)))) ∧ s2 = s) := by
  refine MtW.post (fun o s2 h => ?_) (C_isRuleLetter hl I d s (nI c))
  obtain ⟨h1, h2⟩ := h
  refine ⟨?_, h2⟩
  rw [h1, it9]
  have e : (65 ≤ nI c ∧ nI c ≤ 70) ↔ isR c := by
    rw [show (65 : Int32) = nI 65 by decide +kernel, show (70 : Int32) = nI 70 by decide +kernel, nI_leI (by decide) (by omega), nI_leI (by omega) (by decide)]
  by_cases h : isR c
  · rw [if_pos (e.mpr h), if_pos h]
  · rw [if_neg (fun q => h (e.mp q)), if_neg h]
set_option maxHeartbeats 4000000 in
theorem C_atx (hl : l.stackTraces = false) (d : Nat) (s : CSt) (n : Nat) (tx : Nat → Nat) (hT : TXT s n tx) (a : Nat) (ha : a < 100) : MtW (IC cy ax hp0) l D cy base mX0_at d 0 0 [.ref (ax 1), .int (nI a)] s (fun o s2 => o = .inl (some (.int (nI (tx a)))) ∧ s2 = s) := by
  obtain ⟨h1, h2, h3, h4, h5⟩ := hT
  refine MtW.post (fun o s2 h => ?_) (C_at_pad hl d n s h1 h2 a (by omega) (fun h => ⟨tx a, by have := h4 a; omega, h3 a h⟩))
  obtain ⟨g1, g2⟩ := h
  refine ⟨?_, g2⟩
  rw [g1]
  by_cases h : a < n
  · rw [if_pos h, h3 a h]
  · rw [if_neg h, h5 a (by omega)]
    rfl
set_option maxHeartbeats 4000000 in
theorem C_take1 (hl : l.stackTraces = false) (d : Nat) (s : CSt) (n : Nat) (tx : Nat → Nat) (hT : TXT s n tx) (a c : Nat) (ha : s.1 2 = nI a) (h9 : a < 100) (hc : c < 128) (h : tx a = c) : MtW (IC cy ax hp0) l D cy base mX6_take (d + 1) 0 0 [.ref (ax 5), .int (nI c)] s (fun o s2 => o = .inl (some (.int (nI 1))) ∧ s2 = (va_up s.1 2 (nI (a + 1)), s.2)) := by
  refine MtW.of hl mfX6_take rfl (Nat.le_of_ble_eq_true rfl) ?_
  have h128 := hT.2.2.2.1 a
  refine EW.aload_n dX6_take_0 rfl rfl ?_
  refine EC.get (k := 5) f_X6_9 dX6_take_1 (by decide) rfl rfl ?_
  refine EW.aload_n dX6_take_4 rfl rfl ?_
  refine EC.get (k := 5) f_X6_22 dX6_take_5 (by decide) rfl rfl ?_
  refine EW.top ha ?_
  refine EC.callV (bc := 0) (bs := 0) (mc' := 0) (ms' := 0) (k := 1) (C_atx hl d s n tx hT a h9) mfX0_at l_X6_29 mvX0_at (by omega) dX6_take_8 rfl rfl (by decide) rfl rfl rfl (Nat.le_of_ble_eq_true rfl) (fun v8 s8 q8 => ?_) (fun _ _ q => nomatch q.1)
  obtain ⟨e8, h8⟩ := q8; cases e8; replace h8 := h8.symm; subst h8
  refine EW.iload_n dX6_take_11 rfl rfl ?_
  refine EW.icmp_eq 17 dX6_take_12 (by decide) (fun c12 => ?_) (fun c12 => ?_)
  · have c12 : tx a = c := (nI_eq (by omega) (by omega)).mp c12
    refine EW.aload_n dX6_take_17 rfl rfl ?_
    refine EW.dup dX6_take_18 rfl ?_
    refine EC.get (k := 5) f_X6_22 dX6_take_19 (by decide) rfl rfl ?_
    refine EW.top ha ?_
    refine EW.ic 1 dX6_take_22 ?_
    refine EW.iadd dX6_take_23 ?_
    refine EW.top (nI_add _ _) ?_
    refine EC.put2 f_X6_22 dX6_take_24 ?_
    refine EW.ic 1 dX6_take_27 ?_
    refine EW.zret (ty := .boolean) rfl (by decide +kernel) dX6_take_28 ?_
    exact ⟨rfl, rfl⟩
  · have c12 : ¬ (tx a = c) := fun h => c12 ((nI_eq (by omega) (by omega)).mpr h); exact absurd h c12
set_option maxHeartbeats 4000000 in
theorem C_take0 (hl : l.stackTraces = false) (d : Nat) (s : CSt) (n : Nat) (tx : Nat → Nat) (hT : TXT s n tx) (a c : Nat) (ha : s.1 2 = nI a) (h9 : a < 100) (hc : c < 128) (h : ¬ tx a = c) : MtW (IC cy ax hp0) l D cy base mX6_take (d + 1) 0 0 [.ref (ax 5), .int (nI c)] s (fun o s2 => o = .inl (some (.int (nI 0))) ∧ s2 = s) := by
  refine MtW.of hl mfX6_take rfl (Nat.le_of_ble_eq_true rfl) ?_
  have h128 := hT.2.2.2.1 a
  refine EW.aload_n dX6_take_0 rfl rfl ?_
  refine EC.get (k := 5) f_X6_9 dX6_take_1 (by decide) rfl rfl ?_
  refine EW.aload_n dX6_take_4 rfl rfl ?_
  refine EC.get (k := 5) f_X6_22 dX6_take_5 (by decide) rfl rfl ?_
  refine EW.top ha ?_
  refine EC.callV (bc := 0) (bs := 0) (mc' := 0) (ms' := 0) (k := 1) (C_atx hl d s n tx hT a h9) mfX0_at l_X6_29 mvX0_at (by omega) dX6_take_8 rfl rfl (by decide) rfl rfl rfl (Nat.le_of_ble_eq_true rfl) (fun v8 s8 q8 => ?_) (fun _ _ q => nomatch q.1)
  obtain ⟨e8, h8⟩ := q8; cases e8; replace h8 := h8.symm; subst h8
  refine EW.iload_n dX6_take_11 rfl rfl ?_
  refine EW.icmp_eq 17 dX6_take_12 (by decide) (fun c12 => ?_) (fun c12 => ?_)
  · have c12 : tx a = c := (nI_eq (by omega) (by omega)).mp c12; exact absurd c12 h
  · have c12 : ¬ (tx a = c) := fun h => c12 ((nI_eq (by omega) (by omega)).mpr h)
    refine EW.ic 0 dX6_take_15 ?_
    refine EW.zret (ty := .boolean) rfl (by decide +kernel) dX6_take_16 ?_
    exact ⟨rfl, rfl⟩
set_option maxHeartbeats 4000000 in
theorem C_sgB (hl : l.stackTraces = false) {S : Type} (I : S → Hp → Prop) (d : Nat) (s : S) (c : Nat) (hc : c < 128) : MtW I l D cy base mX6_signBefore d 0 0 [.int (nI c)] s (fun o s2 => o = .inl (some (.int (nI (sB c)))) ∧ s2 = s) := by
  refine MtW.of hl mfX6_signBefore rfl (Nat.le_of_ble_eq_true rfl) ?_
  refine EW.iload_n dX6_signBefore_0 rfl rfl ?_
  refine EW.bp 38 dX6_signBefore_1 ?_
  refine EW.icmp_ne 9 dX6_signBefore_3 (by decide) (fun c3 => ?_) (fun c3 => ?_)
  · have c3 : ¬ (c = 38) := fun h => c3 ((nI_eq (by omega) (by omega)).mpr h)
    refine EW.iload_n dX6_signBefore_9 rfl rfl ?_
    refine EW.bp 33 dX6_signBefore_10 ?_
    refine EW.icmp_ne 20 dX6_signBefore_12 (by decide) (fun c12 => ?_) (fun c12 => ?_)
    · have c12 : ¬ (c = 33) := fun h => c12 ((nI_eq (by omega) (by omega)).mpr h)
      refine EW.ic 0 dX6_signBefore_20 ?_
      refine EW.iret rfl dX6_signBefore_21 ?_
      rw [show sB c = 0 by unfold sB; rw [if_neg c3, if_neg c12]]; exact ⟨rfl, rfl⟩
    · have c12 : c = 33 := (nI_eq (by omega) (by omega)).mp c12
      refine EW.bp 9 dX6_signBefore_15 ?_
      refine EW.goto 21 dX6_signBefore_17 (by decide) ?_
      refine EW.iret rfl dX6_signBefore_21 ?_
      rw [show sB c = 9 by unfold sB; rw [if_neg c3, if_pos c12]]; exact ⟨rfl, rfl⟩
  · have c3 : c = 38 := (nI_eq (by omega) (by omega)).mp c3
    refine EW.bp 8 dX6_signBefore_6 ?_
    refine EW.iret rfl dX6_signBefore_8 ?_
    rw [show sB c = 8 from if_pos c3]; exact ⟨rfl, rfl⟩
set_option maxHeartbeats 4000000 in
theorem C_sgE (hl : l.stackTraces = false) {S : Type} (I : S → Hp → Prop) (d : Nat) (s : S) (c : Nat) (hc : c < 128) : MtW I l D cy base mX6_signBehind d 0 0 [.int (nI c)] s (fun o s2 => o = .inl (some (.int (nI (sE c)))) ∧ s2 = s) := by
  refine MtW.of hl mfX6_signBehind rfl (Nat.le_of_ble_eq_true rfl) ?_
  refine EW.iload_n dX6_signBehind_0 rfl rfl ?_
  have key : ∀ c : Nat, c < 128 → Op.lookupswitch.offset [(42, 35), (43, 37), (63, 40)] 43 (nI c).toInt = if c = 42 then 35 else if c = 43 then 37 else if c = 63 then 40 else 43 := by decide +kernel
  have hk := key c hc
  by_cases h1 : c = 42
  · rw [if_pos h1] at hk
    refine EW.lookup 36 dX6_signBehind_1 (by decide +kernel) hk (by decide) ?_
    refine EW.ic 5 dX6_signBehind_36 ?_
    refine EW.iret rfl dX6_signBehind_37 ?_
    rw [show sE c = 5 from if_pos h1]; exact ⟨rfl, rfl⟩
  · rw [if_neg h1] at hk
    by_cases h2 : c = 43
    · rw [if_pos h2] at hk
      refine EW.lookup 38 dX6_signBehind_1 (by decide +kernel) hk (by decide) ?_
      refine EW.bp 6 dX6_signBehind_38 ?_
      refine EW.iret rfl dX6_signBehind_40 ?_
      rw [show sE c = 6 by unfold sE; rw [if_neg h1, if_pos h2]]; exact ⟨rfl, rfl⟩
    · rw [if_neg h2] at hk
      by_cases h3 : c = 63
      · rw [if_pos h3] at hk
        refine EW.lookup 41 dX6_signBehind_1 (by decide +kernel) hk (by decide) ?_
        refine EW.bp 7 dX6_signBehind_41 ?_
        refine EW.iret rfl dX6_signBehind_43 ?_
        rw [show sE c = 7 by unfold sE; rw [if_neg h1, if_neg h2, if_pos h3]]; exact ⟨rfl, rfl⟩
      · rw [if_neg h3] at hk
        refine EW.lookup 44 dX6_signBehind_1 (by decide +kernel) hk (by decide) ?_
        refine EW.ic 0 dX6_signBehind_44 ?_
        refine EW.iret rfl dX6_signBehind_45 ?_
        rw [show sE c = 0 by unfold sE; rw [if_neg h1, if_neg h2, if_neg h3]]; exact ⟨rfl, rfl⟩
set_option maxHeartbeats 4000000 in
theorem C_bgP (hl : l.stackTraces = false) {S : Type} (I : S → Hp → Prop) (d : Nat) (s : S) (c : Nat) (hc : c < 128) : MtW I l D cy base mX6_beginsPart (d + 1) 0 0 [.int (nI c)] s (fun o s2 => o = .inl (some (.int (nI (if bgP c then 1 else 0)))) ∧ s2 = s) := by
  refine MtW.of hl mfX6_beginsPart rfl (Nat.le_of_ble_eq_true rfl) ?_
  have g1 := @itlt (isL c) _
  have g2 := @itlt (isR c) _
  have g3 : sB c < 2 ^ 31 := by unfold sB; split <;> (try split) <;> decide
  refine EW.iload_n dX6_beginsPart_0 rfl rfl ?_
  refine EW.callSN (bc := 0) (bs := 0) (mc' := 0) (ms' := 0) (C_isL hl I d s c (by omega)) mfX8_isLetter rfl l_X6_85 mvX8_isLetter (by omega) dX6_beginsPart_1 rfl rfl (Nat.le_of_ble_eq_true rfl) (fun _ _ q => nomatch q.1) (fun v1 s1 q1 => ?_)
  obtain ⟨e1, h1⟩ := q1; cases e1; replace h1 := h1.symm; subst h1
  refine EW.if_ne 39 dX6_beginsPart_4 (by decide) (fun c4 => ?_) (fun c4 => ?_)
  · have c4 : ¬ (if isL c then 1 else 0) = 0 := fun h => c4 ((nI_eq0 (by omega)).mpr h)
    have c4 := it1 c4
    refine EW.ic 1 dX6_beginsPart_39 ?_
    refine EW.goto 44 dX6_beginsPart_40 (by decide) ?_
    refine EW.zret (ty := .boolean) rfl (by decide +kernel) dX6_beginsPart_44 ?_
    rw [show (if bgP c then 1 else 0 : Nat) = 1 from if_pos (by first | exact Or.inl c4 | exact Or.inr (Or.inl c11) | exact bgP_s c18 | exact bgP_o (by omega))]; exact ⟨rfl, rfl⟩
  · have c4 : (if isL c then 1 else 0) = 0 := (nI_eq0 (by omega)).mp c4
    have c4 := it0 c4
    refine EW.iload_n dX6_beginsPart_7 rfl rfl ?_
    refine EW.callSN (bc := 0) (bs := 0) (mc' := 0) (ms' := 0) (C_isR hl I d s c (by omega)) mfX8_isRuleLetter rfl l_X6_34 mvX8_isRuleLetter (by omega) dX6_beginsPart_8 rfl rfl (Nat.le_of_ble_eq_true rfl) (fun _ _ q => nomatch q.1) (fun v8 s8 q8 => ?_)
    obtain ⟨e8, h8⟩ := q8; cases e8; replace h8 := h8.symm; subst h8
    refine EW.if_ne 39 dX6_beginsPart_11 (by decide) (fun c11 => ?_) (fun c11 => ?_)
    · have c11 : ¬ (if isR c then 1 else 0) = 0 := fun h => c11 ((nI_eq0 (by omega)).mpr h)
      have c11 := it1 c11
      refine EW.ic 1 dX6_beginsPart_39 ?_
      refine EW.goto 44 dX6_beginsPart_40 (by decide) ?_
      refine EW.zret (ty := .boolean) rfl (by decide +kernel) dX6_beginsPart_44 ?_
      rw [show (if bgP c then 1 else 0 : Nat) = 1 from if_pos (by first | exact Or.inl c4 | exact Or.inr (Or.inl c11) | exact bgP_s c18 | exact bgP_o (by omega))]; exact ⟨rfl, rfl⟩
    · have c11 : (if isR c then 1 else 0) = 0 := (nI_eq0 (by omega)).mp c11
      have c11 := it0 c11
      refine EW.iload_n dX6_beginsPart_14 rfl rfl ?_
      refine EW.callS (bc := 0) (bs := 0) (mc' := 0) (ms' := 0) (C_sgB hl I d s c hc) mfX6_signBefore rfl l_X6_68 mvX6_signBefore (by omega) dX6_beginsPart_15 rfl rfl (Nat.le_of_ble_eq_true rfl) (fun v15 s15 q15 => ?_) (fun _ _ q => nomatch q.1)
      obtain ⟨e15, h15⟩ := q15; cases e15; replace h15 := h15.symm; subst h15
      refine EW.if_ne 39 dX6_beginsPart_18 (by decide) (fun c18 => ?_) (fun c18 => ?_)
      · have c18 : ¬ sB c = 0 := fun h => c18 ((nI_eq0 (by omega)).mpr h)
        refine EW.ic 1 dX6_beginsPart_39 ?_
        refine EW.goto 44 dX6_beginsPart_40 (by decide) ?_
        refine EW.zret (ty := .boolean) rfl (by decide +kernel) dX6_beginsPart_44 ?_
        rw [show (if bgP c then 1 else 0 : Nat) = 1 from if_pos (by first | exact Or.inl c4 | exact Or.inr (Or.inl c11) | exact bgP_s c18 | exact bgP_o (by omega))]; exact ⟨rfl, rfl⟩
      · have c18 : sB c = 0 := (nI_eq0 (by omega)).mp c18
        refine EW.iload_n dX6_beginsPart_21 rfl rfl ?_
        refine EW.bp 46 dX6_beginsPart_22 ?_
        refine EW.icmp_eq 39 dX6_beginsPart_24 (by decide) (fun c24 => ?_) (fun c24 => ?_)
        · have c24 : c = 46 := (nI_eq (by omega) (by omega)).mp c24
          refine EW.ic 1 dX6_beginsPart_39 ?_
          refine EW.goto 44 dX6_beginsPart_40 (by decide) ?_
          refine EW.zret (ty := .boolean) rfl (by decide +kernel) dX6_beginsPart_44 ?_
          rw [show (if bgP c then 1 else 0 : Nat) = 1 from if_pos (by first | exact Or.inl c4 | exact Or.inr (Or.inl c11) | exact bgP_s c18 | exact bgP_o (by omega))]; exact ⟨rfl, rfl⟩
        · have c24 : ¬ (c = 46) := fun h => c24 ((nI_eq (by omega) (by omega)).mpr h)
          refine EW.iload_n dX6_beginsPart_27 rfl rfl ?_
          refine EW.bp 91 dX6_beginsPart_28 ?_
          refine EW.icmp_eq 39 dX6_beginsPart_30 (by decide) (fun c30 => ?_) (fun c30 => ?_)
          · have c30 : c = 91 := (nI_eq (by omega) (by omega)).mp c30
            refine EW.ic 1 dX6_beginsPart_39 ?_
            refine EW.goto 44 dX6_beginsPart_40 (by decide) ?_
            refine EW.zret (ty := .boolean) rfl (by decide +kernel) dX6_beginsPart_44 ?_
            rw [show (if bgP c then 1 else 0 : Nat) = 1 from if_pos (by first | exact Or.inl c4 | exact Or.inr (Or.inl c11) | exact bgP_s c18 | exact bgP_o (by omega))]; exact ⟨rfl, rfl⟩
          · have c30 : ¬ (c = 91) := fun h => c30 ((nI_eq (by omega) (by omega)).mpr h)
            refine EW.iload_n dX6_beginsPart_33 rfl rfl ?_
            refine EW.bp 40 dX6_beginsPart_34 ?_
            refine EW.icmp_ne 43 dX6_beginsPart_36 (by decide) (fun c36 => ?_) (fun c36 => ?_)
            · have c36 : ¬ (c = 40) := fun h => c36 ((nI_eq (by omega) (by omega)).mpr h)
              refine EW.ic 0 dX6_beginsPart_43 ?_
              refine EW.zret (ty := .boolean) rfl (by decide +kernel) dX6_beginsPart_44 ?_
              rw [show (if bgP c then 1 else 0 : Nat) = 0 from if_neg (bgP_n c4 c11 c18 c24 c30 c36)]; exact ⟨rfl, rfl⟩
            · have c36 : c = 40 := (nI_eq (by omega) (by omega)).mp c36
              refine EW.ic 1 dX6_beginsPart_39 ?_
              refine EW.goto 44 dX6_beginsPart_40 (by decide) ?_
              refine EW.zret (ty := .boolean) rfl (by decide +kernel) dX6_beginsPart_44 ?_
              rw [show (if bgP c then 1 else 0 : Nat) = 1 from if_pos (by first | exact Or.inl c4 | exact Or.inr (Or.inl c11) | exact bgP_s c18 | exact bgP_o (by omega))]; exact ⟨rfl, rfl⟩
end C14
