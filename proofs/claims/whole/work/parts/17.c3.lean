section C3
theorem EW.rf {S : Type} {I : S → Hp → Prop} {l : Launch} {D : va_G} {cy : Nat → ClassId} {base : Nat} {M : Mth} {d bc bs pc : Nat} {lv : List (Nat × Value)} {st : List Value} {s : S} {Q : Oc → S → Prop} {r : Option Nat} {a : Nat} (e : r = some a) (k : EW I l D cy base M d bc bs pc lv (.ref a :: st) s Q) : EW I l D cy base M d bc bs pc lv (va_rf r :: st) s Q := by
  subst e
  exact k
/-- the nodes ps hang together by f, the first of them is r -/
def lnk (nd : Nat → Option ND) (f : ND → Option Nat) : List Nat → Option Nat → Prop
  | [], r => r = none
  | p :: t, r => r = some p ∧ ∃ n, nd p = some n ∧ lnk nd f t (f n)
abbrev nLater (n : ND) : Option Nat := n.2.2.2.2.2.1
abbrev nNext (n : ND) : Option Nat := n.2.2.2.2.1
def rulF (nd : Nat → Option ND) : List Nat → Int32 → Int32
  | [], acc => acc
  | p :: t, acc => rulF nd t (match nd p with
    | some n => if n.1 = nI 2 then acc ||| (nI 1 <<< (n.2.1 &&& 31)) else acc
    | none => acc)
def algF (nd : Nat → Option ND) : List Nat → Bool
  | [] => true
  | p :: t => (match nd p with
    | some n => !(n.2.2.2.2.2.2.2 == 0)
    | none => true) && algF nd t
def fgtN (n : ND) : ND := (n.1, n.2.1, n.2.2.1, n.2.2.2.1, n.2.2.2.2.1, n.2.2.2.2.2.1, nI 0, nI 0)
def fgtF : List Nat → (Nat → Option ND) → (Nat → Option ND)
  | [], nd => nd
  | p :: t, nd => fgtF t (va_up nd p ((nd p).map fgtN))
variable {cy : Nat → ClassId} {ax : Nat → Nat} {hp0 : Hp} {l : Launch} {D : va_G} {base : Nat}
set_option maxHeartbeats 4000000 in
theorem C_rulesInIt_loop (d : Nat) (x : Nat) : ∀ (ps : List Nat) (r : Option Nat) (acc : Int32) (s : CSt), lnk s.2.2.2.2.1 nLater ps r → EW (IC cy ax hp0) l D cy base mX1_rulesInIt d 0 0 7 [(0, .ref x), (1, .int acc), (2, va_rf r)] [] s (fun o s2 => o = .inl (some (.int (rulF s.2.2.2.2.1 ps acc))) ∧ s2 = s) := by
  intro ps
  induction ps with
  | nil =>
    intro r acc s h
    subst h
    refine EW.aloadq_n dX1_rulesInIt_7 rfl rfl ?_
    refine EW.ifnull (r := none) 36 dX1_rulesInIt_8 (by decide) (fun _ => ?_) (fun _ h => nomatch h)
    refine EW.iload_n dX1_rulesInIt_36 rfl rfl ?_
    refine EW.iret rfl dX1_rulesInIt_37 ?_
    exact ⟨rfl, rfl⟩
  | cons p t ih =>
    intro r acc s h
    obtain ⟨rfl, n, hn, ht⟩ := h
    have hu : rulF s.2.2.2.2.1 (p :: t) acc = rulF s.2.2.2.2.1 t (if n.1 = nI 2 then acc ||| (nI 1 <<< (n.2.1 &&& 31)) else acc) := by simp only [rulF, hn]
    rw [hu]
    refine EW.aload_n dX1_rulesInIt_7 rfl rfl ?_
    refine EW.ifnull (r := some p) 36 dX1_rulesInIt_8 (by decide) (fun h => nomatch h) (fun _ _ => ?_)
    refine EW.aload_n dX1_rulesInIt_11 rfl rfl ?_
    refine EC.ndget f_X1_34 dX1_rulesInIt_12 hn rfl ?_
    refine EW.ic 2 dX1_rulesInIt_15 ?_
    refine EW.icmp_ne 28 dX1_rulesInIt_16 (by decide) (fun c16 => ?_) (fun c16 => ?_)
    · rw [if_neg c16]
      refine EW.aload_n dX1_rulesInIt_28 rfl rfl ?_
      refine EC.ndget f_X1_23 dX1_rulesInIt_29 hn rfl ?_
      refine EW.astoreq_n dX1_rulesInIt_32 rfl (by decide) ?_
      refine EW.goto 7 dX1_rulesInIt_33 (by decide) ?_
      exact EW.loc (lv' := [(0, .ref x), (1, .int _), (2, va_rf (nLater n))]) ⟨rfl, rfl, rfl, trivial⟩ (ih (nLater n) _ s ht)
    · rw [if_pos c16]
      refine EW.iload_n dX1_rulesInIt_19 rfl rfl ?_
      refine EW.ic 1 dX1_rulesInIt_20 ?_
      refine EW.aload_n dX1_rulesInIt_21 rfl rfl ?_
      refine EC.ndget f_X1_37 dX1_rulesInIt_22 hn rfl ?_
      refine EW.ishl dX1_rulesInIt_25 ?_
      refine EW.ior dX1_rulesInIt_26 ?_
      refine EW.istore_n dX1_rulesInIt_27 rfl (by decide) ?_
      refine EW.aload_n dX1_rulesInIt_28 rfl rfl ?_
      refine EC.ndget f_X1_23 dX1_rulesInIt_29 hn rfl ?_
      refine EW.astoreq_n dX1_rulesInIt_32 rfl (by decide) ?_
      refine EW.goto 7 dX1_rulesInIt_33 (by decide) ?_
      exact EW.loc (lv' := [(0, .ref x), (1, .int _), (2, va_rf (nLater n))]) ⟨rfl, rfl, rfl, trivial⟩ (ih (nLater n) _ s ht)
set_option maxHeartbeats 4000000 in
theorem C_rulesInIt (hl : l.stackTraces = false) (d : Nat) (s : CSt) (x : Nat) (e9 : Option Nat × Option Nat) (he : s.2.2.2.2.2 x = some e9) (ps : List Nat) (hps : lnk s.2.2.2.2.1 nLater ps e9.1) : MtW (IC cy ax hp0) l D cy base mX1_rulesInIt d 0 0 [.ref x] s (fun o s2 => o = .inl (some (.int (rulF s.2.2.2.2.1 ps 0))) ∧ s2 = s) := by
  refine MtW.of hl mfX1_rulesInIt rfl (Nat.le_of_ble_eq_true rfl) ?_
  refine EW.ic 0 dX1_rulesInIt_0 ?_
  refine EW.istore_n dX1_rulesInIt_1 rfl (by decide) ?_
  refine EW.aload_n dX1_rulesInIt_2 rfl rfl ?_
  refine EC.exget f_X1_20 dX1_rulesInIt_3 he rfl ?_
  refine EW.astoreq_n dX1_rulesInIt_6 rfl (by decide) ?_
  exact EW.loc (lv' := [(0, .ref x), (1, .int (nI 0)), (2, va_rf e9.1)]) ⟨rfl, rfl, rfl, trivial⟩ (C_rulesInIt_loop d x ps e9.1 (nI 0) s hps)
set_option maxHeartbeats 4000000 in
theorem C_allGood_loop (d : Nat) (x : Nat) : ∀ (ps : List Nat) (r : Option Nat) (s : CSt), lnk s.2.2.2.2.1 nLater ps r → EW (IC cy ax hp0) l D cy base mX1_allGood d 0 0 5 [(0, .ref x), (1, va_rf r)] [] s (fun o s2 => o = .inl (some (.int (if algF s.2.2.2.2.1 ps = true then nI 1 else nI 0))) ∧ s2 = s) := by
  intro ps
  induction ps with
  | nil =>
    intro r s h
    subst h
    refine EW.aloadq_n dX1_allGood_5 rfl rfl ?_
    refine EW.ifnull (r := none) 26 dX1_allGood_6 (by decide) (fun _ => ?_) (fun _ h => nomatch h)
    refine EW.ic 1 dX1_allGood_26 ?_
    refine EW.zret (ty := .boolean) rfl (by decide +kernel) dX1_allGood_27 ?_
    exact ⟨rfl, rfl⟩
  | cons p t ih =>
    intro r s h
    obtain ⟨rfl, n, hn, ht⟩ := h
    have hu : algF s.2.2.2.2.1 (p :: t) = (!(n.2.2.2.2.2.2.2 == 0) && algF s.2.2.2.2.1 t) := by simp only [algF, hn]
    rw [hu]
    refine EW.aload_n dX1_allGood_5 rfl rfl ?_
    refine EW.ifnull (r := some p) 26 dX1_allGood_6 (by decide) (fun h => nomatch h) (fun _ _ => ?_)
    refine EW.aload_n dX1_allGood_9 rfl rfl ?_
    refine EC.ndget f_X1_30 dX1_allGood_10 hn rfl ?_
    refine EW.if_ne 18 dX1_allGood_13 (by decide) (fun c13 => ?_) (fun c13 => ?_)
    · rw [show (!(n.2.2.2.2.2.2.2 == 0) && algF s.2.2.2.2.1 t) = algF s.2.2.2.2.1 t by simp [c13]]
      refine EW.aload_n dX1_allGood_18 rfl rfl ?_
      refine EC.ndget f_X1_23 dX1_allGood_19 hn rfl ?_
      refine EW.astoreq_n dX1_allGood_22 rfl (by decide) ?_
      refine EW.goto 5 dX1_allGood_23 (by decide) ?_
      exact EW.loc (lv' := [(0, .ref x), (1, va_rf (nLater n))]) ⟨rfl, rfl, trivial⟩ (ih (nLater n) s ht)
    · rw [show (!(n.2.2.2.2.2.2.2 == 0) && algF s.2.2.2.2.1 t) = false by simp [c13]]
      refine EW.ic 0 dX1_allGood_16 ?_
      refine EW.zret (ty := .boolean) rfl (by decide +kernel) dX1_allGood_17 ?_
      exact ⟨rfl, rfl⟩
set_option maxHeartbeats 4000000 in
theorem C_allGood (hl : l.stackTraces = false) (d : Nat) (s : CSt) (x : Nat) (e9 : Option Nat × Option Nat) (he : s.2.2.2.2.2 x = some e9) (ps : List Nat) (hps : lnk s.2.2.2.2.1 nLater ps e9.1) : MtW (IC cy ax hp0) l D cy base mX1_allGood d 0 0 [.ref x] s (fun o s2 => o = .inl (some (.int (if algF s.2.2.2.2.1 ps = true then nI 1 else nI 0))) ∧ s2 = s) := by
  refine MtW.of hl mfX1_allGood rfl (Nat.le_of_ble_eq_true rfl) ?_
  refine EW.aload_n dX1_allGood_0 rfl rfl ?_
  refine EC.exget f_X1_20 dX1_allGood_1 he rfl ?_
  refine EW.astoreq_n dX1_allGood_4 rfl (by decide) ?_
  exact EW.loc (lv' := [(0, .ref x), (1, va_rf e9.1)]) ⟨rfl, rfl, trivial⟩ (C_allGood_loop d x ps e9.1 s hps)
theorem lnk_put {nd : Nat → Option ND} {f : ND → Option Nat} {p : Nat} {n m : ND} (hn : nd p = some n) (hf : f m = f n) : ∀ (ps : List Nat) (r : Option Nat), lnk nd f ps r → lnk (va_up nd p (some m)) f ps r
  | [], _, h => h
  | q :: t, r, ⟨h1, k, hk, ht⟩ => by
    refine ⟨h1, ?_⟩
    by_cases hq : q = p
    · subst hq
      cases hn.symm.trans hk
      exact ⟨m, va_up_self _ _ _, by rw [hf]; exact lnk_put hn hf t _ ht⟩
    · exact ⟨k, by rw [va_up_ne _ _ hq]; exact hk, lnk_put hn hf t _ ht⟩
set_option maxHeartbeats 4000000 in
theorem C_forgetF_loop (d : Nat) (x : Nat) : ∀ (ps : List Nat) (r : Option Nat) (s : CSt), lnk s.2.2.2.2.1 nLater ps r → EW (IC cy ax hp0) l D cy base mX1_forgetFindings d 0 0 5 [(0, .ref x), (1, va_rf r)] [] s (fun o s2 => o = .inl none ∧ s2 = ndP s (fgtF ps s.2.2.2.2.1)) := by
  intro ps
  induction ps with
  | nil =>
    intro r s h
    subst h
    refine EW.aloadq_n dX1_forgetFindings_5 rfl rfl ?_
    refine EW.ifnull (r := none) 27 dX1_forgetFindings_6 (by decide) (fun _ => ?_) (fun _ h => nomatch h)
    refine EW.vret rfl dX1_forgetFindings_27 ?_
    exact ⟨rfl, rfl⟩
  | cons p t ih =>
    intro r s h
    obtain ⟨rfl, n, hn, ht⟩ := h
    have hu : fgtF (p :: t) s.2.2.2.2.1 = fgtF t (va_up s.2.2.2.2.1 p (some (fgtN n))) := by simp only [fgtF, hn, Option.map]
    rw [hu]
    refine EW.aload_n dX1_forgetFindings_5 rfl rfl ?_
    refine EW.ifnull (r := some p) 27 dX1_forgetFindings_6 (by decide) (fun h => nomatch h) (fun _ _ => ?_)
    refine EW.aload_n dX1_forgetFindings_9 rfl rfl ?_
    refine EW.ic 0 dX1_forgetFindings_10 ?_
    refine EC.ndput (n' := (n.1, n.2.1, n.2.2.1, n.2.2.2.1, n.2.2.2.2.1, n.2.2.2.2.2.1, nI 0, n.2.2.2.2.2.2.2)) f_X1_26 dX1_forgetFindings_11 hn (by decide) rfl rfl rfl ?_
    refine EW.aload_n dX1_forgetFindings_14 rfl rfl ?_
    refine EW.ic 0 dX1_forgetFindings_15 ?_
    refine EC.ndput (n' := fgtN n) f_X1_30 dX1_forgetFindings_16 (va_up_self _ _ _) (by decide) (by decide +kernel) (by decide +kernel) rfl ?_
    refine EW.eqs (s' := ndP s (va_up s.2.2.2.2.1 p (some (fgtN n)))) (by unfold ndP; rw [va_uu]) ?_
    refine EW.aload_n dX1_forgetFindings_19 rfl rfl ?_
    refine EC.ndget f_X1_23 dX1_forgetFindings_20 (va_up_self _ _ _) rfl ?_
    refine EW.astoreq_n (r := nLater n) dX1_forgetFindings_23 rfl (by decide) ?_
    refine EW.goto 5 dX1_forgetFindings_24 (by decide) ?_
    refine EW.loc (lv' := [(0, .ref x), (1, va_rf (nLater n))]) ⟨rfl, rfl, trivial⟩ ?_
    exact ih (nLater n) (ndP s (va_up s.2.2.2.2.1 p (some (fgtN n)))) (lnk_put (m := fgtN n) hn rfl t _ ht)
set_option maxHeartbeats 4000000 in
theorem C_forgetF (hl : l.stackTraces = false) (d : Nat) (s : CSt) (x : Nat) (e9 : Option Nat × Option Nat) (he : s.2.2.2.2.2 x = some e9) (ps : List Nat) (hps : lnk s.2.2.2.2.1 nLater ps e9.1) : MtW (IC cy ax hp0) l D cy base mX1_forgetFindings d 0 0 [.ref x] s (fun o s2 => o = .inl none ∧ s2 = ndP s (fgtF ps s.2.2.2.2.1)) := by
  refine MtW.of hl mfX1_forgetFindings rfl (Nat.le_of_ble_eq_true rfl) ?_
  refine EW.aload_n dX1_forgetFindings_0 rfl rfl ?_
  refine EC.exget f_X1_20 dX1_forgetFindings_1 he rfl ?_
  refine EW.astoreq_n dX1_forgetFindings_4 rfl (by decide) ?_
  exact EW.loc (lv' := [(0, .ref x), (1, va_rf e9.1)]) ⟨rfl, rfl, trivial⟩ (C_forgetF_loop d x ps e9.1 s hps)
set_option maxHeartbeats 4000000 in
theorem C_outcomesOfRoot (hl : l.stackTraces = false) (d : Nat) (s : CSt) (x q : Nat) (e9 : Option Nat × Option Nat) (he : s.2.2.2.2.2 x = some e9) (hr : e9.2 = some q) (n : ND) (hn : s.2.2.2.2.1 q = some n) : MtW (IC cy ax hp0) l D cy base mX1_outcomesOfRoot d 0 0 [.ref x] s (fun o s2 => o = .inl (some (.int n.2.2.2.2.2.2.1)) ∧ s2 = s) := by
  refine MtW.of hl mfX1_outcomesOfRoot rfl (Nat.le_of_ble_eq_true rfl) ?_
  refine EW.aload_n dX1_outcomesOfRoot_0 rfl rfl ?_
  refine EC.exget f_X1_14 dX1_outcomesOfRoot_1 he rfl ?_
  refine EW.rf hr ?_
  refine EW.ifnonnull (r := some q) 11 dX1_outcomesOfRoot_4 (by decide) (fun _ _ => ?_) (fun h => nomatch h)
  refine EW.aload_n dX1_outcomesOfRoot_11 rfl rfl ?_
  refine EC.exget f_X1_14 dX1_outcomesOfRoot_12 he rfl ?_
  refine EW.rf hr ?_
  refine EC.ndget f_X1_26 dX1_outcomesOfRoot_15 hn rfl ?_
  refine EW.iret rfl dX1_outcomesOfRoot_18 ?_
  exact ⟨rfl, rfl⟩
set_option maxHeartbeats 4000000 in
theorem C_rootIsGood (hl : l.stackTraces = false) (d : Nat) (s : CSt) (x q : Nat) (e9 : Option Nat × Option Nat) (he : s.2.2.2.2.2 x = some e9) (hr : e9.2 = some q) (n : ND) (hn : s.2.2.2.2.1 q = some n) : MtW (IC cy ax hp0) l D cy base mX1_rootIsGood d 0 0 [.ref x] s (fun o s2 => o = .inl (some (.int (if n.2.2.2.2.2.2.2 = 0 then nI 0 else nI 1))) ∧ s2 = s) := by
  refine MtW.of hl mfX1_rootIsGood rfl (Nat.le_of_ble_eq_true rfl) ?_
  refine EW.aload_n dX1_rootIsGood_0 rfl rfl ?_
  refine EC.exget f_X1_14 dX1_rootIsGood_1 he rfl ?_
  refine EW.rf hr ?_
  refine EW.ifnull (r := some q) 21 dX1_rootIsGood_4 (by decide) (fun h => nomatch h) (fun _ _ => ?_)
  refine EW.aload_n dX1_rootIsGood_7 rfl rfl ?_
  refine EC.exget f_X1_14 dX1_rootIsGood_8 he rfl ?_
  refine EW.rf hr ?_
  refine EC.ndget f_X1_30 dX1_rootIsGood_11 hn rfl ?_
  refine EW.if_eq 21 dX1_rootIsGood_14 (by decide) (fun c14 => ?_) (fun c14 => ?_)
  · refine EW.ic 0 dX1_rootIsGood_21 ?_
    refine EW.zret (ty := .boolean) rfl (by decide +kernel) dX1_rootIsGood_22 ?_
    first | (rw [if_pos c14]; exact ⟨rfl, rfl⟩) | (rw [if_neg c14]; exact ⟨rfl, rfl⟩)
  · refine EW.ic 1 dX1_rootIsGood_17 ?_
    refine EW.goto 22 dX1_rootIsGood_18 (by decide) ?_
    refine EW.zret (ty := .boolean) rfl (by decide +kernel) dX1_rootIsGood_22 ?_
    first | (rw [if_pos c14]; exact ⟨rfl, rfl⟩) | (rw [if_neg c14]; exact ⟨rfl, rfl⟩)
end C3
