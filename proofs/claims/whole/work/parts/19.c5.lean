section C5
def ndO (nd : Nat → Option ND) (p : Nat) : Int32 := match nd p with
  | some n => n.2.2.2.2.2.2.1
  | none => 0
def ndG (nd : Nat → Option ND) (p : Nat) : Int32 := match nd p with
  | some n => n.2.2.2.2.2.2.2
  | none => 0
theorem ndO_s {nd : Nat → Option ND} {p : Nat} {n : ND} (h : nd p = some n) : ndO nd p = n.2.2.2.2.2.2.1 := by simp only [ndO, h]
theorem ndG_s {nd : Nat → Option ND} {p : Nat} {n : ND} (h : nd p = some n) : ndG nd p = n.2.2.2.2.2.2.2 := by simp only [ndG, h]
def fldF (f : Int32 → Int32 → Int32) (nd : Nat → Option ND) : List Nat → Int32 → Int32
  | [], a => a
  | p :: t, a => fldF f nd t (f a (ndO nd p))
def gdR (nd : Nat → Option ND) : List Nat → Bool
  | [] => true
  | p :: t => !(ndG nd p == 0) && (ndO nd p &&& nI 1 == 0 || gdR nd t)
def gdC (nd : Nat → Option ND) : List Nat → Bool
  | [] => true
  | p :: t => !(ndG nd p == 0) && gdC nd t
theorem ig0 {x : Int32} (h : (if x = 0 then nI 0 else nI 1) = 0) : x = 0 := by
  split at h
  · assumption
  · exact absurd h (by decide +kernel)
theorem ig1 {x : Int32} (h : ¬ (if x = 0 then nI 0 else nI 1) = 0) : ¬ x = 0 := by
  split at h
  · exact absurd (by decide +kernel) h
  · assumption
variable {cy : Nat → ClassId} {ax : Nat → Nat} {hp0 : Hp} {l : Launch} {D : va_G} {base : Nat}
set_option maxHeartbeats 4000000 in
theorem C_outcomesOfRow_loop (hl : l.stackTraces = false) (d : Nat) (x : Nat) : ∀ (ps : List Nat) (r : Option Nat) (acc : Int32) (s : CSt), lnk s.2.2.2.2.1 nNext ps r → EW (IC cy ax hp0) l D cy base mX2_outcomesOfRow (d + 1) 0 0 16 [(0, .ref x), (1, .int acc), (2, va_rf r)] [] s (fun o s2 => o = .inl (some (.int (fldF jrI s.2.2.2.2.1 ps acc))) ∧ s2 = s) := by
  intro ps
  induction ps with
  | nil =>
    intro r acc s h
    subst h
    refine EW.aloadq_n dX2_outcomesOfRow_16 rfl rfl ?_
    refine EW.ifnull (r := none) 37 dX2_outcomesOfRow_17 (by decide) (fun _ => ?_) (fun _ h => nomatch h)
    refine EW.iload_n dX2_outcomesOfRow_37 rfl rfl ?_
    refine EW.iret rfl dX2_outcomesOfRow_38 ?_
    exact ⟨rfl, rfl⟩
  | cons p t ih =>
    intro r acc s h
    obtain ⟨rfl, n, hn, ht⟩ := h
    have hu : fldF jrI s.2.2.2.2.1 (p :: t) acc = fldF jrI s.2.2.2.2.1 t (jrI acc n.2.2.2.2.2.2.1) := by simp only [fldF, ndO, hn]
    rw [hu]
    refine EW.aload_n dX2_outcomesOfRow_16 rfl rfl ?_
    refine EW.ifnull (r := some p) 37 dX2_outcomesOfRow_17 (by decide) (fun h => nomatch h) (fun _ _ => ?_)
    refine EW.iload_n dX2_outcomesOfRow_20 rfl rfl ?_
    refine EW.aload_n dX2_outcomesOfRow_21 rfl rfl ?_
    refine EC.ndget f_X2_70 dX2_outcomesOfRow_22 hn rfl ?_
    refine EW.callS (bc := 0) (bs := 0) (mc' := 0) (ms' := 0) (C_joinInRow hl _ d s acc n.2.2.2.2.2.2.1) mfX2_joinInRow rfl l_X2_104 mvX2_joinInRow (by omega) dX2_outcomesOfRow_25 rfl rfl (Nat.le_of_ble_eq_true rfl) (fun v25 s25 q25 => ?_) (fun _ _ q => nomatch q.1)
    obtain ⟨e25, h25⟩ := q25; cases e25; replace h25 := h25.symm; subst h25
    refine EW.istore_n dX2_outcomesOfRow_28 rfl (by decide) ?_
    refine EW.aload_n dX2_outcomesOfRow_29 rfl rfl ?_
    refine EC.ndget f_X2_101 dX2_outcomesOfRow_30 hn rfl ?_
    refine EW.astoreq_n dX2_outcomesOfRow_33 rfl (by decide) ?_
    refine EW.goto 16 dX2_outcomesOfRow_34 (by decide) ?_
    exact EW.loc (lv' := [(0, .ref x), (1, .int _), (2, va_rf (nNext n))]) ⟨rfl, rfl, rfl, trivial⟩ (ih (nNext n) _ s ht)
set_option maxHeartbeats 4000000 in
theorem C_outcomesOfRow (hl : l.stackTraces = false) (d : Nat) (s : CSt) (p : Nat) (t : List Nat) (h : lnk s.2.2.2.2.1 nNext (p :: t) (some p)) : MtW (IC cy ax hp0) l D cy base mX2_outcomesOfRow (d + 1) 0 0 [.ref p] s (fun o s2 => o = .inl (some (.int (fldF jrI s.2.2.2.2.1 t (ndO s.2.2.2.2.1 p)))) ∧ s2 = s) := by
  refine MtW.of hl mfX2_outcomesOfRow rfl (Nat.le_of_ble_eq_true rfl) ?_
  obtain ⟨-, n, hn, ht⟩ := h
  rw [ndO_s hn]
  refine EW.aload_n dX2_outcomesOfRow_0 rfl rfl ?_
  refine EW.ifnonnull (r := some p) 6 dX2_outcomesOfRow_1 (by decide) (fun _ _ => ?_) (fun h => nomatch h)
  refine EW.aload_n dX2_outcomesOfRow_6 rfl rfl ?_
  refine EC.ndget f_X2_70 dX2_outcomesOfRow_7 hn rfl ?_
  refine EW.istore_n dX2_outcomesOfRow_10 rfl (by decide) ?_
  refine EW.aload_n dX2_outcomesOfRow_11 rfl rfl ?_
  refine EC.ndget f_X2_101 dX2_outcomesOfRow_12 hn rfl ?_
  refine EW.astoreq_n dX2_outcomesOfRow_15 rfl (by decide) ?_
  exact EW.loc (lv' := [(0, .ref p), (1, .int n.2.2.2.2.2.2.1), (2, va_rf (nNext n))]) ⟨rfl, rfl, rfl, trivial⟩ (C_outcomesOfRow_loop hl d p t (nNext n) _ s ht)
set_option maxHeartbeats 4000000 in
theorem C_outcomesOfChoice_loop (hl : l.stackTraces = false) (d : Nat) (x : Nat) : ∀ (ps : List Nat) (r : Option Nat) (acc : Int32) (s : CSt), lnk s.2.2.2.2.1 nNext ps r → EW (IC cy ax hp0) l D cy base mX2_outcomesOfChoice (d + 1) 0 0 16 [(0, .ref x), (1, .int acc), (2, va_rf r)] [] s (fun o s2 => o = .inl (some (.int (fldF jcI s.2.2.2.2.1 ps acc))) ∧ s2 = s) := by
  intro ps
  induction ps with
  | nil =>
    intro r acc s h
    subst h
    refine EW.aloadq_n dX2_outcomesOfChoice_16 rfl rfl ?_
    refine EW.ifnull (r := none) 45 dX2_outcomesOfChoice_17 (by decide) (fun _ => ?_) (fun _ h => nomatch h)
    refine EW.iload_n dX2_outcomesOfChoice_45 rfl rfl ?_
    refine EW.iret rfl dX2_outcomesOfChoice_46 ?_
    exact ⟨rfl, rfl⟩
  | cons p t ih =>
    intro r acc s h
    obtain ⟨rfl, n, hn, ht⟩ := h
    have hu : fldF jcI s.2.2.2.2.1 (p :: t) acc = fldF jcI s.2.2.2.2.1 t (jcI acc n.2.2.2.2.2.2.1) := by simp only [fldF, ndO, hn]
    rw [hu]
    refine EW.aload_n dX2_outcomesOfChoice_16 rfl rfl ?_
    refine EW.ifnull (r := some p) 45 dX2_outcomesOfChoice_17 (by decide) (fun h => nomatch h) (fun _ _ => ?_)
    refine EW.iload_n dX2_outcomesOfChoice_20 rfl rfl ?_
    refine EW.ic 4 dX2_outcomesOfChoice_21 ?_
    refine EW.callS (bc := 0) (bs := 0) (mc' := 0) (ms' := 0) (C_any hl _ d s acc (nI 4)) mfX2_any rfl l_X2_107 mvX2_any (by omega) dX2_outcomesOfChoice_22 rfl rfl (Nat.le_of_ble_eq_true rfl) (fun v22 s22 q22 => ?_) (fun _ _ q => nomatch q.1)
    obtain ⟨e22, h22⟩ := q22; cases e22; replace h22 := h22.symm; subst h22
    refine EW.if_eq 37 dX2_outcomesOfChoice_25 (by decide) (fun c25 => ?_) (fun c25 => ?_)
    · have c25 := an0 c25
      have hj : jcI acc n.2.2.2.2.2.2.1 = acc := if_pos c25
      rw [hj]
      refine EW.aload_n dX2_outcomesOfChoice_37 rfl rfl ?_
      refine EC.ndget f_X2_101 dX2_outcomesOfChoice_38 hn rfl ?_
      refine EW.astoreq_n dX2_outcomesOfChoice_41 rfl (by decide) ?_
      refine EW.goto 16 dX2_outcomesOfChoice_42 (by decide) ?_
      exact EW.loc (lv' := [(0, .ref x), (1, .int _), (2, va_rf (nNext n))]) ⟨rfl, rfl, rfl, trivial⟩ (ih (nNext n) _ s ht)
    · have c25 := an1 c25
      have hj : jcI acc n.2.2.2.2.2.2.1 = acc &&& nI 3 ||| n.2.2.2.2.2.2.1 := if_neg c25
      rw [hj]
      refine EW.iload_n dX2_outcomesOfChoice_28 rfl rfl ?_
      refine EW.ic 3 dX2_outcomesOfChoice_29 ?_
      refine EW.iand dX2_outcomesOfChoice_30 ?_
      refine EW.aload_n dX2_outcomesOfChoice_31 rfl rfl ?_
      refine EC.ndget f_X2_70 dX2_outcomesOfChoice_32 hn rfl ?_
      refine EW.ior dX2_outcomesOfChoice_35 ?_
      refine EW.istore_n dX2_outcomesOfChoice_36 rfl (by decide) ?_
      refine EW.aload_n dX2_outcomesOfChoice_37 rfl rfl ?_
      refine EC.ndget f_X2_101 dX2_outcomesOfChoice_38 hn rfl ?_
      refine EW.astoreq_n dX2_outcomesOfChoice_41 rfl (by decide) ?_
      refine EW.goto 16 dX2_outcomesOfChoice_42 (by decide) ?_
      exact EW.loc (lv' := [(0, .ref x), (1, .int _), (2, va_rf (nNext n))]) ⟨rfl, rfl, rfl, trivial⟩ (ih (nNext n) _ s ht)
set_option maxHeartbeats 4000000 in
theorem C_outcomesOfChoice (hl : l.stackTraces = false) (d : Nat) (s : CSt) (p : Nat) (t : List Nat) (h : lnk s.2.2.2.2.1 nNext (p :: t) (some p)) : MtW (IC cy ax hp0) l D cy base mX2_outcomesOfChoice (d + 1) 0 0 [.ref p] s (fun o s2 => o = .inl (some (.int (fldF jcI s.2.2.2.2.1 t (ndO s.2.2.2.2.1 p)))) ∧ s2 = s) := by
  refine MtW.of hl mfX2_outcomesOfChoice rfl (Nat.le_of_ble_eq_true rfl) ?_
  obtain ⟨-, n, hn, ht⟩ := h
  rw [ndO_s hn]
  refine EW.aload_n dX2_outcomesOfChoice_0 rfl rfl ?_
  refine EW.ifnonnull (r := some p) 6 dX2_outcomesOfChoice_1 (by decide) (fun _ _ => ?_) (fun h => nomatch h)
  refine EW.aload_n dX2_outcomesOfChoice_6 rfl rfl ?_
  refine EC.ndget f_X2_70 dX2_outcomesOfChoice_7 hn rfl ?_
  refine EW.istore_n dX2_outcomesOfChoice_10 rfl (by decide) ?_
  refine EW.aload_n dX2_outcomesOfChoice_11 rfl rfl ?_
  refine EC.ndget f_X2_101 dX2_outcomesOfChoice_12 hn rfl ?_
  refine EW.astoreq_n dX2_outcomesOfChoice_15 rfl (by decide) ?_
  exact EW.loc (lv' := [(0, .ref p), (1, .int n.2.2.2.2.2.2.1), (2, va_rf (nNext n))]) ⟨rfl, rfl, rfl, trivial⟩ (C_outcomesOfChoice_loop hl d p t (nNext n) _ s ht)
set_option maxHeartbeats 4000000 in
theorem C_isGoodRow_loop (hl : l.stackTraces = false) (d : Nat) (x : Nat) : ∀ (ps : List Nat) (r : Option Nat) (s : CSt), lnk s.2.2.2.2.1 nNext ps r → EW (IC cy ax hp0) l D cy base mX2_isGoodRow (d + 1) 0 0 2 [(0, .ref x), (1, va_rf r)] [] s (fun o s2 => o = .inl (some (.int (if gdR s.2.2.2.2.1 ps = true then nI 1 else nI 0))) ∧ s2 = s) := by
  intro ps
  induction ps with
  | nil =>
    intro r s h
    subst h
    refine EW.aloadq_n dX2_isGoodRow_2 rfl rfl ?_
    refine EW.ifnull (r := none) 36 dX2_isGoodRow_3 (by decide) (fun _ => ?_) (fun _ h => nomatch h)
    refine EW.ic 1 dX2_isGoodRow_36 ?_
    refine EW.zret (ty := .boolean) rfl (by decide +kernel) dX2_isGoodRow_37 ?_
    exact ⟨rfl, rfl⟩
  | cons p t ih =>
    intro r s h
    obtain ⟨rfl, n, hn, ht⟩ := h
    have hu : gdR s.2.2.2.2.1 (p :: t) = (!(n.2.2.2.2.2.2.2 == 0) && (n.2.2.2.2.2.2.1 &&& nI 1 == 0 || gdR s.2.2.2.2.1 t)) := by simp only [gdR, ndG, ndO, hn]
    rw [hu]
    refine EW.aload_n dX2_isGoodRow_2 rfl rfl ?_
    refine EW.ifnull (r := some p) 36 dX2_isGoodRow_3 (by decide) (fun h => nomatch h) (fun _ _ => ?_)
    refine EW.aload_n dX2_isGoodRow_6 rfl rfl ?_
    refine EC.ndget f_X2_121 dX2_isGoodRow_7 hn rfl ?_
    refine EW.if_ne 15 dX2_isGoodRow_10 (by decide) (fun c10 => ?_) (fun c10 => ?_)
    · rw [show (n.2.2.2.2.2.2.2 == 0) = false by simp [c10]]
      refine EW.aload_n dX2_isGoodRow_15 rfl rfl ?_
      refine EC.ndget f_X2_70 dX2_isGoodRow_16 hn rfl ?_
      refine EW.ic 1 dX2_isGoodRow_19 ?_
      refine EW.callS (bc := 0) (bs := 0) (mc' := 0) (ms' := 0) (C_any hl _ d s n.2.2.2.2.2.2.1 (nI 1)) mfX2_any rfl l_X2_107 mvX2_any (by omega) dX2_isGoodRow_20 rfl rfl (Nat.le_of_ble_eq_true rfl) (fun v20 s20 q20 => ?_) (fun _ _ q => nomatch q.1)
      obtain ⟨e20, h20⟩ := q20; cases e20; replace h20 := h20.symm; subst h20
      refine EW.if_ne 28 dX2_isGoodRow_23 (by decide) (fun c23 => ?_) (fun c23 => ?_)
      · have c23 := an1 c23
        rw [show (n.2.2.2.2.2.2.1 &&& nI 1 == 0) = false by simp [c23]]
        show EW _ _ _ _ _ _ _ _ _ _ _ _ _ (fun o s2 => o = .inl (some (.int (if gdR s.2.2.2.2.1 t = true then nI 1 else nI 0))) ∧ s2 = s)
        refine EW.aload_n dX2_isGoodRow_28 rfl rfl ?_
        refine EC.ndget f_X2_101 dX2_isGoodRow_29 hn rfl ?_
        refine EW.astoreq_n dX2_isGoodRow_32 rfl (by decide) ?_
        refine EW.goto 2 dX2_isGoodRow_33 (by decide) ?_
        exact EW.loc (lv' := [(0, .ref x), (1, va_rf (nNext n))]) ⟨rfl, rfl, trivial⟩ (ih (nNext n) s ht)
      · have c23 := an0 c23
        rw [show (n.2.2.2.2.2.2.1 &&& nI 1 == 0) = true by simp [c23]]
        refine EW.ic 1 dX2_isGoodRow_26 ?_
        refine EW.zret (ty := .boolean) rfl (by decide +kernel) dX2_isGoodRow_27 ?_
        exact ⟨rfl, rfl⟩
    · rw [show (n.2.2.2.2.2.2.2 == 0) = true by simp [c10]]
      refine EW.ic 0 dX2_isGoodRow_13 ?_
      refine EW.zret (ty := .boolean) rfl (by decide +kernel) dX2_isGoodRow_14 ?_
      exact ⟨rfl, rfl⟩
set_option maxHeartbeats 4000000 in
theorem C_isGoodRow (hl : l.stackTraces = false) (d : Nat) (s : CSt) (p : Nat) (t : List Nat) (h : lnk s.2.2.2.2.1 nNext (p :: t) (some p)) : MtW (IC cy ax hp0) l D cy base mX2_isGoodRow (d + 1) 0 0 [.ref p] s (fun o s2 => o = .inl (some (.int (if gdR s.2.2.2.2.1 (p :: t) = true then nI 1 else nI 0))) ∧ s2 = s) := by
  refine MtW.of hl mfX2_isGoodRow rfl (Nat.le_of_ble_eq_true rfl) ?_
  refine EW.aload_n dX2_isGoodRow_0 rfl rfl ?_
  refine EW.astore_n dX2_isGoodRow_1 rfl (by decide) ?_
  exact EW.loc (lv' := [(0, .ref p), (1, va_rf (some p))]) ⟨rfl, rfl, trivial⟩ (C_isGoodRow_loop hl d p (p :: t) (some p) s h)
set_option maxHeartbeats 4000000 in
theorem C_isGoodChoice_loop (hl : l.stackTraces = false) (d : Nat) (x : Nat) : ∀ (ps : List Nat) (r : Option Nat) (s : CSt), lnk s.2.2.2.2.1 nNext ps r → EW (IC cy ax hp0) l D cy base mX2_isGoodChoice d 0 0 2 [(0, .ref x), (1, va_rf r)] [] s (fun o s2 => o = .inl (some (.int (if gdC s.2.2.2.2.1 ps = true then nI 1 else nI 0))) ∧ s2 = s) := by
  intro ps
  induction ps with
  | nil =>
    intro r s h
    subst h
    refine EW.aloadq_n dX2_isGoodChoice_2 rfl rfl ?_
    refine EW.ifnull (r := none) 23 dX2_isGoodChoice_3 (by decide) (fun _ => ?_) (fun _ h => nomatch h)
    refine EW.ic 1 dX2_isGoodChoice_23 ?_
    refine EW.zret (ty := .boolean) rfl (by decide +kernel) dX2_isGoodChoice_24 ?_
    exact ⟨rfl, rfl⟩
  | cons p t ih =>
    intro r s h
    obtain ⟨rfl, n, hn, ht⟩ := h
    have hu : gdC s.2.2.2.2.1 (p :: t) = (!(n.2.2.2.2.2.2.2 == 0) && gdC s.2.2.2.2.1 t) := by simp only [gdC, ndG, hn]
    rw [hu]
    refine EW.aload_n dX2_isGoodChoice_2 rfl rfl ?_
    refine EW.ifnull (r := some p) 23 dX2_isGoodChoice_3 (by decide) (fun h => nomatch h) (fun _ _ => ?_)
    refine EW.aload_n dX2_isGoodChoice_6 rfl rfl ?_
    refine EC.ndget f_X2_121 dX2_isGoodChoice_7 hn rfl ?_
    refine EW.if_ne 15 dX2_isGoodChoice_10 (by decide) (fun c10 => ?_) (fun c10 => ?_)
    · rw [show (n.2.2.2.2.2.2.2 == 0) = false by simp [c10]]
      show EW _ _ _ _ _ _ _ _ _ _ _ _ _ (fun o s2 => o = .inl (some (.int (if gdC s.2.2.2.2.1 t = true then nI 1 else nI 0))) ∧ s2 = s)
      refine EW.aload_n dX2_isGoodChoice_15 rfl rfl ?_
      refine EC.ndget f_X2_101 dX2_isGoodChoice_16 hn rfl ?_
      refine EW.astoreq_n dX2_isGoodChoice_19 rfl (by decide) ?_
      refine EW.goto 2 dX2_isGoodChoice_20 (by decide) ?_
      exact EW.loc (lv' := [(0, .ref x), (1, va_rf (nNext n))]) ⟨rfl, rfl, trivial⟩ (ih (nNext n) s ht)
    · rw [show (n.2.2.2.2.2.2.2 == 0) = true by simp [c10]]
      refine EW.ic 0 dX2_isGoodChoice_13 ?_
      refine EW.zret (ty := .boolean) rfl (by decide +kernel) dX2_isGoodChoice_14 ?_
      exact ⟨rfl, rfl⟩
set_option maxHeartbeats 4000000 in
theorem C_isGoodChoice (hl : l.stackTraces = false) (d : Nat) (s : CSt) (p : Nat) (t : List Nat) (h : lnk s.2.2.2.2.1 nNext (p :: t) (some p)) : MtW (IC cy ax hp0) l D cy base mX2_isGoodChoice d 0 0 [.ref p] s (fun o s2 => o = .inl (some (.int (if gdC s.2.2.2.2.1 (p :: t) = true then nI 1 else nI 0))) ∧ s2 = s) := by
  refine MtW.of hl mfX2_isGoodChoice rfl (Nat.le_of_ble_eq_true rfl) ?_
  refine EW.aload_n dX2_isGoodChoice_0 rfl rfl ?_
  refine EW.astore_n dX2_isGoodChoice_1 rfl (by decide) ?_
  exact EW.loc (lv' := [(0, .ref p), (1, va_rf (some p))]) ⟨rfl, rfl, trivial⟩ (C_isGoodChoice_loop hl d p (p :: t) (some p) s h)
set_option maxHeartbeats 4000000 in
theorem C_verdict (hl : l.stackTraces = false) (d : Nat) (s : CSt) : MtW (IC cy ax hp0) l D cy base mX2_verdict d 0 0 [.ref (ax 6)] s (fun o s2 => o = .inl (some (.int (s.1 4))) ∧ s2 = s) := by
  refine MtW.of hl mfX2_verdict rfl (Nat.le_of_ble_eq_true rfl) ?_
  refine EW.aload_n dX2_verdict_0 rfl rfl ?_
  refine EC.get (k := 6) f_X2_17 dX2_verdict_1 (by decide) rfl rfl ?_
  refine EW.iret rfl dX2_verdict_4 ?_
  exact ⟨rfl, rfl⟩
set_option maxHeartbeats 4000000 in
theorem C_misses (hl : l.stackTraces = false) (d v : Nat) (s : CSt) (hv : s.1 4 = nI v) (hb : v < 1000) : MtW (IC cy ax hp0) l D cy base mX2_misses d 0 0 [.ref (ax 6)] s (fun o s2 => o = .inl (some (.int (if v % 10 = 2 then nI 1 else nI 0))) ∧ s2 = s) := by
  refine MtW.of hl mfX2_misses rfl (Nat.le_of_ble_eq_true rfl) ?_
  refine EW.aload_n dX2_misses_0 rfl rfl ?_
  refine EC.get (k := 6) f_X2_17 dX2_misses_1 (by decide) rfl rfl ?_
  refine EW.top hv ?_
  refine EW.bp 10 dX2_misses_4 ?_
  refine EW.irem dX2_misses_6 (by decide +kernel) ?_
  refine EW.top (pk_rem (by omega) (by decide) (by decide)) ?_
  refine EW.ic 2 dX2_misses_7 ?_
  refine EW.icmp_ne 15 dX2_misses_8 (by decide) (fun c8 => ?_) (fun c8 => ?_)
  · have c8 : ¬ (v % 10 = 2) := fun h => c8 ((nI_eq (by omega) (by omega)).mpr h)
    refine EW.ic 0 dX2_misses_15 ?_
    refine EW.zret (ty := .boolean) rfl (by decide +kernel) dX2_misses_16 ?_
    first | (rw [if_pos (by omega)]; exact ⟨rfl, rfl⟩) | (rw [if_neg (by omega)]; exact ⟨rfl, rfl⟩)
  · have c8 : v % 10 = 2 := (nI_eq (by omega) (by omega)).mp c8
    refine EW.ic 1 dX2_misses_11 ?_
    refine EW.goto 16 dX2_misses_12 (by decide) ?_
    refine EW.zret (ty := .boolean) rfl (by decide +kernel) dX2_misses_16 ?_
    first | (rw [if_pos (by omega)]; exact ⟨rfl, rfl⟩) | (rw [if_neg (by omega)]; exact ⟨rfl, rfl⟩)
set_option maxHeartbeats 4000000 in
theorem C_expressionOf (hl : l.stackTraces = false) (d r : Nat) (s : CSt) (hr : r < 6) : MtW (IC cy ax hp0) l D cy base mX2_expressionOf (d + 1) 0 0 [.ref (ax 6), .int (nI r)] s (fun o s2 => o = .inl (some (va_rf (s.2.2.2.1 r))) ∧ s2 = s) := by
  refine MtW.of hl mfX2_expressionOf rfl (Nat.le_of_ble_eq_true rfl) ?_
  refine EW.iload_n dX2_expressionOf_0 rfl rfl ?_
  refine EW.callSN (bc := 0) (bs := 0) (mc' := 0) (ms' := 0) (C_isRule hl _ d s (nI r)) mfX8_isRule rfl l_X2_21 mvX8_isRule (by omega) dX2_expressionOf_1 rfl rfl (Nat.le_of_ble_eq_true rfl) (fun _ _ q => nomatch q.1) (fun v1 s1 q1 => ?_)
  obtain ⟨e1, h1⟩ := q1; cases e1; replace h1 := h1.symm; subst h1; refine EW.top (y := nI 1) (if_pos ⟨nI_pos' (by omega), by rw [← nI_6v]; exact nI_lt hr (by decide)⟩) ?_
  refine EW.if_eq 16 dX2_expressionOf_4 (by decide) (fun c4 => ?_) (fun c4 => ?_)
  · exact absurd c4 (by decide +kernel)
  · refine EW.aload_n dX2_expressionOf_7 rfl rfl ?_
    refine EC.get (k := 6) f_X2_11 dX2_expressionOf_8 (by decide) rfl rfl ?_
    refine EW.iload_n dX2_expressionOf_11 rfl rfl ?_
    refine EC.ald7 (r) dX2_expressionOf_12 (by omega) ?_
    refine EW.goto 17 dX2_expressionOf_13 (by decide) ?_
    refine EW.aret (r := s.2.2.2.1 r) rfl dX2_expressionOf_17 ?_
    exact ⟨rfl, rfl⟩
set_option maxHeartbeats 4000000 in
theorem C_expressionOfN (hl : l.stackTraces = false) (d : Nat) (r : Int32) (s : CSt) (hr : ¬ (0 ≤ r ∧ r < 6)) : MtW (IC cy ax hp0) l D cy base mX2_expressionOf (d + 1) 0 0 [.ref (ax 6), .int r] s (fun o s2 => o = .inl (some (va_rf none)) ∧ s2 = s) := by
  refine MtW.of hl mfX2_expressionOf rfl (Nat.le_of_ble_eq_true rfl) ?_
  refine EW.iload_n dX2_expressionOf_0 rfl rfl ?_
  refine EW.callSN (bc := 0) (bs := 0) (mc' := 0) (ms' := 0) (C_isRule hl _ d s r) mfX8_isRule rfl l_X2_21 mvX8_isRule (by omega) dX2_expressionOf_1 rfl rfl (Nat.le_of_ble_eq_true rfl) (fun _ _ q => nomatch q.1) (fun v1 s1 q1 => ?_)
  obtain ⟨e1, h1⟩ := q1; cases e1; replace h1 := h1.symm; subst h1; refine EW.top (y := nI 0) (if_neg hr) ?_
  refine EW.if_eq 16 dX2_expressionOf_4 (by decide) (fun c4 => ?_) (fun c4 => ?_)
  · refine EW.null dX2_expressionOf_16 ?_
    refine EW.aret (r := none) rfl dX2_expressionOf_17 ?_
    exact ⟨rfl, rfl⟩
  · exact absurd c4 (by decide +kernel)
set_option maxHeartbeats 4000000 in
theorem C_outcomesOf1 (hl : l.stackTraces = false) (d : Nat) (s : CSt) (p : Nat) (n : ND) (hn : s.2.2.2.2.1 p = some n) (hk : n.1 = nI 1) : MtW (IC cy ax hp0) l D cy base mX2_outcomesOf (d + 2) 0 0 [.ref (ax 6), .ref p] s (fun o s2 => o = .inl (some (.int (nI 6))) ∧ s2 = s) := by
  refine MtW.of hl mfX2_outcomesOf rfl (Nat.le_of_ble_eq_true rfl) ?_
  refine EW.aload_n dX2_outcomesOf_0 rfl rfl ?_
  refine EC.ndget f_X2_78 dX2_outcomesOf_1 hn rfl ?_
  refine EW.top hk ?_
  refine EW.tableIn (off := 32) 36 dX2_outcomesOf_4 (by decide +kernel) (by decide +kernel) (by decide +kernel) (by decide) ?_
  refine EW.bp 6 dX2_outcomesOf_36 ?_
  refine EW.iret rfl dX2_outcomesOf_38 ?_
  exact ⟨rfl, rfl⟩
set_option maxHeartbeats 4000000 in
theorem C_outcomesOf3 (hl : l.stackTraces = false) (d : Nat) (s : CSt) (p : Nat) (n : ND) (hn : s.2.2.2.2.1 p = some n) (hk : n.1 = nI 3) (f : Nat) (hf : n.2.2.2.1 = some f) (t : List Nat) (ht : lnk s.2.2.2.2.1 nNext (f :: t) (some f)) : MtW (IC cy ax hp0) l D cy base mX2_outcomesOf (d + 2) 0 0 [.ref (ax 6), .ref p] s (fun o s2 => o = .inl (some (.int (fldF jrI s.2.2.2.2.1 t (ndO s.2.2.2.2.1 f)))) ∧ s2 = s) := by
  refine MtW.of hl mfX2_outcomesOf rfl (Nat.le_of_ble_eq_true rfl) ?_
  refine EW.aload_n dX2_outcomesOf_0 rfl rfl ?_
  refine EC.ndget f_X2_78 dX2_outcomesOf_1 hn rfl ?_
  refine EW.top hk ?_
  refine EW.tableIn (off := 57) 61 dX2_outcomesOf_4 (by decide +kernel) (by decide +kernel) (by decide +kernel) (by decide) ?_
  refine EW.aload_n dX2_outcomesOf_61 rfl rfl ?_
  refine EC.ndget f_X2_88 dX2_outcomesOf_62 hn rfl ?_
  refine EW.rf hf ?_
  refine EW.callS (bc := 0) (bs := 0) (mc' := 0) (ms' := 0) (C_outcomesOfRow hl d s f t ht) mfX2_outcomesOfRow rfl l_X2_91 mvX2_outcomesOfRow (by omega) dX2_outcomesOf_65 rfl rfl (Nat.le_of_ble_eq_true rfl) (fun v65 s65 q65 => ?_) (fun _ _ q => nomatch q.1)
  obtain ⟨e65, h65⟩ := q65; cases e65; replace h65 := h65.symm; subst h65
  refine EW.iret rfl dX2_outcomesOf_68 ?_
  exact ⟨rfl, rfl⟩
set_option maxHeartbeats 4000000 in
theorem C_outcomesOf4 (hl : l.stackTraces = false) (d : Nat) (s : CSt) (p : Nat) (n : ND) (hn : s.2.2.2.2.1 p = some n) (hk : n.1 = nI 4) (f : Nat) (hf : n.2.2.2.1 = some f) (t : List Nat) (ht : lnk s.2.2.2.2.1 nNext (f :: t) (some f)) : MtW (IC cy ax hp0) l D cy base mX2_outcomesOf (d + 2) 0 0 [.ref (ax 6), .ref p] s (fun o s2 => o = .inl (some (.int (fldF jcI s.2.2.2.2.1 t (ndO s.2.2.2.2.1 f)))) ∧ s2 = s) := by
  refine MtW.of hl mfX2_outcomesOf rfl (Nat.le_of_ble_eq_true rfl) ?_
  refine EW.aload_n dX2_outcomesOf_0 rfl rfl ?_
  refine EC.ndget f_X2_78 dX2_outcomesOf_1 hn rfl ?_
  refine EW.top hk ?_
  refine EW.tableIn (off := 65) 69 dX2_outcomesOf_4 (by decide +kernel) (by decide +kernel) (by decide +kernel) (by decide) ?_
  refine EW.aload_n dX2_outcomesOf_69 rfl rfl ?_
  refine EC.ndget f_X2_88 dX2_outcomesOf_70 hn rfl ?_
  refine EW.rf hf ?_
  refine EW.callS (bc := 0) (bs := 0) (mc' := 0) (ms' := 0) (C_outcomesOfChoice hl d s f t ht) mfX2_outcomesOfChoice rfl l_X2_94 mvX2_outcomesOfChoice (by omega) dX2_outcomesOf_73 rfl rfl (Nat.le_of_ble_eq_true rfl) (fun v73 s73 q73 => ?_) (fun _ _ q => nomatch q.1)
  obtain ⟨e73, h73⟩ := q73; cases e73; replace h73 := h73.symm; subst h73
  refine EW.iret rfl dX2_outcomesOf_76 ?_
  exact ⟨rfl, rfl⟩
set_option maxHeartbeats 4000000 in
theorem C_outcomesOf5 (hl : l.stackTraces = false) (d : Nat) (s : CSt) (p : Nat) (n : ND) (hn : s.2.2.2.2.1 p = some n) (hk : n.1 = nI 5) (f : Nat) (hf : n.2.2.2.1 = some f) (nf : ND) (hnf : s.2.2.2.2.1 f = some nf) : MtW (IC cy ax hp0) l D cy base mX2_outcomesOf (d + 2) 0 0 [.ref (ax 6), .ref p] s (fun o s2 => o = .inl (some (.int (sgI 5 nf.2.2.2.2.2.2.1))) ∧ s2 = s) := by
  refine MtW.of hl mfX2_outcomesOf rfl (Nat.le_of_ble_eq_true rfl) ?_
  refine EW.aload_n dX2_outcomesOf_0 rfl rfl ?_
  refine EC.ndget f_X2_78 dX2_outcomesOf_1 hn rfl ?_
  refine EW.top hk ?_
  refine EW.tableOut 77 dX2_outcomesOf_4 (by decide +kernel) (by decide) ?_
  refine EW.aload_n dX2_outcomesOf_77 rfl rfl ?_
  refine EC.ndget f_X2_88 dX2_outcomesOf_78 hn rfl ?_
  refine EW.rf hf ?_
  refine EW.ifnonnull (r := some f) 88 dX2_outcomesOf_81 (by decide) (fun _ _ => ?_) (fun h => nomatch h)
  refine EW.aload_n dX2_outcomesOf_88 rfl rfl ?_
  refine EC.ndget f_X2_78 dX2_outcomesOf_89 hn rfl ?_
  refine EW.top hk ?_
  refine EW.aload_n dX2_outcomesOf_92 rfl rfl ?_
  refine EC.ndget f_X2_88 dX2_outcomesOf_93 hn rfl ?_
  refine EW.rf hf ?_
  refine EC.ndget f_X2_70 dX2_outcomesOf_96 hnf rfl ?_
  refine EW.callS (bc := 0) (bs := 0) (mc' := 0) (ms' := 0) (C_sign5 hl _ d s nf.2.2.2.2.2.2.1) mfX2_outcomesOfSign rfl l_X2_97 mvX2_outcomesOfSign (by omega) dX2_outcomesOf_99 rfl rfl (Nat.le_of_ble_eq_true rfl) (fun v99 s99 q99 => ?_) (fun _ _ q => nomatch q.1)
  obtain ⟨e99, h99⟩ := q99; cases e99; replace h99 := h99.symm; subst h99
  refine EW.iret rfl dX2_outcomesOf_102 ?_
  exact ⟨rfl, rfl⟩
set_option maxHeartbeats 4000000 in
theorem C_outcomesOf6 (hl : l.stackTraces = false) (d : Nat) (s : CSt) (p : Nat) (n : ND) (hn : s.2.2.2.2.1 p = some n) (hk : n.1 = nI 6) (f : Nat) (hf : n.2.2.2.1 = some f) (nf : ND) (hnf : s.2.2.2.2.1 f = some nf) : MtW (IC cy ax hp0) l D cy base mX2_outcomesOf (d + 2) 0 0 [.ref (ax 6), .ref p] s (fun o s2 => o = .inl (some (.int (sgI 6 nf.2.2.2.2.2.2.1))) ∧ s2 = s) := by
  refine MtW.of hl mfX2_outcomesOf rfl (Nat.le_of_ble_eq_true rfl) ?_
  refine EW.aload_n dX2_outcomesOf_0 rfl rfl ?_
  refine EC.ndget f_X2_78 dX2_outcomesOf_1 hn rfl ?_
  refine EW.top hk ?_
  refine EW.tableOut 77 dX2_outcomesOf_4 (by decide +kernel) (by decide) ?_
  refine EW.aload_n dX2_outcomesOf_77 rfl rfl ?_
  refine EC.ndget f_X2_88 dX2_outcomesOf_78 hn rfl ?_
  refine EW.rf hf ?_
  refine EW.ifnonnull (r := some f) 88 dX2_outcomesOf_81 (by decide) (fun _ _ => ?_) (fun h => nomatch h)
  refine EW.aload_n dX2_outcomesOf_88 rfl rfl ?_
  refine EC.ndget f_X2_78 dX2_outcomesOf_89 hn rfl ?_
  refine EW.top hk ?_
  refine EW.aload_n dX2_outcomesOf_92 rfl rfl ?_
  refine EC.ndget f_X2_88 dX2_outcomesOf_93 hn rfl ?_
  refine EW.rf hf ?_
  refine EC.ndget f_X2_70 dX2_outcomesOf_96 hnf rfl ?_
  refine EW.callS (bc := 0) (bs := 0) (mc' := 0) (ms' := 0) (C_sign6 hl _ d s nf.2.2.2.2.2.2.1) mfX2_outcomesOfSign rfl l_X2_97 mvX2_outcomesOfSign (by omega) dX2_outcomesOf_99 rfl rfl (Nat.le_of_ble_eq_true rfl) (fun v99 s99 q99 => ?_) (fun _ _ q => nomatch q.1)
  obtain ⟨e99, h99⟩ := q99; cases e99; replace h99 := h99.symm; subst h99
  refine EW.iret rfl dX2_outcomesOf_102 ?_
  exact ⟨rfl, rfl⟩
set_option maxHeartbeats 4000000 in
theorem C_outcomesOf7 (hl : l.stackTraces = false) (d : Nat) (s : CSt) (p : Nat) (n : ND) (hn : s.2.2.2.2.1 p = some n) (hk : n.1 = nI 7) (f : Nat) (hf : n.2.2.2.1 = some f) (nf : ND) (hnf : s.2.2.2.2.1 f = some nf) : MtW (IC cy ax hp0) l D cy base mX2_outcomesOf (d + 2) 0 0 [.ref (ax 6), .ref p] s (fun o s2 => o = .inl (some (.int (sgI 7 nf.2.2.2.2.2.2.1))) ∧ s2 = s) := by
  refine MtW.of hl mfX2_outcomesOf rfl (Nat.le_of_ble_eq_true rfl) ?_
  refine EW.aload_n dX2_outcomesOf_0 rfl rfl ?_
  refine EC.ndget f_X2_78 dX2_outcomesOf_1 hn rfl ?_
  refine EW.top hk ?_
  refine EW.tableOut 77 dX2_outcomesOf_4 (by decide +kernel) (by decide) ?_
  refine EW.aload_n dX2_outcomesOf_77 rfl rfl ?_
  refine EC.ndget f_X2_88 dX2_outcomesOf_78 hn rfl ?_
  refine EW.rf hf ?_
  refine EW.ifnonnull (r := some f) 88 dX2_outcomesOf_81 (by decide) (fun _ _ => ?_) (fun h => nomatch h)
  refine EW.aload_n dX2_outcomesOf_88 rfl rfl ?_
  refine EC.ndget f_X2_78 dX2_outcomesOf_89 hn rfl ?_
  refine EW.top hk ?_
  refine EW.aload_n dX2_outcomesOf_92 rfl rfl ?_
  refine EC.ndget f_X2_88 dX2_outcomesOf_93 hn rfl ?_
  refine EW.rf hf ?_
  refine EC.ndget f_X2_70 dX2_outcomesOf_96 hnf rfl ?_
  refine EW.callS (bc := 0) (bs := 0) (mc' := 0) (ms' := 0) (C_sign7 hl _ d s nf.2.2.2.2.2.2.1) mfX2_outcomesOfSign rfl l_X2_97 mvX2_outcomesOfSign (by omega) dX2_outcomesOf_99 rfl rfl (Nat.le_of_ble_eq_true rfl) (fun v99 s99 q99 => ?_) (fun _ _ q => nomatch q.1)
  obtain ⟨e99, h99⟩ := q99; cases e99; replace h99 := h99.symm; subst h99
  refine EW.iret rfl dX2_outcomesOf_102 ?_
  exact ⟨rfl, rfl⟩
set_option maxHeartbeats 4000000 in
theorem C_outcomesOf8 (hl : l.stackTraces = false) (d : Nat) (s : CSt) (p : Nat) (n : ND) (hn : s.2.2.2.2.1 p = some n) (hk : n.1 = nI 8) (f : Nat) (hf : n.2.2.2.1 = some f) (nf : ND) (hnf : s.2.2.2.2.1 f = some nf) : MtW (IC cy ax hp0) l D cy base mX2_outcomesOf (d + 2) 0 0 [.ref (ax 6), .ref p] s (fun o s2 => o = .inl (some (.int (sgI 8 nf.2.2.2.2.2.2.1))) ∧ s2 = s) := by
  refine MtW.of hl mfX2_outcomesOf rfl (Nat.le_of_ble_eq_true rfl) ?_
  refine EW.aload_n dX2_outcomesOf_0 rfl rfl ?_
  refine EC.ndget f_X2_78 dX2_outcomesOf_1 hn rfl ?_
  refine EW.top hk ?_
  refine EW.tableOut 77 dX2_outcomesOf_4 (by decide +kernel) (by decide) ?_
  refine EW.aload_n dX2_outcomesOf_77 rfl rfl ?_
  refine EC.ndget f_X2_88 dX2_outcomesOf_78 hn rfl ?_
  refine EW.rf hf ?_
  refine EW.ifnonnull (r := some f) 88 dX2_outcomesOf_81 (by decide) (fun _ _ => ?_) (fun h => nomatch h)
  refine EW.aload_n dX2_outcomesOf_88 rfl rfl ?_
  refine EC.ndget f_X2_78 dX2_outcomesOf_89 hn rfl ?_
  refine EW.top hk ?_
  refine EW.aload_n dX2_outcomesOf_92 rfl rfl ?_
  refine EC.ndget f_X2_88 dX2_outcomesOf_93 hn rfl ?_
  refine EW.rf hf ?_
  refine EC.ndget f_X2_70 dX2_outcomesOf_96 hnf rfl ?_
  refine EW.callS (bc := 0) (bs := 0) (mc' := 0) (ms' := 0) (C_sign8 hl _ d s nf.2.2.2.2.2.2.1) mfX2_outcomesOfSign rfl l_X2_97 mvX2_outcomesOfSign (by omega) dX2_outcomesOf_99 rfl rfl (Nat.le_of_ble_eq_true rfl) (fun v99 s99 q99 => ?_) (fun _ _ q => nomatch q.1)
  obtain ⟨e99, h99⟩ := q99; cases e99; replace h99 := h99.symm; subst h99
  refine EW.iret rfl dX2_outcomesOf_102 ?_
  exact ⟨rfl, rfl⟩
set_option maxHeartbeats 4000000 in
theorem C_outcomesOf9 (hl : l.stackTraces = false) (d : Nat) (s : CSt) (p : Nat) (n : ND) (hn : s.2.2.2.2.1 p = some n) (hk : n.1 = nI 9) (f : Nat) (hf : n.2.2.2.1 = some f) (nf : ND) (hnf : s.2.2.2.2.1 f = some nf) : MtW (IC cy ax hp0) l D cy base mX2_outcomesOf (d + 2) 0 0 [.ref (ax 6), .ref p] s (fun o s2 => o = .inl (some (.int (sgI 9 nf.2.2.2.2.2.2.1))) ∧ s2 = s) := by
  refine MtW.of hl mfX2_outcomesOf rfl (Nat.le_of_ble_eq_true rfl) ?_
  refine EW.aload_n dX2_outcomesOf_0 rfl rfl ?_
  refine EC.ndget f_X2_78 dX2_outcomesOf_1 hn rfl ?_
  refine EW.top hk ?_
  refine EW.tableOut 77 dX2_outcomesOf_4 (by decide +kernel) (by decide) ?_
  refine EW.aload_n dX2_outcomesOf_77 rfl rfl ?_
  refine EC.ndget f_X2_88 dX2_outcomesOf_78 hn rfl ?_
  refine EW.rf hf ?_
  refine EW.ifnonnull (r := some f) 88 dX2_outcomesOf_81 (by decide) (fun _ _ => ?_) (fun h => nomatch h)
  refine EW.aload_n dX2_outcomesOf_88 rfl rfl ?_
  refine EC.ndget f_X2_78 dX2_outcomesOf_89 hn rfl ?_
  refine EW.top hk ?_
  refine EW.aload_n dX2_outcomesOf_92 rfl rfl ?_
  refine EC.ndget f_X2_88 dX2_outcomesOf_93 hn rfl ?_
  refine EW.rf hf ?_
  refine EC.ndget f_X2_70 dX2_outcomesOf_96 hnf rfl ?_
  refine EW.callS (bc := 0) (bs := 0) (mc' := 0) (ms' := 0) (C_sign9 hl _ d s nf.2.2.2.2.2.2.1) mfX2_outcomesOfSign rfl l_X2_97 mvX2_outcomesOfSign (by omega) dX2_outcomesOf_99 rfl rfl (Nat.le_of_ble_eq_true rfl) (fun v99 s99 q99 => ?_) (fun _ _ q => nomatch q.1)
  obtain ⟨e99, h99⟩ := q99; cases e99; replace h99 := h99.symm; subst h99
  refine EW.iret rfl dX2_outcomesOf_102 ?_
  exact ⟨rfl, rfl⟩
set_option maxHeartbeats 4000000 in
theorem C_outcomesOf2 (hl : l.stackTraces = false) (d : Nat) (s : CSt) (p : Nat) (n : ND) (hn : s.2.2.2.2.1 p = some n) (hk : n.1 = nI 2) (r : Nat) (hr : r < 6) (hlo : n.2.1 = nI r) (x q : Nat) (hx : s.2.2.2.1 r = some x) (e9 : Option Nat × Option Nat) (he : s.2.2.2.2.2 x = some e9) (hq : e9.2 = some q) (m9 : ND) (hm : s.2.2.2.2.1 q = some m9) : MtW (IC cy ax hp0) l D cy base mX2_outcomesOf (d + 2) 0 0 [.ref (ax 6), .ref p] s (fun o s2 => o = .inl (some (.int m9.2.2.2.2.2.2.1)) ∧ s2 = s) := by
  refine MtW.of hl mfX2_outcomesOf rfl (Nat.le_of_ble_eq_true rfl) ?_
  refine EW.aload_n dX2_outcomesOf_0 rfl rfl ?_
  refine EC.ndget f_X2_78 dX2_outcomesOf_1 hn rfl ?_
  refine EW.top hk ?_
  refine EW.tableIn (off := 35) 39 dX2_outcomesOf_4 (by decide +kernel) (by decide +kernel) (by decide +kernel) (by decide) ?_
  refine EW.aload_n dX2_outcomesOf_39 rfl rfl ?_
  refine EW.aload_n dX2_outcomesOf_40 rfl rfl ?_
  refine EC.ndget f_X2_81 dX2_outcomesOf_41 hn rfl ?_
  refine EW.top hlo ?_
  refine EC.callV (bc := 0) (bs := 0) (mc' := 0) (ms' := 0) (k := 6) (C_expressionOf hl d r s hr) mfX2_expressionOf l_X2_84 mvX2_expressionOf (by omega) dX2_outcomesOf_44 rfl rfl (by decide) rfl rfl rfl (Nat.le_of_ble_eq_true rfl) (fun v44 s44 q44 => ?_) (fun _ _ q => nomatch q.1)
  obtain ⟨e44, h44⟩ := q44; cases e44; replace h44 := h44.symm; subst h44
  refine EW.astoreq_n dX2_outcomesOf_47 rfl (by decide) ?_
  refine EW.aloadq_n dX2_outcomesOf_48 rfl rfl ?_
  refine EW.rf hx ?_
  refine EW.ifnonnull (r := some x) 56 dX2_outcomesOf_49 (by decide) (fun _ _ => ?_) (fun h => nomatch h)
  refine EW.aloadq_n dX2_outcomesOf_56 rfl rfl ?_
  refine EW.rf hx ?_
  refine EC.callE (bc := 0) (bs := 0) (mc' := 0) (ms' := 0) (C_outcomesOfRoot hl d s x q e9 he hq m9 hm) mfX1_outcomesOfRoot l_X2_59 mvX1_outcomesOfRoot (by omega) dX2_outcomesOf_57 rfl rfl he rfl rfl (Nat.le_of_ble_eq_true rfl) (fun v57 s57 q57 => ?_) (fun _ _ q => nomatch q.1)
  obtain ⟨e57, h57⟩ := q57; cases e57; replace h57 := h57.symm; subst h57
  refine EW.iret rfl dX2_outcomesOf_60 ?_
  exact ⟨rfl, rfl⟩
set_option maxHeartbeats 4000000 in
theorem C_isGood1 (hl : l.stackTraces = false) (d : Nat) (s : CSt) (p : Nat) (n : ND) (hn : s.2.2.2.2.1 p = some n) (hk : n.1 = nI 1) : MtW (IC cy ax hp0) l D cy base mX2_isGood (d + 2) 0 0 [.ref (ax 6), .ref p] s (fun o s2 => o = .inl (some (.int (nI 1))) ∧ s2 = s) := by
  refine MtW.of hl mfX2_isGood rfl (Nat.le_of_ble_eq_true rfl) ?_
  refine EW.aload_n dX2_isGood_0 rfl rfl ?_
  refine EC.ndget f_X2_78 dX2_isGood_1 hn rfl ?_
  refine EW.top hk ?_
  refine EW.tableIn (off := 40) 44 dX2_isGood_4 (by decide +kernel) (by decide +kernel) (by decide +kernel) (by decide) ?_
  refine EW.ic 1 dX2_isGood_44 ?_
  refine EW.zret (ty := .boolean) rfl (by decide +kernel) dX2_isGood_45 ?_
  exact ⟨rfl, rfl⟩
set_option maxHeartbeats 4000000 in
theorem C_isGood3 (hl : l.stackTraces = false) (d : Nat) (s : CSt) (p : Nat) (n : ND) (hn : s.2.2.2.2.1 p = some n) (hk : n.1 = nI 3) (f : Nat) (hf : n.2.2.2.1 = some f) (t : List Nat) (ht : lnk s.2.2.2.2.1 nNext (f :: t) (some f)) : MtW (IC cy ax hp0) l D cy base mX2_isGood (d + 2) 0 0 [.ref (ax 6), .ref p] s (fun o s2 => o = .inl (some (.int (if gdR s.2.2.2.2.1 (f :: t) = true then nI 1 else nI 0))) ∧ s2 = s) := by
  refine MtW.of hl mfX2_isGood rfl (Nat.le_of_ble_eq_true rfl) ?_
  refine EW.aload_n dX2_isGood_0 rfl rfl ?_
  refine EC.ndget f_X2_78 dX2_isGood_1 hn rfl ?_
  refine EW.top hk ?_
  refine EW.tableIn (off := 68) 72 dX2_isGood_4 (by decide +kernel) (by decide +kernel) (by decide +kernel) (by decide) ?_
  refine EW.aload_n dX2_isGood_72 rfl rfl ?_
  refine EC.ndget f_X2_88 dX2_isGood_73 hn rfl ?_
  refine EW.rf hf ?_
  refine EW.callS (bc := 0) (bs := 0) (mc' := 0) (ms' := 0) (C_isGoodRow hl d s f t ht) mfX2_isGoodRow rfl l_X2_125 mvX2_isGoodRow (by omega) dX2_isGood_76 rfl rfl (Nat.le_of_ble_eq_true rfl) (fun v76 s76 q76 => ?_) (fun _ _ q => nomatch q.1)
  obtain ⟨e76, h76⟩ := q76; cases e76; replace h76 := h76.symm; subst h76
  refine EW.zret (ty := .boolean) rfl (by split <;> decide +kernel) dX2_isGood_79 ?_
  exact ⟨rfl, rfl⟩
set_option maxHeartbeats 4000000 in
theorem C_isGood4 (hl : l.stackTraces = false) (d : Nat) (s : CSt) (p : Nat) (n : ND) (hn : s.2.2.2.2.1 p = some n) (hk : n.1 = nI 4) (f : Nat) (hf : n.2.2.2.1 = some f) (t : List Nat) (ht : lnk s.2.2.2.2.1 nNext (f :: t) (some f)) : MtW (IC cy ax hp0) l D cy base mX2_isGood (d + 2) 0 0 [.ref (ax 6), .ref p] s (fun o s2 => o = .inl (some (.int (if gdC s.2.2.2.2.1 (f :: t) = true then nI 1 else nI 0))) ∧ s2 = s) := by
  refine MtW.of hl mfX2_isGood rfl (Nat.le_of_ble_eq_true rfl) ?_
  refine EW.aload_n dX2_isGood_0 rfl rfl ?_
  refine EC.ndget f_X2_78 dX2_isGood_1 hn rfl ?_
  refine EW.top hk ?_
  refine EW.tableIn (off := 76) 80 dX2_isGood_4 (by decide +kernel) (by decide +kernel) (by decide +kernel) (by decide) ?_
  refine EW.aload_n dX2_isGood_80 rfl rfl ?_
  refine EC.ndget f_X2_88 dX2_isGood_81 hn rfl ?_
  refine EW.rf hf ?_
  refine EW.callS (bc := 0) (bs := 0) (mc' := 0) (ms' := 0) (C_isGoodChoice hl d s f t ht) mfX2_isGoodChoice rfl l_X2_128 mvX2_isGoodChoice (by omega) dX2_isGood_84 rfl rfl (Nat.le_of_ble_eq_true rfl) (fun v84 s84 q84 => ?_) (fun _ _ q => nomatch q.1)
  obtain ⟨e84, h84⟩ := q84; cases e84; replace h84 := h84.symm; subst h84
  refine EW.zret (ty := .boolean) rfl (by split <;> decide +kernel) dX2_isGood_87 ?_
  exact ⟨rfl, rfl⟩
set_option maxHeartbeats 4000000 in
theorem C_isGood5 (hl : l.stackTraces = false) (d : Nat) (s : CSt) (p : Nat) (n : ND) (hn : s.2.2.2.2.1 p = some n) (hk : n.1 = nI 5) (f : Nat) (hf : n.2.2.2.1 = some f) (nf : ND) (hnf : s.2.2.2.2.1 f = some nf) : MtW (IC cy ax hp0) l D cy base mX2_isGood (d + 2) 0 0 [.ref (ax 6), .ref p] s (fun o s2 => o = .inl (some (.int (if ¬ nf.2.2.2.2.2.2.2 = 0 ∧ nf.2.2.2.2.2.2.1 &&& nI 1 = 0 then nI 1 else nI 0))) ∧ s2 = s) := by
  refine MtW.of hl mfX2_isGood rfl (Nat.le_of_ble_eq_true rfl) ?_
  refine EW.aload_n dX2_isGood_0 rfl rfl ?_
  refine EC.ndget f_X2_78 dX2_isGood_1 hn rfl ?_
  refine EW.top hk ?_
  refine EW.tableIn (off := 84) 88 dX2_isGood_4 (by decide +kernel) (by decide +kernel) (by decide +kernel) (by decide) ?_
  refine EW.aload_n dX2_isGood_88 rfl rfl ?_
  refine EC.ndget f_X2_88 dX2_isGood_89 hn rfl ?_
  refine EW.rf hf ?_
  refine EW.ifnull (r := some f) 123 dX2_isGood_92 (by decide) (fun h => nomatch h) (fun _ _ => ?_)
  refine EW.aload_n dX2_isGood_95 rfl rfl ?_
  refine EC.ndget f_X2_88 dX2_isGood_96 hn rfl ?_
  refine EW.rf hf ?_
  refine EC.ndget f_X2_121 dX2_isGood_99 hnf rfl ?_
  refine EW.if_eq 123 dX2_isGood_102 (by decide) (fun c102 => ?_) (fun c102 => ?_)
  · refine EW.ic 0 dX2_isGood_123 ?_
    refine EW.zret (ty := .boolean) rfl (by decide +kernel) dX2_isGood_124 ?_
    refine ⟨?_, rfl⟩; simp only [*, not_true_eq_false, not_false_eq_true, and_true, and_false, false_and, if_true, if_false]
  · refine EW.aload_n dX2_isGood_105 rfl rfl ?_
    refine EC.ndget f_X2_88 dX2_isGood_106 hn rfl ?_
    refine EW.rf hf ?_
    refine EC.ndget f_X2_70 dX2_isGood_109 hnf rfl ?_
    refine EW.ic 1 dX2_isGood_112 ?_
    refine EW.callS (bc := 0) (bs := 0) (mc' := 0) (ms' := 0) (C_any hl _ d s nf.2.2.2.2.2.2.1 (nI 1)) mfX2_any rfl l_X2_107 mvX2_any (by omega) dX2_isGood_113 rfl rfl (Nat.le_of_ble_eq_true rfl) (fun v113 s113 q113 => ?_) (fun _ _ q => nomatch q.1)
    obtain ⟨e113, h113⟩ := q113; cases e113; replace h113 := h113.symm; subst h113
    refine EW.if_ne 123 dX2_isGood_116 (by decide) (fun c116 => ?_) (fun c116 => ?_)
    · have c116 := an1 c116
      refine EW.ic 0 dX2_isGood_123 ?_
      refine EW.zret (ty := .boolean) rfl (by decide +kernel) dX2_isGood_124 ?_
      refine ⟨?_, rfl⟩; simp only [*, not_true_eq_false, not_false_eq_true, and_true, and_false, false_and, if_true, if_false]
    · have c116 := an0 c116
      refine EW.ic 1 dX2_isGood_119 ?_
      refine EW.goto 124 dX2_isGood_120 (by decide) ?_
      refine EW.zret (ty := .boolean) rfl (by decide +kernel) dX2_isGood_124 ?_
      refine ⟨?_, rfl⟩; simp only [*, not_true_eq_false, not_false_eq_true, and_true, and_false, false_and, if_true, if_false]
set_option maxHeartbeats 4000000 in
theorem C_isGood6 (hl : l.stackTraces = false) (d : Nat) (s : CSt) (p : Nat) (n : ND) (hn : s.2.2.2.2.1 p = some n) (hk : n.1 = nI 6) (f : Nat) (hf : n.2.2.2.1 = some f) (nf : ND) (hnf : s.2.2.2.2.1 f = some nf) : MtW (IC cy ax hp0) l D cy base mX2_isGood (d + 2) 0 0 [.ref (ax 6), .ref p] s (fun o s2 => o = .inl (some (.int (if ¬ nf.2.2.2.2.2.2.2 = 0 ∧ nf.2.2.2.2.2.2.1 &&& nI 1 = 0 then nI 1 else nI 0))) ∧ s2 = s) := by
  refine MtW.of hl mfX2_isGood rfl (Nat.le_of_ble_eq_true rfl) ?_
  refine EW.aload_n dX2_isGood_0 rfl rfl ?_
  refine EC.ndget f_X2_78 dX2_isGood_1 hn rfl ?_
  refine EW.top hk ?_
  refine EW.tableIn (off := 84) 88 dX2_isGood_4 (by decide +kernel) (by decide +kernel) (by decide +kernel) (by decide) ?_
  refine EW.aload_n dX2_isGood_88 rfl rfl ?_
  refine EC.ndget f_X2_88 dX2_isGood_89 hn rfl ?_
  refine EW.rf hf ?_
  refine EW.ifnull (r := some f) 123 dX2_isGood_92 (by decide) (fun h => nomatch h) (fun _ _ => ?_)
  refine EW.aload_n dX2_isGood_95 rfl rfl ?_
  refine EC.ndget f_X2_88 dX2_isGood_96 hn rfl ?_
  refine EW.rf hf ?_
  refine EC.ndget f_X2_121 dX2_isGood_99 hnf rfl ?_
  refine EW.if_eq 123 dX2_isGood_102 (by decide) (fun c102 => ?_) (fun c102 => ?_)
  · refine EW.ic 0 dX2_isGood_123 ?_
    refine EW.zret (ty := .boolean) rfl (by decide +kernel) dX2_isGood_124 ?_
    refine ⟨?_, rfl⟩; simp only [*, not_true_eq_false, not_false_eq_true, and_true, and_false, false_and, if_true, if_false]
  · refine EW.aload_n dX2_isGood_105 rfl rfl ?_
    refine EC.ndget f_X2_88 dX2_isGood_106 hn rfl ?_
    refine EW.rf hf ?_
    refine EC.ndget f_X2_70 dX2_isGood_109 hnf rfl ?_
    refine EW.ic 1 dX2_isGood_112 ?_
    refine EW.callS (bc := 0) (bs := 0) (mc' := 0) (ms' := 0) (C_any hl _ d s nf.2.2.2.2.2.2.1 (nI 1)) mfX2_any rfl l_X2_107 mvX2_any (by omega) dX2_isGood_113 rfl rfl (Nat.le_of_ble_eq_true rfl) (fun v113 s113 q113 => ?_) (fun _ _ q => nomatch q.1)
    obtain ⟨e113, h113⟩ := q113; cases e113; replace h113 := h113.symm; subst h113
    refine EW.if_ne 123 dX2_isGood_116 (by decide) (fun c116 => ?_) (fun c116 => ?_)
    · have c116 := an1 c116
      refine EW.ic 0 dX2_isGood_123 ?_
      refine EW.zret (ty := .boolean) rfl (by decide +kernel) dX2_isGood_124 ?_
      refine ⟨?_, rfl⟩; simp only [*, not_true_eq_false, not_false_eq_true, and_true, and_false, false_and, if_true, if_false]
    · have c116 := an0 c116
      refine EW.ic 1 dX2_isGood_119 ?_
      refine EW.goto 124 dX2_isGood_120 (by decide) ?_
      refine EW.zret (ty := .boolean) rfl (by decide +kernel) dX2_isGood_124 ?_
      refine ⟨?_, rfl⟩; simp only [*, not_true_eq_false, not_false_eq_true, and_true, and_false, false_and, if_true, if_false]
set_option maxHeartbeats 4000000 in
theorem C_isGood7 (hl : l.stackTraces = false) (d : Nat) (s : CSt) (p : Nat) (n : ND) (hn : s.2.2.2.2.1 p = some n) (hk : n.1 = nI 7) (f : Nat) (hf : n.2.2.2.1 = some f) (nf : ND) (hnf : s.2.2.2.2.1 f = some nf) : MtW (IC cy ax hp0) l D cy base mX2_isGood (d + 2) 0 0 [.ref (ax 6), .ref p] s (fun o s2 => o = .inl (some (.int (if nf.2.2.2.2.2.2.2 = 0 then nI 0 else nI 1))) ∧ s2 = s) := by
  refine MtW.of hl mfX2_isGood rfl (Nat.le_of_ble_eq_true rfl) ?_
  refine EW.aload_n dX2_isGood_0 rfl rfl ?_
  refine EC.ndget f_X2_78 dX2_isGood_1 hn rfl ?_
  refine EW.top hk ?_
  refine EW.tableOut 125 dX2_isGood_4 (by decide +kernel) (by decide) ?_
  refine EW.aload_n dX2_isGood_125 rfl rfl ?_
  refine EC.ndget f_X2_88 dX2_isGood_126 hn rfl ?_
  refine EW.rf hf ?_
  refine EW.ifnull (r := some f) 146 dX2_isGood_129 (by decide) (fun h => nomatch h) (fun _ _ => ?_)
  refine EW.aload_n dX2_isGood_132 rfl rfl ?_
  refine EC.ndget f_X2_88 dX2_isGood_133 hn rfl ?_
  refine EW.rf hf ?_
  refine EC.ndget f_X2_121 dX2_isGood_136 hnf rfl ?_
  refine EW.if_eq 146 dX2_isGood_139 (by decide) (fun c139 => ?_) (fun c139 => ?_)
  · refine EW.ic 0 dX2_isGood_146 ?_
    refine EW.zret (ty := .boolean) rfl (by decide +kernel) dX2_isGood_147 ?_
    first | (rw [if_pos c139]; exact ⟨rfl, rfl⟩) | (rw [if_neg c139]; exact ⟨rfl, rfl⟩)
  · refine EW.ic 1 dX2_isGood_142 ?_
    refine EW.goto 147 dX2_isGood_143 (by decide) ?_
    refine EW.zret (ty := .boolean) rfl (by decide +kernel) dX2_isGood_147 ?_
    first | (rw [if_pos c139]; exact ⟨rfl, rfl⟩) | (rw [if_neg c139]; exact ⟨rfl, rfl⟩)
set_option maxHeartbeats 4000000 in
theorem C_isGood8 (hl : l.stackTraces = false) (d : Nat) (s : CSt) (p : Nat) (n : ND) (hn : s.2.2.2.2.1 p = some n) (hk : n.1 = nI 8) (f : Nat) (hf : n.2.2.2.1 = some f) (nf : ND) (hnf : s.2.2.2.2.1 f = some nf) : MtW (IC cy ax hp0) l D cy base mX2_isGood (d + 2) 0 0 [.ref (ax 6), .ref p] s (fun o s2 => o = .inl (some (.int (if nf.2.2.2.2.2.2.2 = 0 then nI 0 else nI 1))) ∧ s2 = s) := by
  refine MtW.of hl mfX2_isGood rfl (Nat.le_of_ble_eq_true rfl) ?_
  refine EW.aload_n dX2_isGood_0 rfl rfl ?_
  refine EC.ndget f_X2_78 dX2_isGood_1 hn rfl ?_
  refine EW.top hk ?_
  refine EW.tableOut 125 dX2_isGood_4 (by decide +kernel) (by decide) ?_
  refine EW.aload_n dX2_isGood_125 rfl rfl ?_
  refine EC.ndget f_X2_88 dX2_isGood_126 hn rfl ?_
  refine EW.rf hf ?_
  refine EW.ifnull (r := some f) 146 dX2_isGood_129 (by decide) (fun h => nomatch h) (fun _ _ => ?_)
  refine EW.aload_n dX2_isGood_132 rfl rfl ?_
  refine EC.ndget f_X2_88 dX2_isGood_133 hn rfl ?_
  refine EW.rf hf ?_
  refine EC.ndget f_X2_121 dX2_isGood_136 hnf rfl ?_
  refine EW.if_eq 146 dX2_isGood_139 (by decide) (fun c139 => ?_) (fun c139 => ?_)
  · refine EW.ic 0 dX2_isGood_146 ?_
    refine EW.zret (ty := .boolean) rfl (by decide +kernel) dX2_isGood_147 ?_
    first | (rw [if_pos c139]; exact ⟨rfl, rfl⟩) | (rw [if_neg c139]; exact ⟨rfl, rfl⟩)
  · refine EW.ic 1 dX2_isGood_142 ?_
    refine EW.goto 147 dX2_isGood_143 (by decide) ?_
    refine EW.zret (ty := .boolean) rfl (by decide +kernel) dX2_isGood_147 ?_
    first | (rw [if_pos c139]; exact ⟨rfl, rfl⟩) | (rw [if_neg c139]; exact ⟨rfl, rfl⟩)
set_option maxHeartbeats 4000000 in
theorem C_isGood9 (hl : l.stackTraces = false) (d : Nat) (s : CSt) (p : Nat) (n : ND) (hn : s.2.2.2.2.1 p = some n) (hk : n.1 = nI 9) (f : Nat) (hf : n.2.2.2.1 = some f) (nf : ND) (hnf : s.2.2.2.2.1 f = some nf) : MtW (IC cy ax hp0) l D cy base mX2_isGood (d + 2) 0 0 [.ref (ax 6), .ref p] s (fun o s2 => o = .inl (some (.int (if nf.2.2.2.2.2.2.2 = 0 then nI 0 else nI 1))) ∧ s2 = s) := by
  refine MtW.of hl mfX2_isGood rfl (Nat.le_of_ble_eq_true rfl) ?_
  refine EW.aload_n dX2_isGood_0 rfl rfl ?_
  refine EC.ndget f_X2_78 dX2_isGood_1 hn rfl ?_
  refine EW.top hk ?_
  refine EW.tableOut 125 dX2_isGood_4 (by decide +kernel) (by decide) ?_
  refine EW.aload_n dX2_isGood_125 rfl rfl ?_
  refine EC.ndget f_X2_88 dX2_isGood_126 hn rfl ?_
  refine EW.rf hf ?_
  refine EW.ifnull (r := some f) 146 dX2_isGood_129 (by decide) (fun h => nomatch h) (fun _ _ => ?_)
  refine EW.aload_n dX2_isGood_132 rfl rfl ?_
  refine EC.ndget f_X2_88 dX2_isGood_133 hn rfl ?_
  refine EW.rf hf ?_
  refine EC.ndget f_X2_121 dX2_isGood_136 hnf rfl ?_
  refine EW.if_eq 146 dX2_isGood_139 (by decide) (fun c139 => ?_) (fun c139 => ?_)
  · refine EW.ic 0 dX2_isGood_146 ?_
    refine EW.zret (ty := .boolean) rfl (by decide +kernel) dX2_isGood_147 ?_
    first | (rw [if_pos c139]; exact ⟨rfl, rfl⟩) | (rw [if_neg c139]; exact ⟨rfl, rfl⟩)
  · refine EW.ic 1 dX2_isGood_142 ?_
    refine EW.goto 147 dX2_isGood_143 (by decide) ?_
    refine EW.zret (ty := .boolean) rfl (by decide +kernel) dX2_isGood_147 ?_
    first | (rw [if_pos c139]; exact ⟨rfl, rfl⟩) | (rw [if_neg c139]; exact ⟨rfl, rfl⟩)
set_option maxHeartbeats 4000000 in
theorem C_isGood2 (hl : l.stackTraces = false) (d : Nat) (s : CSt) (p : Nat) (n : ND) (hn : s.2.2.2.2.1 p = some n) (hk : n.1 = nI 2) (r : Nat) (hr : r < 6) (hlo : n.2.1 = nI r) (x q : Nat) (hx : s.2.2.2.1 r = some x) (e9 : Option Nat × Option Nat) (he : s.2.2.2.2.2 x = some e9) (hq : e9.2 = some q) (m9 : ND) (hm : s.2.2.2.2.1 q = some m9) : MtW (IC cy ax hp0) l D cy base mX2_isGood (d + 2) 0 0 [.ref (ax 6), .ref p] s (fun o s2 => o = .inl (some (.int (if m9.2.2.2.2.2.2.2 = 0 then nI 0 else nI 1))) ∧ s2 = s) := by
  refine MtW.of hl mfX2_isGood rfl (Nat.le_of_ble_eq_true rfl) ?_
  refine EW.aload_n dX2_isGood_0 rfl rfl ?_
  refine EC.ndget f_X2_78 dX2_isGood_1 hn rfl ?_
  refine EW.top hk ?_
  refine EW.tableIn (off := 42) 46 dX2_isGood_4 (by decide +kernel) (by decide +kernel) (by decide +kernel) (by decide) ?_
  refine EW.aload_n dX2_isGood_46 rfl rfl ?_
  refine EW.aload_n dX2_isGood_47 rfl rfl ?_
  refine EC.ndget f_X2_81 dX2_isGood_48 hn rfl ?_
  refine EW.top hlo ?_
  refine EC.callV (bc := 0) (bs := 0) (mc' := 0) (ms' := 0) (k := 6) (C_expressionOf hl d r s hr) mfX2_expressionOf l_X2_84 mvX2_expressionOf (by omega) dX2_isGood_51 rfl rfl (by decide) rfl rfl rfl (Nat.le_of_ble_eq_true rfl) (fun v51 s51 q51 => ?_) (fun _ _ q => nomatch q.1)
  obtain ⟨e51, h51⟩ := q51; cases e51; replace h51 := h51.symm; subst h51
  refine EW.astoreq_n dX2_isGood_54 rfl (by decide) ?_
  refine EW.aloadq_n dX2_isGood_55 rfl rfl ?_
  refine EW.rf hx ?_
  refine EW.ifnull (r := some x) 70 dX2_isGood_56 (by decide) (fun h => nomatch h) (fun _ _ => ?_)
  refine EW.aloadq_n dX2_isGood_59 rfl rfl ?_
  refine EW.rf hx ?_
  refine EC.callE (bc := 0) (bs := 0) (mc' := 0) (ms' := 0) (C_rootIsGood hl d s x q e9 he hq m9 hm) mfX1_rootIsGood l_X2_114 mvX1_rootIsGood (by omega) dX2_isGood_60 rfl rfl he rfl rfl (Nat.le_of_ble_eq_true rfl) (fun v60 s60 q60 => ?_) (fun _ _ q => nomatch q.1)
  obtain ⟨e60, h60⟩ := q60; cases e60; replace h60 := h60.symm; subst h60
  refine EW.if_eq 70 dX2_isGood_63 (by decide) (fun c63 => ?_) (fun c63 => ?_)
  · have c63 := ig0 c63
    refine EW.ic 0 dX2_isGood_70 ?_
    refine EW.zret (ty := .boolean) rfl (by decide +kernel) dX2_isGood_71 ?_
    first | (rw [if_pos c63]; exact ⟨rfl, rfl⟩) | (rw [if_neg c63]; exact ⟨rfl, rfl⟩)
  · have c63 := ig1 c63
    refine EW.ic 1 dX2_isGood_66 ?_
    refine EW.goto 71 dX2_isGood_67 (by decide) ?_
    refine EW.zret (ty := .boolean) rfl (by decide +kernel) dX2_isGood_71 ?_
    first | (rw [if_pos c63]; exact ⟨rfl, rfl⟩) | (rw [if_neg c63]; exact ⟨rfl, rfl⟩)
end C5
