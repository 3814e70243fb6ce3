section C16
variable {cy : Nat → ClassId} {ax : Nat → Nat} {hp0 : Hp} {l : Launch} {D : va_G} {base : Nat} {n : Nat} {tx : Nat → Nat}
/-- calls of reading methods: a fault; an expression -/
theorem EC.rdN {M M' : Mth} {idx d d' bc bs mc' ms' n i b pc : Nat} {lv : List (Nat × Value)} {As rest st : List Value} {s : CSt} {x : Nat} {ps : List Nat} {Q : Oc → CSt → Prop} (hM : MtW (IC cy ax hp0) l D cy base M' d' mc' ms' (.ref (ax 5) :: As) (atS s i) (rdQ s x ps (none, b))) (mf : MF M') (ml : ML M.1 idx M') (mv : MV M' n) (hd : d' < d) (hdg : decode M.2.1 pc = .ok (.invokevirtual idx, 3)) (hst : st = As.reverse ++ .ref (ax 5) :: rest) (hn : As.length = n) (hc : RX6 = M'.2.2.1.cls) (h0 : M'.2.2.2.2.2 = []) (hw : (rest.map fun v => v.category).sum ≤ 8)
    (kk : ∀ s1 qs, rdF s s1 x ps qs b → EW (IC cy ax hp0) l D cy base M d bc bs (pc + 3) lv (va_rf none :: rest) s1 Q) : EW (IC cy ax hp0) l D cy base M d (bc + mc') (bs + ms') pc lv st (atS s i) Q := by
  refine EC.callV (k := 5) (ci := 6) hM mf ml mv hd hdg hst hn (by decide) rfl (by rw [← hc]; rfl) h0 hw (fun v s1 q => ?_) (fun X s1 q => (rdQ.nx q).elim)
  obtain ⟨qs, F, e⟩ := q
  have e : (Sum.inl v : Oc) = .inl (some (va_rf none)) := e
  cases e
  exact kk s1 qs F
theorem EC.rdS {M M' : Mth} {idx d d' bc bs mc' ms' n i b pc : Nat} {lv : List (Nat × Value)} {As rest st : List Value} {s : CSt} {x : Nat} {ps : List Nat} {Q : Oc → CSt → Prop} {t : Ex} (hM : MtW (IC cy ax hp0) l D cy base M' d' mc' ms' (.ref (ax 5) :: As) (atS s i) (rdQ s x ps (some t, b))) (mf : MF M') (ml : ML M.1 idx M') (mv : MV M' n) (hd : d' < d) (hdg : decode M.2.1 pc = .ok (.invokevirtual idx, 3)) (hst : st = As.reverse ++ .ref (ax 5) :: rest) (hn : As.length = n) (hc : RX6 = M'.2.2.1.cls) (h0 : M'.2.2.2.2.2 = []) (hw : (rest.map fun v => v.category).sum ≤ 8)
    (kk : ∀ s1 qs p np, rdF s s1 x ps qs b → layE s1.2.2.2.2.1 t qs p → s1.2.2.2.2.1 p = some np → nNext np = none → EW (IC cy ax hp0) l D cy base M d bc bs (pc + 3) lv (.ref p :: rest) s1 Q) : EW (IC cy ax hp0) l D cy base M d (bc + mc') (bs + ms') pc lv st (atS s i) Q := by
  refine EC.callV (k := 5) (ci := 6) hM mf ml mv hd hdg hst hn (by decide) rfl (by rw [← hc]; rfl) h0 hw (fun v s1 q => ?_) (fun X s1 q => (rdQ.nx q).elim)
  obtain ⟨qs, F, p, e, h1, np, h2, h3⟩ := q
  cases e
  exact kk s1 qs p np F h1 h2 h3
/-- how many nodes are made -/
def bud (r : Pr) (a : Nat) : Nat := match r.1 with
  | none => 2 * (r.2 - a)
  | some _ => 2 * (r.2 - a) - 1
section defs
variable (cy ax hp0 l D base n tx)
def RDC (M : Mth) (As : List Value) (P : Nat → Pr) (dd : Nat) : Prop := ∀ (s : CSt) (x : Nat) (ps : List Nat) (a : Nat), RJ n tx s x ps → a ≤ n → MtW (IC cy ax hp0) l D cy base M dd (bud (P a) a) (8 * bud (P a) a) As (atS s a) (rdQ s x ps (P a))
end defs
theorem C_range (hl : l.stackTraces = false) (s : CSt) (x : Nat) (ps : List Nat) (a : Nat) (hRJ : RJ n tx s x ps) (ha : a ≤ n) (dd : Nat) (hdd : 4 ≤ dd) : MtW (IC cy ax hp0) l D cy base mX6_readRange dd (bud (pRange tx a) a) (8 * bud (pRange tx a) a) [.ref (ax 5)] (atS s a) (rdQ s x ps (pRange tx a)) := by
  unfold pRange
  by_cases h1 : isL (tx (a + 1))
  · rw [if_neg (fun q => q h1)]
    by_cases h2 : tx (a + 2) = 45
    · rw [if_neg (fun q => q h2)]
      by_cases h3 : isL (tx (a + 3)) ∧ tx (a + 1) ≤ tx (a + 3)
      · rw [if_neg (fun q => q h3)]
        by_cases h4 : tx (a + 4) = 93
        · rw [if_neg (fun q => q h4)]
          exact C_range6 hl s x ps a hRJ ha h1 h2 h3.1 h3.2 h4 dd _ _ hdd (by show 1 ≤ 2 * (a + 5 - a) - 1; omega) (by show 8 ≤ 8 * (2 * (a + 5 - a) - 1); omega)
        · rw [if_pos h4]
          exact C_range5 hl s x ps a hRJ ha h1 h2 h3.1 h3.2 h4 dd _ _ (by omega) (Nat.zero_le _) (Nat.zero_le _)
      · rw [if_pos h3]
        by_cases h3a : isL (tx (a + 3))
        · exact C_range4 hl s x ps a hRJ ha h1 h2 h3a (fun q => h3 ⟨h3a, q⟩) dd _ _ (by omega) (Nat.zero_le _) (Nat.zero_le _)
        · exact C_range3 hl s x ps a hRJ ha h1 h2 h3a dd _ _ (by omega) (Nat.zero_le _) (Nat.zero_le _)
    · rw [if_pos h2]
      exact C_range2 hl s x ps a hRJ ha h1 h2 dd _ _ (by omega) (Nat.zero_le _) (Nat.zero_le _)
  · rw [if_pos h1]
    exact C_range1 hl s x ps a hRJ ha h1 dd _ _ (by omega) (Nat.zero_le _) (Nat.zero_le _)
set_option maxHeartbeats 4000000 in
theorem C_group1 (hl : l.stackTraces = false) (s : CSt) (x : Nat) (ps : List Nat) (a : Nat) (hRJ : RJ n tx s x ps) (ha : a ≤ n) (dp : Nat) (h0 : tx a = 40) (dd : Nat) (c9 m9 : Nat) (b : Nat) (hb : b ≤ n) (hC : MtW (IC cy ax hp0) l D cy base mX6_readChoice (dd - 1) c9 m9 [.ref (ax 5), .int (nI dp)] (atS s (a + 1)) (rdQ s x ps (none, b))) (mc ms : Nat) (hdd : 4 ≤ dd) (hmc : c9 ≤ mc) (hms : m9 ≤ ms) : MtW (IC cy ax hp0) l D cy base mX6_readGroup dd mc ms [.ref (ax 5), .int (nI dp)] (atS s a) (rdQ s x ps (none, b)) := by
  refine MtW.of hl mfX6_readGroup rfl (Nat.le_of_ble_eq_true rfl) ?_
  have hn24 := hRJ.1.2.1
  have hT4 := hRJ.1.2.2.2.1
  obtain ⟨e9, he, -⟩ := hRJ.2.2.1
  refine EW.more (bc' := 0 + c9) (bs' := 0 + m9) (by omega) (by omega) ?_
  refine EW.aload_n dX6_readGroup_0 rfl rfl ?_
  refine EW.dup dX6_readGroup_1 rfl ?_
  refine EC.get (k := 5) f_X6_22 dX6_readGroup_2 (by decide) rfl rfl ?_
  refine EW.top atS_2 ?_
  refine EW.ic 1 dX6_readGroup_5 ?_
  refine EW.iadd dX6_readGroup_6 ?_
  refine EW.top (nI_add _ _) ?_
  refine EC.put2 f_X6_22 dX6_readGroup_7 ?_
  refine EW.eqs (s' := atS s (a + 1)) atS_at ?_
  refine EW.aload_n dX6_readGroup_10 rfl rfl ?_
  refine EW.iload_n dX6_readGroup_11 rfl rfl ?_
  refine EC.rdN (bc := 0) (bs := 0) (mc' := c9) (ms' := m9) (hC) mfX6_readChoice l_X6_41 mvX6_readChoice (by omega) dX6_readGroup_12 rfl rfl rfl rfl (Nat.le_of_ble_eq_true rfl) (fun s12 qs12 F12 => ?_)
  refine EW.eqs F12.at ?_
  have J12 := F12.rj hRJ
  obtain ⟨e12, he12, -⟩ := J12.2.2.1
  refine EW.astoreq_n dX6_readGroup_15 rfl (by decide) ?_
  refine EW.aloadq_n dX6_readGroup_16 rfl rfl ?_
  refine EW.ifnull (r := none) 33 dX6_readGroup_17 (by decide) (fun _ => ?_) (fun _ h => nomatch h)
  refine EW.null dX6_readGroup_33 ?_
  refine EW.aret (r := none) rfl dX6_readGroup_34 ?_
  exact ⟨qs12, F12.mv b, rfl⟩
set_option maxHeartbeats 4000000 in
theorem C_group2 (hl : l.stackTraces = false) (s : CSt) (x : Nat) (ps : List Nat) (a : Nat) (hRJ : RJ n tx s x ps) (ha : a ≤ n) (dp : Nat) (h0 : tx a = 40) (dd : Nat) (c9 m9 : Nat) (t : Ex) (b : Nat) (hb : b ≤ n) (hC : MtW (IC cy ax hp0) l D cy base mX6_readChoice (dd - 1) c9 m9 [.ref (ax 5), .int (nI dp)] (atS s (a + 1)) (rdQ s x ps (some t, b))) (h4 : tx b = 41) (mc ms : Nat) (hdd : 4 ≤ dd) (hmc : c9 ≤ mc) (hms : m9 ≤ ms) : MtW (IC cy ax hp0) l D cy base mX6_readGroup dd mc ms [.ref (ax 5), .int (nI dp)] (atS s a) (rdQ s x ps (some t, b + 1)) := by
  refine MtW.of hl mfX6_readGroup rfl (Nat.le_of_ble_eq_true rfl) ?_
  have hn24 := hRJ.1.2.1
  have hT4 := hRJ.1.2.2.2.1
  obtain ⟨e9, he, -⟩ := hRJ.2.2.1
  refine EW.more (bc' := 0 + c9) (bs' := 0 + m9) (by omega) (by omega) ?_
  refine EW.aload_n dX6_readGroup_0 rfl rfl ?_
  refine EW.dup dX6_readGroup_1 rfl ?_
  refine EC.get (k := 5) f_X6_22 dX6_readGroup_2 (by decide) rfl rfl ?_
  refine EW.top atS_2 ?_
  refine EW.ic 1 dX6_readGroup_5 ?_
  refine EW.iadd dX6_readGroup_6 ?_
  refine EW.top (nI_add _ _) ?_
  refine EC.put2 f_X6_22 dX6_readGroup_7 ?_
  refine EW.eqs (s' := atS s (a + 1)) atS_at ?_
  refine EW.aload_n dX6_readGroup_10 rfl rfl ?_
  refine EW.iload_n dX6_readGroup_11 rfl rfl ?_
  refine EC.rdS (bc := 0) (bs := 0) (mc' := c9) (ms' := m9) (hC) mfX6_readChoice l_X6_41 mvX6_readChoice (by omega) dX6_readGroup_12 rfl rfl rfl rfl (Nat.le_of_ble_eq_true rfl) (fun s12 qs12 p12 np12 F12 hl12 hp12 hx12 => ?_)
  refine EW.eqs F12.at ?_
  have J12 := F12.rj hRJ
  obtain ⟨e12, he12, -⟩ := J12.2.2.1
  refine EW.astore_n dX6_readGroup_15 rfl (by decide) ?_
  refine EW.aload_n dX6_readGroup_16 rfl rfl ?_
  refine EW.ifnull (r := some p12) 33 dX6_readGroup_17 (by decide) (fun h => nomatch h) (fun _ _ => ?_)
  refine EW.aload_n dX6_readGroup_20 rfl rfl ?_
  refine EW.bp 41 dX6_readGroup_21 ?_
  refine EC.callV (bc := 0) (bs := 0) (mc' := 0) (ms' := 0) (k := 5) (C_take1 hl 0 (atS s12 (b)) n tx (J12.at).1 (b) 41 atS_2 (by omega) (by decide) h4) mfX6_take l_X6_38 mvX6_take (by omega) dX6_readGroup_23 rfl rfl (by decide) rfl rfl rfl (Nat.le_of_ble_eq_true rfl) (fun v23 s23 q23 => ?_) (fun _ _ q => nomatch q.1)
  obtain ⟨e23, h23⟩ := q23; cases e23; replace h23 := h23.symm; subst h23
  refine EW.eqs (s' := atS s12 (b + 1)) atS_at ?_
  refine EW.if_eq 33 dX6_readGroup_26 (by decide) (fun c26 => ?_) (fun c26 => ?_)
  · exact absurd c26 (by decide +kernel)
  · refine EW.aload_n dX6_readGroup_29 rfl rfl ?_
    refine EW.goto 34 dX6_readGroup_30 (by decide) ?_
    refine EW.aret (r := some p12) rfl dX6_readGroup_34 ?_
    exact ⟨qs12, F12.mv (b + 1), p12, rfl, hl12, np12, hp12, hx12⟩
set_option maxHeartbeats 4000000 in
theorem C_group3 (hl : l.stackTraces = false) (s : CSt) (x : Nat) (ps : List Nat) (a : Nat) (hRJ : RJ n tx s x ps) (ha : a ≤ n) (dp : Nat) (h0 : tx a = 40) (dd : Nat) (c9 m9 : Nat) (t : Ex) (b : Nat) (hb : b ≤ n) (hC : MtW (IC cy ax hp0) l D cy base mX6_readChoice (dd - 1) c9 m9 [.ref (ax 5), .int (nI dp)] (atS s (a + 1)) (rdQ s x ps (some t, b))) (h4 : ¬ tx b = 41) (mc ms : Nat) (hdd : 4 ≤ dd) (hmc : c9 ≤ mc) (hms : m9 ≤ ms) : MtW (IC cy ax hp0) l D cy base mX6_readGroup dd mc ms [.ref (ax 5), .int (nI dp)] (atS s a) (rdQ s x ps (none, b)) := by
  refine MtW.of hl mfX6_readGroup rfl (Nat.le_of_ble_eq_true rfl) ?_
  have hn24 := hRJ.1.2.1
  have hT4 := hRJ.1.2.2.2.1
  obtain ⟨e9, he, -⟩ := hRJ.2.2.1
  refine EW.more (bc' := 0 + c9) (bs' := 0 + m9) (by omega) (by omega) ?_
  refine EW.aload_n dX6_readGroup_0 rfl rfl ?_
  refine EW.dup dX6_readGroup_1 rfl ?_
  refine EC.get (k := 5) f_X6_22 dX6_readGroup_2 (by decide) rfl rfl ?_
  refine EW.top atS_2 ?_
  refine EW.ic 1 dX6_readGroup_5 ?_
  refine EW.iadd dX6_readGroup_6 ?_
  refine EW.top (nI_add _ _) ?_
  refine EC.put2 f_X6_22 dX6_readGroup_7 ?_
  refine EW.eqs (s' := atS s (a + 1)) atS_at ?_
  refine EW.aload_n dX6_readGroup_10 rfl rfl ?_
  refine EW.iload_n dX6_readGroup_11 rfl rfl ?_
  refine EC.rdS (bc := 0) (bs := 0) (mc' := c9) (ms' := m9) (hC) mfX6_readChoice l_X6_41 mvX6_readChoice (by omega) dX6_readGroup_12 rfl rfl rfl rfl (Nat.le_of_ble_eq_true rfl) (fun s12 qs12 p12 np12 F12 hl12 hp12 hx12 => ?_)
  refine EW.eqs F12.at ?_
  have J12 := F12.rj hRJ
  obtain ⟨e12, he12, -⟩ := J12.2.2.1
  refine EW.astore_n dX6_readGroup_15 rfl (by decide) ?_
  refine EW.aload_n dX6_readGroup_16 rfl rfl ?_
  refine EW.ifnull (r := some p12) 33 dX6_readGroup_17 (by decide) (fun h => nomatch h) (fun _ _ => ?_)
  refine EW.aload_n dX6_readGroup_20 rfl rfl ?_
  refine EW.bp 41 dX6_readGroup_21 ?_
  refine EC.callV (bc := 0) (bs := 0) (mc' := 0) (ms' := 0) (k := 5) (C_take0 hl 0 (atS s12 (b)) n tx (J12.at).1 (b) 41 atS_2 (by omega) (by decide) h4) mfX6_take l_X6_38 mvX6_take (by omega) dX6_readGroup_23 rfl rfl (by decide) rfl rfl rfl (Nat.le_of_ble_eq_true rfl) (fun v23 s23 q23 => ?_) (fun _ _ q => nomatch q.1)
  obtain ⟨e23, h23⟩ := q23; cases e23; replace h23 := h23.symm; subst h23
  refine EW.if_eq 33 dX6_readGroup_26 (by decide) (fun c26 => ?_) (fun c26 => ?_)
  · refine EW.null dX6_readGroup_33 ?_
    refine EW.aret (r := none) rfl dX6_readGroup_34 ?_
    exact ⟨qs12, F12.mv b, rfl⟩
  · exact absurd c26 (by decide +kernel)
end C16
