section C17
variable {cy : Nat → ClassId} {ax : Nat → Nat} {hp0 : Hp} {l : Launch} {D : va_G} {base : Nat} {n : Nat} {tx : Nat → Nat}
def gr (tx : Nat → Nat) (g : Nat → Pr) (a : Nat) : Pr := match g (a + 1) with
  | (none, b) => (none, b)
  | (some e, b) => if tx b = 41 then (some e, b + 1) else (none, b)
theorem C_group (hl : l.stackTraces = false) (dp : Nat) {g : Nat → Pr} (hg : PB n g) (dd : Nat) (hdd : 4 ≤ dd) (hz : ∀ j, n ≤ j → tx j = 0) (hC : RDC cy ax hp0 l D base n tx mX6_readChoice [.ref (ax 5), .int (nI dp)] g (dd - 1)) (s : CSt) (x : Nat) (ps : List Nat) (a : Nat) (hRJ : RJ n tx s x ps) (ha : a ≤ n) (h0 : tx a = 40) : MtW (IC cy ax hp0) l D cy base mX6_readGroup dd (bud (gr tx g a) a) (8 * bud (gr tx g a) a) [.ref (ax 5), .int (nI dp)] (atS s a) (rdQ s x ps (gr tx g a)) := by
  have k := tx_lt hz h0 (by decide)
  have hM := hC s x ps (a + 1) hRJ (by omega)
  have hB := hg (a + 1) (by omega)
  unfold gr
  cases hr : g (a + 1) with
  | mk e b =>
    rw [hr] at hM hB
    obtain ⟨b1, b2, b3⟩ := hB
    have b1 : a + 1 ≤ b := b1
    have b2 : b ≤ n := b2
    cases e with
    | none => exact C_group1 hl s x ps a hRJ ha dp h0 dd _ _ b b2 hM _ _ hdd (by show 2 * (b - (a + 1)) ≤ 2 * (b - a); omega) (by show 8 * (2 * (b - (a + 1))) ≤ 8 * (2 * (b - a)); omega)
    | some e =>
      have b4 : a + 1 < b := (b3 e rfl).1
      dsimp only
      by_cases h4 : tx b = 41
      · rw [if_pos h4]
        exact C_group2 hl s x ps a hRJ ha dp h0 dd _ _ e b b2 hM h4 _ _ hdd (by show 2 * (b - (a + 1)) - 1 ≤ 2 * (b + 1 - a) - 1; omega) (by show 8 * (2 * (b - (a + 1)) - 1) ≤ 8 * (2 * (b + 1 - a) - 1); omega)
      · rw [if_neg h4]
        exact C_group3 hl s x ps a hRJ ha dp h0 dd _ _ e b b2 hM h4 _ _ hdd (by show 2 * (b - (a + 1)) - 1 ≤ 2 * (b - a); omega) (by show 8 * (2 * (b - (a + 1)) - 1) ≤ 8 * (2 * (b - a)); omega)
set_option maxHeartbeats 4000000 in
theorem C_unit91N (hl : l.stackTraces = false) (s : CSt) (x : Nat) (ps : List Nat) (a : Nat) (hRJ : RJ n tx s x ps) (ha : a ≤ n) (dp : Nat) (h0 : tx a = 91) (dd : Nat) (c9 m9 : Nat) (b : Nat) (hC : MtW (IC cy ax hp0) l D cy base mX6_readRange (dd - 1) c9 m9 [.ref (ax 5)] (atS s a) (rdQ s x ps (none, b))) (mc ms : Nat) (hdd : 4 ≤ dd) (hmc : c9 ≤ mc) (hms : m9 ≤ ms) : MtW (IC cy ax hp0) l D cy base mX6_readUnit dd mc ms [.ref (ax 5), .int (nI dp)] (atS s a) (rdQ s x ps (none, b)) := by
  refine MtW.of hl mfX6_readUnit rfl (Nat.le_of_ble_eq_true rfl) ?_
  have hn24 := hRJ.1.2.1
  have hT4 := hRJ.1.2.2.2.1
  obtain ⟨e9, he, -⟩ := hRJ.2.2.1
  have b0 := hT4 a
  refine EW.more (bc' := 0 + c9) (bs' := 0 + m9) (by omega) (by omega) ?_
  refine EW.aload_n dX6_readUnit_0 rfl rfl ?_
  refine EC.get (k := 5) f_X6_9 dX6_readUnit_1 (by decide) rfl rfl ?_
  refine EW.aload_n dX6_readUnit_4 rfl rfl ?_
  refine EC.get (k := 5) f_X6_22 dX6_readUnit_5 (by decide) rfl rfl ?_
  refine EW.top atS_2 ?_
  refine EC.callV (bc := (0 + c9)) (bs := (0 + m9)) (mc' := 0) (ms' := 0) (k := 1) (C_atx hl 0 (atS s (a)) n tx (hRJ.at).1 (a) (by omega)) mfX0_at l_X6_29 mvX0_at (by omega) dX6_readUnit_8 rfl rfl (by decide) rfl rfl rfl (Nat.le_of_ble_eq_true rfl) (fun v8 s8 q8 => ?_) (fun _ _ q => nomatch q.1)
  obtain ⟨e8, h8⟩ := q8; cases e8; replace h8 := h8.symm; subst h8
  refine EW.istore_n dX6_readUnit_11 rfl (by decide) ?_
  refine EW.iload_n dX6_readUnit_12 rfl rfl ?_
  refine EW.bp 91 dX6_readUnit_13 ?_
  refine EW.icmp_ne 23 dX6_readUnit_15 (by decide) (fun c15 => ?_) (fun c15 => ?_)
  · have c15 : ¬ (tx (a) = 91) := fun h => c15 ((nI_eq (by omega) (by omega)).mpr h); exact absurd h0 c15
  · have c15 : tx (a) = 91 := (nI_eq (by omega) (by omega)).mp c15
    refine EW.aload_n dX6_readUnit_18 rfl rfl ?_
    refine EC.rdN (bc := 0) (bs := 0) (mc' := c9) (ms' := m9) (hC) mfX6_readRange l_X6_78 mvX6_readRange (by omega) dX6_readUnit_19 rfl rfl rfl rfl (Nat.le_of_ble_eq_true rfl) (fun s19 qs19 F19 => ?_)
    refine EW.eqs F19.at ?_
    have J19 := F19.rj hRJ
    obtain ⟨e19, he19, -⟩ := J19.2.2.1
    refine EW.aret (r := none) rfl dX6_readUnit_22 ?_
    exact ⟨qs19, F19.mv b, rfl⟩
set_option maxHeartbeats 4000000 in
theorem C_unit91S (hl : l.stackTraces = false) (s : CSt) (x : Nat) (ps : List Nat) (a : Nat) (hRJ : RJ n tx s x ps) (ha : a ≤ n) (dp : Nat) (h0 : tx a = 91) (dd : Nat) (c9 m9 : Nat) (t : Ex) (b : Nat) (hC : MtW (IC cy ax hp0) l D cy base mX6_readRange (dd - 1) c9 m9 [.ref (ax 5)] (atS s a) (rdQ s x ps (some t, b))) (mc ms : Nat) (hdd : 4 ≤ dd) (hmc : c9 ≤ mc) (hms : m9 ≤ ms) : MtW (IC cy ax hp0) l D cy base mX6_readUnit dd mc ms [.ref (ax 5), .int (nI dp)] (atS s a) (rdQ s x ps (some t, b)) := by
  refine MtW.of hl mfX6_readUnit rfl (Nat.le_of_ble_eq_true rfl) ?_
  have hn24 := hRJ.1.2.1
  have hT4 := hRJ.1.2.2.2.1
  obtain ⟨e9, he, -⟩ := hRJ.2.2.1
  have b0 := hT4 a
  refine EW.more (bc' := 0 + c9) (bs' := 0 + m9) (by omega) (by omega) ?_
  refine EW.aload_n dX6_readUnit_0 rfl rfl ?_
  refine EC.get (k := 5) f_X6_9 dX6_readUnit_1 (by decide) rfl rfl ?_
  refine EW.aload_n dX6_readUnit_4 rfl rfl ?_
  refine EC.get (k := 5) f_X6_22 dX6_readUnit_5 (by decide) rfl rfl ?_
  refine EW.top atS_2 ?_
  refine EC.callV (bc := (0 + c9)) (bs := (0 + m9)) (mc' := 0) (ms' := 0) (k := 1) (C_atx hl 0 (atS s (a)) n tx (hRJ.at).1 (a) (by omega)) mfX0_at l_X6_29 mvX0_at (by omega) dX6_readUnit_8 rfl rfl (by decide) rfl rfl rfl (Nat.le_of_ble_eq_true rfl) (fun v8 s8 q8 => ?_) (fun _ _ q => nomatch q.1)
  obtain ⟨e8, h8⟩ := q8; cases e8; replace h8 := h8.symm; subst h8
  refine EW.istore_n dX6_readUnit_11 rfl (by decide) ?_
  refine EW.iload_n dX6_readUnit_12 rfl rfl ?_
  refine EW.bp 91 dX6_readUnit_13 ?_
  refine EW.icmp_ne 23 dX6_readUnit_15 (by decide) (fun c15 => ?_) (fun c15 => ?_)
  · have c15 : ¬ (tx (a) = 91) := fun h => c15 ((nI_eq (by omega) (by omega)).mpr h); exact absurd h0 c15
  · have c15 : tx (a) = 91 := (nI_eq (by omega) (by omega)).mp c15
    refine EW.aload_n dX6_readUnit_18 rfl rfl ?_
    refine EC.rdS (bc := 0) (bs := 0) (mc' := c9) (ms' := m9) (hC) mfX6_readRange l_X6_78 mvX6_readRange (by omega) dX6_readUnit_19 rfl rfl rfl rfl (Nat.le_of_ble_eq_true rfl) (fun s19 qs19 p19 np19 F19 hl19 hp19 hx19 => ?_)
    refine EW.eqs F19.at ?_
    have J19 := F19.rj hRJ
    obtain ⟨e19, he19, -⟩ := J19.2.2.1
    refine EW.aret (r := some p19) rfl dX6_readUnit_22 ?_
    exact ⟨qs19, F19.mv b, p19, rfl, hl19, np19, hp19, hx19⟩
set_option maxHeartbeats 4000000 in
theorem C_unit40N (hl : l.stackTraces = false) (s : CSt) (x : Nat) (ps : List Nat) (a : Nat) (hRJ : RJ n tx s x ps) (ha : a ≤ n) (dp : Nat) (hdp : dp < 4) (g91 : ¬ tx a = 91) (h0 : tx a = 40) (dd : Nat) (c9 m9 : Nat) (b : Nat) (hC : MtW (IC cy ax hp0) l D cy base mX6_readGroup (dd - 1) c9 m9 [.ref (ax 5), .int (nI (dp + 1))] (atS s a) (rdQ s x ps (none, b))) (mc ms : Nat) (hdd : 4 ≤ dd) (hmc : c9 ≤ mc) (hms : m9 ≤ ms) : MtW (IC cy ax hp0) l D cy base mX6_readUnit dd mc ms [.ref (ax 5), .int (nI dp)] (atS s a) (rdQ s x ps (none, b)) := by
  refine MtW.of hl mfX6_readUnit rfl (Nat.le_of_ble_eq_true rfl) ?_
  have hn24 := hRJ.1.2.1
  have hT4 := hRJ.1.2.2.2.1
  obtain ⟨e9, he, -⟩ := hRJ.2.2.1
  have b0 := hT4 a
  refine EW.more (bc' := 0 + c9) (bs' := 0 + m9) (by omega) (by omega) ?_
  refine EW.aload_n dX6_readUnit_0 rfl rfl ?_
  refine EC.get (k := 5) f_X6_9 dX6_readUnit_1 (by decide) rfl rfl ?_
  refine EW.aload_n dX6_readUnit_4 rfl rfl ?_
  refine EC.get (k := 5) f_X6_22 dX6_readUnit_5 (by decide) rfl rfl ?_
  refine EW.top atS_2 ?_
  refine EC.callV (bc := (0 + c9)) (bs := (0 + m9)) (mc' := 0) (ms' := 0) (k := 1) (C_atx hl 0 (atS s (a)) n tx (hRJ.at).1 (a) (by omega)) mfX0_at l_X6_29 mvX0_at (by omega) dX6_readUnit_8 rfl rfl (by decide) rfl rfl rfl (Nat.le_of_ble_eq_true rfl) (fun v8 s8 q8 => ?_) (fun _ _ q => nomatch q.1)
  obtain ⟨e8, h8⟩ := q8; cases e8; replace h8 := h8.symm; subst h8
  refine EW.istore_n dX6_readUnit_11 rfl (by decide) ?_
  refine EW.iload_n dX6_readUnit_12 rfl rfl ?_
  refine EW.bp 91 dX6_readUnit_13 ?_
  refine EW.icmp_ne 23 dX6_readUnit_15 (by decide) (fun c15 => ?_) (fun c15 => ?_)
  · have c15 : ¬ (tx (a) = 91) := fun h => c15 ((nI_eq (by omega) (by omega)).mpr h)
    refine EW.iload_n dX6_readUnit_23 rfl rfl ?_
    refine EW.bp 40 dX6_readUnit_24 ?_
    refine EW.icmp_ne 46 dX6_readUnit_26 (by decide) (fun c26 => ?_) (fun c26 => ?_)
    · have c26 : ¬ (tx (a) = 40) := fun h => c26 ((nI_eq (by omega) (by omega)).mpr h); exact absurd h0 c26
    · have c26 : tx (a) = 40 := (nI_eq (by omega) (by omega)).mp c26
      refine EW.iload_n dX6_readUnit_29 rfl rfl ?_
      refine EW.ic 4 dX6_readUnit_30 ?_
      refine EW.icmp_ge 44 dX6_readUnit_31 (by decide) (fun c31 => ?_) (fun c31 => ?_)
      · have c31 : 4 ≤ dp := (nI_leI (by omega) (by omega)).mp c31; omega
      · have c31 : ¬ (4 ≤ dp) := fun h => c31 ((nI_leI (by omega) (by omega)).mpr h)
        refine EW.aload_n dX6_readUnit_34 rfl rfl ?_
        refine EW.iload_n dX6_readUnit_35 rfl rfl ?_
        refine EW.ic 1 dX6_readUnit_36 ?_
        refine EW.iadd dX6_readUnit_37 ?_
        refine EW.top (nI_add _ _) ?_
        refine EC.rdN (bc := 0) (bs := 0) (mc' := c9) (ms' := m9) (hC) mfX6_readGroup l_X6_82 mvX6_readGroup (by omega) dX6_readUnit_38 rfl rfl rfl rfl (Nat.le_of_ble_eq_true rfl) (fun s38 qs38 F38 => ?_)
        refine EW.eqs F38.at ?_
        have J38 := F38.rj hRJ
        obtain ⟨e38, he38, -⟩ := J38.2.2.1
        refine EW.goto 45 dX6_readUnit_41 (by decide) ?_
        refine EW.aret (r := none) rfl dX6_readUnit_45 ?_
        exact ⟨qs38, F38.mv b, rfl⟩
  · have c15 : tx (a) = 91 := (nI_eq (by omega) (by omega)).mp c15; exact absurd c15 g91
set_option maxHeartbeats 4000000 in
theorem C_unit40S (hl : l.stackTraces = false) (s : CSt) (x : Nat) (ps : List Nat) (a : Nat) (hRJ : RJ n tx s x ps) (ha : a ≤ n) (dp : Nat) (hdp : dp < 4) (g91 : ¬ tx a = 91) (h0 : tx a = 40) (dd : Nat) (c9 m9 : Nat) (t : Ex) (b : Nat) (hC : MtW (IC cy ax hp0) l D cy base mX6_readGroup (dd - 1) c9 m9 [.ref (ax 5), .int (nI (dp + 1))] (atS s a) (rdQ s x ps (some t, b))) (mc ms : Nat) (hdd : 4 ≤ dd) (hmc : c9 ≤ mc) (hms : m9 ≤ ms) : MtW (IC cy ax hp0) l D cy base mX6_readUnit dd mc ms [.ref (ax 5), .int (nI dp)] (atS s a) (rdQ s x ps (some t, b)) := by
  refine MtW.of hl mfX6_readUnit rfl (Nat.le_of_ble_eq_true rfl) ?_
  have hn24 := hRJ.1.2.1
  have hT4 := hRJ.1.2.2.2.1
  obtain ⟨e9, he, -⟩ := hRJ.2.2.1
  have b0 := hT4 a
  refine EW.more (bc' := 0 + c9) (bs' := 0 + m9) (by omega) (by omega) ?_
  refine EW.aload_n dX6_readUnit_0 rfl rfl ?_
  refine EC.get (k := 5) f_X6_9 dX6_readUnit_1 (by decide) rfl rfl ?_
  refine EW.aload_n dX6_readUnit_4 rfl rfl ?_
  refine EC.get (k := 5) f_X6_22 dX6_readUnit_5 (by decide) rfl rfl ?_
  refine EW.top atS_2 ?_
  refine EC.callV (bc := (0 + c9)) (bs := (0 + m9)) (mc' := 0) (ms' := 0) (k := 1) (C_atx hl 0 (atS s (a)) n tx (hRJ.at).1 (a) (by omega)) mfX0_at l_X6_29 mvX0_at (by omega) dX6_readUnit_8 rfl rfl (by decide) rfl rfl rfl (Nat.le_of_ble_eq_true rfl) (fun v8 s8 q8 => ?_) (fun _ _ q => nomatch q.1)
  obtain ⟨e8, h8⟩ := q8; cases e8; replace h8 := h8.symm; subst h8
  refine EW.istore_n dX6_readUnit_11 rfl (by decide) ?_
  refine EW.iload_n dX6_readUnit_12 rfl rfl ?_
  refine EW.bp 91 dX6_readUnit_13 ?_
  refine EW.icmp_ne 23 dX6_readUnit_15 (by decide) (fun c15 => ?_) (fun c15 => ?_)
  · have c15 : ¬ (tx (a) = 91) := fun h => c15 ((nI_eq (by omega) (by omega)).mpr h)
    refine EW.iload_n dX6_readUnit_23 rfl rfl ?_
    refine EW.bp 40 dX6_readUnit_24 ?_
    refine EW.icmp_ne 46 dX6_readUnit_26 (by decide) (fun c26 => ?_) (fun c26 => ?_)
    · have c26 : ¬ (tx (a) = 40) := fun h => c26 ((nI_eq (by omega) (by omega)).mpr h); exact absurd h0 c26
    · have c26 : tx (a) = 40 := (nI_eq (by omega) (by omega)).mp c26
      refine EW.iload_n dX6_readUnit_29 rfl rfl ?_
      refine EW.ic 4 dX6_readUnit_30 ?_
      refine EW.icmp_ge 44 dX6_readUnit_31 (by decide) (fun c31 => ?_) (fun c31 => ?_)
      · have c31 : 4 ≤ dp := (nI_leI (by omega) (by omega)).mp c31; omega
      · have c31 : ¬ (4 ≤ dp) := fun h => c31 ((nI_leI (by omega) (by omega)).mpr h)
        refine EW.aload_n dX6_readUnit_34 rfl rfl ?_
        refine EW.iload_n dX6_readUnit_35 rfl rfl ?_
        refine EW.ic 1 dX6_readUnit_36 ?_
        refine EW.iadd dX6_readUnit_37 ?_
        refine EW.top (nI_add _ _) ?_
        refine EC.rdS (bc := 0) (bs := 0) (mc' := c9) (ms' := m9) (hC) mfX6_readGroup l_X6_82 mvX6_readGroup (by omega) dX6_readUnit_38 rfl rfl rfl rfl (Nat.le_of_ble_eq_true rfl) (fun s38 qs38 p38 np38 F38 hl38 hp38 hx38 => ?_)
        refine EW.eqs F38.at ?_
        have J38 := F38.rj hRJ
        obtain ⟨e38, he38, -⟩ := J38.2.2.1
        refine EW.goto 45 dX6_readUnit_41 (by decide) ?_
        refine EW.aret (r := some p38) rfl dX6_readUnit_45 ?_
        exact ⟨qs38, F38.mv b, p38, rfl, hl38, np38, hp38, hx38⟩
  · have c15 : tx (a) = 91 := (nI_eq (by omega) (by omega)).mp c15; exact absurd c15 g91
theorem C_unit (hl : l.stackTraces = false) (dp j : Nat) (hj : dp + j = 4) (dd : Nat) (hdd : 8 ≤ dd) (hz : ∀ j, n ≤ j → tx j = 0) (hC : ∀ j', j = j' + 1 → RDC cy ax hp0 l D base n tx mX6_readChoice [.ref (ax 5), .int (nI (dp + 1))] (pG tx j') (dd - 2)) : RDC cy ax hp0 l D base n tx mX6_readUnit [.ref (ax 5), .int (nI dp)] (pUnit tx (pD tx j)) dd := by
  intro s x ps a hRJ ha
  unfold pUnit
  by_cases h1 : tx a = 91
  · rw [if_pos h1]
    have hM := C_range (cy := cy) (ax := ax) (hp0 := hp0) (D := D) (base := base) hl s x ps a hRJ ha (dd - 1) (by omega)
    cases hr : pRange tx a with
    | mk e b =>
      rw [hr] at hM
      cases e with
      | none => exact C_unit91N hl s x ps a hRJ ha dp h1 dd _ _ b hM _ _ (by omega) (Nat.le_refl _) (Nat.le_refl _)
      | some e => exact C_unit91S hl s x ps a hRJ ha dp h1 dd _ _ e b hM _ _ (by omega) (Nat.le_refl _) (Nat.le_refl _)
  · rw [if_neg h1]
    by_cases h2 : tx a = 40
    · rw [if_pos h2]
      cases j with
      | zero => exact C_unitG4 hl s x ps a hRJ ha dp (by omega) h1 h2 dd _ _ (by omega) (Nat.zero_le _) (Nat.zero_le _)
      | succ j =>
        have hM := C_group (cy := cy) (ax := ax) (hp0 := hp0) (D := D) (base := base) hl (dp + 1) (pG_b hz j) (dd - 1) (by omega) hz (hC j rfl) s x ps a hRJ ha h2
        show MtW _ _ _ _ _ _ _ (bud (gr tx (pG tx j) a) a) (8 * bud (gr tx (pG tx j) a) a) _ _ (rdQ s x ps (gr tx (pG tx j) a))
        cases hr : gr tx (pG tx j) a with
        | mk e b =>
          rw [hr] at hM
          cases e with
          | none => exact C_unit40N hl s x ps a hRJ ha dp (by omega) h1 h2 dd _ _ b hM _ _ (by omega) (Nat.le_refl _) (Nat.le_refl _)
          | some e => exact C_unit40S hl s x ps a hRJ ha dp (by omega) h1 h2 dd _ _ e b hM _ _ (by omega) (Nat.le_refl _) (Nat.le_refl _)
    · rw [if_neg h2]
      by_cases h3 : tx a = 46
      · rw [if_pos h3]
        exact C_unitP hl s x ps a hRJ ha dp h1 h2 h3 dd _ _ (by omega) (by show 1 ≤ 2 * (a + 1 - a) - 1; omega) (by show 8 ≤ 8 * (2 * (a + 1 - a) - 1); omega)
      · rw [if_neg h3]
        by_cases h4 : isL (tx a)
        · rw [if_pos h4]
          exact C_unitL hl s x ps a hRJ ha dp h1 h2 h3 h4 dd _ _ (by omega) (by show 1 ≤ 2 * (a + 1 - a) - 1; omega) (by show 8 ≤ 8 * (2 * (a + 1 - a) - 1); omega)
        · rw [if_neg h4]
          by_cases h5 : isR (tx a)
          · rw [if_pos h5]
            exact C_unitR hl s x ps a hRJ ha dp h1 h2 h3 h4 h5 dd _ _ (by omega) (by show 1 ≤ 2 * (a + 1 - a) - 1; omega) (by show 8 ≤ 8 * (2 * (a + 1 - a) - 1); omega)
          · rw [if_neg h5]
            exact C_unitN hl s x ps a hRJ ha dp h1 h2 h3 h4 h5 dd _ _ (by omega) (Nat.zero_le _) (Nat.zero_le _)
theorem lay_sgn {s1 s2 : CSt} {x i : Nat} {ps1 : List Nat} {q : Nat} {e : Ex} {qe : List Nat} {p k : Nat} (F : rdF s1 s2 x ps1 [q] i) (we : wf e) (hn : qe.Nodup) (h : layE s1.2.2.2.2.1 e qe p) (hk : ¬ k = 0) (hq : s2.2.2.2.2.1 q = some (ndN (nI k) (nI 0) (nI 0) (some p))) : layE s2.2.2.2.2.1 (sgn k e) (qe ++ [q]) q := by
  unfold sgn
  rw [if_neg hk]
  refine ⟨qe, _, p, rfl, hq, ?_, rfl, layE_fr we hn h (fun a _ n hn => F.2.2.2.2.2.2.2.2.1 a n hn)⟩
  show nI k = nI (k - 1 + 1)
  rw [show k - 1 + 1 = k by omega]
theorem sgn0 {k : Nat} {e : Ex} (h : k = 0) : sgn k e = e := if_pos h
theorem nd_r {ps qs : List Nat} (h : (ps ++ qs).Nodup) : qs.Nodup := (List.nodup_append.mp h).2.1
theorem sB_lt (c : Nat) : sB c < 100 := by unfold sB; split <;> (try split) <;> decide
theorem sE_lt (c : Nat) : sE c < 100 := by unfold sE; split <;> (try split) <;> (try split) <;> decide
theorem wf_sgn {c : Nat} {e : Ex} (h : ¬ sE c = 0) (we : wf e) : wf (sgn (sE c) e) := by
  unfold sgn
  rw [if_neg h]
  exact ⟨rfl, (sE_nz h).2.1, (sE_nz h).2.2, we⟩
set_option maxHeartbeats 4000000 in
theorem C_part0N0 (hl : l.stackTraces = false) (s : CSt) (x : Nat) (ps : List Nat) (a : Nat) (hRJ : RJ n tx s x ps) (ha : a ≤ n) (dp : Nat) (hB : sB (tx a) = 0) (dd : Nat) (c9 m9 : Nat) (b : Nat) (hbn : b ≤ n) (hC : MtW (IC cy ax hp0) l D cy base mX6_readUnit (dd - 1) c9 m9 [.ref (ax 5), .int (nI dp)] (atS s (a)) (rdQ s x ps (none, b))) (mc ms : Nat) (hdd : 5 ≤ dd) (hmc : 0 + c9 ≤ mc) (hms : 0 + m9 ≤ ms) : MtW (IC cy ax hp0) l D cy base mX6_readPart dd mc ms [.ref (ax 5), .int (nI dp)] (atS s a) (rdQ s x ps (none, b)) := by
  refine MtW.of hl mfX6_readPart rfl (Nat.le_of_ble_eq_true rfl) ?_
  have hn24 := hRJ.1.2.1
  have hT4 := hRJ.1.2.2.2.1
  obtain ⟨e9, he, -⟩ := hRJ.2.2.1
  have b0 := hT4 a
  have bb0 := hT4 b
  have sb0 := sB_lt (tx a)
  have se0 := sE_lt (tx b)
  refine EW.more (bc' := 0 + c9) (bs' := 0 + m9) (by omega) (by omega) ?_
  refine EW.aload_n dX6_readPart_0 rfl rfl ?_
  refine EC.get (k := 5) f_X6_9 dX6_readPart_1 (by decide) rfl rfl ?_
  refine EW.aload_n dX6_readPart_4 rfl rfl ?_
  refine EC.get (k := 5) f_X6_22 dX6_readPart_5 (by decide) rfl rfl ?_
  refine EW.top atS_2 ?_
  refine EC.callV (bc := (0 + c9)) (bs := (0 + m9)) (mc' := 0) (ms' := 0) (k := 1) (C_atx hl 0 (atS s (a)) n tx (hRJ.at).1 (a) (by omega)) mfX0_at l_X6_29 mvX0_at (by omega) dX6_readPart_8 rfl rfl (by decide) rfl rfl rfl (Nat.le_of_ble_eq_true rfl) (fun v8 s8 q8 => ?_) (fun _ _ q => nomatch q.1)
  obtain ⟨e8, h8⟩ := q8; cases e8; replace h8 := h8.symm; subst h8
  refine EW.callS (bc := (0 + c9)) (bs := (0 + m9)) (mc' := 0) (ms' := 0) (C_sgB hl _ 0 (atS s (a)) (tx (a)) (hT4 _)) mfX6_signBefore rfl l_X6_68 mvX6_signBefore (by omega) dX6_readPart_11 rfl rfl (Nat.le_of_ble_eq_true rfl) (fun v11 s11 q11 => ?_) (fun _ _ q => nomatch q.1)
  obtain ⟨e11, h11⟩ := q11; cases e11; replace h11 := h11.symm; subst h11
  refine EW.top (y := nI 0) (by rw [hB]) ?_
  refine EW.istore_n dX6_readPart_14 rfl (by decide) ?_
  refine EW.iload_n dX6_readPart_15 rfl rfl ?_
  refine EW.if_eq 29 dX6_readPart_16 (by decide) (fun c16 => ?_) (fun c16 => ?_)
  · refine EW.aload_n dX6_readPart_29 rfl rfl ?_
    refine EW.iload_n dX6_readPart_30 rfl rfl ?_
    refine EC.rdN (bc := 0) (bs := 0) (mc' := c9) (ms' := m9) (hC) mfX6_readUnit l_X6_72 mvX6_readUnit (by omega) dX6_readPart_31 rfl rfl rfl rfl (Nat.le_of_ble_eq_true rfl) (fun s31 qs31 F31 => ?_)
    refine EW.eqs F31.at ?_
    have J31 := F31.rj hRJ
    obtain ⟨e31, he31, -⟩ := J31.2.2.1
    refine EW.astoreq_n dX6_readPart_34 rfl (by decide) ?_
    refine EW.aloadq_n dX6_readPart_35 rfl rfl ?_
    refine EW.ifnonnull (r := none) 41 dX6_readPart_36 (by decide) (fun _ h => nomatch h) (fun _ => ?_)
    refine EW.null dX6_readPart_39 ?_
    refine EW.aret (r := none) rfl dX6_readPart_40 ?_
    exact ⟨qs31, F31.mv b, rfl⟩
  · exact absurd c16 (by decide +kernel)
set_option maxHeartbeats 4000000 in
theorem C_part0S0 (hl : l.stackTraces = false) (s : CSt) (x : Nat) (ps : List Nat) (a : Nat) (hRJ : RJ n tx s x ps) (ha : a ≤ n) (dp : Nat) (hB : sB (tx a) = 0) (dd : Nat) (c9 m9 : Nat) (t : Ex) (b : Nat) (hbn : b ≤ n) (wt : wf t) (hE : sE (tx b) = 0) (hC : MtW (IC cy ax hp0) l D cy base mX6_readUnit (dd - 1) c9 m9 [.ref (ax 5), .int (nI dp)] (atS s (a)) (rdQ s x ps (some t, b))) (mc ms : Nat) (hdd : 5 ≤ dd) (hmc : 0 + c9 ≤ mc) (hms : 0 + m9 ≤ ms) : MtW (IC cy ax hp0) l D cy base mX6_readPart dd mc ms [.ref (ax 5), .int (nI dp)] (atS s a) (rdQ s x ps (some (sgn (sB (tx a)) (sgn (sE (tx b)) t)), b)) := by
  refine MtW.of hl mfX6_readPart rfl (Nat.le_of_ble_eq_true rfl) ?_
  have hn24 := hRJ.1.2.1
  have hT4 := hRJ.1.2.2.2.1
  obtain ⟨e9, he, -⟩ := hRJ.2.2.1
  have b0 := hT4 a
  have bb0 := hT4 b
  have sb0 := sB_lt (tx a)
  have se0 := sE_lt (tx b)
  refine EW.more (bc' := 0 + c9) (bs' := 0 + m9) (by omega) (by omega) ?_
  refine EW.aload_n dX6_readPart_0 rfl rfl ?_
  refine EC.get (k := 5) f_X6_9 dX6_readPart_1 (by decide) rfl rfl ?_
  refine EW.aload_n dX6_readPart_4 rfl rfl ?_
  refine EC.get (k := 5) f_X6_22 dX6_readPart_5 (by decide) rfl rfl ?_
  refine EW.top atS_2 ?_
  refine EC.callV (bc := (0 + c9)) (bs := (0 + m9)) (mc' := 0) (ms' := 0) (k := 1) (C_atx hl 0 (atS s (a)) n tx (hRJ.at).1 (a) (by omega)) mfX0_at l_X6_29 mvX0_at (by omega) dX6_readPart_8 rfl rfl (by decide) rfl rfl rfl (Nat.le_of_ble_eq_true rfl) (fun v8 s8 q8 => ?_) (fun _ _ q => nomatch q.1)
  obtain ⟨e8, h8⟩ := q8; cases e8; replace h8 := h8.symm; subst h8
  refine EW.callS (bc := (0 + c9)) (bs := (0 + m9)) (mc' := 0) (ms' := 0) (C_sgB hl _ 0 (atS s (a)) (tx (a)) (hT4 _)) mfX6_signBefore rfl l_X6_68 mvX6_signBefore (by omega) dX6_readPart_11 rfl rfl (Nat.le_of_ble_eq_true rfl) (fun v11 s11 q11 => ?_) (fun _ _ q => nomatch q.1)
  obtain ⟨e11, h11⟩ := q11; cases e11; replace h11 := h11.symm; subst h11
  refine EW.top (y := nI 0) (by rw [hB]) ?_
  refine EW.istore_n dX6_readPart_14 rfl (by decide) ?_
  refine EW.iload_n dX6_readPart_15 rfl rfl ?_
  refine EW.if_eq 29 dX6_readPart_16 (by decide) (fun c16 => ?_) (fun c16 => ?_)
  · refine EW.aload_n dX6_readPart_29 rfl rfl ?_
    refine EW.iload_n dX6_readPart_30 rfl rfl ?_
    refine EC.rdS (bc := 0) (bs := 0) (mc' := c9) (ms' := m9) (hC) mfX6_readUnit l_X6_72 mvX6_readUnit (by omega) dX6_readPart_31 rfl rfl rfl rfl (Nat.le_of_ble_eq_true rfl) (fun s31 qs31 p31 np31 F31 hl31 hp31 hx31 => ?_)
    refine EW.eqs F31.at ?_
    have J31 := F31.rj hRJ
    obtain ⟨e31, he31, -⟩ := J31.2.2.1
    have N31 := nd_r F31.2.2.2.2.2.2.2.1
    refine EW.astore_n dX6_readPart_34 rfl (by decide) ?_
    refine EW.aload_n dX6_readPart_35 rfl rfl ?_
    refine EW.ifnonnull (r := some p31) 41 dX6_readPart_36 (by decide) (fun _ _ => ?_) (fun h => nomatch h)
    refine EW.aload_n dX6_readPart_41 rfl rfl ?_
    refine EC.get (k := 5) f_X6_9 dX6_readPart_42 (by decide) rfl rfl ?_
    refine EW.aload_n dX6_readPart_45 rfl rfl ?_
    refine EC.get (k := 5) f_X6_22 dX6_readPart_46 (by decide) rfl rfl ?_
    refine EW.top atS_2 ?_
    refine EC.callV (bc := 0) (bs := 0) (mc' := 0) (ms' := 0) (k := 1) (C_atx hl 0 (atS s31 (b)) n tx (J31.at).1 (b) (by omega)) mfX0_at l_X6_29 mvX0_at (by omega) dX6_readPart_49 rfl rfl (by decide) rfl rfl rfl (Nat.le_of_ble_eq_true rfl) (fun v49 s49 q49 => ?_) (fun _ _ q => nomatch q.1)
    obtain ⟨e49, h49⟩ := q49; cases e49; replace h49 := h49.symm; subst h49
    refine EW.callS (bc := 0) (bs := 0) (mc' := 0) (ms' := 0) (C_sgE hl _ 0 (atS s31 (b)) (tx (b)) (hT4 _)) mfX6_signBehind rfl l_X6_75 mvX6_signBehind (by omega) dX6_readPart_52 rfl rfl (Nat.le_of_ble_eq_true rfl) (fun v52 s52 q52 => ?_) (fun _ _ q => nomatch q.1)
    obtain ⟨e52, h52⟩ := q52; cases e52; replace h52 := h52.symm; subst h52
    refine EW.top (y := nI 0) (by rw [hE]) ?_
    refine EW.istore dX6_readPart_55 (by decide) ?_
    refine EW.iload dX6_readPart_57 rfl ?_
    refine EW.if_eq 85 dX6_readPart_59 (by decide) (fun c59 => ?_) (fun c59 => ?_)
    · refine EW.iload_n dX6_readPart_85 rfl rfl ?_
      refine EW.if_ne 93 dX6_readPart_86 (by decide) (fun c86 => ?_) (fun c86 => ?_)
      · exact absurd c86 (by decide +kernel)
      · refine EW.aload_n dX6_readPart_89 rfl rfl ?_
        refine EW.goto 104 dX6_readPart_90 (by decide) ?_
        refine EW.aret (r := some p31) rfl dX6_readPart_104 ?_
        rw [sgn0 hB, sgn0 hE]; exact ⟨qs31, F31.mv b, p31, rfl, hl31, np31, hp31, hx31⟩
    · exact absurd c59 (by decide +kernel)
  · exact absurd c16 (by decide +kernel)
set_option maxHeartbeats 4000000 in
theorem C_part0S1 (hl : l.stackTraces = false) (s : CSt) (x : Nat) (ps : List Nat) (a : Nat) (hRJ : RJ n tx s x ps) (ha : a ≤ n) (dp : Nat) (hB : sB (tx a) = 0) (dd : Nat) (c9 m9 : Nat) (t : Ex) (b : Nat) (hbn : b ≤ n) (wt : wf t) (hE : ¬ sE (tx b) = 0) (hC : MtW (IC cy ax hp0) l D cy base mX6_readUnit (dd - 1) c9 m9 [.ref (ax 5), .int (nI dp)] (atS s (a)) (rdQ s x ps (some t, b))) (mc ms : Nat) (hdd : 5 ≤ dd) (hmc : 1 + c9 ≤ mc) (hms : 8 + m9 ≤ ms) : MtW (IC cy ax hp0) l D cy base mX6_readPart dd mc ms [.ref (ax 5), .int (nI dp)] (atS s a) (rdQ s x ps (some (sgn (sB (tx a)) (sgn (sE (tx b)) t)), b + 1)) := by
  refine MtW.of hl mfX6_readPart rfl (Nat.le_of_ble_eq_true rfl) ?_
  have hn24 := hRJ.1.2.1
  have hT4 := hRJ.1.2.2.2.1
  obtain ⟨e9, he, -⟩ := hRJ.2.2.1
  have b0 := hT4 a
  have bb0 := hT4 b
  have sb0 := sB_lt (tx a)
  have se0 := sE_lt (tx b)
  refine EW.more (bc' := 1 + c9) (bs' := 8 + m9) (by omega) (by omega) ?_
  refine EW.aload_n dX6_readPart_0 rfl rfl ?_
  refine EC.get (k := 5) f_X6_9 dX6_readPart_1 (by decide) rfl rfl ?_
  refine EW.aload_n dX6_readPart_4 rfl rfl ?_
  refine EC.get (k := 5) f_X6_22 dX6_readPart_5 (by decide) rfl rfl ?_
  refine EW.top atS_2 ?_
  refine EC.callV (bc := (1 + c9)) (bs := (8 + m9)) (mc' := 0) (ms' := 0) (k := 1) (C_atx hl 0 (atS s (a)) n tx (hRJ.at).1 (a) (by omega)) mfX0_at l_X6_29 mvX0_at (by omega) dX6_readPart_8 rfl rfl (by decide) rfl rfl rfl (Nat.le_of_ble_eq_true rfl) (fun v8 s8 q8 => ?_) (fun _ _ q => nomatch q.1)
  obtain ⟨e8, h8⟩ := q8; cases e8; replace h8 := h8.symm; subst h8
  refine EW.callS (bc := (1 + c9)) (bs := (8 + m9)) (mc' := 0) (ms' := 0) (C_sgB hl _ 0 (atS s (a)) (tx (a)) (hT4 _)) mfX6_signBefore rfl l_X6_68 mvX6_signBefore (by omega) dX6_readPart_11 rfl rfl (Nat.le_of_ble_eq_true rfl) (fun v11 s11 q11 => ?_) (fun _ _ q => nomatch q.1)
  obtain ⟨e11, h11⟩ := q11; cases e11; replace h11 := h11.symm; subst h11
  refine EW.top (y := nI 0) (by rw [hB]) ?_
  refine EW.istore_n dX6_readPart_14 rfl (by decide) ?_
  refine EW.iload_n dX6_readPart_15 rfl rfl ?_
  refine EW.if_eq 29 dX6_readPart_16 (by decide) (fun c16 => ?_) (fun c16 => ?_)
  · refine EW.aload_n dX6_readPart_29 rfl rfl ?_
    refine EW.iload_n dX6_readPart_30 rfl rfl ?_
    refine EC.rdS (bc := 1) (bs := 8) (mc' := c9) (ms' := m9) (hC) mfX6_readUnit l_X6_72 mvX6_readUnit (by omega) dX6_readPart_31 rfl rfl rfl rfl (Nat.le_of_ble_eq_true rfl) (fun s31 qs31 p31 np31 F31 hl31 hp31 hx31 => ?_)
    refine EW.eqs F31.at ?_
    have J31 := F31.rj hRJ
    obtain ⟨e31, he31, -⟩ := J31.2.2.1
    have N31 := nd_r F31.2.2.2.2.2.2.2.1
    refine EW.astore_n dX6_readPart_34 rfl (by decide) ?_
    refine EW.aload_n dX6_readPart_35 rfl rfl ?_
    refine EW.ifnonnull (r := some p31) 41 dX6_readPart_36 (by decide) (fun _ _ => ?_) (fun h => nomatch h)
    refine EW.aload_n dX6_readPart_41 rfl rfl ?_
    refine EC.get (k := 5) f_X6_9 dX6_readPart_42 (by decide) rfl rfl ?_
    refine EW.aload_n dX6_readPart_45 rfl rfl ?_
    refine EC.get (k := 5) f_X6_22 dX6_readPart_46 (by decide) rfl rfl ?_
    refine EW.top atS_2 ?_
    refine EC.callV (bc := 1) (bs := 8) (mc' := 0) (ms' := 0) (k := 1) (C_atx hl 0 (atS s31 (b)) n tx (J31.at).1 (b) (by omega)) mfX0_at l_X6_29 mvX0_at (by omega) dX6_readPart_49 rfl rfl (by decide) rfl rfl rfl (Nat.le_of_ble_eq_true rfl) (fun v49 s49 q49 => ?_) (fun _ _ q => nomatch q.1)
    obtain ⟨e49, h49⟩ := q49; cases e49; replace h49 := h49.symm; subst h49
    refine EW.callS (bc := 1) (bs := 8) (mc' := 0) (ms' := 0) (C_sgE hl _ 0 (atS s31 (b)) (tx (b)) (hT4 _)) mfX6_signBehind rfl l_X6_75 mvX6_signBehind (by omega) dX6_readPart_52 rfl rfl (Nat.le_of_ble_eq_true rfl) (fun v52 s52 q52 => ?_) (fun _ _ q => nomatch q.1)
    obtain ⟨e52, h52⟩ := q52; cases e52; replace h52 := h52.symm; subst h52
    refine EW.istore dX6_readPart_55 (by decide) ?_
    refine EW.iload dX6_readPart_57 rfl ?_
    refine EW.if_eq 85 dX6_readPart_59 (by decide) (fun c59 => ?_) (fun c59 => ?_)
    · have c59 : sE (tx b) = 0 := (nI_eq0 (by omega)).mp c59; exact absurd c59 hE
    · have c59 : ¬ sE (tx b) = 0 := fun h => c59 ((nI_eq0 (by omega)).mpr h)
      refine EW.aload_n dX6_readPart_62 rfl rfl ?_
      refine EW.dup dX6_readPart_63 rfl ?_
      refine EC.get (k := 5) f_X6_22 dX6_readPart_64 (by decide) rfl rfl ?_
      refine EW.top atS_2 ?_
      refine EW.ic 1 dX6_readPart_67 ?_
      refine EW.iadd dX6_readPart_68 ?_
      refine EW.top (nI_add _ _) ?_
      refine EC.put2 f_X6_22 dX6_readPart_69 ?_
      refine EW.eqs (s' := atS s31 (b + 1)) atS_at ?_
      refine EW.aload_n dX6_readPart_72 rfl rfl ?_
      refine EC.get (k := 5) f_X6_18 dX6_readPart_73 (by decide) rfl rfl ?_
      refine EW.rf J31.2.1 ?_
      refine EW.iload dX6_readPart_76 rfl ?_
      refine EW.ic 0 dX6_readPart_78 ?_
      refine EW.ic 0 dX6_readPart_79 ?_
      refine EW.aload_n dX6_readPart_80 rfl rfl ?_
      refine EC.callE (bc := 0) (bs := 0) (mc' := 1) (ms' := 8) (C_addS hl 0 (b + 1) s31 x (ps ++ qs31) J31 (nI (sE (tx b))) (nI (0)) (nI (0)) p31) mfX1_add l_X6_58 mvX1_add (by omega) dX6_readPart_81 rfl rfl he31 rfl rfl (Nat.le_of_ble_eq_true rfl) (fun v81 s81 q81 => ?_) (fun _ _ q => by obtain ⟨_, e, _⟩ := q; cases e)
      obtain ⟨a81, e81, F81, n81⟩ := q81; cases e81
      refine EW.eqs F81.at ?_
      have J81 := F81.rj J31
      obtain ⟨e81, he81, -⟩ := J81.2.2.1
      refine EW.astore_n dX6_readPart_84 rfl (by decide) ?_
      refine EW.iload_n dX6_readPart_85 rfl rfl ?_
      refine EW.if_ne 93 dX6_readPart_86 (by decide) (fun c86 => ?_) (fun c86 => ?_)
      · exact absurd c86 (by decide +kernel)
      · refine EW.aload_n dX6_readPart_89 rfl rfl ?_
        refine EW.goto 104 dX6_readPart_90 (by decide) ?_
        refine EW.aret (r := some a81) rfl dX6_readPart_104 ?_
        rw [sgn0 hB]; exact ⟨qs31 ++ [a81], F31.tr (F81.mv (b + 1)), a81, rfl, lay_sgn (F81.mv (b + 1)) wt N31 hl31 hE n81, _, n81, rfl⟩
  · exact absurd c16 (by decide +kernel)
set_option maxHeartbeats 4000000 in
theorem C_part1N0 (hl : l.stackTraces = false) (s : CSt) (x : Nat) (ps : List Nat) (a : Nat) (hRJ : RJ n tx s x ps) (ha : a ≤ n) (dp : Nat) (hB : ¬ sB (tx a) = 0) (dd : Nat) (c9 m9 : Nat) (b : Nat) (hbn : b ≤ n) (hC : MtW (IC cy ax hp0) l D cy base mX6_readUnit (dd - 1) c9 m9 [.ref (ax 5), .int (nI dp)] (atS s (a + 1)) (rdQ s x ps (none, b))) (mc ms : Nat) (hdd : 5 ≤ dd) (hmc : 0 + c9 ≤ mc) (hms : 0 + m9 ≤ ms) : MtW (IC cy ax hp0) l D cy base mX6_readPart dd mc ms [.ref (ax 5), .int (nI dp)] (atS s a) (rdQ s x ps (none, b)) := by
  refine MtW.of hl mfX6_readPart rfl (Nat.le_of_ble_eq_true rfl) ?_
  have hn24 := hRJ.1.2.1
  have hT4 := hRJ.1.2.2.2.1
  obtain ⟨e9, he, -⟩ := hRJ.2.2.1
  have b0 := hT4 a
  have bb0 := hT4 b
  have sb0 := sB_lt (tx a)
  have se0 := sE_lt (tx b)
  refine EW.more (bc' := 0 + c9) (bs' := 0 + m9) (by omega) (by omega) ?_
  refine EW.aload_n dX6_readPart_0 rfl rfl ?_
  refine EC.get (k := 5) f_X6_9 dX6_readPart_1 (by decide) rfl rfl ?_
  refine EW.aload_n dX6_readPart_4 rfl rfl ?_
  refine EC.get (k := 5) f_X6_22 dX6_readPart_5 (by decide) rfl rfl ?_
  refine EW.top atS_2 ?_
  refine EC.callV (bc := (0 + c9)) (bs := (0 + m9)) (mc' := 0) (ms' := 0) (k := 1) (C_atx hl 0 (atS s (a)) n tx (hRJ.at).1 (a) (by omega)) mfX0_at l_X6_29 mvX0_at (by omega) dX6_readPart_8 rfl rfl (by decide) rfl rfl rfl (Nat.le_of_ble_eq_true rfl) (fun v8 s8 q8 => ?_) (fun _ _ q => nomatch q.1)
  obtain ⟨e8, h8⟩ := q8; cases e8; replace h8 := h8.symm; subst h8
  refine EW.callS (bc := (0 + c9)) (bs := (0 + m9)) (mc' := 0) (ms' := 0) (C_sgB hl _ 0 (atS s (a)) (tx (a)) (hT4 _)) mfX6_signBefore rfl l_X6_68 mvX6_signBefore (by omega) dX6_readPart_11 rfl rfl (Nat.le_of_ble_eq_true rfl) (fun v11 s11 q11 => ?_) (fun _ _ q => nomatch q.1)
  obtain ⟨e11, h11⟩ := q11; cases e11; replace h11 := h11.symm; subst h11
  refine EW.istore_n dX6_readPart_14 rfl (by decide) ?_
  refine EW.iload_n dX6_readPart_15 rfl rfl ?_
  refine EW.if_eq 29 dX6_readPart_16 (by decide) (fun c16 => ?_) (fun c16 => ?_)
  · have c16 : sB (tx a) = 0 := (nI_eq0 (by omega)).mp c16; exact absurd c16 hB
  · have c16 : ¬ sB (tx a) = 0 := fun h => c16 ((nI_eq0 (by omega)).mpr h)
    refine EW.aload_n dX6_readPart_19 rfl rfl ?_
    refine EW.dup dX6_readPart_20 rfl ?_
    refine EC.get (k := 5) f_X6_22 dX6_readPart_21 (by decide) rfl rfl ?_
    refine EW.top atS_2 ?_
    refine EW.ic 1 dX6_readPart_24 ?_
    refine EW.iadd dX6_readPart_25 ?_
    refine EW.top (nI_add _ _) ?_
    refine EC.put2 f_X6_22 dX6_readPart_26 ?_
    refine EW.eqs (s' := atS s (a + 1)) atS_at ?_
    refine EW.aload_n dX6_readPart_29 rfl rfl ?_
    refine EW.iload_n dX6_readPart_30 rfl rfl ?_
    refine EC.rdN (bc := 0) (bs := 0) (mc' := c9) (ms' := m9) (hC) mfX6_readUnit l_X6_72 mvX6_readUnit (by omega) dX6_readPart_31 rfl rfl rfl rfl (Nat.le_of_ble_eq_true rfl) (fun s31 qs31 F31 => ?_)
    refine EW.eqs F31.at ?_
    have J31 := F31.rj hRJ
    obtain ⟨e31, he31, -⟩ := J31.2.2.1
    refine EW.astoreq_n dX6_readPart_34 rfl (by decide) ?_
    refine EW.aloadq_n dX6_readPart_35 rfl rfl ?_
    refine EW.ifnonnull (r := none) 41 dX6_readPart_36 (by decide) (fun _ h => nomatch h) (fun _ => ?_)
    refine EW.null dX6_readPart_39 ?_
    refine EW.aret (r := none) rfl dX6_readPart_40 ?_
    exact ⟨qs31, F31.mv b, rfl⟩
set_option maxHeartbeats 4000000 in
theorem C_part1S0 (hl : l.stackTraces = false) (s : CSt) (x : Nat) (ps : List Nat) (a : Nat) (hRJ : RJ n tx s x ps) (ha : a ≤ n) (dp : Nat) (hB : ¬ sB (tx a) = 0) (dd : Nat) (c9 m9 : Nat) (t : Ex) (b : Nat) (hbn : b ≤ n) (wt : wf t) (hE : sE (tx b) = 0) (hC : MtW (IC cy ax hp0) l D cy base mX6_readUnit (dd - 1) c9 m9 [.ref (ax 5), .int (nI dp)] (atS s (a + 1)) (rdQ s x ps (some t, b))) (mc ms : Nat) (hdd : 5 ≤ dd) (hmc : 1 + c9 ≤ mc) (hms : 8 + m9 ≤ ms) : MtW (IC cy ax hp0) l D cy base mX6_readPart dd mc ms [.ref (ax 5), .int (nI dp)] (atS s a) (rdQ s x ps (some (sgn (sB (tx a)) (sgn (sE (tx b)) t)), b)) := by
  refine MtW.of hl mfX6_readPart rfl (Nat.le_of_ble_eq_true rfl) ?_
  have hn24 := hRJ.1.2.1
  have hT4 := hRJ.1.2.2.2.1
  obtain ⟨e9, he, -⟩ := hRJ.2.2.1
  have b0 := hT4 a
  have bb0 := hT4 b
  have sb0 := sB_lt (tx a)
  have se0 := sE_lt (tx b)
  refine EW.more (bc' := 1 + c9) (bs' := 8 + m9) (by omega) (by omega) ?_
  refine EW.aload_n dX6_readPart_0 rfl rfl ?_
  refine EC.get (k := 5) f_X6_9 dX6_readPart_1 (by decide) rfl rfl ?_
  refine EW.aload_n dX6_readPart_4 rfl rfl ?_
  refine EC.get (k := 5) f_X6_22 dX6_readPart_5 (by decide) rfl rfl ?_
  refine EW.top atS_2 ?_
  refine EC.callV (bc := (1 + c9)) (bs := (8 + m9)) (mc' := 0) (ms' := 0) (k := 1) (C_atx hl 0 (atS s (a)) n tx (hRJ.at).1 (a) (by omega)) mfX0_at l_X6_29 mvX0_at (by omega) dX6_readPart_8 rfl rfl (by decide) rfl rfl rfl (Nat.le_of_ble_eq_true rfl) (fun v8 s8 q8 => ?_) (fun _ _ q => nomatch q.1)
  obtain ⟨e8, h8⟩ := q8; cases e8; replace h8 := h8.symm; subst h8
  refine EW.callS (bc := (1 + c9)) (bs := (8 + m9)) (mc' := 0) (ms' := 0) (C_sgB hl _ 0 (atS s (a)) (tx (a)) (hT4 _)) mfX6_signBefore rfl l_X6_68 mvX6_signBefore (by omega) dX6_readPart_11 rfl rfl (Nat.le_of_ble_eq_true rfl) (fun v11 s11 q11 => ?_) (fun _ _ q => nomatch q.1)
  obtain ⟨e11, h11⟩ := q11; cases e11; replace h11 := h11.symm; subst h11
  refine EW.istore_n dX6_readPart_14 rfl (by decide) ?_
  refine EW.iload_n dX6_readPart_15 rfl rfl ?_
  refine EW.if_eq 29 dX6_readPart_16 (by decide) (fun c16 => ?_) (fun c16 => ?_)
  · have c16 : sB (tx a) = 0 := (nI_eq0 (by omega)).mp c16; exact absurd c16 hB
  · have c16 : ¬ sB (tx a) = 0 := fun h => c16 ((nI_eq0 (by omega)).mpr h)
    refine EW.aload_n dX6_readPart_19 rfl rfl ?_
    refine EW.dup dX6_readPart_20 rfl ?_
    refine EC.get (k := 5) f_X6_22 dX6_readPart_21 (by decide) rfl rfl ?_
    refine EW.top atS_2 ?_
    refine EW.ic 1 dX6_readPart_24 ?_
    refine EW.iadd dX6_readPart_25 ?_
    refine EW.top (nI_add _ _) ?_
    refine EC.put2 f_X6_22 dX6_readPart_26 ?_
    refine EW.eqs (s' := atS s (a + 1)) atS_at ?_
    refine EW.aload_n dX6_readPart_29 rfl rfl ?_
    refine EW.iload_n dX6_readPart_30 rfl rfl ?_
    refine EC.rdS (bc := 1) (bs := 8) (mc' := c9) (ms' := m9) (hC) mfX6_readUnit l_X6_72 mvX6_readUnit (by omega) dX6_readPart_31 rfl rfl rfl rfl (Nat.le_of_ble_eq_true rfl) (fun s31 qs31 p31 np31 F31 hl31 hp31 hx31 => ?_)
    refine EW.eqs F31.at ?_
    have J31 := F31.rj hRJ
    obtain ⟨e31, he31, -⟩ := J31.2.2.1
    have N31 := nd_r F31.2.2.2.2.2.2.2.1
    refine EW.astore_n dX6_readPart_34 rfl (by decide) ?_
    refine EW.aload_n dX6_readPart_35 rfl rfl ?_
    refine EW.ifnonnull (r := some p31) 41 dX6_readPart_36 (by decide) (fun _ _ => ?_) (fun h => nomatch h)
    refine EW.aload_n dX6_readPart_41 rfl rfl ?_
    refine EC.get (k := 5) f_X6_9 dX6_readPart_42 (by decide) rfl rfl ?_
    refine EW.aload_n dX6_readPart_45 rfl rfl ?_
    refine EC.get (k := 5) f_X6_22 dX6_readPart_46 (by decide) rfl rfl ?_
    refine EW.top atS_2 ?_
    refine EC.callV (bc := 1) (bs := 8) (mc' := 0) (ms' := 0) (k := 1) (C_atx hl 0 (atS s31 (b)) n tx (J31.at).1 (b) (by omega)) mfX0_at l_X6_29 mvX0_at (by omega) dX6_readPart_49 rfl rfl (by decide) rfl rfl rfl (Nat.le_of_ble_eq_true rfl) (fun v49 s49 q49 => ?_) (fun _ _ q => nomatch q.1)
    obtain ⟨e49, h49⟩ := q49; cases e49; replace h49 := h49.symm; subst h49
    refine EW.callS (bc := 1) (bs := 8) (mc' := 0) (ms' := 0) (C_sgE hl _ 0 (atS s31 (b)) (tx (b)) (hT4 _)) mfX6_signBehind rfl l_X6_75 mvX6_signBehind (by omega) dX6_readPart_52 rfl rfl (Nat.le_of_ble_eq_true rfl) (fun v52 s52 q52 => ?_) (fun _ _ q => nomatch q.1)
    obtain ⟨e52, h52⟩ := q52; cases e52; replace h52 := h52.symm; subst h52
    refine EW.top (y := nI 0) (by rw [hE]) ?_
    refine EW.istore dX6_readPart_55 (by decide) ?_
    refine EW.iload dX6_readPart_57 rfl ?_
    refine EW.if_eq 85 dX6_readPart_59 (by decide) (fun c59 => ?_) (fun c59 => ?_)
    · refine EW.iload_n dX6_readPart_85 rfl rfl ?_
      refine EW.if_ne 93 dX6_readPart_86 (by decide) (fun c86 => ?_) (fun c86 => ?_)
      · have c86 : ¬ sB (tx a) = 0 := fun h => c86 ((nI_eq0 (by omega)).mpr h)
        refine EW.aload_n dX6_readPart_93 rfl rfl ?_
        refine EC.get (k := 5) f_X6_18 dX6_readPart_94 (by decide) rfl rfl ?_
        refine EW.rf J31.2.1 ?_
        refine EW.iload_n dX6_readPart_97 rfl rfl ?_
        refine EW.ic 0 dX6_readPart_98 ?_
        refine EW.ic 0 dX6_readPart_99 ?_
        refine EW.aload_n dX6_readPart_100 rfl rfl ?_
        refine EC.callE (bc := 0) (bs := 0) (mc' := 1) (ms' := 8) (C_addS hl 0 (b) s31 x (ps ++ qs31) J31 (nI (sB (tx a))) (nI (0)) (nI (0)) p31) mfX1_add l_X6_58 mvX1_add (by omega) dX6_readPart_101 rfl rfl he31 rfl rfl (Nat.le_of_ble_eq_true rfl) (fun v101 s101 q101 => ?_) (fun _ _ q => by obtain ⟨_, e, _⟩ := q; cases e)
        obtain ⟨a101, e101, F101, n101⟩ := q101; cases e101
        refine EW.eqs F101.at ?_
        have J101 := F101.rj J31
        obtain ⟨e101, he101, -⟩ := J101.2.2.1
        refine EW.aret (r := some a101) rfl dX6_readPart_104 ?_
        rw [sgn0 hE]; exact ⟨qs31 ++ [a101], F31.tr (F101.mv b), a101, rfl, lay_sgn (F101.mv b) wt N31 hl31 hB n101, _, n101, rfl⟩
      · have c86 : sB (tx a) = 0 := (nI_eq0 (by omega)).mp c86; exact absurd c86 hB
    · exact absurd c59 (by decide +kernel)
set_option maxHeartbeats 4000000 in
theorem C_part1S1 (hl : l.stackTraces = false) (s : CSt) (x : Nat) (ps : List Nat) (a : Nat) (hRJ : RJ n tx s x ps) (ha : a ≤ n) (dp : Nat) (hB : ¬ sB (tx a) = 0) (dd : Nat) (c9 m9 : Nat) (t : Ex) (b : Nat) (hbn : b ≤ n) (wt : wf t) (hE : ¬ sE (tx b) = 0) (hC : MtW (IC cy ax hp0) l D cy base mX6_readUnit (dd - 1) c9 m9 [.ref (ax 5), .int (nI dp)] (atS s (a + 1)) (rdQ s x ps (some t, b))) (mc ms : Nat) (hdd : 5 ≤ dd) (hmc : 2 + c9 ≤ mc) (hms : 16 + m9 ≤ ms) : MtW (IC cy ax hp0) l D cy base mX6_readPart dd mc ms [.ref (ax 5), .int (nI dp)] (atS s a) (rdQ s x ps (some (sgn (sB (tx a)) (sgn (sE (tx b)) t)), b + 1)) := by
  refine MtW.of hl mfX6_readPart rfl (Nat.le_of_ble_eq_true rfl) ?_
  have hn24 := hRJ.1.2.1
  have hT4 := hRJ.1.2.2.2.1
  obtain ⟨e9, he, -⟩ := hRJ.2.2.1
  have b0 := hT4 a
  have bb0 := hT4 b
  have sb0 := sB_lt (tx a)
  have se0 := sE_lt (tx b)
  refine EW.more (bc' := 2 + c9) (bs' := 16 + m9) (by omega) (by omega) ?_
  refine EW.aload_n dX6_readPart_0 rfl rfl ?_
  refine EC.get (k := 5) f_X6_9 dX6_readPart_1 (by decide) rfl rfl ?_
  refine EW.aload_n dX6_readPart_4 rfl rfl ?_
  refine EC.get (k := 5) f_X6_22 dX6_readPart_5 (by decide) rfl rfl ?_
  refine EW.top atS_2 ?_
  refine EC.callV (bc := (2 + c9)) (bs := (16 + m9)) (mc' := 0) (ms' := 0) (k := 1) (C_atx hl 0 (atS s (a)) n tx (hRJ.at).1 (a) (by omega)) mfX0_at l_X6_29 mvX0_at (by omega) dX6_readPart_8 rfl rfl (by decide) rfl rfl rfl (Nat.le_of_ble_eq_true rfl) (fun v8 s8 q8 => ?_) (fun _ _ q => nomatch q.1)
  obtain ⟨e8, h8⟩ := q8; cases e8; replace h8 := h8.symm; subst h8
  refine EW.callS (bc := (2 + c9)) (bs := (16 + m9)) (mc' := 0) (ms' := 0) (C_sgB hl _ 0 (atS s (a)) (tx (a)) (hT4 _)) mfX6_signBefore rfl l_X6_68 mvX6_signBefore (by omega) dX6_readPart_11 rfl rfl (Nat.le_of_ble_eq_true rfl) (fun v11 s11 q11 => ?_) (fun _ _ q => nomatch q.1)
  obtain ⟨e11, h11⟩ := q11; cases e11; replace h11 := h11.symm; subst h11
  refine EW.istore_n dX6_readPart_14 rfl (by decide) ?_
  refine EW.iload_n dX6_readPart_15 rfl rfl ?_
  refine EW.if_eq 29 dX6_readPart_16 (by decide) (fun c16 => ?_) (fun c16 => ?_)
  · have c16 : sB (tx a) = 0 := (nI_eq0 (by omega)).mp c16; exact absurd c16 hB
  · have c16 : ¬ sB (tx a) = 0 := fun h => c16 ((nI_eq0 (by omega)).mpr h)
    refine EW.aload_n dX6_readPart_19 rfl rfl ?_
    refine EW.dup dX6_readPart_20 rfl ?_
    refine EC.get (k := 5) f_X6_22 dX6_readPart_21 (by decide) rfl rfl ?_
    refine EW.top atS_2 ?_
    refine EW.ic 1 dX6_readPart_24 ?_
    refine EW.iadd dX6_readPart_25 ?_
    refine EW.top (nI_add _ _) ?_
    refine EC.put2 f_X6_22 dX6_readPart_26 ?_
    refine EW.eqs (s' := atS s (a + 1)) atS_at ?_
    refine EW.aload_n dX6_readPart_29 rfl rfl ?_
    refine EW.iload_n dX6_readPart_30 rfl rfl ?_
    refine EC.rdS (bc := 2) (bs := 16) (mc' := c9) (ms' := m9) (hC) mfX6_readUnit l_X6_72 mvX6_readUnit (by omega) dX6_readPart_31 rfl rfl rfl rfl (Nat.le_of_ble_eq_true rfl) (fun s31 qs31 p31 np31 F31 hl31 hp31 hx31 => ?_)
    refine EW.eqs F31.at ?_
    have J31 := F31.rj hRJ
    obtain ⟨e31, he31, -⟩ := J31.2.2.1
    have N31 := nd_r F31.2.2.2.2.2.2.2.1
    refine EW.astore_n dX6_readPart_34 rfl (by decide) ?_
    refine EW.aload_n dX6_readPart_35 rfl rfl ?_
    refine EW.ifnonnull (r := some p31) 41 dX6_readPart_36 (by decide) (fun _ _ => ?_) (fun h => nomatch h)
    refine EW.aload_n dX6_readPart_41 rfl rfl ?_
    refine EC.get (k := 5) f_X6_9 dX6_readPart_42 (by decide) rfl rfl ?_
    refine EW.aload_n dX6_readPart_45 rfl rfl ?_
    refine EC.get (k := 5) f_X6_22 dX6_readPart_46 (by decide) rfl rfl ?_
    refine EW.top atS_2 ?_
    refine EC.callV (bc := 2) (bs := 16) (mc' := 0) (ms' := 0) (k := 1) (C_atx hl 0 (atS s31 (b)) n tx (J31.at).1 (b) (by omega)) mfX0_at l_X6_29 mvX0_at (by omega) dX6_readPart_49 rfl rfl (by decide) rfl rfl rfl (Nat.le_of_ble_eq_true rfl) (fun v49 s49 q49 => ?_) (fun _ _ q => nomatch q.1)
    obtain ⟨e49, h49⟩ := q49; cases e49; replace h49 := h49.symm; subst h49
    refine EW.callS (bc := 2) (bs := 16) (mc' := 0) (ms' := 0) (C_sgE hl _ 0 (atS s31 (b)) (tx (b)) (hT4 _)) mfX6_signBehind rfl l_X6_75 mvX6_signBehind (by omega) dX6_readPart_52 rfl rfl (Nat.le_of_ble_eq_true rfl) (fun v52 s52 q52 => ?_) (fun _ _ q => nomatch q.1)
    obtain ⟨e52, h52⟩ := q52; cases e52; replace h52 := h52.symm; subst h52
    refine EW.istore dX6_readPart_55 (by decide) ?_
    refine EW.iload dX6_readPart_57 rfl ?_
    refine EW.if_eq 85 dX6_readPart_59 (by decide) (fun c59 => ?_) (fun c59 => ?_)
    · have c59 : sE (tx b) = 0 := (nI_eq0 (by omega)).mp c59; exact absurd c59 hE
    · have c59 : ¬ sE (tx b) = 0 := fun h => c59 ((nI_eq0 (by omega)).mpr h)
      refine EW.aload_n dX6_readPart_62 rfl rfl ?_
      refine EW.dup dX6_readPart_63 rfl ?_
      refine EC.get (k := 5) f_X6_22 dX6_readPart_64 (by decide) rfl rfl ?_
      refine EW.top atS_2 ?_
      refine EW.ic 1 dX6_readPart_67 ?_
      refine EW.iadd dX6_readPart_68 ?_
      refine EW.top (nI_add _ _) ?_
      refine EC.put2 f_X6_22 dX6_readPart_69 ?_
      refine EW.eqs (s' := atS s31 (b + 1)) atS_at ?_
      refine EW.aload_n dX6_readPart_72 rfl rfl ?_
      refine EC.get (k := 5) f_X6_18 dX6_readPart_73 (by decide) rfl rfl ?_
      refine EW.rf J31.2.1 ?_
      refine EW.iload dX6_readPart_76 rfl ?_
      refine EW.ic 0 dX6_readPart_78 ?_
      refine EW.ic 0 dX6_readPart_79 ?_
      refine EW.aload_n dX6_readPart_80 rfl rfl ?_
      refine EC.callE (bc := 1) (bs := 8) (mc' := 1) (ms' := 8) (C_addS hl 0 (b + 1) s31 x (ps ++ qs31) J31 (nI (sE (tx b))) (nI (0)) (nI (0)) p31) mfX1_add l_X6_58 mvX1_add (by omega) dX6_readPart_81 rfl rfl he31 rfl rfl (Nat.le_of_ble_eq_true rfl) (fun v81 s81 q81 => ?_) (fun _ _ q => by obtain ⟨_, e, _⟩ := q; cases e)
      obtain ⟨a81, e81, F81, n81⟩ := q81; cases e81
      refine EW.eqs F81.at ?_
      have J81 := F81.rj J31
      obtain ⟨e81, he81, -⟩ := J81.2.2.1
      refine EW.astore_n dX6_readPart_84 rfl (by decide) ?_
      refine EW.iload_n dX6_readPart_85 rfl rfl ?_
      refine EW.if_ne 93 dX6_readPart_86 (by decide) (fun c86 => ?_) (fun c86 => ?_)
      · have c86 : ¬ sB (tx a) = 0 := fun h => c86 ((nI_eq0 (by omega)).mpr h)
        refine EW.aload_n dX6_readPart_93 rfl rfl ?_
        refine EC.get (k := 5) f_X6_18 dX6_readPart_94 (by decide) rfl rfl ?_
        refine EW.rf J81.2.1 ?_
        refine EW.iload_n dX6_readPart_97 rfl rfl ?_
        refine EW.ic 0 dX6_readPart_98 ?_
        refine EW.ic 0 dX6_readPart_99 ?_
        refine EW.aload_n dX6_readPart_100 rfl rfl ?_
        refine EC.callE (bc := 0) (bs := 0) (mc' := 1) (ms' := 8) (C_addS hl 0 (b + 1) s81 x ((ps ++ qs31) ++ [a81]) J81 (nI (sB (tx a))) (nI (0)) (nI (0)) a81) mfX1_add l_X6_58 mvX1_add (by omega) dX6_readPart_101 rfl rfl he81 rfl rfl (Nat.le_of_ble_eq_true rfl) (fun v101 s101 q101 => ?_) (fun _ _ q => by obtain ⟨_, e, _⟩ := q; cases e)
        obtain ⟨a101, e101, F101, n101⟩ := q101; cases e101
        refine EW.eqs F101.at ?_
        have J101 := F101.rj J81
        obtain ⟨e101, he101, -⟩ := J101.2.2.1
        refine EW.aret (r := some a101) rfl dX6_readPart_104 ?_
        exact ⟨qs31 ++ [a81] ++ [a101], (F31.tr F81).tr (by rw [← List.append_assoc]; exact F101.mv (b + 1)), a101, rfl, lay_sgn (F101.mv (b + 1)) (wf_sgn hE wt) (nd_r (F31.tr F81).2.2.2.2.2.2.2.1) (lay_sgn F81 wt N31 hl31 hE n81) hB n101, _, n101, rfl⟩
      · have c86 : sB (tx a) = 0 := (nI_eq0 (by omega)).mp c86; exact absurd c86 hB
end C17
