section C9
def b1 (R : Rs) : Nat := match R.1 with
  | none => 1
  | some _ => 0
def b6 (R : Rs) : Nat := match R.1 with
  | none => 6
  | some _ => 0
def ocR (R : Rs) : Oc := match R.1 with
  | none => .inr "java/lang/IllegalStateException"
  | some v => .inl (some (.int (onI v)))
/-- how a call ends that works out R -/
def pst (R : Rs) : Oc → CSt → Prop := fun o s2 => o = ocR R ∧ s2 = R.2
theorem pst_ret {R : Rs} {v : Option Nat} {s : CSt} (h : R = (some v, s)) : pst R (.inl (some (.int (onI v)))) s := by
  subst h
  exact ⟨rfl, rfl⟩
theorem nI_m1 {q : Nat} (h : q < 2 ^ 31) : ¬ nI q = -1 := fun e => by
  have h1 : (nI q).toInt = (-1 : Int32).toInt := by rw [e]
  rw [nI_toInt (by omega)] at h1
  have h2 : ((-1 : Int32)).toInt = -1 := by decide +kernel
  omega
theorem bnd_id (R : Rs) : bnd R (fun q s => (some (some q), s)) (fun s => (some none, s)) = R := by
  obtain ⟨v, s⟩ := R
  rcases v with _ | _ | q <;> rfl
theorem bsz_cut {c : Option Nat} {s s1 : CSt} : bsz c (cut c (bsz c s) s1) = bsz c s := by
  cases c with
  | none => rfl
  | some c =>
    show va_up s1.2.1 10 (upd (s1.2.1 10) c (s.2.1 10 c)) 10 c = s.2.1 10 c
    rw [va_up_self, pk_us]
/-- what a place knows that throws with a text -/
def TS (own : String) (ik is ic : Nat) (cls text : String) : Prop := Bundle.fit cls = true ∧ Cond.classLink own ik cls ∈ gw ∧ Cond.initialized cls ∈ gw ∧ (own, is, text) ∈ strl ∧ (∀ w ∈ (vx_atS own ic cls ["java/lang/RuntimeException", "java/lang/Exception"]).filter goodWord, w ∈ gw) ∧ (∀ w ∈ (vx_atS own ic cls ["java/lang/RuntimeException", "java/lang/Exception"]).filter (fun w => !goodWord w), w ∈ nwl ∧ w.onTables = true) ∧ (∀ w ∈ Cond.classLink own ik cls :: Cond.initialized cls :: vx_atS own ic cls ["java/lang/RuntimeException", "java/lang/Exception"], vx_ot w = true)
theorem gw_ix {L : List Cond} (idx : List Nat) (h : (idx.map fun i => tables_1[i]?) = (L.filter goodWord).map some) : ∀ w ∈ L.filter goodWord, w ∈ gw := fun w hw => by
  have h1 : some w ∈ (L.filter goodWord).map some := List.mem_map_of_mem hw
  rw [← h] at h1
  obtain ⟨i, -, e⟩ := List.mem_map.mp h1
  exact gw_t i e (List.mem_filter.mp hw).2
def nwP (w : Cond) : Bool := match w with
  | .fieldLinkNest .. => true
  | .methodLinkNest .. => true
  | .castable .. => true
  | .declares .. => true
  | _ => false
theorem nwl_t {w : Cond} (i : Nat) (h : tables_1[i]? = some w) (hp : nwP w = true) : w ∈ nwl := List.mem_filter.mpr ⟨List.mem_append_right _ (List.mem_of_getElem? h), hp⟩
theorem nwl_ix {L : List Cond} (idx : List Nat) (h : (idx.map fun i => tables_1[i]?) = (L.filter fun w => !goodWord w).map some) (hp : ((L.filter fun w => !goodWord w).all fun w => nwP w && w.onTables) = true) : ∀ w ∈ L.filter (fun w => !goodWord w), w ∈ nwl ∧ w.onTables = true := fun w hw => by
  have h1 : some w ∈ (L.filter fun w => !goodWord w).map some := List.mem_map_of_mem hw
  rw [← h] at h1
  obtain ⟨i, -, e⟩ := List.mem_map.mp h1
  have h2 := List.all_eq_true.mp hp w hw
  rw [Bool.and_eq_true] at h2
  exact ⟨nwl_t i e h2.1, h2.2⟩
theorem ts_X3 : TS RX3 44 46 48 "java/lang/IllegalStateException" "a rule would have to be worked out too deep" := ⟨by decide +kernel, gw_t 687 (by decide +kernel) rfl, gw_t 23 (by decide +kernel) rfl, by decide +kernel, gw_ix [18, 549, 558, 563, 566, 568, 550, 551, 31, 32, 552, 557, 564, 584, 539, 585, 541, 586, 543, 553, 555, 545, 580, 581, 583, 545, 632, 633, 634, 574, 574, 575, 576, 577, 577, 578, 579, 580, 689, 622, 624, 561, 625, 626, 627, 628, 548, 547, 629] (by decide +kernel), nwl_ix [531, 533, 535, 623] (by decide +kernel) (by decide +kernel), by decide +kernel⟩
variable {cy : Nat → ClassId} {ax : Nat → Nat} {hp0 : Hp} {l : Launch} {D : va_G} {base : Nat} {n : Nat} {w : Nat → Nat} {rl : Nat → Option Ex}
theorem EW.rn {S : Type} {I : S → Hp → Prop} {M : Mth} {d bc bs pc : Nat} {lv : List (Nat × Value)} {st : List Value} {s : S} {Q : Oc → S → Prop} {r : Option Nat} (e : r = none) (k : EW I l D cy base M d bc bs pc lv (va_rf none :: st) s Q) : EW I l D cy base M d bc bs pc lv (va_rf r :: st) s Q := by
  subst e
  exact k
theorem EW.throwS {S : Type} {I : S → Hp → Prop} {M : Mth} {d bc bs pc : Nat} {lv : List (Nat × Value)} {st : List Value} {s : S} {Q : Oc → S → Prop} {cls text : String} {ik is ic : Nat} (ts : TS M.1 ik is ic cls text) (h0 : M.2.2.2.2.2 = [])
    (d0 : decode M.2.1 pc = .ok (.new ik, 3)) (d3 : decode M.2.1 (pc + 3) = .ok (.dup, 1)) (d4 : decode M.2.1 (pc + 4) = .ok (.ldc is, 2)) (d6 : decode M.2.1 (pc + 6) = .ok (.invokespecial ic, 3)) (d9 : decode M.2.1 (pc + 9) = .ok (.athrow, 1))
    (hd : 8 ≤ d) (hw : (st.map fun v => v.category).sum ≤ 8) (hq : Q (.inr cls) s) : EW I l D cy base M d (bc + 1) (bs + 6) pc lv st s Q := fun hp8 h8 =>
  E.throwS h0 ts.1 ts.2.1 ts.2.2.1 ts.2.2.2.1 ts.2.2.2.2.1 ts.2.2.2.2.2.1 ts.2.2.2.2.2.2 d0 d3 d4 d6 d9 hd hw ⟨s, hq, h8⟩
/-- a call that may throw -/
theorem EC.callR {M M' : Mth} {idx d d' n k ci pc : Nat} {lv : List (Nat × Value)} {As rest fs st : List Value} {s : CSt} {R O : Rs} (hM : MtW (IC cy ax hp0) l D cy base M' d' (b1 R) (b6 R) (.ref (ax k) :: As) s (pst R)) (mf : MF M') (ml : ML M.1 idx M') (mv : MV M' n) (hd : d' < d) (hdg : decode M.2.1 pc = .ok (.invokevirtual idx, 3)) (hst : st = As.reverse ++ .ref (ax k) :: rest) (hn : As.length = n) (hk : k < 19) (hcc : cCell cy ax s k = .inr (ci, fs)) (hc : clx[ci]?.map (fun q => q.1) = some M'.2.2.1.cls) (h0 : M'.2.2.2.2.2 = []) (hw : (rest.map fun v => v.category).sum ≤ 8) (h9 : M.2.2.2.2.2 = [])
    (hN : R.1 = none → O = (none, R.2)) (kk : ∀ v, R.1 = some v → EW (IC cy ax hp0) l D cy base M d (b1 O) (b6 O) (pc + 3) lv (.int (onI v) :: rest) R.2 (pst O)) : EW (IC cy ax hp0) l D cy base M d (b1 O) (b6 O) pc lv st s (pst O) := by
  obtain ⟨v, s1⟩ := R
  cases v with
  | none =>
    have hO := hN rfl
    subst hO
    refine EC.callV (bc := 0) (bs := 0) (mc' := 1) (ms' := 6) hM mf ml mv hd hdg hst hn hk hcc hc h0 hw (fun v s' q => nomatch q.1) (fun X s' q => ?_)
    obtain ⟨e1, e2⟩ := q
    cases e1
    subst e2
    exact EWX.out h9 ⟨rfl, rfl⟩
  | some v =>
    refine EC.callV (bc := b1 O) (bs := b6 O) (mc' := 0) (ms' := 0) hM mf ml mv hd hdg hst hn hk hcc hc h0 hw (fun v' s' q => ?_) (fun X s' q => nomatch q.1)
    obtain ⟨e1, e2⟩ := q
    cases e1
    subst e2
    exact kk v rfl

set_option maxHeartbeats 4000000 in
theorem C_bsz (hl : l.stackTraces = false) (s : CSt) (c : Option Nat) (hc : ∀ j, c = some j → j < 126) : MtW (IC cy ax hp0) l D cy base mX4_belowSize (0 + 1) 0 0 [.ref (ax 8), .int (cN c)] s (fun o s2 => o = .inl (some (.int (bsz c s))) ∧ s2 = s) := by
  cases c with
  | none => exact C_belowSizeN hl 0 s
  | some c => exact C_belowSize hl 0 s c (hc c rfl)
set_option maxHeartbeats 4000000 in
theorem C_cut (hl : l.stackTraces = false) (s : CSt) (c : Option Nat) (hc : ∀ j, c = some j → j < 126) (v : Int32) : MtW (IC cy ax hp0) l D cy base mX4_cutBelow (0 + 1) 0 0 [.ref (ax 8), .int (cN c), .int v] s (fun o s2 => o = .inl none ∧ s2 = cut c v s) := by
  cases c with
  | none => exact C_cutBelowN hl 0 s v
  | some c => exact C_cutBelow hl 0 s c (hc c rfl) v
set_option maxHeartbeats 4000000 in
theorem C_adbO (hl : l.stackTraces = false) (s : CSt) (c : Nat) (hc : c < 126) (q : Nat) (hq : q < 126) (h : ¬ (0 ≤ s.2.1 10 c ∧ s.2.1 10 c < nI 60)) : MtW (IC cy ax hp0) l D cy base mX4_addBelow (0 + 1) 0 0 [.ref (ax 8), .int (nI c), .int (nI q)] s (fun o s2 => o = .inl none ∧ s2 = adb (some c) q s) := by
  refine MtW.of hl mfX4_addBelow rfl (Nat.le_of_ble_eq_true rfl) ?_
  have hu : adb (some c) q s = (s.1, va_up s.2.1 10 (upd (s.2.1 10) c (s.2.1 10 c + nI 1)), s.2.2) := by show (s.1, va_up (if 0 ≤ s.2.1 10 c ∧ s.2.1 10 c < nI 60 then _ else s.2.1) 10 _, s.2.2) = _; rw [if_neg h]
  rw [hu]
  refine EW.iload_n dX4_addBelow_0 rfl rfl ?_
  refine EW.callS (bc := 0) (bs := 0) (mc' := 0) (ms' := 0) (C_isCell hl _ 0 s c hc) mfX4_isCell rfl l_X4_32 mvX4_isCell (by omega) dX4_addBelow_1 rfl rfl (Nat.le_of_ble_eq_true rfl) (fun v1 s1 q1 => ?_) (fun _ _ q => nomatch q.1)
  obtain ⟨e1, h1⟩ := q1; cases e1; replace h1 := h1.symm; subst h1
  refine EW.if_eq 53 dX4_addBelow_4 (by decide) (fun c4 => ?_) (fun c4 => ?_)
  · exact absurd c4 (by decide +kernel)
  · refine EW.iload_n dX4_addBelow_7 rfl rfl ?_
    refine EW.callS (bc := 0) (bs := 0) (mc' := 0) (ms' := 0) (C_isCell hl _ 0 s q hq) mfX4_isCell rfl l_X4_32 mvX4_isCell (by omega) dX4_addBelow_8 rfl rfl (Nat.le_of_ble_eq_true rfl) (fun v8 s8 q8 => ?_) (fun _ _ q => nomatch q.1)
    obtain ⟨e8, h8⟩ := q8; cases e8; replace h8 := h8.symm; subst h8
    refine EW.if_eq 53 dX4_addBelow_11 (by decide) (fun c11 => ?_) (fun c11 => ?_)
    · exact absurd c11 (by decide +kernel)
    · refine EW.aload_n dX4_addBelow_14 rfl rfl ?_
      refine EC.get (k := 8) f_X4_15 dX4_addBelow_15 (by decide) rfl rfl ?_
      refine EW.iload_n dX4_addBelow_18 rfl rfl ?_
      refine EC.ald10 (c) dX4_addBelow_19 (by omega) ?_
      refine EW.istore_n dX4_addBelow_20 rfl (by decide) ?_
      refine EW.iload_n dX4_addBelow_21 rfl rfl ?_
      refine EW.if_lt 44 dX4_addBelow_22 (by decide) (fun c22 => ?_) (fun c22 => ?_)
      · refine EW.aload_n dX4_addBelow_44 rfl rfl ?_
        refine EC.get (k := 8) f_X4_15 dX4_addBelow_45 (by decide) rfl rfl ?_
        refine EW.iload_n dX4_addBelow_48 rfl rfl ?_
        refine EW.iload_n dX4_addBelow_49 rfl rfl ?_
        refine EW.ic 1 dX4_addBelow_50 ?_
        refine EW.iadd dX4_addBelow_51 ?_
        refine EC.ast10 (c) dX4_addBelow_52 (by omega) ?_
        refine EW.vret rfl dX4_addBelow_53 ?_
        exact ⟨rfl, rfl⟩
      · refine EW.iload_n dX4_addBelow_25 rfl rfl ?_
        refine EW.bp 60 dX4_addBelow_26 ?_
        refine EW.icmp_ge 44 dX4_addBelow_28 (by decide) (fun c28 => ?_) (fun c28 => ?_)
        · refine EW.aload_n dX4_addBelow_44 rfl rfl ?_
          refine EC.get (k := 8) f_X4_15 dX4_addBelow_45 (by decide) rfl rfl ?_
          refine EW.iload_n dX4_addBelow_48 rfl rfl ?_
          refine EW.iload_n dX4_addBelow_49 rfl rfl ?_
          refine EW.ic 1 dX4_addBelow_50 ?_
          refine EW.iadd dX4_addBelow_51 ?_
          refine EC.ast10 (c) dX4_addBelow_52 (by omega) ?_
          refine EW.vret rfl dX4_addBelow_53 ?_
          exact ⟨rfl, rfl⟩
        · exact absurd ⟨Int32.not_lt.mp c22, Int32.not_le.mp c28⟩ h
theorem nI_of0 {x : Int32} (h : 0 ≤ x) : nI x.toNatClampNeg = x := by
  apply Int32.toInt_inj.mp
  have h0 : (0 : Int) ≤ x.toInt := by
    have := Int32.le_iff_toInt_le.mp h
    exact this
  have h1 := Int32.toInt_lt x
  have h2 : x.toNatClampNeg = x.toInt.toNat := rfl
  rw [nI_toInt (by omega)]
  omega
theorem nI_cl {x : Int32} {m : Nat} (h : 0 ≤ x) (h2 : x < nI m) (hm : m < 2 ^ 31 := by decide) : x.toNatClampNeg < m := by
  have h0 : (0 : Int) ≤ x.toInt := Int32.le_iff_toInt_le.mp h
  have h1 : x.toInt < (nI m).toInt := Int32.lt_iff_toInt_lt.mp h2
  rw [nI_toInt (by omega)] at h1
  have h2 : x.toNatClampNeg = x.toInt.toNat := rfl
  omega
set_option maxHeartbeats 4000000 in
theorem C_adb (hl : l.stackTraces = false) (s : CSt) (c : Option Nat) (hc : ∀ j, c = some j → j < 126) (q : Nat) (hq : q < 126) : MtW (IC cy ax hp0) l D cy base mX4_addBelow (0 + 1) 0 0 [.ref (ax 8), .int (cN c), .int (nI q)] s (fun o s2 => o = .inl none ∧ s2 = adb c q s) := by
  cases c with
  | none => exact C_addBelowN hl 0 s _
  | some c =>
    by_cases h : 0 ≤ s.2.1 10 c ∧ s.2.1 10 c < nI 60
    · have hz : s.2.1 10 c = nI (s.2.1 10 c).toNatClampNeg := (nI_of0 h.1).symm
      have hlt : (s.2.1 10 c).toNatClampNeg < 60 := nI_cl h.1 h.2
      have hu : adb (some c) q s = (s.1, va_up (if (s.2.1 10 c).toNatClampNeg < 60 then va_up s.2.1 11 (upd (s.2.1 11) (c * 60 + (s.2.1 10 c).toNatClampNeg) (nI q)) else s.2.1) 10 (upd (s.2.1 10) c (nI ((s.2.1 10 c).toNatClampNeg + 1))), s.2.2) := by
        show (s.1, va_up (if 0 ≤ s.2.1 10 c ∧ s.2.1 10 c < nI 60 then _ else s.2.1) 10 _, s.2.2) = _
        rw [if_pos h, if_pos hlt, ← nI_add, ← hz]
      rw [hu]
      exact C_addBelow hl 0 s c (hc c rfl) q _ hq hz (by omega)
    · exact C_adbO hl s c (hc c rfl) q hq h
set_option maxHeartbeats 4000000 in
theorem C_goLetter (hl : l.stackTraces = false) (p lo hi q : Nat) (s : CSt) (hMG : MG n w rl s) (n9 : ND) (hp : s.2.2.2.2.1 p = some n9) (hlo : n9.2.1 = nI (97 + lo)) (hhi : n9.2.2.1 = nI (97 + hi)) (h8 : lo ≤ 8 ∧ hi ≤ 8) (hq : q ≤ n) : MtW (IC cy ax hp0) l D cy base mX3_goLetter (0 + 1) 0 0 [.ref (ax 12), .ref p, .int (nI q)] s (fun o s2 => o = .inl (some (.int (onI (if q < n ∧ lo ≤ w q ∧ w q ≤ hi then some (q + 1) else none)))) ∧ s2 = s) := by
  refine MtW.of hl mfX3_goLetter rfl (Nat.le_of_ble_eq_true rfl) ?_
  have hn20 := hMG.2.1
  by_cases hlt : q < n
  · have hw8 := (hMG.2.2.1 q hlt).2
    refine EW.aload_n dX3_goLetter_0 rfl rfl ?_
    refine EC.get (k := 12) f_X3_15 dX3_goLetter_1 (by decide) rfl rfl ?_
    refine EW.iload_n dX3_goLetter_4 rfl rfl ?_
    refine EC.callV (bc := 0) (bs := 0) (mc' := 0) (ms' := 0) (k := 3) (C_at_in hl 0 n s hMG.1 hMG.2.1 q (by have := hMG.2.1; omega) (fun h => ⟨97 + w q, by have := (hMG.2.2.1 q h).2; omega, (hMG.2.2.1 q h).1⟩)) mfX0_at l_X3_101 mvX0_at (by omega) dX3_goLetter_5 rfl rfl (by decide) rfl rfl rfl (Nat.le_of_ble_eq_true rfl) (fun v5 s5 q5 => ?_) (fun _ _ q => nomatch q.1)
    obtain ⟨e5, h5⟩ := q5; cases e5; replace h5 := h5.symm; subst h5
    refine EW.top (y := nI (97 + w q)) (by rw [if_pos hlt]; exact (hMG.2.2.1 q hlt).1) ?_
    refine EW.istore_n dX3_goLetter_8 rfl (by decide) ?_
    refine EW.iload_n dX3_goLetter_9 rfl rfl ?_
    refine EW.aload_n dX3_goLetter_10 rfl rfl ?_
    refine EC.ndget f_X3_83 dX3_goLetter_11 hp rfl ?_
    refine EW.top hlo ?_
    refine EW.icmp_lt 31 dX3_goLetter_14 (by decide) (fun c14 => ?_) (fun c14 => ?_)
    · have c14 : 97 + w q < 97 + lo := (nI_ltI (by omega) (by omega)).mp c14
      refine EW.iconst (v := -1) dX3_goLetter_31 (by decide +kernel) ?_
      refine EW.iret rfl dX3_goLetter_32 ?_
      rw [if_neg (fun h => by omega)]; exact ⟨rfl, rfl⟩
    · have c14 : ¬ (97 + w q < 97 + lo) := fun h => c14 ((nI_ltI (by omega) (by omega)).mpr h)
      refine EW.iload_n dX3_goLetter_17 rfl rfl ?_
      refine EW.aload_n dX3_goLetter_18 rfl rfl ?_
      refine EC.ndget f_X3_107 dX3_goLetter_19 hp rfl ?_
      refine EW.top hhi ?_
      refine EW.icmp_gt 31 dX3_goLetter_22 (by decide) (fun c22 => ?_) (fun c22 => ?_)
      · have c22 : 97 + hi < 97 + w q := (nI_ltI (by omega) (by omega)).mp c22
        refine EW.iconst (v := -1) dX3_goLetter_31 (by decide +kernel) ?_
        refine EW.iret rfl dX3_goLetter_32 ?_
        rw [if_neg (fun h => by omega)]; exact ⟨rfl, rfl⟩
      · have c22 : ¬ (97 + hi < 97 + w q) := fun h => c22 ((nI_ltI (by omega) (by omega)).mpr h)
        refine EW.iload_n dX3_goLetter_25 rfl rfl ?_
        refine EW.ic 1 dX3_goLetter_26 ?_
        refine EW.iadd dX3_goLetter_27 ?_
        refine EW.top (nI_add _ _) ?_
        refine EW.goto 32 dX3_goLetter_28 (by decide) ?_
        refine EW.iret rfl dX3_goLetter_32 ?_
        rw [if_pos ⟨hlt, by omega, by omega⟩]; exact ⟨rfl, rfl⟩
  · skip
    refine EW.aload_n dX3_goLetter_0 rfl rfl ?_
    refine EC.get (k := 12) f_X3_15 dX3_goLetter_1 (by decide) rfl rfl ?_
    refine EW.iload_n dX3_goLetter_4 rfl rfl ?_
    refine EC.callV (bc := 0) (bs := 0) (mc' := 0) (ms' := 0) (k := 3) (C_at_in hl 0 n s hMG.1 hMG.2.1 q (by have := hMG.2.1; omega) (fun h => ⟨97 + w q, by have := (hMG.2.2.1 q h).2; omega, (hMG.2.2.1 q h).1⟩)) mfX0_at l_X3_101 mvX0_at (by omega) dX3_goLetter_5 rfl rfl (by decide) rfl rfl rfl (Nat.le_of_ble_eq_true rfl) (fun v5 s5 q5 => ?_) (fun _ _ q => nomatch q.1)
    obtain ⟨e5, h5⟩ := q5; cases e5; replace h5 := h5.symm; subst h5
    refine EW.top (y := nI 0) (by rw [if_neg hlt]; decide +kernel) ?_
    refine EW.istore_n dX3_goLetter_8 rfl (by decide) ?_
    refine EW.iload_n dX3_goLetter_9 rfl rfl ?_
    refine EW.aload_n dX3_goLetter_10 rfl rfl ?_
    refine EC.ndget f_X3_83 dX3_goLetter_11 hp rfl ?_
    refine EW.top hlo ?_
    refine EW.icmp_lt 31 dX3_goLetter_14 (by decide) (fun c14 => ?_) (fun c14 => ?_)
    · have c14 : 0 < 97 + lo := (nI_ltI (by omega) (by omega)).mp c14
      refine EW.iconst (v := -1) dX3_goLetter_31 (by decide +kernel) ?_
      refine EW.iret rfl dX3_goLetter_32 ?_
      rw [if_neg (fun h => by omega)]; exact ⟨rfl, rfl⟩
    · have c14 : ¬ (0 < 97 + lo) := fun h => c14 ((nI_ltI (by omega) (by omega)).mpr h); omega
end C9
