section C12
variable {cy : Nat → ClassId} {ax : Nat → Nat} {hp0 : Hp} {l : Launch} {D : va_G} {base : Nat}
theorem mm_X7 : Cond.methodLink RX7 45 Lib.Math.min.name ∈ gw ∧ Cond.static Lib.Math.min.name ∈ gw ∧ Cond.initialized "java/lang/Math" ∈ gw ∧ Cond.code Lib.Math.min.name Lib.Math.min.code 2 (some .int) ∈ gw := ⟨gw_t 757 (by decide +kernel) rfl, gw_t 222 (by decide +kernel) rfl, gw_t 13 (by decide +kernel) rfl, gw_t 223 (by decide +kernel) rfl⟩
theorem EW.mmin {S : Type} {I : S → Hp → Prop} {M : Mth} {d bc bs pc : Nat} {lv : List (Nat × Value)} {st : List Value} {s : S} {Q : Oc → S → Prop} {idx : Nat} {x y : Int32} (hl : Cond.methodLink M.1 idx Lib.Math.min.name ∈ gw ∧ Cond.static Lib.Math.min.name ∈ gw ∧ Cond.initialized "java/lang/Math" ∈ gw ∧ Cond.code Lib.Math.min.name Lib.Math.min.code 2 (some .int) ∈ gw) (hd : 0 < d) (hdg : decode M.2.1 pc = .ok (.invokestatic idx, 3)) (hw : (st.map fun v => v.category).sum ≤ 8) (k : EW I l D cy base M d bc bs (pc + 3) lv (.int (if y < x then y else x) :: st) s Q) : EW I l D cy base M d bc bs pc lv (.int y :: .int x :: st) s Q := fun hp8 h8 => E.mmin hl hd hdg hw (k hp8 h8)
theorem nI_min {a b : Nat} (ha : a < 2 ^ 31) (hb : b < 2 ^ 31) : (if nI b < nI a then nI b else nI a) = nI (min a b) := by
  by_cases h : b < a
  · rw [if_pos ((nI_ltI hb ha).mpr h), show min a b = b by omega]
  · rw [if_neg (fun q => h ((nI_ltI hb ha).mp q)), show min a b = a by omega]
set_option maxHeartbeats 8000000 in
theorem C_makeRoom_loop (d f m : Nat) (hm : 1 ≤ m) : ∀ (k : Nat) (s : CSt), f + m + k ≤ 60 → EW (IC cy ax hp0) l D cy base mX7_makeRoom d 0 0 31 [(0, .ref (ax 13)), (1, .int (nI f)), (2, .int (nI m)), (3, .int (nI (f + m + k - 1)))] [] s (fun o s2 => o = .inl none ∧ s2 = mvl f m k s) := by
  intro k
  induction k with
  | zero =>
    intro s hk
    refine EW.iload_n dX7_makeRoom_31 rfl rfl ?_
    refine EW.iload_n dX7_makeRoom_32 rfl rfl ?_
    refine EW.iload_n dX7_makeRoom_33 rfl rfl ?_
    refine EW.iadd dX7_makeRoom_34 ?_
    refine EW.top (nI_add _ _) ?_
    refine EW.icmp_lt 79 dX7_makeRoom_35 (by decide) (fun c35 => ?_) (fun c35 => ?_)
    · have c35 : f + m + 0 - 1 < f + m := (nI_ltI (by omega) (by omega)).mp c35
      refine EW.vret rfl dX7_makeRoom_79 ?_
      exact ⟨rfl, rfl⟩
    · have c35 : ¬ (f + m + 0 - 1 < f + m) := fun h => c35 ((nI_ltI (by omega) (by omega)).mpr h); omega
  | succ k ih =>
    intro s hk
    refine EW.iload_n dX7_makeRoom_31 rfl rfl ?_
    refine EW.iload_n dX7_makeRoom_32 rfl rfl ?_
    refine EW.iload_n dX7_makeRoom_33 rfl rfl ?_
    refine EW.iadd dX7_makeRoom_34 ?_
    refine EW.top (nI_add _ _) ?_
    refine EW.icmp_lt 79 dX7_makeRoom_35 (by decide) (fun c35 => ?_) (fun c35 => ?_)
    · have c35 : f + m + (k + 1) - 1 < f + m := (nI_ltI (by omega) (by omega)).mp c35; omega
    · have c35 : ¬ (f + m + (k + 1) - 1 < f + m) := fun h => c35 ((nI_ltI (by omega) (by omega)).mpr h)
      refine EW.ic 0 dX7_makeRoom_38 ?_
      refine EW.istore dX7_makeRoom_39 (by decide) ?_
      refine EW.iload dX7_makeRoom_41 rfl ?_
      refine EW.ic 4 dX7_makeRoom_43 ?_
      refine EW.icmp_ge 73 dX7_makeRoom_44 (by decide) (fun c44 => ?_) (fun c44 => ?_)
      · exact absurd c44 (by decide +kernel)
      · refine EW.aload_n dX7_makeRoom_47 rfl rfl ?_
        refine EC.get (k := 13) f_X7_13 dX7_makeRoom_48 (by decide) rfl rfl ?_
        refine EW.iload dX7_makeRoom_51 rfl ?_
        refine EC.ald14 (0) dX7_makeRoom_53 (by omega) ?_
        refine EW.iload_n dX7_makeRoom_54 rfl rfl ?_
        refine EW.aload_n dX7_makeRoom_55 rfl rfl ?_
        refine EC.get (k := 13) f_X7_13 dX7_makeRoom_56 (by decide) rfl rfl ?_
        refine EW.iload dX7_makeRoom_59 rfl ?_
        refine EC.ald14 (0) dX7_makeRoom_61 (by omega) ?_
        refine EW.iload_n dX7_makeRoom_62 rfl rfl ?_
        refine EW.iload_n dX7_makeRoom_63 rfl rfl ?_
        refine EW.isub dX7_makeRoom_64 ?_
        refine EW.top (pk_sub (by omega)) ?_
        refine EC.ald15 ((f + m + (k + 1) - 1) - m) dX7_makeRoom_65 (by omega) ?_
        refine EC.ast15 (f + m + (k + 1) - 1) dX7_makeRoom_66 (by omega) ?_
        refine EW.iinc dX7_makeRoom_67 rfl (nI_inc _) (by decide) ?_
        refine EW.goto 41 dX7_makeRoom_70 (by decide) ?_
        refine EW.iload dX7_makeRoom_41 rfl ?_
        refine EW.ic 4 dX7_makeRoom_43 ?_
        refine EW.icmp_ge 73 dX7_makeRoom_44 (by decide) (fun c44 => ?_) (fun c44 => ?_)
        · exact absurd c44 (by decide +kernel)
        · refine EW.aload_n dX7_makeRoom_47 rfl rfl ?_
          refine EC.get (k := 13) f_X7_13 dX7_makeRoom_48 (by decide) rfl rfl ?_
          refine EW.iload dX7_makeRoom_51 rfl ?_
          refine EC.ald14 (1) dX7_makeRoom_53 (by omega) ?_
          refine EW.iload_n dX7_makeRoom_54 rfl rfl ?_
          refine EW.aload_n dX7_makeRoom_55 rfl rfl ?_
          refine EC.get (k := 13) f_X7_13 dX7_makeRoom_56 (by decide) rfl rfl ?_
          refine EW.iload dX7_makeRoom_59 rfl ?_
          refine EC.ald14 (1) dX7_makeRoom_61 (by omega) ?_
          refine EW.iload_n dX7_makeRoom_62 rfl rfl ?_
          refine EW.iload_n dX7_makeRoom_63 rfl rfl ?_
          refine EW.isub dX7_makeRoom_64 ?_
          refine EW.top (pk_sub (by omega)) ?_
          refine EC.ald16 ((f + m + (k + 1) - 1) - m) dX7_makeRoom_65 (by omega) ?_
          refine EC.ast16 (f + m + (k + 1) - 1) dX7_makeRoom_66 (by omega) ?_
          refine EW.iinc dX7_makeRoom_67 rfl (nI_inc _) (by decide) ?_
          refine EW.goto 41 dX7_makeRoom_70 (by decide) ?_
          refine EW.iload dX7_makeRoom_41 rfl ?_
          refine EW.ic 4 dX7_makeRoom_43 ?_
          refine EW.icmp_ge 73 dX7_makeRoom_44 (by decide) (fun c44 => ?_) (fun c44 => ?_)
          · exact absurd c44 (by decide +kernel)
          · refine EW.aload_n dX7_makeRoom_47 rfl rfl ?_
            refine EC.get (k := 13) f_X7_13 dX7_makeRoom_48 (by decide) rfl rfl ?_
            refine EW.iload dX7_makeRoom_51 rfl ?_
            refine EC.ald14 (2) dX7_makeRoom_53 (by omega) ?_
            refine EW.iload_n dX7_makeRoom_54 rfl rfl ?_
            refine EW.aload_n dX7_makeRoom_55 rfl rfl ?_
            refine EC.get (k := 13) f_X7_13 dX7_makeRoom_56 (by decide) rfl rfl ?_
            refine EW.iload dX7_makeRoom_59 rfl ?_
            refine EC.ald14 (2) dX7_makeRoom_61 (by omega) ?_
            refine EW.iload_n dX7_makeRoom_62 rfl rfl ?_
            refine EW.iload_n dX7_makeRoom_63 rfl rfl ?_
            refine EW.isub dX7_makeRoom_64 ?_
            refine EW.top (pk_sub (by omega)) ?_
            refine EC.ald17 ((f + m + (k + 1) - 1) - m) dX7_makeRoom_65 (by omega) ?_
            refine EC.ast17 (f + m + (k + 1) - 1) dX7_makeRoom_66 (by omega) ?_
            refine EW.iinc dX7_makeRoom_67 rfl (nI_inc _) (by decide) ?_
            refine EW.goto 41 dX7_makeRoom_70 (by decide) ?_
            refine EW.iload dX7_makeRoom_41 rfl ?_
            refine EW.ic 4 dX7_makeRoom_43 ?_
            refine EW.icmp_ge 73 dX7_makeRoom_44 (by decide) (fun c44 => ?_) (fun c44 => ?_)
            · exact absurd c44 (by decide +kernel)
            · refine EW.aload_n dX7_makeRoom_47 rfl rfl ?_
              refine EC.get (k := 13) f_X7_13 dX7_makeRoom_48 (by decide) rfl rfl ?_
              refine EW.iload dX7_makeRoom_51 rfl ?_
              refine EC.ald14 (3) dX7_makeRoom_53 (by omega) ?_
              refine EW.iload_n dX7_makeRoom_54 rfl rfl ?_
              refine EW.aload_n dX7_makeRoom_55 rfl rfl ?_
              refine EC.get (k := 13) f_X7_13 dX7_makeRoom_56 (by decide) rfl rfl ?_
              refine EW.iload dX7_makeRoom_59 rfl ?_
              refine EC.ald14 (3) dX7_makeRoom_61 (by omega) ?_
              refine EW.iload_n dX7_makeRoom_62 rfl rfl ?_
              refine EW.iload_n dX7_makeRoom_63 rfl rfl ?_
              refine EW.isub dX7_makeRoom_64 ?_
              refine EW.top (pk_sub (by omega)) ?_
              refine EC.ald18 ((f + m + (k + 1) - 1) - m) dX7_makeRoom_65 (by omega) ?_
              refine EC.ast18 (f + m + (k + 1) - 1) dX7_makeRoom_66 (by omega) ?_
              refine EW.iinc dX7_makeRoom_67 rfl (nI_inc _) (by decide) ?_
              refine EW.goto 41 dX7_makeRoom_70 (by decide) ?_
              refine EW.iload dX7_makeRoom_41 rfl ?_
              refine EW.ic 4 dX7_makeRoom_43 ?_
              refine EW.icmp_ge 73 dX7_makeRoom_44 (by decide) (fun c44 => ?_) (fun c44 => ?_)
              · refine EW.iinc dX7_makeRoom_73 rfl (nI_dec (by omega)) (by decide) ?_
                refine EW.goto 31 dX7_makeRoom_76 (by decide) ?_
                refine EW.loc (lv' := [(0, .ref (ax 13)), (1, .int (nI f)), (2, .int (nI m)), (3, .int (nI (f + m + k - 1)))]) ⟨rfl, rfl, rfl, ?_, trivial⟩ (ih (mvr (f + m + k) m s) (by omega))
                show some (Value.int (nI (f + m + (k + 1) - 1 - 1))) = some (Value.int (nI (f + m + k - 1)))
                rw [show f + m + (k + 1) - 1 - 1 = f + m + k - 1 by omega]
              · exact absurd c44 (by decide +kernel)
set_option maxHeartbeats 4000000 in
theorem C_makeRoom (hl : l.stackTraces = false) (d f m z : Nat) (s : CSt) (hz : s.1 7 = nI z) (hf : f ≤ z) (h60 : z ≤ 60) (hm : 1 ≤ m) (hfm : f + m ≤ 60) : MtW (IC cy ax hp0) l D cy base mX7_makeRoom (d + 1) 0 0 [.ref (ax 13), .int (nI f), .int (nI m)] s (fun o s2 => o = .inl none ∧ s2 = mvl f m (min (z + m) 60 - (f + m)) (szP (nI (min (z + m) 60)) s)) := by
  refine MtW.of hl mfX7_makeRoom rfl (Nat.le_of_ble_eq_true rfl) ?_
  refine EW.iload_n dX7_makeRoom_0 rfl rfl ?_
  refine EW.if_lt 8 dX7_makeRoom_1 (by decide) (fun c1 => ?_) (fun c1 => ?_)
  · exact absurd c1 (nI_pos (by omega))
  · refine EW.iload_n dX7_makeRoom_4 rfl rfl ?_
    refine EW.if_gt 9 dX7_makeRoom_5 (by decide) (fun c5 => ?_) (fun c5 => ?_)
    · have c5 : 0 < m := (nI_gt0 (by omega)).mp c5
      refine EW.aload_n dX7_makeRoom_9 rfl rfl ?_
      refine EW.aload_n dX7_makeRoom_10 rfl rfl ?_
      refine EC.get (k := 13) f_X7_16 dX7_makeRoom_11 (by decide) rfl rfl ?_
      refine EW.top hz ?_
      refine EW.iload_n dX7_makeRoom_14 rfl rfl ?_
      refine EW.iadd dX7_makeRoom_15 ?_
      refine EW.top (nI_add _ _) ?_
      refine EW.bp 60 dX7_makeRoom_16 ?_
      refine EW.mmin mm_X7 (by omega) dX7_makeRoom_18 (Nat.le_of_ble_eq_true rfl) ?_
      refine EW.top (nI_min (by omega) (by omega)) ?_
      refine EC.put7 f_X7_16 dX7_makeRoom_21 ?_
      refine EW.aload_n dX7_makeRoom_24 rfl rfl ?_
      refine EC.get (k := 13) f_X7_16 dX7_makeRoom_25 (by decide) rfl rfl ?_
      refine EW.top (show va_up s.1 7 (nI (min (z + m) 60)) 7 = nI (min (z + m) 60) from va_up_self _ _ _) ?_
      refine EW.ic 1 dX7_makeRoom_28 ?_
      refine EW.isub dX7_makeRoom_29 ?_
      refine EW.top (pk_sub (by omega)) ?_
      refine EW.istore_n dX7_makeRoom_30 rfl (by decide) ?_
      refine EW.loc (lv' := [(0, .ref (ax 13)), (1, .int (nI f)), (2, .int (nI m)), (3, .int (nI (f + m + (min (z + m) 60 - (f + m)) - 1)))]) ⟨rfl, rfl, rfl, ?_, trivial⟩ (C_makeRoom_loop (d + 1) f m hm (min (z + m) 60 - (f + m)) (szP (nI (min (z + m) 60)) s) (by omega))
      show some (Value.int (nI (min (z + m) 60 - 1))) = some (Value.int (nI (f + m + (min (z + m) 60 - (f + m)) - 1)))
      rw [show f + m + (min (z + m) 60 - (f + m)) - 1 = min (z + m) 60 - 1 by omega]
    · have c5 : ¬ 0 < m := fun h => c5 ((nI_gt0 (by omega)).mpr h); omega
set_option maxHeartbeats 4000000 in
theorem C_makeRoom0 (hl : l.stackTraces = false) (d f : Nat) (s : CSt) (hf : f < 100) : MtW (IC cy ax hp0) l D cy base mX7_makeRoom (d + 1) 0 0 [.ref (ax 13), .int (nI f), .int (nI 0)] s (fun o s2 => o = .inl none ∧ s2 = s) := by
  refine MtW.of hl mfX7_makeRoom rfl (Nat.le_of_ble_eq_true rfl) ?_
  refine EW.iload_n dX7_makeRoom_0 rfl rfl ?_
  refine EW.if_lt 8 dX7_makeRoom_1 (by decide) (fun c1 => ?_) (fun c1 => ?_)
  · exact absurd c1 (nI_pos (by omega))
  · refine EW.iload_n dX7_makeRoom_4 rfl rfl ?_
    refine EW.if_gt 9 dX7_makeRoom_5 (by decide) (fun c5 => ?_) (fun c5 => ?_)
    · exact absurd c5 (by decide +kernel)
    · refine EW.vret rfl dX7_makeRoom_8 ?_
      exact ⟨rfl, rfl⟩
def stl (i : Nat) (ch : Nat → Nat) (a : Int32) : Nat → Nat → CSt → CSt
  | 0, _, s => s
  | j + 1, k, s => stl i ch a j (k + 1) (tset (i + 1 + k) (ch k) a s)
def pbl (i m z : Nat) (ch : Nat → Nat) (a : Int32) (s : CSt) : CSt := stl i ch a m 0 (if m = 0 then s else mvl (i + 1) m (min (z + m) 60 - (i + 1 + m)) (szP (nI (min (z + m) 60)) s))
theorem mvl_11 {f m : Nat} : ∀ (k : Nat) (s : CSt), (mvl f m k s).2.1 11 = s.2.1 11
  | 0, _ => rfl
  | k + 1, s => mvl_11 k (mvr (f + m + k) m s)
set_option maxHeartbeats 8000000 in
theorem C_putBelow_loop (hl : l.stackTraces = false) (d i c m : Nat) (a : Int32) (ch : Nat → Nat) (hc : c < 126) (him : i + m ≤ 59) (hch : ∀ k, k < m → ch k < 126) : ∀ (j k : Nat) (s : CSt), k + j = m → (∀ k, k < m → s.2.1 11 (c * 60 + k) = nI (ch k)) → EW (IC cy ax hp0) l D cy base mX7_putBelow (d + 3) 0 0 52 [(0, .ref (ax 13)), (1, .int (nI i)), (2, .ref (ax 8)), (3, .int (nI c)), (4, .int a), (5, .int (nI m)), (6, .int (nI k))] [] s (fun o s2 => o = .inl none ∧ s2 = stl i ch a j k s) := by
  intro j
  induction j with
  | zero =>
    intro k s hk hb
    refine EW.iload dX7_putBelow_52 rfl ?_
    refine EW.iload dX7_putBelow_54 rfl ?_
    refine EW.icmp_ge 85 dX7_putBelow_56 (by decide) (fun c56 => ?_) (fun c56 => ?_)
    · have c56 : m ≤ k := (nI_leI (by omega) (by omega)).mp c56
      refine EW.vret rfl dX7_putBelow_85 ?_
      exact ⟨rfl, rfl⟩
    · have c56 : ¬ (m ≤ k) := fun h => c56 ((nI_leI (by omega) (by omega)).mpr h); omega
  | succ j ih =>
    intro k s hk hb
    refine EW.iload dX7_putBelow_52 rfl ?_
    refine EW.iload dX7_putBelow_54 rfl ?_
    refine EW.icmp_ge 85 dX7_putBelow_56 (by decide) (fun c56 => ?_) (fun c56 => ?_)
    · have c56 : m ≤ k := (nI_leI (by omega) (by omega)).mp c56; omega
    · have c56 : ¬ (m ≤ k) := fun h => c56 ((nI_leI (by omega) (by omega)).mpr h)
      refine EW.aload_n dX7_putBelow_59 rfl rfl ?_
      refine EW.iload_n dX7_putBelow_60 rfl rfl ?_
      refine EW.ic 1 dX7_putBelow_61 ?_
      refine EW.iadd dX7_putBelow_62 ?_
      refine EW.top (nI_add _ _) ?_
      refine EW.iload dX7_putBelow_63 rfl ?_
      refine EW.iadd dX7_putBelow_65 ?_
      refine EW.top (nI_add _ _) ?_
      refine EW.aload_n dX7_putBelow_66 rfl rfl ?_
      refine EW.aload_n dX7_putBelow_67 rfl rfl ?_
      refine EW.iload_n dX7_putBelow_68 rfl rfl ?_
      refine EW.iload dX7_putBelow_69 rfl ?_
      refine EC.callV (bc := 0) (bs := 0) (mc' := 0) (ms' := 0) (k := 8) (C_below hl d s c hc k (by omega)) mfX4_below l_X7_54 mvX4_below (by omega) dX7_putBelow_71 rfl rfl (by decide) rfl rfl rfl (Nat.le_of_ble_eq_true rfl) (fun v71 s71 q71 => ?_) (fun _ _ q => nomatch q.1)
      obtain ⟨e71, h71⟩ := q71; cases e71; replace h71 := h71.symm; subst h71
      refine EW.top (hb k (by omega)) ?_
      refine EW.iload dX7_putBelow_74 rfl ?_
      refine EC.callV (bc := 0) (bs := 0) (mc' := 0) (ms' := 0) (k := 13) (C_set hl d s (i + 1 + k) (ch k) a (by omega) (hch k (by omega))) mfX7_set l_X7_24 mvX7_set (by omega) dX7_putBelow_76 rfl rfl (by decide) rfl rfl rfl (Nat.le_of_ble_eq_true rfl) (fun v76 s76 q76 => ?_) (fun _ _ q => nomatch q.1)
      obtain ⟨e76, h76⟩ := q76; cases e76; replace h76 := h76.symm; subst h76
      refine EW.iinc dX7_putBelow_79 rfl (nI_inc _) (by decide) ?_
      refine EW.goto 52 dX7_putBelow_82 (by decide) ?_
      exact EW.loc (lv' := [(0, .ref (ax 13)), (1, .int (nI i)), (2, .ref (ax 8)), (3, .int (nI c)), (4, .int a), (5, .int (nI m)), (6, .int (nI (k + 1)))]) ⟨rfl, rfl, rfl, rfl, rfl, rfl, rfl, trivial⟩ (ih (k + 1) (tset (i + 1 + k) (ch k) a s) (by omega) hb)
set_option maxHeartbeats 4000000 in
theorem C_putBelow (hl : l.stackTraces = false) (d i z r q a b : Nat) (ch : Nat → Nat) (s : CSt) (hz : s.1 7 = nI z) (hi : i < z) (h60 : z ≤ 60) (hr : r < 6) (hq : q < 21) (h15 : s.2.1 15 i = nI r) (h16 : s.2.1 16 i = nI q) (h18 : s.2.1 18 i = nI a) (ha : a < 1000) (h10 : s.2.1 10 (r * 21 + q) = nI b) (hb : b < 2 ^ 30) (hch : ∀ k, k < min b (59 - i) → ch k < 126 ∧ s.2.1 11 ((r * 21 + q) * 60 + k) = nI (ch k)) : MtW (IC cy ax hp0) l D cy base mX7_putBelow (d + 3) 0 0 [.ref (ax 13), .int (nI i), .ref (ax 8)] s (fun o s2 => o = .inl none ∧ s2 = pbl i (min b (59 - i)) z ch (nI (a + 1)) s) := by
  refine MtW.of hl mfX7_putBelow rfl (Nat.le_of_ble_eq_true rfl) ?_
  by_cases h0 : min b (59 - i) = 0
  · skip
    refine EW.aload_n dX7_putBelow_0 rfl rfl ?_
    refine EW.iload_n dX7_putBelow_1 rfl rfl ?_
    refine EW.ic 0 dX7_putBelow_2 ?_
    refine EC.callV (bc := 0) (bs := 0) (mc' := 0) (ms' := 0) (k := 13) (C_tell0 hl d s i z hz hi h60) mfX7_tell l_X7_32 mvX7_tell (by omega) dX7_putBelow_3 rfl rfl (by decide) rfl rfl rfl (Nat.le_of_ble_eq_true rfl) (fun v3 s3 q3 => ?_) (fun _ _ q => nomatch q.1)
    obtain ⟨e3, h3⟩ := q3; cases e3; replace h3 := h3.symm; subst h3
    refine EW.top h15 ?_
    refine EW.aload_n dX7_putBelow_6 rfl rfl ?_
    refine EW.iload_n dX7_putBelow_7 rfl rfl ?_
    refine EW.ic 1 dX7_putBelow_8 ?_
    refine EC.callV (bc := 0) (bs := 0) (mc' := 0) (ms' := 0) (k := 13) (C_tell1 hl d s i z hz hi h60) mfX7_tell l_X7_32 mvX7_tell (by omega) dX7_putBelow_9 rfl rfl (by decide) rfl rfl rfl (Nat.le_of_ble_eq_true rfl) (fun v9 s9 q9 => ?_) (fun _ _ q => nomatch q.1)
    obtain ⟨e9, h9⟩ := q9; cases e9; replace h9 := h9.symm; subst h9
    refine EW.top h16 ?_
    refine EW.callS (bc := 0) (bs := 0) (mc' := 0) (ms' := 0) (C_cellOf hl _ (d + 1) s r q hr hq) mfX4_cellOf rfl l_X7_36 mvX4_cellOf (by omega) dX7_putBelow_12 rfl rfl (Nat.le_of_ble_eq_true rfl) (fun v12 s12 q12 => ?_) (fun _ _ q => nomatch q.1)
    obtain ⟨e12, h12⟩ := q12; cases e12; replace h12 := h12.symm; subst h12
    refine EW.istore_n dX7_putBelow_15 rfl (by decide) ?_
    refine EW.aload_n dX7_putBelow_16 rfl rfl ?_
    refine EW.iload_n dX7_putBelow_17 rfl rfl ?_
    refine EW.ic 3 dX7_putBelow_18 ?_
    refine EC.callV (bc := 0) (bs := 0) (mc' := 0) (ms' := 0) (k := 13) (C_tell3 hl d s i z hz hi h60) mfX7_tell l_X7_32 mvX7_tell (by omega) dX7_putBelow_19 rfl rfl (by decide) rfl rfl rfl (Nat.le_of_ble_eq_true rfl) (fun v19 s19 q19 => ?_) (fun _ _ q => nomatch q.1)
    obtain ⟨e19, h19⟩ := q19; cases e19; replace h19 := h19.symm; subst h19
    refine EW.top h18 ?_
    refine EW.ic 1 dX7_putBelow_22 ?_
    refine EW.iadd dX7_putBelow_23 ?_
    refine EW.top (nI_add _ _) ?_
    refine EW.istore dX7_putBelow_24 (by decide) ?_
    refine EW.aload_n dX7_putBelow_26 rfl rfl ?_
    refine EW.iload_n dX7_putBelow_27 rfl rfl ?_
    refine EC.callV (bc := 0) (bs := 0) (mc' := 0) (ms' := 0) (k := 8) (C_belowSize hl d s (r * 21 + q) (by omega)) mfX4_belowSize l_X7_41 mvX4_belowSize (by omega) dX7_putBelow_28 rfl rfl (by decide) rfl rfl rfl (Nat.le_of_ble_eq_true rfl) (fun v28 s28 q28 => ?_) (fun _ _ q => nomatch q.1)
    obtain ⟨e28, h28⟩ := q28; cases e28; replace h28 := h28.symm; subst h28
    refine EW.top h10 ?_
    refine EW.bp 59 dX7_putBelow_31 ?_
    refine EW.iload_n dX7_putBelow_33 rfl rfl ?_
    refine EW.isub dX7_putBelow_34 ?_
    refine EW.top (pk_sub (by omega)) ?_
    refine EW.mmin mm_X7 (by omega) dX7_putBelow_35 (Nat.le_of_ble_eq_true rfl) ?_
    refine EW.top (nI_min (by omega) (by omega)) ?_
    refine EW.istore dX7_putBelow_38 (by decide) ?_
    refine EW.aload_n dX7_putBelow_40 rfl rfl ?_
    refine EW.iload_n dX7_putBelow_41 rfl rfl ?_
    refine EW.ic 1 dX7_putBelow_42 ?_
    refine EW.iadd dX7_putBelow_43 ?_
    refine EW.top (nI_add _ _) ?_
    refine EW.iload dX7_putBelow_44 rfl ?_
    refine EW.top (y := nI 0) (by rw [h0]) ?_
    refine EC.callV (bc := 0) (bs := 0) (mc' := 0) (ms' := 0) (k := 13) (C_makeRoom0 hl d (i + 1) s (by omega)) mfX7_makeRoom l_X7_50 mvX7_makeRoom (by omega) dX7_putBelow_46 rfl rfl (by decide) rfl rfl rfl (Nat.le_of_ble_eq_true rfl) (fun v46 s46 q46 => ?_) (fun _ _ q => nomatch q.1)
    obtain ⟨e46, h46⟩ := q46; cases e46; replace h46 := h46.symm; subst h46
    refine EW.ic 0 dX7_putBelow_49 ?_
    refine EW.istore dX7_putBelow_50 (by decide) ?_
    refine EW.loc (lv' := [(0, .ref (ax 13)), (1, .int (nI i)), (2, .ref (ax 8)), (3, .int (nI (r * 21 + q))), (4, .int (nI (a + 1))), (5, .int (nI (min b (59 - i)))), (6, .int (nI 0))]) ⟨rfl, rfl, rfl, rfl, rfl, rfl, rfl, trivial⟩ ?_
    have hlp := C_putBelow_loop (cy := cy) (ax := ax) (hp0 := hp0) (D := D) (base := base) hl d i (r * 21 + q) (min b (59 - i)) (nI (a + 1)) ch (by omega) (by omega) (fun k hk => (hch k hk).1) (min b (59 - i)) 0 s (by omega) (fun k hk => (hch k hk).2)
    unfold pbl
    rw [if_pos h0]
    exact hlp
  · skip
    refine EW.aload_n dX7_putBelow_0 rfl rfl ?_
    refine EW.iload_n dX7_putBelow_1 rfl rfl ?_
    refine EW.ic 0 dX7_putBelow_2 ?_
    refine EC.callV (bc := 0) (bs := 0) (mc' := 0) (ms' := 0) (k := 13) (C_tell0 hl d s i z hz hi h60) mfX7_tell l_X7_32 mvX7_tell (by omega) dX7_putBelow_3 rfl rfl (by decide) rfl rfl rfl (Nat.le_of_ble_eq_true rfl) (fun v3 s3 q3 => ?_) (fun _ _ q => nomatch q.1)
    obtain ⟨e3, h3⟩ := q3; cases e3; replace h3 := h3.symm; subst h3
    refine EW.top h15 ?_
    refine EW.aload_n dX7_putBelow_6 rfl rfl ?_
    refine EW.iload_n dX7_putBelow_7 rfl rfl ?_
    refine EW.ic 1 dX7_putBelow_8 ?_
    refine EC.callV (bc := 0) (bs := 0) (mc' := 0) (ms' := 0) (k := 13) (C_tell1 hl d s i z hz hi h60) mfX7_tell l_X7_32 mvX7_tell (by omega) dX7_putBelow_9 rfl rfl (by decide) rfl rfl rfl (Nat.le_of_ble_eq_true rfl) (fun v9 s9 q9 => ?_) (fun _ _ q => nomatch q.1)
    obtain ⟨e9, h9⟩ := q9; cases e9; replace h9 := h9.symm; subst h9
    refine EW.top h16 ?_
    refine EW.callS (bc := 0) (bs := 0) (mc' := 0) (ms' := 0) (C_cellOf hl _ (d + 1) s r q hr hq) mfX4_cellOf rfl l_X7_36 mvX4_cellOf (by omega) dX7_putBelow_12 rfl rfl (Nat.le_of_ble_eq_true rfl) (fun v12 s12 q12 => ?_) (fun _ _ q => nomatch q.1)
    obtain ⟨e12, h12⟩ := q12; cases e12; replace h12 := h12.symm; subst h12
    refine EW.istore_n dX7_putBelow_15 rfl (by decide) ?_
    refine EW.aload_n dX7_putBelow_16 rfl rfl ?_
    refine EW.iload_n dX7_putBelow_17 rfl rfl ?_
    refine EW.ic 3 dX7_putBelow_18 ?_
    refine EC.callV (bc := 0) (bs := 0) (mc' := 0) (ms' := 0) (k := 13) (C_tell3 hl d s i z hz hi h60) mfX7_tell l_X7_32 mvX7_tell (by omega) dX7_putBelow_19 rfl rfl (by decide) rfl rfl rfl (Nat.le_of_ble_eq_true rfl) (fun v19 s19 q19 => ?_) (fun _ _ q => nomatch q.1)
    obtain ⟨e19, h19⟩ := q19; cases e19; replace h19 := h19.symm; subst h19
    refine EW.top h18 ?_
    refine EW.ic 1 dX7_putBelow_22 ?_
    refine EW.iadd dX7_putBelow_23 ?_
    refine EW.top (nI_add _ _) ?_
    refine EW.istore dX7_putBelow_24 (by decide) ?_
    refine EW.aload_n dX7_putBelow_26 rfl rfl ?_
    refine EW.iload_n dX7_putBelow_27 rfl rfl ?_
    refine EC.callV (bc := 0) (bs := 0) (mc' := 0) (ms' := 0) (k := 8) (C_belowSize hl d s (r * 21 + q) (by omega)) mfX4_belowSize l_X7_41 mvX4_belowSize (by omega) dX7_putBelow_28 rfl rfl (by decide) rfl rfl rfl (Nat.le_of_ble_eq_true rfl) (fun v28 s28 q28 => ?_) (fun _ _ q => nomatch q.1)
    obtain ⟨e28, h28⟩ := q28; cases e28; replace h28 := h28.symm; subst h28
    refine EW.top h10 ?_
    refine EW.bp 59 dX7_putBelow_31 ?_
    refine EW.iload_n dX7_putBelow_33 rfl rfl ?_
    refine EW.isub dX7_putBelow_34 ?_
    refine EW.top (pk_sub (by omega)) ?_
    refine EW.mmin mm_X7 (by omega) dX7_putBelow_35 (Nat.le_of_ble_eq_true rfl) ?_
    refine EW.top (nI_min (by omega) (by omega)) ?_
    refine EW.istore dX7_putBelow_38 (by decide) ?_
    refine EW.aload_n dX7_putBelow_40 rfl rfl ?_
    refine EW.iload_n dX7_putBelow_41 rfl rfl ?_
    refine EW.ic 1 dX7_putBelow_42 ?_
    refine EW.iadd dX7_putBelow_43 ?_
    refine EW.top (nI_add _ _) ?_
    refine EW.iload dX7_putBelow_44 rfl ?_
    refine EC.callV (bc := 0) (bs := 0) (mc' := 0) (ms' := 0) (k := 13) (C_makeRoom hl d (i + 1) (min b (59 - i)) z s hz (by omega) h60 (by omega) (by omega)) mfX7_makeRoom l_X7_50 mvX7_makeRoom (by omega) dX7_putBelow_46 rfl rfl (by decide) rfl rfl rfl (Nat.le_of_ble_eq_true rfl) (fun v46 s46 q46 => ?_) (fun _ _ q => nomatch q.1)
    obtain ⟨e46, h46⟩ := q46; cases e46; replace h46 := h46.symm; subst h46
    refine EW.ic 0 dX7_putBelow_49 ?_
    refine EW.istore dX7_putBelow_50 (by decide) ?_
    refine EW.loc (lv' := [(0, .ref (ax 13)), (1, .int (nI i)), (2, .ref (ax 8)), (3, .int (nI (r * 21 + q))), (4, .int (nI (a + 1))), (5, .int (nI (min b (59 - i)))), (6, .int (nI 0))]) ⟨rfl, rfl, rfl, rfl, rfl, rfl, rfl, trivial⟩ ?_
    have hlp := C_putBelow_loop (cy := cy) (ax := ax) (hp0 := hp0) (D := D) (base := base) hl d i (r * 21 + q) (min b (59 - i)) (nI (a + 1)) ch (by omega) (by omega) (fun k hk => (hch k hk).1) (min b (59 - i)) 0 (mvl (i + 1) (min b (59 - i)) (min (z + min b (59 - i)) 60 - (i + 1 + min b (59 - i))) (szP (nI (min (z + min b (59 - i)) 60)) s)) (by omega) (fun k hk => by rw [mvl_11]; exact (hch k hk).2)
    unfold pbl
    rw [if_neg h0]
    exact hlp
end C12
