section M20
variable {cy : Nat → ClassId} {ad : Nat → Nat} {hp0 : Hp} {l : Launch} {D : va_G} {base : Nat}
theorem il1 {c : Nat} (h : isL c) : (97 : Int32) ≤ nI c ∧ nI c ≤ 105 := by
  have e1 : (97 : Int32) = nI 97 := by decide +kernel
  have e2 : (105 : Int32) = nI 105 := by decide +kernel
  rw [e1, e2]
  exact ⟨(nI_leI (by decide) (by omega)).mpr h.1, (nI_leI (by omega) (by decide)).mpr h.2⟩
theorem il0 {c : Nat} (hc : c < 65536) (h : ¬ isL c) : ¬ ((97 : Int32) ≤ nI c ∧ nI c ≤ 105) := fun g => by
  have e1 : (97 : Int32) = nI 97 := by decide +kernel
  have e2 : (105 : Int32) = nI 105 := by decide +kernel
  rw [e1, e2] at g
  exact h ⟨(nI_leI (by decide) (by omega)).mp g.1, (nI_leI (by omega) (by decide)).mp g.2⟩
theorem ir1 {c : Nat} (h : isR c) : (65 : Int32) ≤ nI c ∧ nI c ≤ 70 := by
  have e1 : (65 : Int32) = nI 65 := by decide +kernel
  have e2 : (70 : Int32) = nI 70 := by decide +kernel
  rw [e1, e2]
  exact ⟨(nI_leI (by decide) (by omega)).mpr h.1, (nI_leI (by omega) (by decide)).mpr h.2⟩
theorem ir0 {c : Nat} (hc : c < 65536) (h : ¬ isR c) : ¬ ((65 : Int32) ≤ nI c ∧ nI c ≤ 70) := fun g => by
  have e1 : (65 : Int32) = nI 65 := by decide +kernel
  have e2 : (70 : Int32) = nI 70 := by decide +kernel
  rw [e1, e2] at g
  exact h ⟨(nI_leI (by decide) (by omega)).mp g.1, (nI_leI (by omega) (by decide)).mp g.2⟩
theorem LVL.mkR {s : MSt} {k z0 pb rb : Nat} {rs ps : List Ex} {sg : Nat} (h : LVL s k z0 pb rb rs ps sg) {lo hi : Nat} (h1 : lo ≤ 8) (h2 : hi ≤ 8) (zz : Nat) (hzz : zz = z0 + szL rs + szL ps) : LVU (mdS zz 0 (nI lo) (nI hi) s) k z0 pb rb rs ps sg (xR lo hi) := by
  obtain ⟨a1, a2, a3, a4, a5, a6, a7, a8, a9, a10, a11⟩ := h
  obtain ⟨b7, b8, b9, b10⟩ := LV_md (kd := 0) (a := nI lo) (b := nI hi) (zz := zz) (by omega) a7 a8 a9 a10
  refine ⟨a1, (mdS_o (by unfold pk; omega) (by omega)).trans a2, (mdS_o (by unfold pk; omega) (by omega)).trans a3, a4, a5, ?_, b7, b8, b9, b10, (mdS_o (by unfold pk; omega) (by omega)).trans a11, ⟨h1, h2⟩, ?_⟩
  · rw [mdS_10, hzz]; rfl
  · subst hzz
    exact ⟨mdS_5, mdS_6, mdS_7⟩
theorem LVL.mkC {s : MSt} {k z0 pb rb : Nat} {rs ps : List Ex} {sg : Nat} (h : LVL s k z0 pb rb rs ps sg) {r : Nat} (h1 : r < 6) (zz : Nat) (hzz : zz = z0 + szL rs + szL ps) : LVU (mdS zz 1 (nI r) (nI 0) s) k z0 pb rb rs ps sg (xC r) := by
  obtain ⟨a1, a2, a3, a4, a5, a6, a7, a8, a9, a10, a11⟩ := h
  obtain ⟨b7, b8, b9, b10⟩ := LV_md (kd := 1) (a := nI r) (b := nI 0) (zz := zz) (by omega) a7 a8 a9 a10
  refine ⟨a1, (mdS_o (by unfold pk; omega) (by omega)).trans a2, (mdS_o (by unfold pk; omega) (by omega)).trans a3, a4, a5, ?_, b7, b8, b9, b10, (mdS_o (by unfold pk; omega) (by omega)).trans a11, h1, ?_⟩
  · rw [mdS_10, hzz]; rfl
  · subst hzz
    exact ⟨mdS_5, mdS_6⟩
/-- how 'simple' ends -/
def smQ (s : MSt) (k z0 pb rb : Nat) (rs ps : List Ex) (sg : Nat) (tx : Nat → Nat) (r : Pr) : Oc → MSt → Prop := fun o s2 => match r with
  | (none, f) => ∃ v : Int32, o = .inl (some (.int v)) ∧ v < 0 ∧ (-1 : Int32) - v = nI f ∧ s2 = s
  | (some u, b) => o = .inl (some (.int (nI (if sE (tx b) = 0 then b else b + 1)))) ∧ LVL s2 k z0 pb rb rs (ps ++ [sgn (sB sg) (sgn (sE (tx b)) u)]) 0 ∧ FPR k z0 pb rb s s2
theorem flt_v {a : Nat} (i : Nat) (c : Int32) (hc : c.toInt = -1 - (i : Int)) (hi : i < 100) (ha : a < 1000) : c - nI a < 0 ∧ (-1 : Int32) - (c - nI a) = nI (a + i) := by
  have e : c = -1 - nI i := by
    apply Int32.toInt_inj.mp
    rw [Int32.toInt_sub, nI_toInt (by omega), hc]
    have : ((-1 : Int32)).toInt = -1 := by decide +kernel
    rw [this]
    have := (by omega : (-1 - (i : Int)) = -1 - i)
    rw [Int.bmod_def]
    omega
  subst e
  constructor
  · rw [Int32.lt_iff_toInt_lt, Int32.toInt_sub, hc, nI_toInt (by omega)]
    have : (0 : Int32).toInt = 0 := by decide +kernel
    rw [this, Int.bmod_def]
    omega
  · rw [← nI_add]
    grind
set_option maxHeartbeats 4000000 in
theorem M_simL (hl : l.stackTraces = false) (s : MSt) (k z0 pb rb : Nat) (rs ps : List Ex) (sg : Nat) (a n : Nat) (tx : Nat → Nat) (hL : LVL s k z0 pb rb rs ps sg) (hT : TXM s n tx) (ha : a < 100) (hk : k < 8) (hz : z0 + szL rs + szL ps < 58) (hp : pb + ps.length < 32) (hsg : sg = 0 ∨ sg = 38 ∨ sg = 33) (hc : isL (tx a)) : MtW (IM cy ad hp0) l D cy base mX9_simple (0 + 2) 0 0 [.ref (ad 43), .int (nI a)] s (smQ s k z0 pb rb rs ps sg tx (some (xR (tx a - 97) (tx a - 97)), a + 1)) := by
  refine MtW.of hl mfX9_simple rfl (Nat.le_of_ble_eq_true rfl) ?_
  have ht0 := hT.2.2.2.1 a
  have ht1 := hT.2.2.2.1 (a + 1)
  have ht2 := hT.2.2.2.1 (a + 2)
  have ht3 := hT.2.2.2.1 (a + 3)
  have ht4 := hT.2.2.2.1 (a + 4)
  have hU := hL.mkR (lo := tx a - 97) (hi := tx a - 97) (by omega) (by omega) (z0 + szL rs + szL ps) rfl
  have hP := M_partD (cy := cy) (ad := ad) (hp0 := hp0) (D := D) (base := base) hl _ k z0 pb rb rs ps sg (xR (tx a - 97) (tx a - 97)) (a + 1) n tx hU (hT.fr (k := 0) (z0 := 0) (pb := 0) (rb := 0) (mdS_F (by omega))) (by omega) hk (show z0 + szL rs + szL ps + 1 < 60 by omega) hp hsg
  have hU2 := hL.2.2.2.2.2.1
  refine EW.aload_n dX9_simple_0 rfl rfl ?_
  refine EW.iload_n dX9_simple_1 rfl rfl ?_
  refine EM.callV (M_lookT hl 0 s (a) n tx hT (by omega)) mfX9_look l_X9_123 mvX9_look (by omega) dX9_simple_2 rfl rfl rfl rfl (Nat.le_of_ble_eq_true rfl) (fun _ _ q => nomatch q.1) (fun v2 s2 q2 => ?_)
  obtain ⟨e2, h2⟩ := q2; cases e2; replace h2 := h2.symm; subst h2
  refine EW.istore_n dX9_simple_5 rfl (by decide) ?_
  refine EW.iload_n dX9_simple_6 rfl rfl ?_
  refine EW.callS (bc := 0) (bs := 0) (M_isLetter hl _ 0 s _) mfX9_isLetter rfl l_X9_113 mvX9_isLetter (by omega) dX9_simple_7 rfl rfl (Nat.le_of_ble_eq_true rfl) (fun v7 s7 q7 => ?_) (fun _ _ q => nomatch q.1)
  obtain ⟨e7, h7⟩ := q7; cases e7; replace h7 := h7.symm; subst h7
  refine EW.top (y := nI 1) ((if_pos (il1 hc)).trans (by decide +kernel)) ?_
  refine EW.if_ne 19 dX9_simple_10 (by decide) (fun c10 => ?_) (fun c10 => ?_)
  · refine EW.aload_n dX9_simple_19 rfl rfl ?_
    refine EW.ic 0 dX9_simple_20 ?_
    refine EW.iload_n dX9_simple_21 rfl rfl ?_
    refine EW.bp 46 dX9_simple_22 ?_
    refine EW.icmp_ne 31 dX9_simple_24 (by decide) (fun c24 => ?_) (fun c24 => ?_)
    · have c24 : ¬ (tx a = 46) := fun h => c24 ((nI_eq (by omega) (by omega)).mpr h)
      refine EW.iload_n dX9_simple_31 rfl rfl ?_
      refine EW.bp 97 dX9_simple_32 ?_
      refine EW.isub dX9_simple_34 ?_
      refine EW.top (pk_sub (by omega)) ?_
      refine EW.iload_n dX9_simple_35 rfl rfl ?_
      refine EW.bp 46 dX9_simple_36 ?_
      refine EW.icmp_ne 46 dX9_simple_38 (by decide) (fun c38 => ?_) (fun c38 => ?_)
      · have c38 : ¬ (tx a = 46) := fun h => c38 ((nI_eq (by omega) (by omega)).mpr h)
        refine EW.iload_n dX9_simple_46 rfl rfl ?_
        refine EW.bp 97 dX9_simple_47 ?_
        refine EW.isub dX9_simple_49 ?_
        refine EW.top (pk_sub (by omega)) ?_
        refine EM.callV (M_madeS hl 0 s (z0 + szL rs + szL ps) _ _ _ hU2 (by omega)) mfX9_made l_X9_127 mvX9_made (by omega) dX9_simple_50 rfl rfl rfl rfl (Nat.le_of_ble_eq_true rfl) (fun _ _ q => nomatch q.1) (fun v50 s50 q50 => ?_)
        obtain ⟨e50, h50⟩ := q50; cases e50; replace h50 := h50.symm; subst h50
        refine EW.istore_n dX9_simple_53 rfl (by decide) ?_
        refine EW.aload_n dX9_simple_54 rfl rfl ?_
        refine EW.iload_n dX9_simple_55 rfl rfl ?_
        refine EW.iload_n dX9_simple_56 rfl rfl ?_
        refine EW.ic 1 dX9_simple_57 ?_
        refine EW.iadd dX9_simple_58 ?_
        refine EW.top (nI_add _ _) ?_
        refine EM.callV (hP) mfX9_partDone l_X9_143 mvX9_partDone (by omega) dX9_simple_59 rfl rfl rfl rfl (Nat.le_of_ble_eq_true rfl) (fun _ _ q => nomatch q.1) (fun v59 s59 q59 => ?_)
        obtain ⟨e59, hA, hF⟩ := q59; cases e59
        refine EW.iret rfl dX9_simple_62 ?_
        exact ⟨rfl, hA, FPR.tr (mdS_F (by omega)) hF⟩
      · have c38 : tx a = 46 := (nI_eq (by omega) (by omega)).mp c38; omega
    · have c24 : tx a = 46 := (nI_eq (by omega) (by omega)).mp c24; omega
  · exact absurd c10 (by decide +kernel)
set_option maxHeartbeats 4000000 in
theorem M_simD (hl : l.stackTraces = false) (s : MSt) (k z0 pb rb : Nat) (rs ps : List Ex) (sg : Nat) (a n : Nat) (tx : Nat → Nat) (hL : LVL s k z0 pb rb rs ps sg) (hT : TXM s n tx) (ha : a < 100) (hk : k < 8) (hz : z0 + szL rs + szL ps < 58) (hp : pb + ps.length < 32) (hsg : sg = 0 ∨ sg = 38 ∨ sg = 33) (hc : tx a = 46) : MtW (IM cy ad hp0) l D cy base mX9_simple (0 + 2) 0 0 [.ref (ad 43), .int (nI a)] s (smQ s k z0 pb rb rs ps sg tx (some (xR 0 8), a + 1)) := by
  refine MtW.of hl mfX9_simple rfl (Nat.le_of_ble_eq_true rfl) ?_
  have ht0 := hT.2.2.2.1 a
  have ht1 := hT.2.2.2.1 (a + 1)
  have ht2 := hT.2.2.2.1 (a + 2)
  have ht3 := hT.2.2.2.1 (a + 3)
  have ht4 := hT.2.2.2.1 (a + 4)
  have hU := hL.mkR (lo := 0) (hi := 8) (by omega) (by omega) (z0 + szL rs + szL ps) rfl
  have hP := M_partD (cy := cy) (ad := ad) (hp0 := hp0) (D := D) (base := base) hl _ k z0 pb rb rs ps sg (xR 0 8) (a + 1) n tx hU (hT.fr (k := 0) (z0 := 0) (pb := 0) (rb := 0) (mdS_F (by omega))) (by omega) hk (show z0 + szL rs + szL ps + 1 < 60 by omega) hp hsg
  have hU2 := hL.2.2.2.2.2.1
  refine EW.aload_n dX9_simple_0 rfl rfl ?_
  refine EW.iload_n dX9_simple_1 rfl rfl ?_
  refine EM.callV (M_lookT hl 0 s (a) n tx hT (by omega)) mfX9_look l_X9_123 mvX9_look (by omega) dX9_simple_2 rfl rfl rfl rfl (Nat.le_of_ble_eq_true rfl) (fun _ _ q => nomatch q.1) (fun v2 s2 q2 => ?_)
  obtain ⟨e2, h2⟩ := q2; cases e2; replace h2 := h2.symm; subst h2
  refine EW.istore_n dX9_simple_5 rfl (by decide) ?_
  refine EW.iload_n dX9_simple_6 rfl rfl ?_
  refine EW.callS (bc := 0) (bs := 0) (M_isLetter hl _ 0 s _) mfX9_isLetter rfl l_X9_113 mvX9_isLetter (by omega) dX9_simple_7 rfl rfl (Nat.le_of_ble_eq_true rfl) (fun v7 s7 q7 => ?_) (fun _ _ q => nomatch q.1)
  obtain ⟨e7, h7⟩ := q7; cases e7; replace h7 := h7.symm; subst h7
  refine EW.top (y := nI 0) ((if_neg (il0 (by omega) (by omega))).trans (by decide +kernel)) ?_
  refine EW.if_ne 19 dX9_simple_10 (by decide) (fun c10 => ?_) (fun c10 => ?_)
  · exact absurd c10 (by decide +kernel)
  · refine EW.iload_n dX9_simple_13 rfl rfl ?_
    refine EW.bp 46 dX9_simple_14 ?_
    refine EW.icmp_ne 63 dX9_simple_16 (by decide) (fun c16 => ?_) (fun c16 => ?_)
    · have c16 : ¬ (tx a = 46) := fun h => c16 ((nI_eq (by omega) (by omega)).mpr h); omega
    · have c16 : tx a = 46 := (nI_eq (by omega) (by omega)).mp c16
      refine EW.aload_n dX9_simple_19 rfl rfl ?_
      refine EW.ic 0 dX9_simple_20 ?_
      refine EW.iload_n dX9_simple_21 rfl rfl ?_
      refine EW.bp 46 dX9_simple_22 ?_
      refine EW.icmp_ne 31 dX9_simple_24 (by decide) (fun c24 => ?_) (fun c24 => ?_)
      · have c24 : ¬ (tx a = 46) := fun h => c24 ((nI_eq (by omega) (by omega)).mpr h); omega
      · have c24 : tx a = 46 := (nI_eq (by omega) (by omega)).mp c24
        refine EW.ic 0 dX9_simple_27 ?_
        refine EW.goto 35 dX9_simple_28 (by decide) ?_
        refine EW.iload_n dX9_simple_35 rfl rfl ?_
        refine EW.bp 46 dX9_simple_36 ?_
        refine EW.icmp_ne 46 dX9_simple_38 (by decide) (fun c38 => ?_) (fun c38 => ?_)
        · have c38 : ¬ (tx a = 46) := fun h => c38 ((nI_eq (by omega) (by omega)).mpr h); omega
        · have c38 : tx a = 46 := (nI_eq (by omega) (by omega)).mp c38
          refine EW.bp 8 dX9_simple_41 ?_
          refine EW.goto 50 dX9_simple_43 (by decide) ?_
          refine EM.callV (M_madeS hl 0 s (z0 + szL rs + szL ps) _ _ _ hU2 (by omega)) mfX9_made l_X9_127 mvX9_made (by omega) dX9_simple_50 rfl rfl rfl rfl (Nat.le_of_ble_eq_true rfl) (fun _ _ q => nomatch q.1) (fun v50 s50 q50 => ?_)
          obtain ⟨e50, h50⟩ := q50; cases e50; replace h50 := h50.symm; subst h50
          refine EW.istore_n dX9_simple_53 rfl (by decide) ?_
          refine EW.aload_n dX9_simple_54 rfl rfl ?_
          refine EW.iload_n dX9_simple_55 rfl rfl ?_
          refine EW.iload_n dX9_simple_56 rfl rfl ?_
          refine EW.ic 1 dX9_simple_57 ?_
          refine EW.iadd dX9_simple_58 ?_
          refine EW.top (nI_add _ _) ?_
          refine EM.callV (hP) mfX9_partDone l_X9_143 mvX9_partDone (by omega) dX9_simple_59 rfl rfl rfl rfl (Nat.le_of_ble_eq_true rfl) (fun _ _ q => nomatch q.1) (fun v59 s59 q59 => ?_)
          obtain ⟨e59, hA, hF⟩ := q59; cases e59
          refine EW.iret rfl dX9_simple_62 ?_
          exact ⟨rfl, hA, FPR.tr (mdS_F (by omega)) hF⟩
set_option maxHeartbeats 4000000 in
theorem M_simC (hl : l.stackTraces = false) (s : MSt) (k z0 pb rb : Nat) (rs ps : List Ex) (sg : Nat) (a n : Nat) (tx : Nat → Nat) (hL : LVL s k z0 pb rb rs ps sg) (hT : TXM s n tx) (ha : a < 100) (hk : k < 8) (hz : z0 + szL rs + szL ps < 58) (hp : pb + ps.length < 32) (hsg : sg = 0 ∨ sg = 38 ∨ sg = 33) (hc : isR (tx a)) : MtW (IM cy ad hp0) l D cy base mX9_simple (0 + 2) 0 0 [.ref (ad 43), .int (nI a)] s (smQ s k z0 pb rb rs ps sg tx (some (xC (tx a - 65)), a + 1)) := by
  refine MtW.of hl mfX9_simple rfl (Nat.le_of_ble_eq_true rfl) ?_
  have ht0 := hT.2.2.2.1 a
  have ht1 := hT.2.2.2.1 (a + 1)
  have ht2 := hT.2.2.2.1 (a + 2)
  have ht3 := hT.2.2.2.1 (a + 3)
  have ht4 := hT.2.2.2.1 (a + 4)
  have hU := hL.mkC (r := tx a - 65) (by omega) (z0 + szL rs + szL ps) rfl
  have hP := M_partD (cy := cy) (ad := ad) (hp0 := hp0) (D := D) (base := base) hl _ k z0 pb rb rs ps sg (xC (tx a - 65)) (a + 1) n tx hU (hT.fr (k := 0) (z0 := 0) (pb := 0) (rb := 0) (mdS_F (by omega))) (by omega) hk (show z0 + szL rs + szL ps + 1 < 60 by omega) hp hsg
  have hU2 := hL.2.2.2.2.2.1
  refine EW.aload_n dX9_simple_0 rfl rfl ?_
  refine EW.iload_n dX9_simple_1 rfl rfl ?_
  refine EM.callV (M_lookT hl 0 s (a) n tx hT (by omega)) mfX9_look l_X9_123 mvX9_look (by omega) dX9_simple_2 rfl rfl rfl rfl (Nat.le_of_ble_eq_true rfl) (fun _ _ q => nomatch q.1) (fun v2 s2 q2 => ?_)
  obtain ⟨e2, h2⟩ := q2; cases e2; replace h2 := h2.symm; subst h2
  refine EW.istore_n dX9_simple_5 rfl (by decide) ?_
  refine EW.iload_n dX9_simple_6 rfl rfl ?_
  refine EW.callS (bc := 0) (bs := 0) (M_isLetter hl _ 0 s _) mfX9_isLetter rfl l_X9_113 mvX9_isLetter (by omega) dX9_simple_7 rfl rfl (Nat.le_of_ble_eq_true rfl) (fun v7 s7 q7 => ?_) (fun _ _ q => nomatch q.1)
  obtain ⟨e7, h7⟩ := q7; cases e7; replace h7 := h7.symm; subst h7
  refine EW.top (y := nI 0) ((if_neg (il0 (by omega) (by omega))).trans (by decide +kernel)) ?_
  refine EW.if_ne 19 dX9_simple_10 (by decide) (fun c10 => ?_) (fun c10 => ?_)
  · exact absurd c10 (by decide +kernel)
  · refine EW.iload_n dX9_simple_13 rfl rfl ?_
    refine EW.bp 46 dX9_simple_14 ?_
    refine EW.icmp_ne 63 dX9_simple_16 (by decide) (fun c16 => ?_) (fun c16 => ?_)
    · have c16 : ¬ (tx a = 46) := fun h => c16 ((nI_eq (by omega) (by omega)).mpr h)
      refine EW.iload_n dX9_simple_63 rfl rfl ?_
      refine EW.callS (bc := 0) (bs := 0) (M_isRule hl _ 0 s _) mfX9_isRule rfl l_X9_117 mvX9_isRule (by omega) dX9_simple_64 rfl rfl (Nat.le_of_ble_eq_true rfl) (fun v64 s64 q64 => ?_) (fun _ _ q => nomatch q.1)
      obtain ⟨e64, h64⟩ := q64; cases e64; replace h64 := h64.symm; subst h64
      refine EW.top (y := nI 1) ((if_pos (ir1 hc)).trans (by decide +kernel)) ?_
      refine EW.if_eq 88 dX9_simple_67 (by decide) (fun c67 => ?_) (fun c67 => ?_)
      · exact absurd c67 (by decide +kernel)
      · refine EW.aload_n dX9_simple_70 rfl rfl ?_
        refine EW.aload_n dX9_simple_71 rfl rfl ?_
        refine EW.ic 1 dX9_simple_72 ?_
        refine EW.iload_n dX9_simple_73 rfl rfl ?_
        refine EW.bp 65 dX9_simple_74 ?_
        refine EW.isub dX9_simple_76 ?_
        refine EW.top (pk_sub (by omega)) ?_
        refine EW.ic 0 dX9_simple_77 ?_
        refine EM.callV (M_madeS hl 0 s (z0 + szL rs + szL ps) _ _ _ hU2 (by omega)) mfX9_made l_X9_127 mvX9_made (by omega) dX9_simple_78 rfl rfl rfl rfl (Nat.le_of_ble_eq_true rfl) (fun _ _ q => nomatch q.1) (fun v78 s78 q78 => ?_)
        obtain ⟨e78, h78⟩ := q78; cases e78; replace h78 := h78.symm; subst h78
        refine EW.iload_n dX9_simple_81 rfl rfl ?_
        refine EW.ic 1 dX9_simple_82 ?_
        refine EW.iadd dX9_simple_83 ?_
        refine EW.top (nI_add _ _) ?_
        refine EM.callV (hP) mfX9_partDone l_X9_143 mvX9_partDone (by omega) dX9_simple_84 rfl rfl rfl rfl (Nat.le_of_ble_eq_true rfl) (fun _ _ q => nomatch q.1) (fun v84 s84 q84 => ?_)
        obtain ⟨e84, hA, hF⟩ := q84; cases e84
        refine EW.iret rfl dX9_simple_87 ?_
        exact ⟨rfl, hA, FPR.tr (mdS_F (by omega)) hF⟩
    · have c16 : tx a = 46 := (nI_eq (by omega) (by omega)).mp c16; omega
set_option maxHeartbeats 4000000 in
theorem M_simN (hl : l.stackTraces = false) (s : MSt) (k z0 pb rb : Nat) (rs ps : List Ex) (sg : Nat) (a n : Nat) (tx : Nat → Nat) (hL : LVL s k z0 pb rb rs ps sg) (hT : TXM s n tx) (ha : a < 100) (hk : k < 8) (hz : z0 + szL rs + szL ps < 58) (hp : pb + ps.length < 32) (hsg : sg = 0 ∨ sg = 38 ∨ sg = 33) (h1 : ¬ isL (tx a)) (h2 : ¬ isR (tx a)) (h3 : ¬ tx a = 46) (h4 : ¬ tx a = 91) : MtW (IM cy ad hp0) l D cy base mX9_simple (0 + 2) 0 0 [.ref (ad 43), .int (nI a)] s (smQ s k z0 pb rb rs ps sg tx (none, a)) := by
  refine MtW.of hl mfX9_simple rfl (Nat.le_of_ble_eq_true rfl) ?_
  have ht0 := hT.2.2.2.1 a
  have ht1 := hT.2.2.2.1 (a + 1)
  have ht2 := hT.2.2.2.1 (a + 2)
  have ht3 := hT.2.2.2.1 (a + 3)
  have ht4 := hT.2.2.2.1 (a + 4)
  refine EW.aload_n dX9_simple_0 rfl rfl ?_
  refine EW.iload_n dX9_simple_1 rfl rfl ?_
  refine EM.callV (M_lookT hl 0 s (a) n tx hT (by omega)) mfX9_look l_X9_123 mvX9_look (by omega) dX9_simple_2 rfl rfl rfl rfl (Nat.le_of_ble_eq_true rfl) (fun _ _ q => nomatch q.1) (fun v2 s2 q2 => ?_)
  obtain ⟨e2, h2⟩ := q2; cases e2; replace h2 := h2.symm; subst h2
  refine EW.istore_n dX9_simple_5 rfl (by decide) ?_
  refine EW.iload_n dX9_simple_6 rfl rfl ?_
  refine EW.callS (bc := 0) (bs := 0) (M_isLetter hl _ 0 s _) mfX9_isLetter rfl l_X9_113 mvX9_isLetter (by omega) dX9_simple_7 rfl rfl (Nat.le_of_ble_eq_true rfl) (fun v7 s7 q7 => ?_) (fun _ _ q => nomatch q.1)
  obtain ⟨e7, h7⟩ := q7; cases e7; replace h7 := h7.symm; subst h7
  refine EW.top (y := nI 0) ((if_neg (il0 (by omega) h1)).trans (by decide +kernel)) ?_
  refine EW.if_ne 19 dX9_simple_10 (by decide) (fun c10 => ?_) (fun c10 => ?_)
  · exact absurd c10 (by decide +kernel)
  · refine EW.iload_n dX9_simple_13 rfl rfl ?_
    refine EW.bp 46 dX9_simple_14 ?_
    refine EW.icmp_ne 63 dX9_simple_16 (by decide) (fun c16 => ?_) (fun c16 => ?_)
    · have c16 : ¬ (tx a = 46) := fun h => c16 ((nI_eq (by omega) (by omega)).mpr h)
      refine EW.iload_n dX9_simple_63 rfl rfl ?_
      refine EW.callS (bc := 0) (bs := 0) (M_isRule hl _ 0 s _) mfX9_isRule rfl l_X9_117 mvX9_isRule (by omega) dX9_simple_64 rfl rfl (Nat.le_of_ble_eq_true rfl) (fun v64 s64 q64 => ?_) (fun _ _ q => nomatch q.1)
      obtain ⟨e64, h64⟩ := q64; cases e64; replace h64 := h64.symm; subst h64
      refine EW.top (y := nI 0) ((if_neg (ir0 (by omega) h2)).trans (by decide +kernel)) ?_
      refine EW.if_eq 88 dX9_simple_67 (by decide) (fun c67 => ?_) (fun c67 => ?_)
      · refine EW.iload_n dX9_simple_88 rfl rfl ?_
        refine EW.bp 91 dX9_simple_89 ?_
        refine EW.icmp_eq 98 dX9_simple_91 (by decide) (fun c91 => ?_) (fun c91 => ?_)
        · have c91 : tx a = 91 := (nI_eq (by omega) (by omega)).mp c91; omega
        · have c91 : ¬ (tx a = 91) := fun h => c91 ((nI_eq (by omega) (by omega)).mpr h)
          refine EW.iconst (v := -1) dX9_simple_94 (by decide +kernel) ?_
          refine EW.iload_n dX9_simple_95 rfl rfl ?_
          refine EW.isub dX9_simple_96 ?_
          refine EW.iret rfl dX9_simple_97 ?_
          exact ⟨_, rfl, (flt_v 0 (-1) (by decide +kernel) (by decide) (by omega)).1, (flt_v 0 (-1) (by decide +kernel) (by decide) (by omega)).2, rfl⟩
      · exact absurd c67 (by decide +kernel)
    · have c16 : tx a = 46 := (nI_eq (by omega) (by omega)).mp c16; omega
set_option maxHeartbeats 4000000 in
theorem M_sim1 (hl : l.stackTraces = false) (s : MSt) (k z0 pb rb : Nat) (rs ps : List Ex) (sg : Nat) (a n : Nat) (tx : Nat → Nat) (hL : LVL s k z0 pb rb rs ps sg) (hT : TXM s n tx) (ha : a < 100) (hk : k < 8) (hz : z0 + szL rs + szL ps < 58) (hp : pb + ps.length < 32) (hsg : sg = 0 ∨ sg = 38 ∨ sg = 33) (hc : tx a = 91) (h1 : ¬ isL (tx (a + 1))) : MtW (IM cy ad hp0) l D cy base mX9_simple (0 + 2) 0 0 [.ref (ad 43), .int (nI a)] s (smQ s k z0 pb rb rs ps sg tx (none, a + 1)) := by
  refine MtW.of hl mfX9_simple rfl (Nat.le_of_ble_eq_true rfl) ?_
  have ht0 := hT.2.2.2.1 a
  have ht1 := hT.2.2.2.1 (a + 1)
  have ht2 := hT.2.2.2.1 (a + 2)
  have ht3 := hT.2.2.2.1 (a + 3)
  have ht4 := hT.2.2.2.1 (a + 4)
  refine EW.aload_n dX9_simple_0 rfl rfl ?_
  refine EW.iload_n dX9_simple_1 rfl rfl ?_
  refine EM.callV (M_lookT hl 0 s (a) n tx hT (by omega)) mfX9_look l_X9_123 mvX9_look (by omega) dX9_simple_2 rfl rfl rfl rfl (Nat.le_of_ble_eq_true rfl) (fun _ _ q => nomatch q.1) (fun v2 s2 q2 => ?_)
  obtain ⟨e2, h2⟩ := q2; cases e2; replace h2 := h2.symm; subst h2
  refine EW.istore_n dX9_simple_5 rfl (by decide) ?_
  refine EW.iload_n dX9_simple_6 rfl rfl ?_
  refine EW.callS (bc := 0) (bs := 0) (M_isLetter hl _ 0 s _) mfX9_isLetter rfl l_X9_113 mvX9_isLetter (by omega) dX9_simple_7 rfl rfl (Nat.le_of_ble_eq_true rfl) (fun v7 s7 q7 => ?_) (fun _ _ q => nomatch q.1)
  obtain ⟨e7, h7⟩ := q7; cases e7; replace h7 := h7.symm; subst h7
  refine EW.top (y := nI 0) ((if_neg (il0 (by omega) (by omega))).trans (by decide +kernel)) ?_
  refine EW.if_ne 19 dX9_simple_10 (by decide) (fun c10 => ?_) (fun c10 => ?_)
  · exact absurd c10 (by decide +kernel)
  · refine EW.iload_n dX9_simple_13 rfl rfl ?_
    refine EW.bp 46 dX9_simple_14 ?_
    refine EW.icmp_ne 63 dX9_simple_16 (by decide) (fun c16 => ?_) (fun c16 => ?_)
    · have c16 : ¬ (tx a = 46) := fun h => c16 ((nI_eq (by omega) (by omega)).mpr h)
      refine EW.iload_n dX9_simple_63 rfl rfl ?_
      refine EW.callS (bc := 0) (bs := 0) (M_isRule hl _ 0 s _) mfX9_isRule rfl l_X9_117 mvX9_isRule (by omega) dX9_simple_64 rfl rfl (Nat.le_of_ble_eq_true rfl) (fun v64 s64 q64 => ?_) (fun _ _ q => nomatch q.1)
      obtain ⟨e64, h64⟩ := q64; cases e64; replace h64 := h64.symm; subst h64
      refine EW.top (y := nI 0) ((if_neg (ir0 (by omega) (by omega))).trans (by decide +kernel)) ?_
      refine EW.if_eq 88 dX9_simple_67 (by decide) (fun c67 => ?_) (fun c67 => ?_)
      · refine EW.iload_n dX9_simple_88 rfl rfl ?_
        refine EW.bp 91 dX9_simple_89 ?_
        refine EW.icmp_eq 98 dX9_simple_91 (by decide) (fun c91 => ?_) (fun c91 => ?_)
        · have c91 : tx a = 91 := (nI_eq (by omega) (by omega)).mp c91
          refine EW.aload_n dX9_simple_98 rfl rfl ?_
          refine EW.iload_n dX9_simple_99 rfl rfl ?_
          refine EW.ic 1 dX9_simple_100 ?_
          refine EW.iadd dX9_simple_101 ?_
          refine EW.top (nI_add _ _) ?_
          refine EM.callV (M_lookT hl 0 s (a + 1) n tx hT (by omega)) mfX9_look l_X9_123 mvX9_look (by omega) dX9_simple_102 rfl rfl rfl rfl (Nat.le_of_ble_eq_true rfl) (fun _ _ q => nomatch q.1) (fun v102 s102 q102 => ?_)
          obtain ⟨e102, h102⟩ := q102; cases e102; replace h102 := h102.symm; subst h102
          refine EW.callS (bc := 0) (bs := 0) (M_isLetter hl _ 0 s _) mfX9_isLetter rfl l_X9_113 mvX9_isLetter (by omega) dX9_simple_105 rfl rfl (Nat.le_of_ble_eq_true rfl) (fun v105 s105 q105 => ?_) (fun _ _ q => nomatch q.1)
          obtain ⟨e105, h105⟩ := q105; cases e105; replace h105 := h105.symm; subst h105
          refine EW.top (y := nI 0) ((if_neg (il0 (by omega) h1)).trans (by decide +kernel)) ?_
          refine EW.if_ne 116 dX9_simple_108 (by decide) (fun c108 => ?_) (fun c108 => ?_)
          · exact absurd c108 (by decide +kernel)
          · refine EW.bipush (v := -2) dX9_simple_111 (by decide +kernel) ?_
            refine EW.iload_n dX9_simple_113 rfl rfl ?_
            refine EW.isub dX9_simple_114 ?_
            refine EW.iret rfl dX9_simple_115 ?_
            exact ⟨_, rfl, (flt_v 1 (-2) (by decide +kernel) (by decide) (by omega)).1, (flt_v 1 (-2) (by decide +kernel) (by decide) (by omega)).2, rfl⟩
        · have c91 : ¬ (tx a = 91) := fun h => c91 ((nI_eq (by omega) (by omega)).mpr h); omega
      · exact absurd c67 (by decide +kernel)
    · have c16 : tx a = 46 := (nI_eq (by omega) (by omega)).mp c16; omega
set_option maxHeartbeats 4000000 in
theorem M_sim2 (hl : l.stackTraces = false) (s : MSt) (k z0 pb rb : Nat) (rs ps : List Ex) (sg : Nat) (a n : Nat) (tx : Nat → Nat) (hL : LVL s k z0 pb rb rs ps sg) (hT : TXM s n tx) (ha : a < 100) (hk : k < 8) (hz : z0 + szL rs + szL ps < 58) (hp : pb + ps.length < 32) (hsg : sg = 0 ∨ sg = 38 ∨ sg = 33) (hc : tx a = 91) (h1 : isL (tx (a + 1))) (h2 : ¬ tx (a + 2) = 45) : MtW (IM cy ad hp0) l D cy base mX9_simple (0 + 2) 0 0 [.ref (ad 43), .int (nI a)] s (smQ s k z0 pb rb rs ps sg tx (none, a + 2)) := by
  refine MtW.of hl mfX9_simple rfl (Nat.le_of_ble_eq_true rfl) ?_
  have ht0 := hT.2.2.2.1 a
  have ht1 := hT.2.2.2.1 (a + 1)
  have ht2 := hT.2.2.2.1 (a + 2)
  have ht3 := hT.2.2.2.1 (a + 3)
  have ht4 := hT.2.2.2.1 (a + 4)
  refine EW.aload_n dX9_simple_0 rfl rfl ?_
  refine EW.iload_n dX9_simple_1 rfl rfl ?_
  refine EM.callV (M_lookT hl 0 s (a) n tx hT (by omega)) mfX9_look l_X9_123 mvX9_look (by omega) dX9_simple_2 rfl rfl rfl rfl (Nat.le_of_ble_eq_true rfl) (fun _ _ q => nomatch q.1) (fun v2 s2 q2 => ?_)
  obtain ⟨e2, h2⟩ := q2; cases e2; replace h2 := h2.symm; subst h2
  refine EW.istore_n dX9_simple_5 rfl (by decide) ?_
  refine EW.iload_n dX9_simple_6 rfl rfl ?_
  refine EW.callS (bc := 0) (bs := 0) (M_isLetter hl _ 0 s _) mfX9_isLetter rfl l_X9_113 mvX9_isLetter (by omega) dX9_simple_7 rfl rfl (Nat.le_of_ble_eq_true rfl) (fun v7 s7 q7 => ?_) (fun _ _ q => nomatch q.1)
  obtain ⟨e7, h7⟩ := q7; cases e7; replace h7 := h7.symm; subst h7
  refine EW.top (y := nI 0) ((if_neg (il0 (by omega) (by omega))).trans (by decide +kernel)) ?_
  refine EW.if_ne 19 dX9_simple_10 (by decide) (fun c10 => ?_) (fun c10 => ?_)
  · exact absurd c10 (by decide +kernel)
  · refine EW.iload_n dX9_simple_13 rfl rfl ?_
    refine EW.bp 46 dX9_simple_14 ?_
    refine EW.icmp_ne 63 dX9_simple_16 (by decide) (fun c16 => ?_) (fun c16 => ?_)
    · have c16 : ¬ (tx a = 46) := fun h => c16 ((nI_eq (by omega) (by omega)).mpr h)
      refine EW.iload_n dX9_simple_63 rfl rfl ?_
      refine EW.callS (bc := 0) (bs := 0) (M_isRule hl _ 0 s _) mfX9_isRule rfl l_X9_117 mvX9_isRule (by omega) dX9_simple_64 rfl rfl (Nat.le_of_ble_eq_true rfl) (fun v64 s64 q64 => ?_) (fun _ _ q => nomatch q.1)
      obtain ⟨e64, h64⟩ := q64; cases e64; replace h64 := h64.symm; subst h64
      refine EW.top (y := nI 0) ((if_neg (ir0 (by omega) (by omega))).trans (by decide +kernel)) ?_
      refine EW.if_eq 88 dX9_simple_67 (by decide) (fun c67 => ?_) (fun c67 => ?_)
      · refine EW.iload_n dX9_simple_88 rfl rfl ?_
        refine EW.bp 91 dX9_simple_89 ?_
        refine EW.icmp_eq 98 dX9_simple_91 (by decide) (fun c91 => ?_) (fun c91 => ?_)
        · have c91 : tx a = 91 := (nI_eq (by omega) (by omega)).mp c91
          refine EW.aload_n dX9_simple_98 rfl rfl ?_
          refine EW.iload_n dX9_simple_99 rfl rfl ?_
          refine EW.ic 1 dX9_simple_100 ?_
          refine EW.iadd dX9_simple_101 ?_
          refine EW.top (nI_add _ _) ?_
          refine EM.callV (M_lookT hl 0 s (a + 1) n tx hT (by omega)) mfX9_look l_X9_123 mvX9_look (by omega) dX9_simple_102 rfl rfl rfl rfl (Nat.le_of_ble_eq_true rfl) (fun _ _ q => nomatch q.1) (fun v102 s102 q102 => ?_)
          obtain ⟨e102, h102⟩ := q102; cases e102; replace h102 := h102.symm; subst h102
          refine EW.callS (bc := 0) (bs := 0) (M_isLetter hl _ 0 s _) mfX9_isLetter rfl l_X9_113 mvX9_isLetter (by omega) dX9_simple_105 rfl rfl (Nat.le_of_ble_eq_true rfl) (fun v105 s105 q105 => ?_) (fun _ _ q => nomatch q.1)
          obtain ⟨e105, h105⟩ := q105; cases e105; replace h105 := h105.symm; subst h105
          refine EW.top (y := nI 1) ((if_pos (il1 h1)).trans (by decide +kernel)) ?_
          refine EW.if_ne 116 dX9_simple_108 (by decide) (fun c108 => ?_) (fun c108 => ?_)
          · refine EW.aload_n dX9_simple_116 rfl rfl ?_
            refine EW.iload_n dX9_simple_117 rfl rfl ?_
            refine EW.ic 2 dX9_simple_118 ?_
            refine EW.iadd dX9_simple_119 ?_
            refine EW.top (nI_add _ _) ?_
            refine EM.callV (M_lookT hl 0 s (a + 2) n tx hT (by omega)) mfX9_look l_X9_123 mvX9_look (by omega) dX9_simple_120 rfl rfl rfl rfl (Nat.le_of_ble_eq_true rfl) (fun _ _ q => nomatch q.1) (fun v120 s120 q120 => ?_)
            obtain ⟨e120, h120⟩ := q120; cases e120; replace h120 := h120.symm; subst h120
            refine EW.bp 45 dX9_simple_123 ?_
            refine EW.icmp_eq 133 dX9_simple_125 (by decide) (fun c125 => ?_) (fun c125 => ?_)
            · have c125 : tx (a + 2) = 45 := (nI_eq (by omega) (by omega)).mp c125; omega
            · have c125 : ¬ (tx (a + 2) = 45) := fun h => c125 ((nI_eq (by omega) (by omega)).mpr h)
              refine EW.bipush (v := -3) dX9_simple_128 (by decide +kernel) ?_
              refine EW.iload_n dX9_simple_130 rfl rfl ?_
              refine EW.isub dX9_simple_131 ?_
              refine EW.iret rfl dX9_simple_132 ?_
              exact ⟨_, rfl, (flt_v 2 (-3) (by decide +kernel) (by decide) (by omega)).1, (flt_v 2 (-3) (by decide +kernel) (by decide) (by omega)).2, rfl⟩
          · exact absurd c108 (by decide +kernel)
        · have c91 : ¬ (tx a = 91) := fun h => c91 ((nI_eq (by omega) (by omega)).mpr h); omega
      · exact absurd c67 (by decide +kernel)
    · have c16 : tx a = 46 := (nI_eq (by omega) (by omega)).mp c16; omega
set_option maxHeartbeats 4000000 in
theorem M_sim3a (hl : l.stackTraces = false) (s : MSt) (k z0 pb rb : Nat) (rs ps : List Ex) (sg : Nat) (a n : Nat) (tx : Nat → Nat) (hL : LVL s k z0 pb rb rs ps sg) (hT : TXM s n tx) (ha : a < 100) (hk : k < 8) (hz : z0 + szL rs + szL ps < 58) (hp : pb + ps.length < 32) (hsg : sg = 0 ∨ sg = 38 ∨ sg = 33) (hc : tx a = 91) (h1 : isL (tx (a + 1))) (h2 : tx (a + 2) = 45) (h3 : ¬ isL (tx (a + 3))) : MtW (IM cy ad hp0) l D cy base mX9_simple (0 + 2) 0 0 [.ref (ad 43), .int (nI a)] s (smQ s k z0 pb rb rs ps sg tx (none, a + 3)) := by
  refine MtW.of hl mfX9_simple rfl (Nat.le_of_ble_eq_true rfl) ?_
  have ht0 := hT.2.2.2.1 a
  have ht1 := hT.2.2.2.1 (a + 1)
  have ht2 := hT.2.2.2.1 (a + 2)
  have ht3 := hT.2.2.2.1 (a + 3)
  have ht4 := hT.2.2.2.1 (a + 4)
  refine EW.aload_n dX9_simple_0 rfl rfl ?_
  refine EW.iload_n dX9_simple_1 rfl rfl ?_
  refine EM.callV (M_lookT hl 0 s (a) n tx hT (by omega)) mfX9_look l_X9_123 mvX9_look (by omega) dX9_simple_2 rfl rfl rfl rfl (Nat.le_of_ble_eq_true rfl) (fun _ _ q => nomatch q.1) (fun v2 s2 q2 => ?_)
  obtain ⟨e2, h2⟩ := q2; cases e2; replace h2 := h2.symm; subst h2
  refine EW.istore_n dX9_simple_5 rfl (by decide) ?_
  refine EW.iload_n dX9_simple_6 rfl rfl ?_
  refine EW.callS (bc := 0) (bs := 0) (M_isLetter hl _ 0 s _) mfX9_isLetter rfl l_X9_113 mvX9_isLetter (by omega) dX9_simple_7 rfl rfl (Nat.le_of_ble_eq_true rfl) (fun v7 s7 q7 => ?_) (fun _ _ q => nomatch q.1)
  obtain ⟨e7, h7⟩ := q7; cases e7; replace h7 := h7.symm; subst h7
  refine EW.top (y := nI 0) ((if_neg (il0 (by omega) (by omega))).trans (by decide +kernel)) ?_
  refine EW.if_ne 19 dX9_simple_10 (by decide) (fun c10 => ?_) (fun c10 => ?_)
  · exact absurd c10 (by decide +kernel)
  · refine EW.iload_n dX9_simple_13 rfl rfl ?_
    refine EW.bp 46 dX9_simple_14 ?_
    refine EW.icmp_ne 63 dX9_simple_16 (by decide) (fun c16 => ?_) (fun c16 => ?_)
    · have c16 : ¬ (tx a = 46) := fun h => c16 ((nI_eq (by omega) (by omega)).mpr h)
      refine EW.iload_n dX9_simple_63 rfl rfl ?_
      refine EW.callS (bc := 0) (bs := 0) (M_isRule hl _ 0 s _) mfX9_isRule rfl l_X9_117 mvX9_isRule (by omega) dX9_simple_64 rfl rfl (Nat.le_of_ble_eq_true rfl) (fun v64 s64 q64 => ?_) (fun _ _ q => nomatch q.1)
      obtain ⟨e64, h64⟩ := q64; cases e64; replace h64 := h64.symm; subst h64
      refine EW.top (y := nI 0) ((if_neg (ir0 (by omega) (by omega))).trans (by decide +kernel)) ?_
      refine EW.if_eq 88 dX9_simple_67 (by decide) (fun c67 => ?_) (fun c67 => ?_)
      · refine EW.iload_n dX9_simple_88 rfl rfl ?_
        refine EW.bp 91 dX9_simple_89 ?_
        refine EW.icmp_eq 98 dX9_simple_91 (by decide) (fun c91 => ?_) (fun c91 => ?_)
        · have c91 : tx a = 91 := (nI_eq (by omega) (by omega)).mp c91
          refine EW.aload_n dX9_simple_98 rfl rfl ?_
          refine EW.iload_n dX9_simple_99 rfl rfl ?_
          refine EW.ic 1 dX9_simple_100 ?_
          refine EW.iadd dX9_simple_101 ?_
          refine EW.top (nI_add _ _) ?_
          refine EM.callV (M_lookT hl 0 s (a + 1) n tx hT (by omega)) mfX9_look l_X9_123 mvX9_look (by omega) dX9_simple_102 rfl rfl rfl rfl (Nat.le_of_ble_eq_true rfl) (fun _ _ q => nomatch q.1) (fun v102 s102 q102 => ?_)
          obtain ⟨e102, h102⟩ := q102; cases e102; replace h102 := h102.symm; subst h102
          refine EW.callS (bc := 0) (bs := 0) (M_isLetter hl _ 0 s _) mfX9_isLetter rfl l_X9_113 mvX9_isLetter (by omega) dX9_simple_105 rfl rfl (Nat.le_of_ble_eq_true rfl) (fun v105 s105 q105 => ?_) (fun _ _ q => nomatch q.1)
          obtain ⟨e105, h105⟩ := q105; cases e105; replace h105 := h105.symm; subst h105
          refine EW.top (y := nI 1) ((if_pos (il1 h1)).trans (by decide +kernel)) ?_
          refine EW.if_ne 116 dX9_simple_108 (by decide) (fun c108 => ?_) (fun c108 => ?_)
          · refine EW.aload_n dX9_simple_116 rfl rfl ?_
            refine EW.iload_n dX9_simple_117 rfl rfl ?_
            refine EW.ic 2 dX9_simple_118 ?_
            refine EW.iadd dX9_simple_119 ?_
            refine EW.top (nI_add _ _) ?_
            refine EM.callV (M_lookT hl 0 s (a + 2) n tx hT (by omega)) mfX9_look l_X9_123 mvX9_look (by omega) dX9_simple_120 rfl rfl rfl rfl (Nat.le_of_ble_eq_true rfl) (fun _ _ q => nomatch q.1) (fun v120 s120 q120 => ?_)
            obtain ⟨e120, h120⟩ := q120; cases e120; replace h120 := h120.symm; subst h120
            refine EW.bp 45 dX9_simple_123 ?_
            refine EW.icmp_eq 133 dX9_simple_125 (by decide) (fun c125 => ?_) (fun c125 => ?_)
            · have c125 : tx (a + 2) = 45 := (nI_eq (by omega) (by omega)).mp c125
              refine EW.aload_n dX9_simple_133 rfl rfl ?_
              refine EW.iload_n dX9_simple_134 rfl rfl ?_
              refine EW.ic 3 dX9_simple_135 ?_
              refine EW.iadd dX9_simple_136 ?_
              refine EW.top (nI_add _ _) ?_
              refine EM.callV (M_lookT hl 0 s (a + 3) n tx hT (by omega)) mfX9_look l_X9_123 mvX9_look (by omega) dX9_simple_137 rfl rfl rfl rfl (Nat.le_of_ble_eq_true rfl) (fun _ _ q => nomatch q.1) (fun v137 s137 q137 => ?_)
              obtain ⟨e137, h137⟩ := q137; cases e137; replace h137 := h137.symm; subst h137
              refine EW.callS (bc := 0) (bs := 0) (M_isLetter hl _ 0 s _) mfX9_isLetter rfl l_X9_113 mvX9_isLetter (by omega) dX9_simple_140 rfl rfl (Nat.le_of_ble_eq_true rfl) (fun v140 s140 q140 => ?_) (fun _ _ q => nomatch q.1)
              obtain ⟨e140, h140⟩ := q140; cases e140; replace h140 := h140.symm; subst h140
              refine EW.top (y := nI 0) ((if_neg (il0 (by omega) h3)).trans (by decide +kernel)) ?_
              refine EW.if_eq 163 dX9_simple_143 (by decide) (fun c143 => ?_) (fun c143 => ?_)
              · refine EW.bipush (v := -4) dX9_simple_163 (by decide +kernel) ?_
                refine EW.iload_n dX9_simple_165 rfl rfl ?_
                refine EW.isub dX9_simple_166 ?_
                refine EW.iret rfl dX9_simple_167 ?_
                exact ⟨_, rfl, (flt_v 3 (-4) (by decide +kernel) (by decide) (by omega)).1, (flt_v 3 (-4) (by decide +kernel) (by decide) (by omega)).2, rfl⟩
              · exact absurd c143 (by decide +kernel)
            · have c125 : ¬ (tx (a + 2) = 45) := fun h => c125 ((nI_eq (by omega) (by omega)).mpr h); omega
          · exact absurd c108 (by decide +kernel)
        · have c91 : ¬ (tx a = 91) := fun h => c91 ((nI_eq (by omega) (by omega)).mpr h); omega
      · exact absurd c67 (by decide +kernel)
    · have c16 : tx a = 46 := (nI_eq (by omega) (by omega)).mp c16; omega
set_option maxHeartbeats 4000000 in
theorem M_sim3b (hl : l.stackTraces = false) (s : MSt) (k z0 pb rb : Nat) (rs ps : List Ex) (sg : Nat) (a n : Nat) (tx : Nat → Nat) (hL : LVL s k z0 pb rb rs ps sg) (hT : TXM s n tx) (ha : a < 100) (hk : k < 8) (hz : z0 + szL rs + szL ps < 58) (hp : pb + ps.length < 32) (hsg : sg = 0 ∨ sg = 38 ∨ sg = 33) (hc : tx a = 91) (h1 : isL (tx (a + 1))) (h2 : tx (a + 2) = 45) (h3 : isL (tx (a + 3))) (h4 : ¬ tx (a + 1) ≤ tx (a + 3)) : MtW (IM cy ad hp0) l D cy base mX9_simple (0 + 2) 0 0 [.ref (ad 43), .int (nI a)] s (smQ s k z0 pb rb rs ps sg tx (none, a + 3)) := by
  refine MtW.of hl mfX9_simple rfl (Nat.le_of_ble_eq_true rfl) ?_
  have ht0 := hT.2.2.2.1 a
  have ht1 := hT.2.2.2.1 (a + 1)
  have ht2 := hT.2.2.2.1 (a + 2)
  have ht3 := hT.2.2.2.1 (a + 3)
  have ht4 := hT.2.2.2.1 (a + 4)
  refine EW.aload_n dX9_simple_0 rfl rfl ?_
  refine EW.iload_n dX9_simple_1 rfl rfl ?_
  refine EM.callV (M_lookT hl 0 s (a) n tx hT (by omega)) mfX9_look l_X9_123 mvX9_look (by omega) dX9_simple_2 rfl rfl rfl rfl (Nat.le_of_ble_eq_true rfl) (fun _ _ q => nomatch q.1) (fun v2 s2 q2 => ?_)
  obtain ⟨e2, h2⟩ := q2; cases e2; replace h2 := h2.symm; subst h2
  refine EW.istore_n dX9_simple_5 rfl (by decide) ?_
  refine EW.iload_n dX9_simple_6 rfl rfl ?_
  refine EW.callS (bc := 0) (bs := 0) (M_isLetter hl _ 0 s _) mfX9_isLetter rfl l_X9_113 mvX9_isLetter (by omega) dX9_simple_7 rfl rfl (Nat.le_of_ble_eq_true rfl) (fun v7 s7 q7 => ?_) (fun _ _ q => nomatch q.1)
  obtain ⟨e7, h7⟩ := q7; cases e7; replace h7 := h7.symm; subst h7
  refine EW.top (y := nI 0) ((if_neg (il0 (by omega) (by omega))).trans (by decide +kernel)) ?_
  refine EW.if_ne 19 dX9_simple_10 (by decide) (fun c10 => ?_) (fun c10 => ?_)
  · exact absurd c10 (by decide +kernel)
  · refine EW.iload_n dX9_simple_13 rfl rfl ?_
    refine EW.bp 46 dX9_simple_14 ?_
    refine EW.icmp_ne 63 dX9_simple_16 (by decide) (fun c16 => ?_) (fun c16 => ?_)
    · have c16 : ¬ (tx a = 46) := fun h => c16 ((nI_eq (by omega) (by omega)).mpr h)
      refine EW.iload_n dX9_simple_63 rfl rfl ?_
      refine EW.callS (bc := 0) (bs := 0) (M_isRule hl _ 0 s _) mfX9_isRule rfl l_X9_117 mvX9_isRule (by omega) dX9_simple_64 rfl rfl (Nat.le_of_ble_eq_true rfl) (fun v64 s64 q64 => ?_) (fun _ _ q => nomatch q.1)
      obtain ⟨e64, h64⟩ := q64; cases e64; replace h64 := h64.symm; subst h64
      refine EW.top (y := nI 0) ((if_neg (ir0 (by omega) (by omega))).trans (by decide +kernel)) ?_
      refine EW.if_eq 88 dX9_simple_67 (by decide) (fun c67 => ?_) (fun c67 => ?_)
      · refine EW.iload_n dX9_simple_88 rfl rfl ?_
        refine EW.bp 91 dX9_simple_89 ?_
        refine EW.icmp_eq 98 dX9_simple_91 (by decide) (fun c91 => ?_) (fun c91 => ?_)
        · have c91 : tx a = 91 := (nI_eq (by omega) (by omega)).mp c91
          refine EW.aload_n dX9_simple_98 rfl rfl ?_
          refine EW.iload_n dX9_simple_99 rfl rfl ?_
          refine EW.ic 1 dX9_simple_100 ?_
          refine EW.iadd dX9_simple_101 ?_
          refine EW.top (nI_add _ _) ?_
          refine EM.callV (M_lookT hl 0 s (a + 1) n tx hT (by omega)) mfX9_look l_X9_123 mvX9_look (by omega) dX9_simple_102 rfl rfl rfl rfl (Nat.le_of_ble_eq_true rfl) (fun _ _ q => nomatch q.1) (fun v102 s102 q102 => ?_)
          obtain ⟨e102, h102⟩ := q102; cases e102; replace h102 := h102.symm; subst h102
          refine EW.callS (bc := 0) (bs := 0) (M_isLetter hl _ 0 s _) mfX9_isLetter rfl l_X9_113 mvX9_isLetter (by omega) dX9_simple_105 rfl rfl (Nat.le_of_ble_eq_true rfl) (fun v105 s105 q105 => ?_) (fun _ _ q => nomatch q.1)
          obtain ⟨e105, h105⟩ := q105; cases e105; replace h105 := h105.symm; subst h105
          refine EW.top (y := nI 1) ((if_pos (il1 h1)).trans (by decide +kernel)) ?_
          refine EW.if_ne 116 dX9_simple_108 (by decide) (fun c108 => ?_) (fun c108 => ?_)
          · refine EW.aload_n dX9_simple_116 rfl rfl ?_
            refine EW.iload_n dX9_simple_117 rfl rfl ?_
            refine EW.ic 2 dX9_simple_118 ?_
            refine EW.iadd dX9_simple_119 ?_
            refine EW.top (nI_add _ _) ?_
            refine EM.callV (M_lookT hl 0 s (a + 2) n tx hT (by omega)) mfX9_look l_X9_123 mvX9_look (by omega) dX9_simple_120 rfl rfl rfl rfl (Nat.le_of_ble_eq_true rfl) (fun _ _ q => nomatch q.1) (fun v120 s120 q120 => ?_)
            obtain ⟨e120, h120⟩ := q120; cases e120; replace h120 := h120.symm; subst h120
            refine EW.bp 45 dX9_simple_123 ?_
            refine EW.icmp_eq 133 dX9_simple_125 (by decide) (fun c125 => ?_) (fun c125 => ?_)
            · have c125 : tx (a + 2) = 45 := (nI_eq (by omega) (by omega)).mp c125
              refine EW.aload_n dX9_simple_133 rfl rfl ?_
              refine EW.iload_n dX9_simple_134 rfl rfl ?_
              refine EW.ic 3 dX9_simple_135 ?_
              refine EW.iadd dX9_simple_136 ?_
              refine EW.top (nI_add _ _) ?_
              refine EM.callV (M_lookT hl 0 s (a + 3) n tx hT (by omega)) mfX9_look l_X9_123 mvX9_look (by omega) dX9_simple_137 rfl rfl rfl rfl (Nat.le_of_ble_eq_true rfl) (fun _ _ q => nomatch q.1) (fun v137 s137 q137 => ?_)
              obtain ⟨e137, h137⟩ := q137; cases e137; replace h137 := h137.symm; subst h137
              refine EW.callS (bc := 0) (bs := 0) (M_isLetter hl _ 0 s _) mfX9_isLetter rfl l_X9_113 mvX9_isLetter (by omega) dX9_simple_140 rfl rfl (Nat.le_of_ble_eq_true rfl) (fun v140 s140 q140 => ?_) (fun _ _ q => nomatch q.1)
              obtain ⟨e140, h140⟩ := q140; cases e140; replace h140 := h140.symm; subst h140
              refine EW.top (y := nI 1) ((if_pos (il1 h3)).trans (by decide +kernel)) ?_
              refine EW.if_eq 163 dX9_simple_143 (by decide) (fun c143 => ?_) (fun c143 => ?_)
              · exact absurd c143 (by decide +kernel)
              · refine EW.aload_n dX9_simple_146 rfl rfl ?_
                refine EW.iload_n dX9_simple_147 rfl rfl ?_
                refine EW.ic 3 dX9_simple_148 ?_
                refine EW.iadd dX9_simple_149 ?_
                refine EW.top (nI_add _ _) ?_
                refine EM.callV (M_lookT hl 0 s (a + 3) n tx hT (by omega)) mfX9_look l_X9_123 mvX9_look (by omega) dX9_simple_150 rfl rfl rfl rfl (Nat.le_of_ble_eq_true rfl) (fun _ _ q => nomatch q.1) (fun v150 s150 q150 => ?_)
                obtain ⟨e150, h150⟩ := q150; cases e150; replace h150 := h150.symm; subst h150
                refine EW.aload_n dX9_simple_153 rfl rfl ?_
                refine EW.iload_n dX9_simple_154 rfl rfl ?_
                refine EW.ic 1 dX9_simple_155 ?_
                refine EW.iadd dX9_simple_156 ?_
                refine EW.top (nI_add _ _) ?_
                refine EM.callV (M_lookT hl 0 s (a + 1) n tx hT (by omega)) mfX9_look l_X9_123 mvX9_look (by omega) dX9_simple_157 rfl rfl rfl rfl (Nat.le_of_ble_eq_true rfl) (fun _ _ q => nomatch q.1) (fun v157 s157 q157 => ?_)
                obtain ⟨e157, h157⟩ := q157; cases e157; replace h157 := h157.symm; subst h157
                refine EW.icmp_ge 168 dX9_simple_160 (by decide) (fun c160 => ?_) (fun c160 => ?_)
                · have c160 : tx (a + 1) ≤ tx (a + 3) := (nI_leI (by omega) (by omega)).mp c160; omega
                · have c160 : ¬ (tx (a + 1) ≤ tx (a + 3)) := fun h => c160 ((nI_leI (by omega) (by omega)).mpr h)
                  refine EW.bipush (v := -4) dX9_simple_163 (by decide +kernel) ?_
                  refine EW.iload_n dX9_simple_165 rfl rfl ?_
                  refine EW.isub dX9_simple_166 ?_
                  refine EW.iret rfl dX9_simple_167 ?_
                  exact ⟨_, rfl, (flt_v 3 (-4) (by decide +kernel) (by decide) (by omega)).1, (flt_v 3 (-4) (by decide +kernel) (by decide) (by omega)).2, rfl⟩
            · have c125 : ¬ (tx (a + 2) = 45) := fun h => c125 ((nI_eq (by omega) (by omega)).mpr h); omega
          · exact absurd c108 (by decide +kernel)
        · have c91 : ¬ (tx a = 91) := fun h => c91 ((nI_eq (by omega) (by omega)).mpr h); omega
      · exact absurd c67 (by decide +kernel)
    · have c16 : tx a = 46 := (nI_eq (by omega) (by omega)).mp c16; omega
set_option maxHeartbeats 4000000 in
theorem M_sim4 (hl : l.stackTraces = false) (s : MSt) (k z0 pb rb : Nat) (rs ps : List Ex) (sg : Nat) (a n : Nat) (tx : Nat → Nat) (hL : LVL s k z0 pb rb rs ps sg) (hT : TXM s n tx) (ha : a < 100) (hk : k < 8) (hz : z0 + szL rs + szL ps < 58) (hp : pb + ps.length < 32) (hsg : sg = 0 ∨ sg = 38 ∨ sg = 33) (hc : tx a = 91) (h1 : isL (tx (a + 1))) (h2 : tx (a + 2) = 45) (h3 : isL (tx (a + 3))) (h4 : tx (a + 1) ≤ tx (a + 3)) (h5 : ¬ tx (a + 4) = 93) : MtW (IM cy ad hp0) l D cy base mX9_simple (0 + 2) 0 0 [.ref (ad 43), .int (nI a)] s (smQ s k z0 pb rb rs ps sg tx (none, a + 4)) := by
  refine MtW.of hl mfX9_simple rfl (Nat.le_of_ble_eq_true rfl) ?_
  have ht0 := hT.2.2.2.1 a
  have ht1 := hT.2.2.2.1 (a + 1)
  have ht2 := hT.2.2.2.1 (a + 2)
  have ht3 := hT.2.2.2.1 (a + 3)
  have ht4 := hT.2.2.2.1 (a + 4)
  refine EW.aload_n dX9_simple_0 rfl rfl ?_
  refine EW.iload_n dX9_simple_1 rfl rfl ?_
  refine EM.callV (M_lookT hl 0 s (a) n tx hT (by omega)) mfX9_look l_X9_123 mvX9_look (by omega) dX9_simple_2 rfl rfl rfl rfl (Nat.le_of_ble_eq_true rfl) (fun _ _ q => nomatch q.1) (fun v2 s2 q2 => ?_)
  obtain ⟨e2, h2⟩ := q2; cases e2; replace h2 := h2.symm; subst h2
  refine EW.istore_n dX9_simple_5 rfl (by decide) ?_
  refine EW.iload_n dX9_simple_6 rfl rfl ?_
  refine EW.callS (bc := 0) (bs := 0) (M_isLetter hl _ 0 s _) mfX9_isLetter rfl l_X9_113 mvX9_isLetter (by omega) dX9_simple_7 rfl rfl (Nat.le_of_ble_eq_true rfl) (fun v7 s7 q7 => ?_) (fun _ _ q => nomatch q.1)
  obtain ⟨e7, h7⟩ := q7; cases e7; replace h7 := h7.symm; subst h7
  refine EW.top (y := nI 0) ((if_neg (il0 (by omega) (by omega))).trans (by decide +kernel)) ?_
  refine EW.if_ne 19 dX9_simple_10 (by decide) (fun c10 => ?_) (fun c10 => ?_)
  · exact absurd c10 (by decide +kernel)
  · refine EW.iload_n dX9_simple_13 rfl rfl ?_
    refine EW.bp 46 dX9_simple_14 ?_
    refine EW.icmp_ne 63 dX9_simple_16 (by decide) (fun c16 => ?_) (fun c16 => ?_)
    · have c16 : ¬ (tx a = 46) := fun h => c16 ((nI_eq (by omega) (by omega)).mpr h)
      refine EW.iload_n dX9_simple_63 rfl rfl ?_
      refine EW.callS (bc := 0) (bs := 0) (M_isRule hl _ 0 s _) mfX9_isRule rfl l_X9_117 mvX9_isRule (by omega) dX9_simple_64 rfl rfl (Nat.le_of_ble_eq_true rfl) (fun v64 s64 q64 => ?_) (fun _ _ q => nomatch q.1)
      obtain ⟨e64, h64⟩ := q64; cases e64; replace h64 := h64.symm; subst h64
      refine EW.top (y := nI 0) ((if_neg (ir0 (by omega) (by omega))).trans (by decide +kernel)) ?_
      refine EW.if_eq 88 dX9_simple_67 (by decide) (fun c67 => ?_) (fun c67 => ?_)
      · refine EW.iload_n dX9_simple_88 rfl rfl ?_
        refine EW.bp 91 dX9_simple_89 ?_
        refine EW.icmp_eq 98 dX9_simple_91 (by decide) (fun c91 => ?_) (fun c91 => ?_)
        · have c91 : tx a = 91 := (nI_eq (by omega) (by omega)).mp c91
          refine EW.aload_n dX9_simple_98 rfl rfl ?_
          refine EW.iload_n dX9_simple_99 rfl rfl ?_
          refine EW.ic 1 dX9_simple_100 ?_
          refine EW.iadd dX9_simple_101 ?_
          refine EW.top (nI_add _ _) ?_
          refine EM.callV (M_lookT hl 0 s (a + 1) n tx hT (by omega)) mfX9_look l_X9_123 mvX9_look (by omega) dX9_simple_102 rfl rfl rfl rfl (Nat.le_of_ble_eq_true rfl) (fun _ _ q => nomatch q.1) (fun v102 s102 q102 => ?_)
          obtain ⟨e102, h102⟩ := q102; cases e102; replace h102 := h102.symm; subst h102
          refine EW.callS (bc := 0) (bs := 0) (M_isLetter hl _ 0 s _) mfX9_isLetter rfl l_X9_113 mvX9_isLetter (by omega) dX9_simple_105 rfl rfl (Nat.le_of_ble_eq_true rfl) (fun v105 s105 q105 => ?_) (fun _ _ q => nomatch q.1)
          obtain ⟨e105, h105⟩ := q105; cases e105; replace h105 := h105.symm; subst h105
          refine EW.top (y := nI 1) ((if_pos (il1 h1)).trans (by decide +kernel)) ?_
          refine EW.if_ne 116 dX9_simple_108 (by decide) (fun c108 => ?_) (fun c108 => ?_)
          · refine EW.aload_n dX9_simple_116 rfl rfl ?_
            refine EW.iload_n dX9_simple_117 rfl rfl ?_
            refine EW.ic 2 dX9_simple_118 ?_
            refine EW.iadd dX9_simple_119 ?_
            refine EW.top (nI_add _ _) ?_
            refine EM.callV (M_lookT hl 0 s (a + 2) n tx hT (by omega)) mfX9_look l_X9_123 mvX9_look (by omega) dX9_simple_120 rfl rfl rfl rfl (Nat.le_of_ble_eq_true rfl) (fun _ _ q => nomatch q.1) (fun v120 s120 q120 => ?_)
            obtain ⟨e120, h120⟩ := q120; cases e120; replace h120 := h120.symm; subst h120
            refine EW.bp 45 dX9_simple_123 ?_
            refine EW.icmp_eq 133 dX9_simple_125 (by decide) (fun c125 => ?_) (fun c125 => ?_)
            · have c125 : tx (a + 2) = 45 := (nI_eq (by omega) (by omega)).mp c125
              refine EW.aload_n dX9_simple_133 rfl rfl ?_
              refine EW.iload_n dX9_simple_134 rfl rfl ?_
              refine EW.ic 3 dX9_simple_135 ?_
              refine EW.iadd dX9_simple_136 ?_
              refine EW.top (nI_add _ _) ?_
              refine EM.callV (M_lookT hl 0 s (a + 3) n tx hT (by omega)) mfX9_look l_X9_123 mvX9_look (by omega) dX9_simple_137 rfl rfl rfl rfl (Nat.le_of_ble_eq_true rfl) (fun _ _ q => nomatch q.1) (fun v137 s137 q137 => ?_)
              obtain ⟨e137, h137⟩ := q137; cases e137; replace h137 := h137.symm; subst h137
              refine EW.callS (bc := 0) (bs := 0) (M_isLetter hl _ 0 s _) mfX9_isLetter rfl l_X9_113 mvX9_isLetter (by omega) dX9_simple_140 rfl rfl (Nat.le_of_ble_eq_true rfl) (fun v140 s140 q140 => ?_) (fun _ _ q => nomatch q.1)
              obtain ⟨e140, h140⟩ := q140; cases e140; replace h140 := h140.symm; subst h140
              refine EW.top (y := nI 1) ((if_pos (il1 h3)).trans (by decide +kernel)) ?_
              refine EW.if_eq 163 dX9_simple_143 (by decide) (fun c143 => ?_) (fun c143 => ?_)
              · exact absurd c143 (by decide +kernel)
              · refine EW.aload_n dX9_simple_146 rfl rfl ?_
                refine EW.iload_n dX9_simple_147 rfl rfl ?_
                refine EW.ic 3 dX9_simple_148 ?_
                refine EW.iadd dX9_simple_149 ?_
                refine EW.top (nI_add _ _) ?_
                refine EM.callV (M_lookT hl 0 s (a + 3) n tx hT (by omega)) mfX9_look l_X9_123 mvX9_look (by omega) dX9_simple_150 rfl rfl rfl rfl (Nat.le_of_ble_eq_true rfl) (fun _ _ q => nomatch q.1) (fun v150 s150 q150 => ?_)
                obtain ⟨e150, h150⟩ := q150; cases e150; replace h150 := h150.symm; subst h150
                refine EW.aload_n dX9_simple_153 rfl rfl ?_
                refine EW.iload_n dX9_simple_154 rfl rfl ?_
                refine EW.ic 1 dX9_simple_155 ?_
                refine EW.iadd dX9_simple_156 ?_
                refine EW.top (nI_add _ _) ?_
                refine EM.callV (M_lookT hl 0 s (a + 1) n tx hT (by omega)) mfX9_look l_X9_123 mvX9_look (by omega) dX9_simple_157 rfl rfl rfl rfl (Nat.le_of_ble_eq_true rfl) (fun _ _ q => nomatch q.1) (fun v157 s157 q157 => ?_)
                obtain ⟨e157, h157⟩ := q157; cases e157; replace h157 := h157.symm; subst h157
                refine EW.icmp_ge 168 dX9_simple_160 (by decide) (fun c160 => ?_) (fun c160 => ?_)
                · have c160 : tx (a + 1) ≤ tx (a + 3) := (nI_leI (by omega) (by omega)).mp c160
                  refine EW.aload_n dX9_simple_168 rfl rfl ?_
                  refine EW.iload_n dX9_simple_169 rfl rfl ?_
                  refine EW.ic 4 dX9_simple_170 ?_
                  refine EW.iadd dX9_simple_171 ?_
                  refine EW.top (nI_add _ _) ?_
                  refine EM.callV (M_lookT hl 0 s (a + 4) n tx hT (by omega)) mfX9_look l_X9_123 mvX9_look (by omega) dX9_simple_172 rfl rfl rfl rfl (Nat.le_of_ble_eq_true rfl) (fun _ _ q => nomatch q.1) (fun v172 s172 q172 => ?_)
                  obtain ⟨e172, h172⟩ := q172; cases e172; replace h172 := h172.symm; subst h172
                  refine EW.bp 93 dX9_simple_175 ?_
                  refine EW.icmp_eq 185 dX9_simple_177 (by decide) (fun c177 => ?_) (fun c177 => ?_)
                  · have c177 : tx (a + 4) = 93 := (nI_eq (by omega) (by omega)).mp c177; omega
                  · have c177 : ¬ (tx (a + 4) = 93) := fun h => c177 ((nI_eq (by omega) (by omega)).mpr h)
                    refine EW.bipush (v := -5) dX9_simple_180 (by decide +kernel) ?_
                    refine EW.iload_n dX9_simple_182 rfl rfl ?_
                    refine EW.isub dX9_simple_183 ?_
                    refine EW.iret rfl dX9_simple_184 ?_
                    exact ⟨_, rfl, (flt_v 4 (-5) (by decide +kernel) (by decide) (by omega)).1, (flt_v 4 (-5) (by decide +kernel) (by decide) (by omega)).2, rfl⟩
                · have c160 : ¬ (tx (a + 1) ≤ tx (a + 3)) := fun h => c160 ((nI_leI (by omega) (by omega)).mpr h); omega
            · have c125 : ¬ (tx (a + 2) = 45) := fun h => c125 ((nI_eq (by omega) (by omega)).mpr h); omega
          · exact absurd c108 (by decide +kernel)
        · have c91 : ¬ (tx a = 91) := fun h => c91 ((nI_eq (by omega) (by omega)).mpr h); omega
      · exact absurd c67 (by decide +kernel)
    · have c16 : tx a = 46 := (nI_eq (by omega) (by omega)).mp c16; omega
set_option maxHeartbeats 4000000 in
theorem M_sim5 (hl : l.stackTraces = false) (s : MSt) (k z0 pb rb : Nat) (rs ps : List Ex) (sg : Nat) (a n : Nat) (tx : Nat → Nat) (hL : LVL s k z0 pb rb rs ps sg) (hT : TXM s n tx) (ha : a < 100) (hk : k < 8) (hz : z0 + szL rs + szL ps < 58) (hp : pb + ps.length < 32) (hsg : sg = 0 ∨ sg = 38 ∨ sg = 33) (hc : tx a = 91) (h1 : isL (tx (a + 1))) (h2 : tx (a + 2) = 45) (h3 : isL (tx (a + 3))) (h4 : tx (a + 1) ≤ tx (a + 3)) (h5 : tx (a + 4) = 93) : MtW (IM cy ad hp0) l D cy base mX9_simple (0 + 2) 0 0 [.ref (ad 43), .int (nI a)] s (smQ s k z0 pb rb rs ps sg tx (some (xR (tx (a + 1) - 97) (tx (a + 3) - 97)), a + 5)) := by
  refine MtW.of hl mfX9_simple rfl (Nat.le_of_ble_eq_true rfl) ?_
  have ht0 := hT.2.2.2.1 a
  have ht1 := hT.2.2.2.1 (a + 1)
  have ht2 := hT.2.2.2.1 (a + 2)
  have ht3 := hT.2.2.2.1 (a + 3)
  have ht4 := hT.2.2.2.1 (a + 4)
  have hU := hL.mkR (lo := tx (a + 1) - 97) (hi := tx (a + 3) - 97) (by omega) (by omega) (z0 + szL rs + szL ps) rfl
  have hP := M_partD (cy := cy) (ad := ad) (hp0 := hp0) (D := D) (base := base) hl _ k z0 pb rb rs ps sg (xR (tx (a + 1) - 97) (tx (a + 3) - 97)) (a + 5) n tx hU (hT.fr (k := 0) (z0 := 0) (pb := 0) (rb := 0) (mdS_F (by omega))) (by omega) hk (show z0 + szL rs + szL ps + 1 < 60 by omega) hp hsg
  have hU2 := hL.2.2.2.2.2.1
  refine EW.aload_n dX9_simple_0 rfl rfl ?_
  refine EW.iload_n dX9_simple_1 rfl rfl ?_
  refine EM.callV (M_lookT hl 0 s (a) n tx hT (by omega)) mfX9_look l_X9_123 mvX9_look (by omega) dX9_simple_2 rfl rfl rfl rfl (Nat.le_of_ble_eq_true rfl) (fun _ _ q => nomatch q.1) (fun v2 s2 q2 => ?_)
  obtain ⟨e2, h2⟩ := q2; cases e2; replace h2 := h2.symm; subst h2
  refine EW.istore_n dX9_simple_5 rfl (by decide) ?_
  refine EW.iload_n dX9_simple_6 rfl rfl ?_
  refine EW.callS (bc := 0) (bs := 0) (M_isLetter hl _ 0 s _) mfX9_isLetter rfl l_X9_113 mvX9_isLetter (by omega) dX9_simple_7 rfl rfl (Nat.le_of_ble_eq_true rfl) (fun v7 s7 q7 => ?_) (fun _ _ q => nomatch q.1)
  obtain ⟨e7, h7⟩ := q7; cases e7; replace h7 := h7.symm; subst h7
  refine EW.top (y := nI 0) ((if_neg (il0 (by omega) (by omega))).trans (by decide +kernel)) ?_
  refine EW.if_ne 19 dX9_simple_10 (by decide) (fun c10 => ?_) (fun c10 => ?_)
  · exact absurd c10 (by decide +kernel)
  · refine EW.iload_n dX9_simple_13 rfl rfl ?_
    refine EW.bp 46 dX9_simple_14 ?_
    refine EW.icmp_ne 63 dX9_simple_16 (by decide) (fun c16 => ?_) (fun c16 => ?_)
    · have c16 : ¬ (tx a = 46) := fun h => c16 ((nI_eq (by omega) (by omega)).mpr h)
      refine EW.iload_n dX9_simple_63 rfl rfl ?_
      refine EW.callS (bc := 0) (bs := 0) (M_isRule hl _ 0 s _) mfX9_isRule rfl l_X9_117 mvX9_isRule (by omega) dX9_simple_64 rfl rfl (Nat.le_of_ble_eq_true rfl) (fun v64 s64 q64 => ?_) (fun _ _ q => nomatch q.1)
      obtain ⟨e64, h64⟩ := q64; cases e64; replace h64 := h64.symm; subst h64
      refine EW.top (y := nI 0) ((if_neg (ir0 (by omega) (by omega))).trans (by decide +kernel)) ?_
      refine EW.if_eq 88 dX9_simple_67 (by decide) (fun c67 => ?_) (fun c67 => ?_)
      · refine EW.iload_n dX9_simple_88 rfl rfl ?_
        refine EW.bp 91 dX9_simple_89 ?_
        refine EW.icmp_eq 98 dX9_simple_91 (by decide) (fun c91 => ?_) (fun c91 => ?_)
        · have c91 : tx a = 91 := (nI_eq (by omega) (by omega)).mp c91
          refine EW.aload_n dX9_simple_98 rfl rfl ?_
          refine EW.iload_n dX9_simple_99 rfl rfl ?_
          refine EW.ic 1 dX9_simple_100 ?_
          refine EW.iadd dX9_simple_101 ?_
          refine EW.top (nI_add _ _) ?_
          refine EM.callV (M_lookT hl 0 s (a + 1) n tx hT (by omega)) mfX9_look l_X9_123 mvX9_look (by omega) dX9_simple_102 rfl rfl rfl rfl (Nat.le_of_ble_eq_true rfl) (fun _ _ q => nomatch q.1) (fun v102 s102 q102 => ?_)
          obtain ⟨e102, h102⟩ := q102; cases e102; replace h102 := h102.symm; subst h102
          refine EW.callS (bc := 0) (bs := 0) (M_isLetter hl _ 0 s _) mfX9_isLetter rfl l_X9_113 mvX9_isLetter (by omega) dX9_simple_105 rfl rfl (Nat.le_of_ble_eq_true rfl) (fun v105 s105 q105 => ?_) (fun _ _ q => nomatch q.1)
          obtain ⟨e105, h105⟩ := q105; cases e105; replace h105 := h105.symm; subst h105
          refine EW.top (y := nI 1) ((if_pos (il1 h1)).trans (by decide +kernel)) ?_
          refine EW.if_ne 116 dX9_simple_108 (by decide) (fun c108 => ?_) (fun c108 => ?_)
          · refine EW.aload_n dX9_simple_116 rfl rfl ?_
            refine EW.iload_n dX9_simple_117 rfl rfl ?_
            refine EW.ic 2 dX9_simple_118 ?_
            refine EW.iadd dX9_simple_119 ?_
            refine EW.top (nI_add _ _) ?_
            refine EM.callV (M_lookT hl 0 s (a + 2) n tx hT (by omega)) mfX9_look l_X9_123 mvX9_look (by omega) dX9_simple_120 rfl rfl rfl rfl (Nat.le_of_ble_eq_true rfl) (fun _ _ q => nomatch q.1) (fun v120 s120 q120 => ?_)
            obtain ⟨e120, h120⟩ := q120; cases e120; replace h120 := h120.symm; subst h120
            refine EW.bp 45 dX9_simple_123 ?_
            refine EW.icmp_eq 133 dX9_simple_125 (by decide) (fun c125 => ?_) (fun c125 => ?_)
            · have c125 : tx (a + 2) = 45 := (nI_eq (by omega) (by omega)).mp c125
              refine EW.aload_n dX9_simple_133 rfl rfl ?_
              refine EW.iload_n dX9_simple_134 rfl rfl ?_
              refine EW.ic 3 dX9_simple_135 ?_
              refine EW.iadd dX9_simple_136 ?_
              refine EW.top (nI_add _ _) ?_
              refine EM.callV (M_lookT hl 0 s (a + 3) n tx hT (by omega)) mfX9_look l_X9_123 mvX9_look (by omega) dX9_simple_137 rfl rfl rfl rfl (Nat.le_of_ble_eq_true rfl) (fun _ _ q => nomatch q.1) (fun v137 s137 q137 => ?_)
              obtain ⟨e137, h137⟩ := q137; cases e137; replace h137 := h137.symm; subst h137
              refine EW.callS (bc := 0) (bs := 0) (M_isLetter hl _ 0 s _) mfX9_isLetter rfl l_X9_113 mvX9_isLetter (by omega) dX9_simple_140 rfl rfl (Nat.le_of_ble_eq_true rfl) (fun v140 s140 q140 => ?_) (fun _ _ q => nomatch q.1)
              obtain ⟨e140, h140⟩ := q140; cases e140; replace h140 := h140.symm; subst h140
              refine EW.top (y := nI 1) ((if_pos (il1 h3)).trans (by decide +kernel)) ?_
              refine EW.if_eq 163 dX9_simple_143 (by decide) (fun c143 => ?_) (fun c143 => ?_)
              · exact absurd c143 (by decide +kernel)
              · refine EW.aload_n dX9_simple_146 rfl rfl ?_
                refine EW.iload_n dX9_simple_147 rfl rfl ?_
                refine EW.ic 3 dX9_simple_148 ?_
                refine EW.iadd dX9_simple_149 ?_
                refine EW.top (nI_add _ _) ?_
                refine EM.callV (M_lookT hl 0 s (a + 3) n tx hT (by omega)) mfX9_look l_X9_123 mvX9_look (by omega) dX9_simple_150 rfl rfl rfl rfl (Nat.le_of_ble_eq_true rfl) (fun _ _ q => nomatch q.1) (fun v150 s150 q150 => ?_)
                obtain ⟨e150, h150⟩ := q150; cases e150; replace h150 := h150.symm; subst h150
                refine EW.aload_n dX9_simple_153 rfl rfl ?_
                refine EW.iload_n dX9_simple_154 rfl rfl ?_
                refine EW.ic 1 dX9_simple_155 ?_
                refine EW.iadd dX9_simple_156 ?_
                refine EW.top (nI_add _ _) ?_
                refine EM.callV (M_lookT hl 0 s (a + 1) n tx hT (by omega)) mfX9_look l_X9_123 mvX9_look (by omega) dX9_simple_157 rfl rfl rfl rfl (Nat.le_of_ble_eq_true rfl) (fun _ _ q => nomatch q.1) (fun v157 s157 q157 => ?_)
                obtain ⟨e157, h157⟩ := q157; cases e157; replace h157 := h157.symm; subst h157
                refine EW.icmp_ge 168 dX9_simple_160 (by decide) (fun c160 => ?_) (fun c160 => ?_)
                · have c160 : tx (a + 1) ≤ tx (a + 3) := (nI_leI (by omega) (by omega)).mp c160
                  refine EW.aload_n dX9_simple_168 rfl rfl ?_
                  refine EW.iload_n dX9_simple_169 rfl rfl ?_
                  refine EW.ic 4 dX9_simple_170 ?_
                  refine EW.iadd dX9_simple_171 ?_
                  refine EW.top (nI_add _ _) ?_
                  refine EM.callV (M_lookT hl 0 s (a + 4) n tx hT (by omega)) mfX9_look l_X9_123 mvX9_look (by omega) dX9_simple_172 rfl rfl rfl rfl (Nat.le_of_ble_eq_true rfl) (fun _ _ q => nomatch q.1) (fun v172 s172 q172 => ?_)
                  obtain ⟨e172, h172⟩ := q172; cases e172; replace h172 := h172.symm; subst h172
                  refine EW.bp 93 dX9_simple_175 ?_
                  refine EW.icmp_eq 185 dX9_simple_177 (by decide) (fun c177 => ?_) (fun c177 => ?_)
                  · have c177 : tx (a + 4) = 93 := (nI_eq (by omega) (by omega)).mp c177
                    refine EW.aload_n dX9_simple_185 rfl rfl ?_
                    refine EW.aload_n dX9_simple_186 rfl rfl ?_
                    refine EW.ic 0 dX9_simple_187 ?_
                    refine EW.aload_n dX9_simple_188 rfl rfl ?_
                    refine EW.iload_n dX9_simple_189 rfl rfl ?_
                    refine EW.ic 1 dX9_simple_190 ?_
                    refine EW.iadd dX9_simple_191 ?_
                    refine EW.top (nI_add _ _) ?_
                    refine EM.callV (M_lookT hl 0 s (a + 1) n tx hT (by omega)) mfX9_look l_X9_123 mvX9_look (by omega) dX9_simple_192 rfl rfl rfl rfl (Nat.le_of_ble_eq_true rfl) (fun _ _ q => nomatch q.1) (fun v192 s192 q192 => ?_)
                    obtain ⟨e192, h192⟩ := q192; cases e192; replace h192 := h192.symm; subst h192
                    refine EW.bp 97 dX9_simple_195 ?_
                    refine EW.isub dX9_simple_197 ?_
                    refine EW.top (pk_sub (by omega)) ?_
                    refine EW.aload_n dX9_simple_198 rfl rfl ?_
                    refine EW.iload_n dX9_simple_199 rfl rfl ?_
                    refine EW.ic 3 dX9_simple_200 ?_
                    refine EW.iadd dX9_simple_201 ?_
                    refine EW.top (nI_add _ _) ?_
                    refine EM.callV (M_lookT hl 0 s (a + 3) n tx hT (by omega)) mfX9_look l_X9_123 mvX9_look (by omega) dX9_simple_202 rfl rfl rfl rfl (Nat.le_of_ble_eq_true rfl) (fun _ _ q => nomatch q.1) (fun v202 s202 q202 => ?_)
                    obtain ⟨e202, h202⟩ := q202; cases e202; replace h202 := h202.symm; subst h202
                    refine EW.bp 97 dX9_simple_205 ?_
                    refine EW.isub dX9_simple_207 ?_
                    refine EW.top (pk_sub (by omega)) ?_
                    refine EM.callV (M_madeS hl 0 s (z0 + szL rs + szL ps) _ _ _ hU2 (by omega)) mfX9_made l_X9_127 mvX9_made (by omega) dX9_simple_208 rfl rfl rfl rfl (Nat.le_of_ble_eq_true rfl) (fun _ _ q => nomatch q.1) (fun v208 s208 q208 => ?_)
                    obtain ⟨e208, h208⟩ := q208; cases e208; replace h208 := h208.symm; subst h208
                    refine EW.iload_n dX9_simple_211 rfl rfl ?_
                    refine EW.ic 5 dX9_simple_212 ?_
                    refine EW.iadd dX9_simple_213 ?_
                    refine EW.top (nI_add _ _) ?_
                    refine EM.callV (hP) mfX9_partDone l_X9_143 mvX9_partDone (by omega) dX9_simple_214 rfl rfl rfl rfl (Nat.le_of_ble_eq_true rfl) (fun _ _ q => nomatch q.1) (fun v214 s214 q214 => ?_)
                    obtain ⟨e214, hA, hF⟩ := q214; cases e214
                    refine EW.iret rfl dX9_simple_217 ?_
                    exact ⟨rfl, hA, FPR.tr (mdS_F (by omega)) hF⟩
                  · have c177 : ¬ (tx (a + 4) = 93) := fun h => c177 ((nI_eq (by omega) (by omega)).mpr h); omega
                · have c160 : ¬ (tx (a + 1) ≤ tx (a + 3)) := fun h => c160 ((nI_leI (by omega) (by omega)).mpr h); omega
            · have c125 : ¬ (tx (a + 2) = 45) := fun h => c125 ((nI_eq (by omega) (by omega)).mpr h); omega
          · exact absurd c108 (by decide +kernel)
        · have c91 : ¬ (tx a = 91) := fun h => c91 ((nI_eq (by omega) (by omega)).mpr h); omega
      · exact absurd c67 (by decide +kernel)
    · have c16 : tx a = 46 := (nI_eq (by omega) (by omega)).mp c16; omega
theorem M_simple (hl : l.stackTraces = false) (s : MSt) (k z0 pb rb : Nat) (rs ps : List Ex) (sg : Nat) (a n : Nat) (tx : Nat → Nat) (hL : LVL s k z0 pb rb rs ps sg) (hT : TXM s n tx) (ha : a < 100) (hk : k < 8) (hz : z0 + szL rs + szL ps < 58) (hp : pb + ps.length < 32) (hsg : sg = 0 ∨ sg = 38 ∨ sg = 33) (h40 : ¬ tx a = 40) (Dp : Option (Nat → Pr)) : MtW (IM cy ad hp0) l D cy base mX9_simple (0 + 2) 0 0 [.ref (ad 43), .int (nI a)] s (smQ s k z0 pb rb rs ps sg tx (pUnit tx Dp a)) := by
  by_cases c1 : tx a = 91
  · have eu : pUnit tx Dp a = pRange tx a := by unfold pUnit; rw [if_pos c1]
    rw [eu]
    by_cases h1 : isL (tx (a + 1))
    · by_cases h2 : tx (a + 2) = 45
      · by_cases h3 : isL (tx (a + 3))
        · by_cases h4 : tx (a + 1) ≤ tx (a + 3)
          · by_cases h5 : tx (a + 4) = 93
            · have e : pRange tx a = (some (xR (tx (a + 1) - 97) (tx (a + 3) - 97)), a + 5) := by unfold pRange; rw [if_neg (fun c => c h1), if_neg (fun c => c h2), if_neg (fun c => c ⟨h3, h4⟩), if_neg (fun c => c h5)]
              rw [e]
              exact M_sim5 hl s k z0 pb rb rs ps sg a n tx hL hT ha hk hz hp hsg c1 h1 h2 h3 h4 h5
            · have e : pRange tx a = (none, a + 4) := by unfold pRange; rw [if_neg (fun c => c h1), if_neg (fun c => c h2), if_neg (fun c => c ⟨h3, h4⟩), if_pos h5]
              rw [e]
              exact M_sim4 hl s k z0 pb rb rs ps sg a n tx hL hT ha hk hz hp hsg c1 h1 h2 h3 h4 h5
          · have e : pRange tx a = (none, a + 3) := by unfold pRange; rw [if_neg (fun c => c h1), if_neg (fun c => c h2), if_pos (fun c => h4 c.2)]
            rw [e]
            exact M_sim3b hl s k z0 pb rb rs ps sg a n tx hL hT ha hk hz hp hsg c1 h1 h2 h3 h4
        · have e : pRange tx a = (none, a + 3) := by unfold pRange; rw [if_neg (fun c => c h1), if_neg (fun c => c h2), if_pos (fun c => h3 c.1)]
          rw [e]
          exact M_sim3a hl s k z0 pb rb rs ps sg a n tx hL hT ha hk hz hp hsg c1 h1 h2 h3
      · have e : pRange tx a = (none, a + 2) := by unfold pRange; rw [if_neg (fun c => c h1), if_pos h2]
        rw [e]
        exact M_sim2 hl s k z0 pb rb rs ps sg a n tx hL hT ha hk hz hp hsg c1 h1 h2
    · have e : pRange tx a = (none, a + 1) := by unfold pRange; rw [if_pos h1]
      rw [e]
      exact M_sim1 hl s k z0 pb rb rs ps sg a n tx hL hT ha hk hz hp hsg c1 h1
  · by_cases c2 : tx a = 46
    · have e : pUnit tx Dp a = (some (xR 0 8), a + 1) := by unfold pUnit; rw [if_neg c1, if_neg h40, if_pos c2]
      rw [e]
      exact M_simD hl s k z0 pb rb rs ps sg a n tx hL hT ha hk hz hp hsg c2
    · by_cases c3 : isL (tx a)
      · have e : pUnit tx Dp a = (some (xR (tx a - 97) (tx a - 97)), a + 1) := by unfold pUnit; rw [if_neg c1, if_neg h40, if_neg c2, if_pos c3]
        rw [e]
        exact M_simL hl s k z0 pb rb rs ps sg a n tx hL hT ha hk hz hp hsg c3
      · by_cases c4 : isR (tx a)
        · have e : pUnit tx Dp a = (some (xC (tx a - 65)), a + 1) := by unfold pUnit; rw [if_neg c1, if_neg h40, if_neg c2, if_neg c3, if_pos c4]
          rw [e]
          exact M_simC hl s k z0 pb rb rs ps sg a n tx hL hT ha hk hz hp hsg c4
        · have e : pUnit tx Dp a = (none, a) := by unfold pUnit; rw [if_neg c1, if_neg h40, if_neg c2, if_neg c3, if_neg c4]
          rw [e]
          exact M_simN hl s k z0 pb rb rs ps sg a n tx hL hT ha hk hz hp hsg c3 c4 c2 c1
end M20
