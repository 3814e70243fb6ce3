section C8
theorem fgtF_sk : ∀ (ps : List Nat) (nd : Nat → Option ND), skE nd (fgtF ps nd)
  | [], _ => skE.rf
  | p :: t, nd => by
    unfold fgtF
    refine skE.tr ?_ (fgtF_sk t _)
    cases h : nd p with
    | none =>
      intro q
      by_cases hq : q = p
      · subst hq; rw [va_up_self, h]; rfl
      · rw [va_up_ne _ _ hq]
    | some n => exact skE.put h rfl
def fgA (es : Nat → Option Nat) (ps : Nat → List Nat) : Nat → Nat → (Nat → Option ND) → (Nat → Option ND)
  | 0, _, nd => nd
  | n + 1, i, nd => match es i with
    | none => fgA es ps n (i + 1) nd
    | some _ => fgA es ps n (i + 1) (fgtF (ps i) nd)
theorem fgA_sk {es : Nat → Option Nat} {ps : Nat → List Nat} : ∀ (n i : Nat) (nd : Nat → Option ND), skE nd (fgA es ps n i nd)
  | 0, _, _ => skE.rf
  | n + 1, i, nd => by
    unfold fgA
    cases es i with
    | none => exact fgA_sk n (i + 1) nd
    | some _ => exact skE.tr (fgtF_sk _ _) (fgA_sk n (i + 1) _)
def szF (es : Nat → Option Nat) : Nat → Nat → Nat → Nat
  | 0, _, c => c
  | n + 1, i, c => match es i with
    | none => szF es n (i + 1) c
    | some _ => szF es n (i + 1) (c + 1)
theorem szF_le {es : Nat → Option Nat} : ∀ n i c, szF es n i c ≤ c + n
  | 0, _, c => by unfold szF; omega
  | n + 1, i, c => by
    unfold szF
    cases es i with
    | none => have := szF_le (es := es) n (i + 1) c; dsimp only; omega
    | some _ => have := szF_le (es := es) n (i + 1) (c + 1); dsimp only; omega
def stF (es : Nat → Option Nat) (ps : Nat → List Nat) (nd : Nat → Option ND) : Nat → Nat → Int32 → Int32
  | 0, _, b => b
  | n + 1, i, b => match es i with
    | none => stF es ps nd n (i + 1) b
    | some _ => stF es ps nd n (i + 1) (b ||| rulF nd (ps i) 0)
/-- the lowest rule from i on that has no expression and a bit in b -/
def lmF (es : Nat → Option Nat) (b : Int32) : Nat → Nat → Option Nat
  | 0, _ => none
  | n + 1, i => if es i = none ∧ ¬ b &&& (nI 1 <<< (nI i &&& 31)) = 0 then some i else lmF es b n (i + 1)
def lgF (es : Nat → Option Nat) (ps : Nat → List Nat) (nd : Nat → Option ND) : Nat → Nat → Option Nat
  | 0, _ => none
  | n + 1, i => if es i ≠ none ∧ algF nd (ps i) = false then some i else lgF es ps nd n (i + 1)
def onI (r : Option Nat) : Int32 := match r with
  | none => -1
  | some i => nI i
theorem lmF_lt {es : Nat → Option Nat} {b : Int32} : ∀ n i r, lmF es b n i = some r → r < i + n
  | 0, _, _, h => by cases h
  | n + 1, i, r, h => by
    unfold lmF at h
    split at h
    · cases h; omega
    · have := lmF_lt n (i + 1) r h; omega
theorem lgF_lt {es : Nat → Option Nat} {ps : Nat → List Nat} {nd : Nat → Option ND} : ∀ n i r, lgF es ps nd n i = some r → r < i + n
  | 0, _, _, h => by cases h
  | n + 1, i, r, h => by
    unfold lgF at h
    split at h
    · cases h; omega
    · have := lgF_lt n (i + 1) r h; omega
theorem onI_m1 {r : Option Nat} (h : ∀ i, r = some i → i < 100) : onI r = -1 ↔ r = none := by
  cases r with
  | none => exact ⟨fun _ => rfl, fun _ => rfl⟩
  | some i =>
    refine ⟨fun e => ?_, fun e => by cases e⟩
    have h1 : (nI i).toInt = (-1 : Int32).toInt := by rw [show nI i = -1 from e]
    rw [nI_toInt (by have := h i rfl; omega)] at h1
    have h2 : ((-1 : Int32)).toInt = -1 := by decide +kernel
    omega
variable {cy : Nat → ClassId} {ax : Nat → Nat} {hp0 : Hp} {l : Launch} {D : va_G} {base : Nat}
set_option maxHeartbeats 4000000 in
theorem C_gforget_in (hl : l.stackTraces = false) (d : Nat) (rt : Nat → Nat) (ps : Nat → List Nat) : ∀ (n i : Nat) (s : CSt), i + n = 6 → GP s rt ps → EW (IC cy ax hp0) l D cy base mX2_forgetFindings (d + 1) 0 0 10 [(0, .ref (ax 6)), (1, .ref (ax 7)), (2, .int (nI 6)), (3, .int (nI i))] [] s (fun o s2 => o = .inl none ∧ s2 = ndP s (fgA s.2.2.2.1 ps n i s.2.2.2.2.1)) := by
  intro n
  induction n with
  | zero =>
    intro i s hi hG
    refine EW.iload_n dX2_forgetFindings_10 rfl rfl ?_
    refine EW.iload_n dX2_forgetFindings_11 rfl rfl ?_
    refine EW.icmp_ge 36 dX2_forgetFindings_12 (by decide) (fun c12 => ?_) (fun c12 => ?_)
    · have c12 : 6 ≤ i := (nI_leI (by omega) (by omega)).mp c12
      refine EW.vret rfl dX2_forgetFindings_36 ?_
      exact ⟨rfl, rfl⟩
    · have c12 : ¬ (6 ≤ i) := fun h => c12 ((nI_leI (by omega) (by omega)).mpr h); omega
  | succ n ih =>
    intro i s hi hG
    cases hx : s.2.2.2.1 i with
    | none =>
      have hu : fgA s.2.2.2.1 ps (n + 1) i s.2.2.2.2.1 = fgA s.2.2.2.1 ps n (i + 1) s.2.2.2.2.1 := by rw [fgA, hx]
      rw [hu]
      have IHX := ih (i + 1) s (by omega) hG
      refine EW.iload_n dX2_forgetFindings_10 rfl rfl ?_
      refine EW.iload_n dX2_forgetFindings_11 rfl rfl ?_
      refine EW.icmp_ge 36 dX2_forgetFindings_12 (by decide) (fun c12 => ?_) (fun c12 => ?_)
      · have c12 : 6 ≤ i := (nI_leI (by omega) (by omega)).mp c12; omega
      · have c12 : ¬ (6 ≤ i) := fun h => c12 ((nI_leI (by omega) (by omega)).mpr h)
        refine EW.aload_n dX2_forgetFindings_15 rfl rfl ?_
        refine EW.iload_n dX2_forgetFindings_16 rfl rfl ?_
        refine EC.ald7 (i) dX2_forgetFindings_17 (by omega) ?_
        refine EW.astoreq dX2_forgetFindings_18 (by decide) ?_
        refine EW.aloadq dX2_forgetFindings_20 rfl ?_
        refine EW.ifnull 30 dX2_forgetFindings_22 (by decide) (fun c22 => ?_) (fun a22 c22 => ?_)
        · refine EW.iinc dX2_forgetFindings_30 rfl (nI_inc _) (by decide) ?_
          refine EW.goto 10 dX2_forgetFindings_33 (by decide) ?_
          refine EW.loc (lv' := [(0, .ref (ax 6)), (1, .ref (ax 7)), (2, .int (nI 6)), (3, .int (nI (i + 1)))]) ⟨rfl, rfl, rfl, rfl, trivial⟩ ?_
          exact IHX
        · rw [hx] at c22; cases c22
    | some x =>
      obtain ⟨e9, m9, he, hq, hm, hps⟩ := hG i (by omega) x hx
      have hu : fgA s.2.2.2.1 ps (n + 1) i s.2.2.2.2.1 = fgA s.2.2.2.1 ps n (i + 1) (fgtF (ps i) s.2.2.2.2.1) := by rw [fgA, hx]
      rw [hu]
      have IHX := ih (i + 1) (ndP s (fgtF (ps i) s.2.2.2.2.1)) (by omega) (hG.sk (fgtF_sk _ _))
      refine EW.iload_n dX2_forgetFindings_10 rfl rfl ?_
      refine EW.iload_n dX2_forgetFindings_11 rfl rfl ?_
      refine EW.icmp_ge 36 dX2_forgetFindings_12 (by decide) (fun c12 => ?_) (fun c12 => ?_)
      · have c12 : 6 ≤ i := (nI_leI (by omega) (by omega)).mp c12; omega
      · have c12 : ¬ (6 ≤ i) := fun h => c12 ((nI_leI (by omega) (by omega)).mpr h)
        refine EW.aload_n dX2_forgetFindings_15 rfl rfl ?_
        refine EW.iload_n dX2_forgetFindings_16 rfl rfl ?_
        refine EC.ald7 (i) dX2_forgetFindings_17 (by omega) ?_
        refine EW.astoreq dX2_forgetFindings_18 (by decide) ?_
        refine EW.aloadq dX2_forgetFindings_20 rfl ?_
        refine EW.rf hx ?_
        refine EW.ifnull (r := some x) 30 dX2_forgetFindings_22 (by decide) (fun h => nomatch h) (fun _ _ => ?_)
        refine EW.aloadq dX2_forgetFindings_25 rfl ?_
        refine EW.rf hx ?_
        refine EC.callE (bc := 0) (bs := 0) (mc' := 0) (ms' := 0) (C_forgetF hl d s x e9 he (ps i) hps) mfX1_forgetFindings l_X2_54 mvX1_forgetFindings (by omega) dX2_forgetFindings_27 rfl rfl he rfl rfl (Nat.le_of_ble_eq_true rfl) (fun v27 s27 q27 => ?_) (fun _ _ q => nomatch q.1)
        obtain ⟨e27, h27⟩ := q27; cases e27; replace h27 := h27.symm; subst h27
        refine EW.iinc dX2_forgetFindings_30 rfl (nI_inc _) (by decide) ?_
        refine EW.goto 10 dX2_forgetFindings_33 (by decide) ?_
        refine EW.loc (lv' := [(0, .ref (ax 6)), (1, .ref (ax 7)), (2, .int (nI 6)), (3, .int (nI (i + 1)))]) ⟨rfl, rfl, rfl, rfl, trivial⟩ ?_
        exact IHX
set_option maxHeartbeats 4000000 in
theorem C_gforget (hl : l.stackTraces = false) (d : Nat) (s : CSt) (rt : Nat → Nat) (ps : Nat → List Nat) (hG : GP s rt ps) : MtW (IC cy ax hp0) l D cy base mX2_forgetFindings (d + 1) 0 0 [.ref (ax 6)] s (fun o s2 => o = .inl none ∧ s2 = ndP s (fgA s.2.2.2.1 ps 6 0 s.2.2.2.2.1)) := by
  refine MtW.of hl mfX2_forgetFindings rfl (Nat.le_of_ble_eq_true rfl) ?_
  refine EW.aload_n dX2_forgetFindings_0 rfl rfl ?_
  refine EC.get (k := 6) f_X2_11 dX2_forgetFindings_1 (by decide) rfl rfl ?_
  refine EW.astore_n dX2_forgetFindings_4 rfl (by decide) ?_
  refine EW.aload_n dX2_forgetFindings_5 rfl rfl ?_
  refine EC.len7 dX2_forgetFindings_6 ?_
  refine EW.istore_n dX2_forgetFindings_7 rfl (by decide) ?_
  refine EW.ic 0 dX2_forgetFindings_8 ?_
  refine EW.istore_n dX2_forgetFindings_9 rfl (by decide) ?_
  exact EW.loc (lv' := [(0, .ref (ax 6)), (1, .ref (ax 7)), (2, .int (nI 6)), (3, .int (nI 0))]) ⟨rfl, rfl, rfl, rfl, trivial⟩ (C_gforget_in hl d rt ps 6 0 s rfl hG)
set_option maxHeartbeats 4000000 in
theorem C_gsize_in (d : Nat) : ∀ (n i c : Nat) (s : CSt), i + n = 6 → c ≤ i → EW (IC cy ax hp0) l D cy base mX2_size d 0 0 13 [(0, .ref (ax 6)), (1, .int (nI c)), (2, .ref (ax 7)), (3, .int (nI 6)), (4, .int (nI i))] [] s (fun o s2 => o = .inl (some (.int (nI (szF s.2.2.2.1 n i c)))) ∧ s2 = s) := by
  intro n
  induction n with
  | zero =>
    intro i c s hi hc
    refine EW.iload dX2_size_13 rfl ?_
    refine EW.iload_n dX2_size_15 rfl rfl ?_
    refine EW.icmp_ge 39 dX2_size_16 (by decide) (fun c16 => ?_) (fun c16 => ?_)
    · have c16 : 6 ≤ i := (nI_leI (by omega) (by omega)).mp c16
      refine EW.iload_n dX2_size_39 rfl rfl ?_
      refine EW.iret rfl dX2_size_40 ?_
      exact ⟨rfl, rfl⟩
    · have c16 : ¬ (6 ≤ i) := fun h => c16 ((nI_leI (by omega) (by omega)).mpr h); omega
  | succ n ih =>
    intro i c s hi hc
    cases hx : s.2.2.2.1 i with
    | none =>
      rw [show szF s.2.2.2.1 (n + 1) i c = szF s.2.2.2.1 n (i + 1) c by rw [szF, hx]]
      refine EW.iload dX2_size_13 rfl ?_
      refine EW.iload_n dX2_size_15 rfl rfl ?_
      refine EW.icmp_ge 39 dX2_size_16 (by decide) (fun c16 => ?_) (fun c16 => ?_)
      · have c16 : 6 ≤ i := (nI_leI (by omega) (by omega)).mp c16; omega
      · have c16 : ¬ (6 ≤ i) := fun h => c16 ((nI_leI (by omega) (by omega)).mpr h)
        refine EW.aload_n dX2_size_19 rfl rfl ?_
        refine EW.iload dX2_size_20 rfl ?_
        refine EC.ald7 (i) dX2_size_22 (by omega) ?_
        refine EW.astoreq dX2_size_23 (by decide) ?_
        refine EW.aloadq dX2_size_25 rfl ?_
        refine EW.ifnull 33 dX2_size_27 (by decide) (fun c27 => ?_) (fun a27 c27 => ?_)
        · refine EW.iinc dX2_size_33 rfl (nI_inc _) (by decide) ?_
          refine EW.goto 13 dX2_size_36 (by decide) ?_
          exact EW.loc (lv' := [(0, .ref (ax 6)), (1, .int (nI c)), (2, .ref (ax 7)), (3, .int (nI 6)), (4, .int (nI (i + 1)))]) ⟨rfl, rfl, rfl, rfl, rfl, trivial⟩ (ih (i + 1) c s (by omega) (by omega))
        · rw [hx] at c27; cases c27
    | some x =>
      rw [show szF s.2.2.2.1 (n + 1) i c = szF s.2.2.2.1 n (i + 1) (c + 1) by rw [szF, hx]]
      refine EW.iload dX2_size_13 rfl ?_
      refine EW.iload_n dX2_size_15 rfl rfl ?_
      refine EW.icmp_ge 39 dX2_size_16 (by decide) (fun c16 => ?_) (fun c16 => ?_)
      · have c16 : 6 ≤ i := (nI_leI (by omega) (by omega)).mp c16; omega
      · have c16 : ¬ (6 ≤ i) := fun h => c16 ((nI_leI (by omega) (by omega)).mpr h)
        refine EW.aload_n dX2_size_19 rfl rfl ?_
        refine EW.iload dX2_size_20 rfl ?_
        refine EC.ald7 (i) dX2_size_22 (by omega) ?_
        refine EW.astoreq dX2_size_23 (by decide) ?_
        refine EW.aloadq dX2_size_25 rfl ?_
        refine EW.rf hx ?_
        refine EW.ifnull (r := some x) 33 dX2_size_27 (by decide) (fun h => nomatch h) (fun _ _ => ?_)
        refine EW.iinc dX2_size_30 rfl (nI_inc _) (by decide) ?_
        refine EW.iinc dX2_size_33 rfl (nI_inc _) (by decide) ?_
        refine EW.goto 13 dX2_size_36 (by decide) ?_
        exact EW.loc (lv' := [(0, .ref (ax 6)), (1, .int (nI (c + 1))), (2, .ref (ax 7)), (3, .int (nI 6)), (4, .int (nI (i + 1)))]) ⟨rfl, rfl, rfl, rfl, rfl, trivial⟩ (ih (i + 1) (c + 1) s (by omega) (by omega))
set_option maxHeartbeats 4000000 in
theorem C_gsize (hl : l.stackTraces = false) (d : Nat) (s : CSt) : MtW (IC cy ax hp0) l D cy base mX2_size d 0 0 [.ref (ax 6)] s (fun o s2 => o = .inl (some (.int (nI (szF s.2.2.2.1 6 0 0)))) ∧ s2 = s) := by
  refine MtW.of hl mfX2_size rfl (Nat.le_of_ble_eq_true rfl) ?_
  refine EW.ic 0 dX2_size_0 ?_
  refine EW.istore_n dX2_size_1 rfl (by decide) ?_
  refine EW.aload_n dX2_size_2 rfl rfl ?_
  refine EC.get (k := 6) f_X2_11 dX2_size_3 (by decide) rfl rfl ?_
  refine EW.astore_n dX2_size_6 rfl (by decide) ?_
  refine EW.aload_n dX2_size_7 rfl rfl ?_
  refine EC.len7 dX2_size_8 ?_
  refine EW.istore_n dX2_size_9 rfl (by decide) ?_
  refine EW.ic 0 dX2_size_10 ?_
  refine EW.istore dX2_size_11 (by decide) ?_
  exact EW.loc (lv' := [(0, .ref (ax 6)), (1, .int (nI 0)), (2, .ref (ax 7)), (3, .int (nI 6)), (4, .int (nI 0))]) ⟨rfl, rfl, rfl, rfl, rfl, trivial⟩ (C_gsize_in d 6 0 0 s rfl (Nat.le_refl 0))
set_option maxHeartbeats 4000000 in
theorem C_lowestMissing_b (hl : l.stackTraces = false) (d : Nat) (b : Int32) : ∀ (n i : Nat) (s : CSt), i + n = 6 → EW (IC cy ax hp0) l D cy base mX2_lowestMissing (d + 1) 0 0 46 [(0, .ref (ax 6)), (1, .int b), (2, .int (nI i))] [] s (fun o s2 => o = .inl (some (.int (onI (lmF s.2.2.2.1 b n i)))) ∧ s2 = s) := by
  intro n
  induction n with
  | zero =>
    intro i s hi
    refine EW.iload_n dX2_lowestMissing_46 rfl rfl ?_
    refine EW.aload_n dX2_lowestMissing_47 rfl rfl ?_
    refine EC.get (k := 6) f_X2_11 dX2_lowestMissing_48 (by decide) rfl rfl ?_
    refine EC.len7 dX2_lowestMissing_51 ?_
    refine EW.icmp_ge 80 dX2_lowestMissing_52 (by decide) (fun c52 => ?_) (fun c52 => ?_)
    · have c52 : 6 ≤ i := (nI_leI (by omega) (by omega)).mp c52
      refine EW.iconst (v := -1) dX2_lowestMissing_80 (by decide +kernel) ?_
      refine EW.iret rfl dX2_lowestMissing_81 ?_
      exact ⟨rfl, rfl⟩
    · have c52 : ¬ (6 ≤ i) := fun h => c52 ((nI_leI (by omega) (by omega)).mpr h); omega
  | succ n ih =>
    intro i s hi
    refine EW.iload_n dX2_lowestMissing_46 rfl rfl ?_
    refine EW.aload_n dX2_lowestMissing_47 rfl rfl ?_
    refine EC.get (k := 6) f_X2_11 dX2_lowestMissing_48 (by decide) rfl rfl ?_
    refine EC.len7 dX2_lowestMissing_51 ?_
    refine EW.icmp_ge 80 dX2_lowestMissing_52 (by decide) (fun c52 => ?_) (fun c52 => ?_)
    · have c52 : 6 ≤ i := (nI_leI (by omega) (by omega)).mp c52; omega
    · have c52 : ¬ (6 ≤ i) := fun h => c52 ((nI_leI (by omega) (by omega)).mpr h)
      refine EW.aload_n dX2_lowestMissing_55 rfl rfl ?_
      refine EC.get (k := 6) f_X2_11 dX2_lowestMissing_56 (by decide) rfl rfl ?_
      refine EW.iload_n dX2_lowestMissing_59 rfl rfl ?_
      refine EC.ald7 (i) dX2_lowestMissing_60 (by omega) ?_
      refine EW.ifnonnull 74 dX2_lowestMissing_61 (by decide) (fun a61 c61 => ?_) (fun c61 => ?_)
      · rw [lmF, if_neg (fun h => by rw [h.1] at c61; cases c61)]
        refine EW.iinc dX2_lowestMissing_74 rfl (nI_inc _) (by decide) ?_
        refine EW.goto 46 dX2_lowestMissing_77 (by decide) ?_
        exact EW.loc (lv' := [(0, .ref (ax 6)), (1, .int b), (2, .int (nI (i + 1)))]) ⟨rfl, rfl, rfl, trivial⟩ (ih (i + 1) s (by omega))
      · refine EW.iload_n dX2_lowestMissing_64 rfl rfl ?_
        refine EW.ic 1 dX2_lowestMissing_65 ?_
        refine EW.iload_n dX2_lowestMissing_66 rfl rfl ?_
        refine EW.ishl dX2_lowestMissing_67 ?_
        refine EW.iand dX2_lowestMissing_68 ?_
        refine EW.if_eq 74 dX2_lowestMissing_69 (by decide) (fun c69 => ?_) (fun c69 => ?_)
        · rw [lmF, if_neg (fun h => h.2 c69)]
          refine EW.iinc dX2_lowestMissing_74 rfl (nI_inc _) (by decide) ?_
          refine EW.goto 46 dX2_lowestMissing_77 (by decide) ?_
          exact EW.loc (lv' := [(0, .ref (ax 6)), (1, .int b), (2, .int (nI (i + 1)))]) ⟨rfl, rfl, rfl, trivial⟩ (ih (i + 1) s (by omega))
        · rw [lmF, if_pos ⟨c61, c69⟩]
          refine EW.iload_n dX2_lowestMissing_72 rfl rfl ?_
          refine EW.iret rfl dX2_lowestMissing_73 ?_
          exact ⟨rfl, rfl⟩
set_option maxHeartbeats 4000000 in
theorem C_lowestMissing_a (hl : l.stackTraces = false) (d : Nat) (rt : Nat → Nat) (ps : Nat → List Nat) : ∀ (n i : Nat) (b : Int32) (s : CSt), i + n = 6 → GP s rt ps → EW (IC cy ax hp0) l D cy base mX2_lowestMissing (d + 1) 0 0 13 [(0, .ref (ax 6)), (1, .int b), (2, .ref (ax 7)), (3, .int (nI 6)), (4, .int (nI i))] [] s (fun o s2 => o = .inl (some (.int (onI (lmF s.2.2.2.1 (stF s.2.2.2.1 ps s.2.2.2.2.1 n i b) 6 0)))) ∧ s2 = s) := by
  intro n
  induction n with
  | zero =>
    intro i b s hi hG
    refine EW.iload dX2_lowestMissing_13 rfl ?_
    refine EW.iload_n dX2_lowestMissing_15 rfl rfl ?_
    refine EW.icmp_ge 44 dX2_lowestMissing_16 (by decide) (fun c16 => ?_) (fun c16 => ?_)
    · have c16 : 6 ≤ i := (nI_leI (by omega) (by omega)).mp c16
      refine EW.ic 0 dX2_lowestMissing_44 ?_
      refine EW.istore_n dX2_lowestMissing_45 rfl (by decide) ?_
      exact EW.loc (lv' := [(0, .ref (ax 6)), (1, .int b), (2, .int (nI 0))]) ⟨rfl, rfl, rfl, trivial⟩ (C_lowestMissing_b hl d b 6 0 s rfl)
    · have c16 : ¬ (6 ≤ i) := fun h => c16 ((nI_leI (by omega) (by omega)).mpr h); omega
  | succ n ih =>
    intro i b s hi hG
    cases hx : s.2.2.2.1 i with
    | none =>
      rw [show stF s.2.2.2.1 ps s.2.2.2.2.1 (n + 1) i b = stF s.2.2.2.1 ps s.2.2.2.2.1 n (i + 1) b by rw [stF, hx]]
      refine EW.iload dX2_lowestMissing_13 rfl ?_
      refine EW.iload_n dX2_lowestMissing_15 rfl rfl ?_
      refine EW.icmp_ge 44 dX2_lowestMissing_16 (by decide) (fun c16 => ?_) (fun c16 => ?_)
      · have c16 : 6 ≤ i := (nI_leI (by omega) (by omega)).mp c16; omega
      · have c16 : ¬ (6 ≤ i) := fun h => c16 ((nI_leI (by omega) (by omega)).mpr h)
        refine EW.aload_n dX2_lowestMissing_19 rfl rfl ?_
        refine EW.iload dX2_lowestMissing_20 rfl ?_
        refine EC.ald7 (i) dX2_lowestMissing_22 (by omega) ?_
        refine EW.astoreq dX2_lowestMissing_23 (by decide) ?_
        refine EW.aloadq dX2_lowestMissing_25 rfl ?_
        refine EW.ifnull 38 dX2_lowestMissing_27 (by decide) (fun c27 => ?_) (fun a27 c27 => ?_)
        · refine EW.iinc dX2_lowestMissing_38 rfl (nI_inc _) (by decide) ?_
          refine EW.goto 13 dX2_lowestMissing_41 (by decide) ?_
          exact EW.loc (lv' := [(0, .ref (ax 6)), (1, .int _), (2, .ref (ax 7)), (3, .int (nI 6)), (4, .int (nI (i + 1)))]) ⟨rfl, rfl, rfl, rfl, rfl, trivial⟩ (ih (i + 1) _ s (by omega) hG)
        · rw [hx] at c27; cases c27
    | some x =>
      obtain ⟨e9, m9, he, hq, hm, hps⟩ := hG i (by omega) x hx
      rw [show stF s.2.2.2.1 ps s.2.2.2.2.1 (n + 1) i b = stF s.2.2.2.1 ps s.2.2.2.2.1 n (i + 1) (b ||| rulF s.2.2.2.2.1 (ps i) 0) by rw [stF, hx]]
      refine EW.iload dX2_lowestMissing_13 rfl ?_
      refine EW.iload_n dX2_lowestMissing_15 rfl rfl ?_
      refine EW.icmp_ge 44 dX2_lowestMissing_16 (by decide) (fun c16 => ?_) (fun c16 => ?_)
      · have c16 : 6 ≤ i := (nI_leI (by omega) (by omega)).mp c16; omega
      · have c16 : ¬ (6 ≤ i) := fun h => c16 ((nI_leI (by omega) (by omega)).mpr h)
        refine EW.aload_n dX2_lowestMissing_19 rfl rfl ?_
        refine EW.iload dX2_lowestMissing_20 rfl ?_
        refine EC.ald7 (i) dX2_lowestMissing_22 (by omega) ?_
        refine EW.astoreq dX2_lowestMissing_23 (by decide) ?_
        refine EW.aloadq dX2_lowestMissing_25 rfl ?_
        refine EW.rf hx ?_
        refine EW.ifnull (r := some x) 38 dX2_lowestMissing_27 (by decide) (fun h => nomatch h) (fun _ _ => ?_)
        refine EW.iload_n dX2_lowestMissing_30 rfl rfl ?_
        refine EW.aloadq dX2_lowestMissing_31 rfl ?_
        refine EW.rf hx ?_
        refine EC.callE (bc := 0) (bs := 0) (mc' := 0) (ms' := 0) (C_rulesInIt hl d s x e9 he (ps i) hps) mfX1_rulesInIt l_X2_47 mvX1_rulesInIt (by omega) dX2_lowestMissing_33 rfl rfl he rfl rfl (Nat.le_of_ble_eq_true rfl) (fun v33 s33 q33 => ?_) (fun _ _ q => nomatch q.1)
        obtain ⟨e33, h33⟩ := q33; cases e33; replace h33 := h33.symm; subst h33
        refine EW.ior dX2_lowestMissing_36 ?_
        refine EW.istore_n dX2_lowestMissing_37 rfl (by decide) ?_
        refine EW.iinc dX2_lowestMissing_38 rfl (nI_inc _) (by decide) ?_
        refine EW.goto 13 dX2_lowestMissing_41 (by decide) ?_
        exact EW.loc (lv' := [(0, .ref (ax 6)), (1, .int _), (2, .ref (ax 7)), (3, .int (nI 6)), (4, .int (nI (i + 1)))]) ⟨rfl, rfl, rfl, rfl, rfl, trivial⟩ (ih (i + 1) _ s (by omega) hG)
set_option maxHeartbeats 4000000 in
theorem C_lowestMissing (hl : l.stackTraces = false) (d : Nat) (s : CSt) (rt : Nat → Nat) (ps : Nat → List Nat) (hG : GP s rt ps) : MtW (IC cy ax hp0) l D cy base mX2_lowestMissing (d + 1) 0 0 [.ref (ax 6)] s (fun o s2 => o = .inl (some (.int (onI (lmF s.2.2.2.1 (stF s.2.2.2.1 ps s.2.2.2.2.1 6 0 (nI 0)) 6 0)))) ∧ s2 = s) := by
  refine MtW.of hl mfX2_lowestMissing rfl (Nat.le_of_ble_eq_true rfl) ?_
  refine EW.ic 0 dX2_lowestMissing_0 ?_
  refine EW.istore_n dX2_lowestMissing_1 rfl (by decide) ?_
  refine EW.aload_n dX2_lowestMissing_2 rfl rfl ?_
  refine EC.get (k := 6) f_X2_11 dX2_lowestMissing_3 (by decide) rfl rfl ?_
  refine EW.astore_n dX2_lowestMissing_6 rfl (by decide) ?_
  refine EW.aload_n dX2_lowestMissing_7 rfl rfl ?_
  refine EC.len7 dX2_lowestMissing_8 ?_
  refine EW.istore_n dX2_lowestMissing_9 rfl (by decide) ?_
  refine EW.ic 0 dX2_lowestMissing_10 ?_
  refine EW.istore dX2_lowestMissing_11 (by decide) ?_
  exact EW.loc (lv' := [(0, .ref (ax 6)), (1, .int (nI 0)), (2, .ref (ax 7)), (3, .int (nI 6)), (4, .int (nI 0))]) ⟨rfl, rfl, rfl, rfl, rfl, trivial⟩ (C_lowestMissing_a hl d rt ps 6 0 (nI 0) s rfl hG)
theorem al0 {b : Bool} (h : (if b = true then nI 1 else nI 0) = 0) : b = false := by
  cases b with
  | false => rfl
  | true => exact absurd h (by decide +kernel)
theorem al1 {b : Bool} (h : ¬ (if b = true then nI 1 else nI 0) = 0) : b = true := by
  cases b with
  | false => exact absurd (by decide +kernel) h
  | true => rfl
set_option maxHeartbeats 4000000 in
theorem C_lowestNotGood_in (hl : l.stackTraces = false) (d : Nat) (rt : Nat → Nat) (ps : Nat → List Nat) : ∀ (n i : Nat) (s : CSt), i + n = 6 → GP s rt ps → EW (IC cy ax hp0) l D cy base mX2_lowestNotGood (d + 1) 0 0 2 [(0, .ref (ax 6)), (1, .int (nI i))] [] s (fun o s2 => o = .inl (some (.int (onI (lgF s.2.2.2.1 ps s.2.2.2.2.1 n i)))) ∧ s2 = s) := by
  intro n
  induction n with
  | zero =>
    intro i s hi hG
    refine EW.iload_n dX2_lowestNotGood_2 rfl rfl ?_
    refine EW.aload_n dX2_lowestNotGood_3 rfl rfl ?_
    refine EC.get (k := 6) f_X2_11 dX2_lowestNotGood_4 (by decide) rfl rfl ?_
    refine EC.len7 dX2_lowestNotGood_7 ?_
    refine EW.icmp_ge 37 dX2_lowestNotGood_8 (by decide) (fun c8 => ?_) (fun c8 => ?_)
    · have c8 : 6 ≤ i := (nI_leI (by omega) (by omega)).mp c8
      refine EW.iconst (v := -1) dX2_lowestNotGood_37 (by decide +kernel) ?_
      refine EW.iret rfl dX2_lowestNotGood_38 ?_
      exact ⟨rfl, rfl⟩
    · have c8 : ¬ (6 ≤ i) := fun h => c8 ((nI_leI (by omega) (by omega)).mpr h); omega
  | succ n ih =>
    intro i s hi hG
    cases hx : s.2.2.2.1 i with
    | none =>
      rw [lgF, if_neg (fun h => h.1 hx)]
      refine EW.iload_n dX2_lowestNotGood_2 rfl rfl ?_
      refine EW.aload_n dX2_lowestNotGood_3 rfl rfl ?_
      refine EC.get (k := 6) f_X2_11 dX2_lowestNotGood_4 (by decide) rfl rfl ?_
      refine EC.len7 dX2_lowestNotGood_7 ?_
      refine EW.icmp_ge 37 dX2_lowestNotGood_8 (by decide) (fun c8 => ?_) (fun c8 => ?_)
      · have c8 : 6 ≤ i := (nI_leI (by omega) (by omega)).mp c8; omega
      · have c8 : ¬ (6 ≤ i) := fun h => c8 ((nI_leI (by omega) (by omega)).mpr h)
        refine EW.aload_n dX2_lowestNotGood_11 rfl rfl ?_
        refine EC.get (k := 6) f_X2_11 dX2_lowestNotGood_12 (by decide) rfl rfl ?_
        refine EW.iload_n dX2_lowestNotGood_15 rfl rfl ?_
        refine EC.ald7 (i) dX2_lowestNotGood_16 (by omega) ?_
        refine EW.astoreq_n dX2_lowestNotGood_17 rfl (by decide) ?_
        refine EW.aloadq_n dX2_lowestNotGood_18 rfl rfl ?_
        refine EW.ifnull 31 dX2_lowestNotGood_19 (by decide) (fun c19 => ?_) (fun a19 c19 => ?_)
        · refine EW.iinc dX2_lowestNotGood_31 rfl (nI_inc _) (by decide) ?_
          refine EW.goto 2 dX2_lowestNotGood_34 (by decide) ?_
          exact EW.loc (lv' := [(0, .ref (ax 6)), (1, .int (nI (i + 1)))]) ⟨rfl, rfl, trivial⟩ (ih (i + 1) s (by omega) hG)
        · rw [hx] at c19; cases c19
    | some x =>
      obtain ⟨e9, m9, he, hq, hm, hps⟩ := hG i (by omega) x hx
      refine EW.iload_n dX2_lowestNotGood_2 rfl rfl ?_
      refine EW.aload_n dX2_lowestNotGood_3 rfl rfl ?_
      refine EC.get (k := 6) f_X2_11 dX2_lowestNotGood_4 (by decide) rfl rfl ?_
      refine EC.len7 dX2_lowestNotGood_7 ?_
      refine EW.icmp_ge 37 dX2_lowestNotGood_8 (by decide) (fun c8 => ?_) (fun c8 => ?_)
      · have c8 : 6 ≤ i := (nI_leI (by omega) (by omega)).mp c8; omega
      · have c8 : ¬ (6 ≤ i) := fun h => c8 ((nI_leI (by omega) (by omega)).mpr h)
        refine EW.aload_n dX2_lowestNotGood_11 rfl rfl ?_
        refine EC.get (k := 6) f_X2_11 dX2_lowestNotGood_12 (by decide) rfl rfl ?_
        refine EW.iload_n dX2_lowestNotGood_15 rfl rfl ?_
        refine EC.ald7 (i) dX2_lowestNotGood_16 (by omega) ?_
        refine EW.astoreq_n dX2_lowestNotGood_17 rfl (by decide) ?_
        refine EW.aloadq_n dX2_lowestNotGood_18 rfl rfl ?_
        refine EW.rf hx ?_
        refine EW.ifnull (r := some x) 31 dX2_lowestNotGood_19 (by decide) (fun h => nomatch h) (fun _ _ => ?_)
        refine EW.aloadq_n dX2_lowestNotGood_22 rfl rfl ?_
        refine EW.rf hx ?_
        refine EC.callE (bc := 0) (bs := 0) (mc' := 0) (ms' := 0) (C_allGood hl d s x e9 he (ps i) hps) mfX1_allGood l_X2_50 mvX1_allGood (by omega) dX2_lowestNotGood_23 rfl rfl he rfl rfl (Nat.le_of_ble_eq_true rfl) (fun v23 s23 q23 => ?_) (fun _ _ q => nomatch q.1)
        obtain ⟨e23, h23⟩ := q23; cases e23; replace h23 := h23.symm; subst h23
        refine EW.if_ne 31 dX2_lowestNotGood_26 (by decide) (fun c26 => ?_) (fun c26 => ?_)
        · have c26 := al1 c26
          rw [lgF, if_neg (fun h => by rw [c26] at h; cases h.2)]
          refine EW.iinc dX2_lowestNotGood_31 rfl (nI_inc _) (by decide) ?_
          refine EW.goto 2 dX2_lowestNotGood_34 (by decide) ?_
          exact EW.loc (lv' := [(0, .ref (ax 6)), (1, .int (nI (i + 1)))]) ⟨rfl, rfl, trivial⟩ (ih (i + 1) s (by omega) hG)
        · have c26 := al0 c26
          rw [lgF, if_pos ⟨fun h => (by rw [hx] at h; cases h), c26⟩]
          refine EW.iload_n dX2_lowestNotGood_29 rfl rfl ?_
          refine EW.iret rfl dX2_lowestNotGood_30 ?_
          exact ⟨rfl, rfl⟩
set_option maxHeartbeats 4000000 in
theorem C_lowestNotGood (hl : l.stackTraces = false) (d : Nat) (s : CSt) (rt : Nat → Nat) (ps : Nat → List Nat) (hG : GP s rt ps) : MtW (IC cy ax hp0) l D cy base mX2_lowestNotGood (d + 1) 0 0 [.ref (ax 6)] s (fun o s2 => o = .inl (some (.int (onI (lgF s.2.2.2.1 ps s.2.2.2.2.1 6 0)))) ∧ s2 = s) := by
  refine MtW.of hl mfX2_lowestNotGood rfl (Nat.le_of_ble_eq_true rfl) ?_
  refine EW.ic 0 dX2_lowestNotGood_0 ?_
  refine EW.istore_n dX2_lowestNotGood_1 rfl (by decide) ?_
  exact EW.loc (lv' := [(0, .ref (ax 6)), (1, .int (nI 0))]) ⟨rfl, rfl, trivial⟩ (C_lowestNotGood_in hl d rt ps 6 0 s rfl hG)
set_option maxHeartbeats 4000000 in
theorem C_examine0 (hl : l.stackTraces = false) (d : Nat) (s : CSt) (hz : szF s.2.2.2.1 6 0 0 = 0) : MtW (IC cy ax hp0) l D cy base mX2_examine (d + 5) 0 0 [.ref (ax 6)] s (fun o s2 => o = .inl (some (.int (nI 1))) ∧ s2 = s) := by
  refine MtW.of hl mfX2_examine rfl (Nat.le_of_ble_eq_true rfl) ?_
  refine EW.aload_n dX2_examine_0 rfl rfl ?_
  refine EC.callV (bc := 0) (bs := 0) (mc' := 0) (ms' := 0) (k := 6) (C_gsize hl (d + 4) s) mfX2_size l_X2_29 mvX2_size (by omega) dX2_examine_1 rfl rfl (by decide) rfl rfl rfl (Nat.le_of_ble_eq_true rfl) (fun v1 s1 q1 => ?_) (fun _ _ q => nomatch q.1)
  obtain ⟨e1, h1⟩ := q1; cases e1; replace h1 := h1.symm; subst h1
  have hz6 := szF_le (es := s.2.2.2.1) 6 0 0
  refine EW.if_ne 9 dX2_examine_4 (by decide) (fun c4 => ?_) (fun c4 => ?_)
  · have c4 : ¬ szF s.2.2.2.1 6 0 0 = 0 := fun h => c4 ((nI_eq0 (by omega)).mpr h); omega
  · have c4 : szF s.2.2.2.1 6 0 0 = 0 := (nI_eq0 (by omega)).mp c4
    refine EW.ic 1 dX2_examine_7 ?_
    refine EW.iret rfl dX2_examine_8 ?_
    exact ⟨rfl, rfl⟩
set_option maxHeartbeats 4000000 in
theorem C_examine1 (hl : l.stackTraces = false) (d : Nat) (s : CSt) (rt : Nat → Nat) (ps : Nat → List Nat) (hG : GP s rt ps) (hz : ¬ szF s.2.2.2.1 6 0 0 = 0) (r : Nat) (hr : lmF s.2.2.2.1 (stF s.2.2.2.1 ps s.2.2.2.2.1 6 0 (nI 0)) 6 0 = some r) : MtW (IC cy ax hp0) l D cy base mX2_examine (d + 5) 0 0 [.ref (ax 6)] s (fun o s2 => o = .inl (some (.int (nI (2 + 10 * r)))) ∧ s2 = s) := by
  refine MtW.of hl mfX2_examine rfl (Nat.le_of_ble_eq_true rfl) ?_
  have hr6 := lmF_lt 6 0 r hr
  refine EW.aload_n dX2_examine_0 rfl rfl ?_
  refine EC.callV (bc := 0) (bs := 0) (mc' := 0) (ms' := 0) (k := 6) (C_gsize hl (d + 4) s) mfX2_size l_X2_29 mvX2_size (by omega) dX2_examine_1 rfl rfl (by decide) rfl rfl rfl (Nat.le_of_ble_eq_true rfl) (fun v1 s1 q1 => ?_) (fun _ _ q => nomatch q.1)
  obtain ⟨e1, h1⟩ := q1; cases e1; replace h1 := h1.symm; subst h1
  have hz6 := szF_le (es := s.2.2.2.1) 6 0 0
  refine EW.if_ne 9 dX2_examine_4 (by decide) (fun c4 => ?_) (fun c4 => ?_)
  · have c4 : ¬ szF s.2.2.2.1 6 0 0 = 0 := fun h => c4 ((nI_eq0 (by omega)).mpr h)
    refine EW.aload_n dX2_examine_9 rfl rfl ?_
    refine EC.callV (bc := 0) (bs := 0) (mc' := 0) (ms' := 0) (k := 6) (C_lowestMissing hl (d + 3) s rt ps hG) mfX2_lowestMissing l_X2_32 mvX2_lowestMissing (by omega) dX2_examine_10 rfl rfl (by decide) rfl rfl rfl (Nat.le_of_ble_eq_true rfl) (fun v10 s10 q10 => ?_) (fun _ _ q => nomatch q.1)
    obtain ⟨e10, h10⟩ := q10; cases e10; replace h10 := h10.symm; subst h10
    refine EW.top (y := nI r) (by rw [hr]; rfl) ?_
    refine EW.istore_n dX2_examine_13 rfl (by decide) ?_
    refine EW.iload_n dX2_examine_14 rfl rfl ?_
    refine EW.iconst (v := -1) dX2_examine_15 (by decide +kernel) ?_
    refine EW.icmp_eq 26 dX2_examine_16 (by decide) (fun c16 => ?_) (fun c16 => ?_)
    · exact absurd ((onI_m1 (r := some r) (fun i h => by cases h; omega)).mp c16) (by simp)
    · refine EW.ic 2 dX2_examine_19 ?_
      refine EW.bp 10 dX2_examine_20 ?_
      refine EW.iload_n dX2_examine_22 rfl rfl ?_
      refine EW.imul dX2_examine_23 ?_
      refine EW.top (pk_mul _ _) ?_
      refine EW.iadd dX2_examine_24 ?_
      refine EW.top (nI_add _ _) ?_
      refine EW.iret rfl dX2_examine_25 ?_
      exact ⟨rfl, rfl⟩
  · have c4 : szF s.2.2.2.1 6 0 0 = 0 := (nI_eq0 (by omega)).mp c4; omega
set_option maxHeartbeats 4000000 in
theorem C_examine2 (hl : l.stackTraces = false) (d : Nat) (s : CSt) (K : Nat → List Nat) (rt : Nat → Nat) (ps : Nat → List Nat) (hG : GP s rt ps) (hO : GOK s K rt ps) (hz : ¬ szF s.2.2.2.1 6 0 0 = 0) (hr : lmF s.2.2.2.1 (stF s.2.2.2.1 ps s.2.2.2.2.1 6 0 (nI 0)) 6 0 = none) : MtW (IC cy ax hp0) l D cy base mX2_examine (d + 5) 0 0 [.ref (ax 6)] s (fun o s2 => o = .inl (some (.int (match lgF s.2.2.2.1 ps (itG s.2.2.2.1 K rt ps 19 (itO s.2.2.2.1 K rt ps 19 (fgA s.2.2.2.1 ps 6 0 s.2.2.2.2.1))) 6 0 with | none => nI 0 | some r => nI (3 + 10 * r)))) ∧ s2 = ndP s (itG s.2.2.2.1 K rt ps 19 (itO s.2.2.2.1 K rt ps 19 (fgA s.2.2.2.1 ps 6 0 s.2.2.2.2.1)))) := by
  refine MtW.of hl mfX2_examine rfl (Nat.le_of_ble_eq_true rfl) ?_
  have k1 := fgA_sk (es := s.2.2.2.1) (ps := ps) 6 0 s.2.2.2.2.1
  have k2 := skE.tr k1 (itO_sk (es := s.2.2.2.1) (K := K) (rt := rt) (ps := ps) 19 (fgA s.2.2.2.1 ps 6 0 s.2.2.2.2.1))
  have k3 := skE.tr k2 (itG_sk (es := s.2.2.2.1) (K := K) (rt := rt) (ps := ps) 19 (itO s.2.2.2.1 K rt ps 19 (fgA s.2.2.2.1 ps 6 0 s.2.2.2.2.1)))
  refine EW.aload_n dX2_examine_0 rfl rfl ?_
  refine EC.callV (bc := 0) (bs := 0) (mc' := 0) (ms' := 0) (k := 6) (C_gsize hl (d + 4) s) mfX2_size l_X2_29 mvX2_size (by omega) dX2_examine_1 rfl rfl (by decide) rfl rfl rfl (Nat.le_of_ble_eq_true rfl) (fun v1 s1 q1 => ?_) (fun _ _ q => nomatch q.1)
  obtain ⟨e1, h1⟩ := q1; cases e1; replace h1 := h1.symm; subst h1
  have hz6 := szF_le (es := s.2.2.2.1) 6 0 0
  refine EW.if_ne 9 dX2_examine_4 (by decide) (fun c4 => ?_) (fun c4 => ?_)
  · have c4 : ¬ szF s.2.2.2.1 6 0 0 = 0 := fun h => c4 ((nI_eq0 (by omega)).mpr h)
    refine EW.aload_n dX2_examine_9 rfl rfl ?_
    refine EC.callV (bc := 0) (bs := 0) (mc' := 0) (ms' := 0) (k := 6) (C_lowestMissing hl (d + 3) s rt ps hG) mfX2_lowestMissing l_X2_32 mvX2_lowestMissing (by omega) dX2_examine_10 rfl rfl (by decide) rfl rfl rfl (Nat.le_of_ble_eq_true rfl) (fun v10 s10 q10 => ?_) (fun _ _ q => nomatch q.1)
    obtain ⟨e10, h10⟩ := q10; cases e10; replace h10 := h10.symm; subst h10
    refine EW.top (y := -1) (by rw [hr]; rfl) ?_
    refine EW.istore_n dX2_examine_13 rfl (by decide) ?_
    refine EW.iload_n dX2_examine_14 rfl rfl ?_
    refine EW.iconst (v := -1) dX2_examine_15 (by decide +kernel) ?_
    refine EW.icmp_eq 26 dX2_examine_16 (by decide) (fun c16 => ?_) (fun c16 => ?_)
    · refine EW.aload_n dX2_examine_26 rfl rfl ?_
      refine EC.callV (bc := 0) (bs := 0) (mc' := 0) (ms' := 0) (k := 6) (C_gforget hl (d + 3) s rt ps hG) mfX2_forgetFindings l_X2_35 mvX2_forgetFindings (by omega) dX2_examine_27 rfl rfl (by decide) rfl rfl rfl (Nat.le_of_ble_eq_true rfl) (fun v27 s27 q27 => ?_) (fun _ _ q => nomatch q.1)
      obtain ⟨e27, h27⟩ := q27; cases e27; replace h27 := h27.symm; subst h27
      refine EW.aload_n dX2_examine_30 rfl rfl ?_
      refine EC.callV (bc := 0) (bs := 0) (mc' := 0) (ms' := 0) (k := 6) (C_findOutcomes hl d (ndP s (fgA s.2.2.2.1 ps 6 0 s.2.2.2.2.1)) K rt ps (hG.sk k1) (hO.sk k1)) mfX2_findOutcomes l_X2_38 mvX2_findOutcomes (by omega) dX2_examine_31 rfl rfl (by decide) rfl rfl rfl (Nat.le_of_ble_eq_true rfl) (fun v31 s31 q31 => ?_) (fun _ _ q => nomatch q.1)
      obtain ⟨e31, h31⟩ := q31; cases e31; replace h31 := h31.symm; subst h31
      refine EW.aload_n dX2_examine_34 rfl rfl ?_
      refine EC.callV (bc := 0) (bs := 0) (mc' := 0) (ms' := 0) (k := 6) (C_findGood hl d (ndP s (itO s.2.2.2.1 K rt ps 19 (fgA s.2.2.2.1 ps 6 0 s.2.2.2.2.1))) K rt ps (hG.sk k2) (hO.sk k2)) mfX2_findGood l_X2_41 mvX2_findGood (by omega) dX2_examine_35 rfl rfl (by decide) rfl rfl rfl (Nat.le_of_ble_eq_true rfl) (fun v35 s35 q35 => ?_) (fun _ _ q => nomatch q.1)
      obtain ⟨e35, h35⟩ := q35; cases e35; replace h35 := h35.symm; subst h35
      refine EW.aload_n dX2_examine_38 rfl rfl ?_
      refine EC.callV (bc := 0) (bs := 0) (mc' := 0) (ms' := 0) (k := 6) (C_lowestNotGood hl (d + 3) (ndP s (itG s.2.2.2.1 K rt ps 19 (itO s.2.2.2.1 K rt ps 19 (fgA s.2.2.2.1 ps 6 0 s.2.2.2.2.1)))) rt ps (hG.sk k3)) mfX2_lowestNotGood l_X2_44 mvX2_lowestNotGood (by omega) dX2_examine_39 rfl rfl (by decide) rfl rfl rfl (Nat.le_of_ble_eq_true rfl) (fun v39 s39 q39 => ?_) (fun _ _ q => nomatch q.1)
      obtain ⟨e39, h39⟩ := q39; cases e39; replace h39 := h39.symm; subst h39
      have hlt : ∀ i, lgF s.2.2.2.1 ps (itG s.2.2.2.1 K rt ps 19 (itO s.2.2.2.1 K rt ps 19 (fgA s.2.2.2.1 ps 6 0 s.2.2.2.2.1))) 6 0 = some i → i < 6 := fun i h => lgF_lt 6 0 i h
      cases hb : lgF s.2.2.2.1 ps (itG s.2.2.2.1 K rt ps 19 (itO s.2.2.2.1 K rt ps 19 (fgA s.2.2.2.1 ps 6 0 s.2.2.2.2.1))) 6 0 with
      | none =>
        refine EW.top (y := -1) (by show onI (lgF s.2.2.2.1 ps (itG s.2.2.2.1 K rt ps 19 (itO s.2.2.2.1 K rt ps 19 (fgA s.2.2.2.1 ps 6 0 s.2.2.2.2.1))) 6 0) = -1; rw [hb]; rfl) ?_
        refine EW.istore_n dX2_examine_42 rfl (by decide) ?_
        refine EW.iload_n dX2_examine_43 rfl rfl ?_
        refine EW.iconst (v := -1) dX2_examine_44 (by decide +kernel) ?_
        refine EW.icmp_ne 52 dX2_examine_45 (by decide) (fun c45 => absurd rfl c45) (fun c45 => ?_)
        refine EW.ic 0 dX2_examine_48 ?_
        refine EW.goto 58 dX2_examine_49 (by decide) ?_
        refine EW.iret rfl dX2_examine_58 ?_
        exact ⟨rfl, rfl⟩
      | some r =>
        have hr6 := hlt r hb
        refine EW.top (y := nI r) (by show onI (lgF s.2.2.2.1 ps (itG s.2.2.2.1 K rt ps 19 (itO s.2.2.2.1 K rt ps 19 (fgA s.2.2.2.1 ps 6 0 s.2.2.2.2.1))) 6 0) = nI r; rw [hb]; rfl) ?_
        refine EW.istore_n dX2_examine_42 rfl (by decide) ?_
        refine EW.iload_n dX2_examine_43 rfl rfl ?_
        refine EW.iconst (v := -1) dX2_examine_44 (by decide +kernel) ?_
        refine EW.icmp_ne 52 dX2_examine_45 (by decide) (fun c45 => ?_) (fun c45 => absurd ((onI_m1 (r := some r) (fun i h => by cases h; omega)).mp c45) (by simp))
        refine EW.ic 3 dX2_examine_52 ?_
        refine EW.bp 10 dX2_examine_53 ?_
        refine EW.iload_n dX2_examine_55 rfl rfl ?_
        refine EW.imul dX2_examine_56 ?_
        refine EW.top (pk_mul _ _) ?_
        refine EW.iadd dX2_examine_57 ?_
        refine EW.top (nI_add _ _) ?_
        refine EW.iret rfl dX2_examine_58 ?_
        exact ⟨rfl, rfl⟩
    · exact absurd rfl c16
  · have c4 : szF s.2.2.2.1 6 0 0 = 0 := (nI_eq0 (by omega)).mp c4; omega
end C8
