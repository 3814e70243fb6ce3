section M15
variable {cy : Nat → ClassId} {ad : Nat → Nat} {hp0 : Hp} {l : Launch} {D : va_G} {base : Nat}
def stpO (zs : Nat → Nat) : Nat → MSt → MSt → Prop
  | 0, s, s2 => (rdO zs 6 0 s (nI 0)).2 = 0 ∧ s2 = (rdO zs 6 0 s (nI 0)).1
  | n + 1, s, s2 => ¬ (rdO zs 6 0 s (nI 0)).2 = 0 ∧ stpO zs n (rdO zs 6 0 s (nI 0)).1 s2
def stpG (zs : Nat → Nat) : Nat → MSt → MSt → Prop
  | 0, s, s2 => (rdG zs 6 0 s (nI 0)).2 = 0 ∧ s2 = (rdG zs 6 0 s (nI 0)).1
  | n + 1, s, s2 => ¬ (rdG zs 6 0 s (nI 0)).2 = 0 ∧ stpG zs n (rdG zs 6 0 s (nI 0)).1 s2
theorem rdO_fr {zs : Nat → Nat} : ∀ (n r : Nat) (s : MSt) (c : Int32), (rdO zs n r s c).1.1 = s.1 ∧ ∀ k x, k ≠ 11 → (rdO zs n r s c).1.2 k x = s.2 k x
  | 0, r, s, c => ⟨rfl, fun _ _ _ => rfl⟩
  | n + 1, r, s, c => by
    obtain ⟨h1, h2⟩ := rdO_fr (zs := zs) n (r + 1) (psO r (zs r) 0 s c).1 (psO r (zs r) 0 s c).2
    obtain ⟨g1, g2⟩ := psO_fr (r := r) (zs r) 0 s c
    exact ⟨h1.trans g1, fun k x hk => (h2 k x hk).trans (g2 k x hk)⟩
theorem rdG_fr {zs : Nat → Nat} : ∀ (n r : Nat) (s : MSt) (c : Int32), (rdG zs n r s c).1.1 = s.1 ∧ ∀ k x, k ≠ 12 → (rdG zs n r s c).1.2 k x = s.2 k x
  | 0, r, s, c => ⟨rfl, fun _ _ _ => rfl⟩
  | n + 1, r, s, c => by
    obtain ⟨h1, h2⟩ := rdG_fr (zs := zs) n (r + 1) (psG r (zs r) 0 s c).1 (psG r (zs r) 0 s c).2
    obtain ⟨g1, g2⟩ := psG_fr (r := r) (zs r) 0 s c
    exact ⟨h1.trans g1, fun k x hk => (h2 k x hk).trans (g2 k x hk)⟩
theorem rdG_01 {zs : Nat → Nat} : ∀ (n r : Nat) (s : MSt) (c : Int32), g01 s.2 → g01 (rdG zs n r s c).1.2
  | 0, r, s, c, h => h
  | n + 1, r, s, c, h => rdG_01 n (r + 1) _ _ (psG_01 _ _ _ _ h)
def ZR (s s1 : MSt) : Prop := s1.1 = s.1 ∧ (∀ k x, k ≠ 11 → k ≠ 12 → s1.2 k x = s.2 k x) ∧ ∀ j, j < 384 → s1.2 11 j = nI 0 ∧ s1.2 12 j = nI 0
set_option maxHeartbeats 4000000 in
theorem M_study_g (hl : l.stackTraces = false) (d : Nat) (zs : Nat → Nat) (s3 : MSt) (P : MSt → Prop) (hP : P s3) : ∀ (n : Nat) (s : MSt) (c : Int32), stpG zs n s s3 → GM zs s.2 → g01 s.2 → ¬ c = 0 → EW (IM cy ad hp0) l D cy base mX9_study (d + 5) 0 0 46 [(0, .ref (ad 43)), (1, .int c)] [] s (fun o s2 => o = .inl none ∧ P s2)
  | n, s, c, h, hG, h01, hc => by
    refine EW.iload_n dX9_study_46 rfl rfl ?_
    refine EW.if_eq 59 dX9_study_47 (by decide) (fun c47 => ?_) (fun c47 => ?_)
    · exact absurd c47 hc
    · refine EW.aload_n dX9_study_50 rfl rfl ?_
      refine EW.ic 1 dX9_study_51 ?_
      refine EM.callV (M_moreG hl d s zs hG h01) mfX9_more l_X9_187 mvX9_more (by omega) dX9_study_52 rfl rfl rfl rfl (Nat.le_of_ble_eq_true rfl) (fun _ _ q => nomatch q.1) (fun v52 s52 q52 => ?_)
      obtain ⟨e52, h52⟩ := q52; cases e52; replace h52 := h52.symm; subst h52
      refine EW.istore_n dX9_study_55 rfl (by decide) ?_
      refine EW.goto 46 dX9_study_56 (by decide) ?_
      cases n with
      | zero =>
        obtain ⟨h1, h2⟩ := h
        refine EW.loc (lv' := [(0, .ref (ad 43)), (1, .int (rdG zs 6 0 s (nI 0)).2)]) ⟨rfl, rfl, trivial⟩ ?_
        rw [h1]
        refine EW.iload_n dX9_study_46 rfl rfl ?_
        refine EW.if_eq 59 dX9_study_47 (by decide) (fun c47 => ?_) (fun c47 => ?_)
        · refine EW.vret rfl dX9_study_59 ?_
          exact ⟨rfl, h2 ▸ hP⟩
        · exact absurd rfl c47
      | succ n =>
        obtain ⟨h1, h2⟩ := h
        exact EW.loc (lv' := [(0, .ref (ad 43)), (1, .int (rdG zs 6 0 s (nI 0)).2)]) ⟨rfl, rfl, trivial⟩ (M_study_g hl d zs s3 P hP n _ _ h2 (hG.fr fun k x hk => (rdG_fr _ _ _ _).2 k x (by omega)) (rdG_01 _ _ _ _ h01) h1)
set_option maxHeartbeats 4000000 in
theorem M_study_o (hl : l.stackTraces = false) (d : Nat) (zs : Nat → Nat) (s3 s4 : MSt) (n2 : Nat) (hG2 : stpG zs n2 s3 s4) (P : MSt → Prop) (hP : P s4) : ∀ (n : Nat) (s : MSt) (c : Int32), stpO zs n s s3 → GM zs s.2 → g01 s.2 → ¬ c = 0 → EW (IM cy ad hp0) l D cy base mX9_study (d + 5) 0 0 31 [(0, .ref (ad 43)), (1, .int c)] [] s (fun o s2 => o = .inl none ∧ P s2)
  | n, s, c, h, hG, h01, hc => by
    refine EW.iload_n dX9_study_31 rfl rfl ?_
    refine EW.if_eq 44 dX9_study_32 (by decide) (fun c32 => ?_) (fun c32 => ?_)
    · exact absurd c32 hc
    · refine EW.aload_n dX9_study_35 rfl rfl ?_
      refine EW.ic 0 dX9_study_36 ?_
      refine EM.callV (M_moreO hl d s zs hG) mfX9_more l_X9_187 mvX9_more (by omega) dX9_study_37 rfl rfl rfl rfl (Nat.le_of_ble_eq_true rfl) (fun _ _ q => nomatch q.1) (fun v37 s37 q37 => ?_)
      obtain ⟨e37, h37⟩ := q37; cases e37; replace h37 := h37.symm; subst h37
      refine EW.istore_n dX9_study_40 rfl (by decide) ?_
      refine EW.goto 31 dX9_study_41 (by decide) ?_
      cases n with
      | zero =>
        obtain ⟨h1, h2⟩ := h
        refine EW.loc (lv' := [(0, .ref (ad 43)), (1, .int (rdO zs 6 0 s (nI 0)).2)]) ⟨rfl, rfl, trivial⟩ ?_
        rw [h1]
        refine EW.iload_n dX9_study_31 rfl rfl ?_
        refine EW.if_eq 44 dX9_study_32 (by decide) (fun c32 => ?_) (fun c32 => ?_)
        · refine EW.ic 1 dX9_study_44 ?_
          refine EW.istore_n dX9_study_45 rfl (by decide) ?_
          exact EW.loc (lv' := [(0, .ref (ad 43)), (1, .int (nI 1))]) ⟨rfl, rfl, trivial⟩ (M_study_g hl d zs s4 P hP n2 _ _ (h2 ▸ hG2) (hG.fr fun k x hk => (rdO_fr _ _ _ _).2 k x (by omega)) (fun k hk => by rw [(rdO_fr _ _ _ _).2 12 k (by decide)]; exact h01 k hk) (by decide +kernel))
        · exact absurd rfl c32
      | succ n =>
        obtain ⟨h1, h2⟩ := h
        exact EW.loc (lv' := [(0, .ref (ad 43)), (1, .int (rdO zs 6 0 s (nI 0)).2)]) ⟨rfl, rfl, trivial⟩ (M_study_o hl d zs s3 s4 n2 hG2 P hP n _ _ h2 (hG.fr fun k x hk => (rdO_fr _ _ _ _).2 k x (by omega)) (fun k hk => by rw [(rdO_fr _ _ _ _).2 12 k (by decide)]; exact h01 k hk) h1)
set_option maxHeartbeats 4000000 in
theorem M_study_z (hl : l.stackTraces = false) (d : Nat) (zs : Nat → Nat) (s0 : MSt) (hG0 : GM zs s0.2) (P : MSt → Prop) (hE : ∀ s1, ZR s0 s1 → ∃ n s2 n2 s3, stpO zs n s1 s2 ∧ stpG zs n2 s2 s3 ∧ P s3) : ∀ (n i : Nat) (s : MSt), i + n = 384 → s.1 = s0.1 → (∀ k x, k ≠ 11 → k ≠ 12 → s.2 k x = s0.2 k x) → (∀ j, j < i → s.2 11 j = nI 0 ∧ s.2 12 j = nI 0) → EW (IM cy ad hp0) l D cy base mX9_study (d + 5) 0 0 2 [(0, .ref (ad 43)), (1, .int (nI i))] [] s (fun o s2 => o = .inl none ∧ P s2)
  | 0, i, s, hi, h1, h2, h3 => by
    refine EW.iload_n dX9_study_2 rfl rfl ?_
    refine EW.sp 384 dX9_study_3 ?_
    refine EW.icmp_ge 29 dX9_study_6 (by decide) (fun c6 => ?_) (fun c6 => ?_)
    · have c6 : 384 ≤ i := (nI_leI (by omega) (by omega)).mp c6
      refine EW.ic 1 dX9_study_29 ?_
      refine EW.istore_n dX9_study_30 rfl (by decide) ?_
      obtain ⟨n, s2, n2, s3, a, b, c⟩ := hE s ⟨h1, h2, fun j hj => h3 j (by omega)⟩
      exact EW.loc (lv' := [(0, .ref (ad 43)), (1, .int (nI 1))]) ⟨rfl, rfl, trivial⟩ (M_study_o hl d zs s2 s3 n2 b P c n s _ a (hG0.fr fun k x hk => h2 k x (by omega) (by omega)) (fun k hk => Or.inl (h3 k (by omega)).2) (by decide +kernel))
    · have c6 : ¬ (384 ≤ i) := fun h => c6 ((nI_leI (by omega) (by omega)).mpr h); omega
  | n + 1, i, s, hi, h1, h2, h3 => by
    refine EW.iload_n dX9_study_2 rfl rfl ?_
    refine EW.sp 384 dX9_study_3 ?_
    refine EW.icmp_ge 29 dX9_study_6 (by decide) (fun c6 => ?_) (fun c6 => ?_)
    · have c6 : 384 ≤ i := (nI_leI (by omega) (by omega)).mp c6; omega
    · have c6 : ¬ (384 ≤ i) := fun h => c6 ((nI_leI (by omega) (by omega)).mpr h)
      refine EW.aload_n dX9_study_9 rfl rfl ?_
      refine EM.get f_X9_36 dX9_study_10 rfl ?_
      refine EW.iload_n dX9_study_13 rfl rfl ?_
      refine EW.ic 0 dX9_study_14 ?_
      refine EM.iastN (i) dX9_study_15 rfl rfl (by simp only [mLen]; omega) ?_
      refine EW.aload_n dX9_study_16 rfl rfl ?_
      refine EM.get f_X9_39 dX9_study_17 rfl ?_
      refine EW.iload_n dX9_study_20 rfl rfl ?_
      refine EW.ic 0 dX9_study_21 ?_
      refine EM.zastN (i) dX9_study_22 rfl rfl (by simp only [mLen]; omega) ?_
      refine EW.iinc dX9_study_23 rfl (nI_inc _) (by decide) ?_
      refine EW.goto 2 dX9_study_26 (by decide) ?_
      refine EW.eqs (s' := aU 12 i (vp_nar .boolean (nI 0)) (aU 11 i (nI 0) s)) rfl ?_
      exact EW.loc (lv' := [(0, .ref (ad 43)), (1, .int (nI (i + 1)))]) ⟨rfl, rfl, trivial⟩ (M_study_z hl d zs s0 hG0 P hE n (i + 1) _ (by omega) h1 (fun k x a b => by rw [aU_2, if_neg (fun c => b c.1), aU_2, if_neg (fun c => a c.1)]; exact h2 k x a b) (fun j hj => by
        have hb0 : vp_nar .boolean (nI 0) = nI 0 := by decide +kernel
        by_cases e : j = i
        · subst e
          simp [aU_2, hb0]
        · simpa [aU_2, e] using h3 j (by omega)))
set_option maxHeartbeats 4000000 in
theorem M_study (hl : l.stackTraces = false) (d : Nat) (zs : Nat → Nat) (s : MSt) (hG : GM zs s.2) (P : MSt → Prop) (hE : ∀ s1, ZR s s1 → ∃ n s2 n2 s3, stpO zs n s1 s2 ∧ stpG zs n2 s2 s3 ∧ P s3) : MtW (IM cy ad hp0) l D cy base mX9_study (d + 5) 0 0 [.ref (ad 43)] s (fun o s2 => o = .inl none ∧ P s2) := by
  refine MtW.of hl mfX9_study rfl (Nat.le_of_ble_eq_true rfl) ?_
  refine EW.ic 0 dX9_study_0 ?_
  refine EW.istore_n dX9_study_1 rfl (by decide) ?_
  exact EW.loc (lv' := [(0, .ref (ad 43)), (1, .int (nI 0))]) ⟨rfl, rfl, trivial⟩ (M_study_z hl d zs s hG P hE 384 0 s rfl rfl (fun _ _ _ _ => rfl) (fun j hj => absurd hj (by omega)))
def lkV (H : Nat → Nat → Int32) (k : Nat) (a : Option Nat) : Option Nat :=
  if H 5 k = nI 1 ∧ H 10 (zN (H 6 k)) = nI 0 then (match a with
    | none => some (zN (H 6 k))
    | some x => if zN (H 6 k) < x then some (zN (H 6 k)) else some x) else a
def lkK (H : Nat → Nat → Int32) (r : Nat) : Nat → Nat → Option Nat → Option Nat
  | 0, _, a => a
  | n + 1, i, a => lkK H r n (i + 1) (lkV H (64 * r + i) a)
def lkR (zs : Nat → Nat) (H : Nat → Nat → Int32) : Nat → Nat → Option Nat → Option Nat
  | 0, _, a => a
  | n + 1, r, a => lkR zs H n (r + 1) (lkK H r (zs r) 0 a)
def o6 (a : Option Nat) : Prop := ∀ x, a = some x → x < 6
theorem lkV_6 {zs : Nat → Nat} {H : Nat → Nat → Int32} {r i : Nat} {a : Option Nat} (hG : GM zs H) (hr : r < 6) (hi : i < zs r) (ha : o6 a) : o6 (lkV H (64 * r + i) a) := by
  unfold lkV
  by_cases h : H 5 (64 * r + i) = nI 1 ∧ H 10 (zN (H 6 (64 * r + i))) = nI 0
  · rw [if_pos h]
    have hq : zN (H 6 (64 * r + i)) < 6 := by
      rcases (hG r hr).2.2 i hi with h0 | ⟨q, hq, h1, h2⟩ | ⟨kd, f, g, k2, k8, hf, hg, h5, h6, h7⟩
      · exact absurd (h0.symm.trans h.1) (nIn (by decide) (by decide) (by decide))
      · rw [h2, zN_nI (by omega)]
        exact hq
      · exact absurd (h5.symm.trans h.1) (nIn (by omega) (by decide) (by omega))
    intro x hx
    cases a with
    | none => cases hx; exact hq
    | some y =>
      have := ha y rfl
      simp only at hx
      split at hx <;> cases hx
      · exact hq
      · exact this
  · rw [if_neg h]
    exact ha
theorem lkK_6 {zs : Nat → Nat} {H : Nat → Nat → Int32} {r : Nat} (hG : GM zs H) (hr : r < 6) : ∀ (n i : Nat) (a : Option Nat), i + n ≤ zs r → o6 a → o6 (lkK H r n i a)
  | 0, i, a, _, ha => ha
  | n + 1, i, a, hi, ha => lkK_6 hG hr n (i + 1) _ (by omega) (lkV_6 hG hr (by omega) ha)
theorem lkR_6 {zs : Nat → Nat} {H : Nat → Nat → Int32} (hG : GM zs H) : ∀ (n r : Nat) (a : Option Nat), r + n ≤ 6 → o6 a → o6 (lkR zs H n r a)
  | 0, r, a, _, ha => ha
  | n + 1, r, a, hr, ha => lkR_6 hG n (r + 1) _ (by omega) (lkK_6 hG (by omega) (zs r) 0 a (by omega) ha)
theorem oneg {a : Option Nat} (ha : o6 a) : onI a < 0 ↔ a = none := by
  cases a with
  | none => exact ⟨fun _ => rfl, fun _ => by decide +kernel⟩
  | some x => exact ⟨fun h => absurd h (nI_pos (by have := ha x rfl; omega)), fun h => by cases h⟩
set_option maxHeartbeats 4000000 in
theorem M_lacking_in (d : Nat) (zs : Nat → Nat) (r : Nat) (hr : r < 6) (s : MSt) (hG : GM zs s.2) (Q : Oc → MSt → Prop) : ∀ (n i : Nat) (a : Option Nat), i + n = zs r → o6 a → (EW (IM cy ad hp0) l D cy base mX9_lacking d 0 0 97 [(0, .ref (ad 43)), (1, .int (onI (lkK s.2 r n i a))), (2, .int (nI r))] [] s Q) → EW (IM cy ad hp0) l D cy base mX9_lacking d 0 0 15 [(0, .ref (ad 43)), (1, .int (onI a)), (2, .int (nI r)), (3, .int (nI (64 * r + i)))] [] s Q
  | 0, i, a, hi, ha, K => by
    have hz := (hG r hr).1
    have hz9 := (hG r hr).2.1
    refine EW.iload_n dX9_lacking_15 rfl rfl ?_
    refine EW.bp 64 dX9_lacking_16 ?_
    refine EW.iload_n dX9_lacking_18 rfl rfl ?_
    refine EW.imul dX9_lacking_19 ?_
    refine EW.top (pk_mul _ _) ?_
    refine EW.aload_n dX9_lacking_20 rfl rfl ?_
    refine EM.get f_X9_33 dX9_lacking_21 rfl ?_
    refine EW.iload_n dX9_lacking_24 rfl rfl ?_
    refine EM.ialdN r dX9_lacking_25 rfl rfl (by simp only [mLen]; omega) ?_
    refine EW.top hz ?_
    refine EW.iadd dX9_lacking_26 ?_
    refine EW.top (nI_add _ _) ?_
    refine EW.icmp_ge 97 dX9_lacking_27 (by decide) (fun c27 => ?_) (fun c27 => ?_)
    · have c27 : (64 * r) + (zs r) ≤ 64 * r + i := (nI_leI (by omega) (by omega)).mp c27
      exact EW.loc (lv' := [(0, .ref (ad 43)), (1, .int _), (2, .int (nI r))]) ⟨rfl, rfl, rfl, trivial⟩ K
    · have c27 : ¬ ((64 * r) + (zs r) ≤ 64 * r + i) := fun h => c27 ((nI_leI (by omega) (by omega)).mpr h); omega
  | n + 1, i, a, hi, ha, K => by
    have hz := (hG r hr).1
    have hz9 := (hG r hr).2.1
    have hV := lkV_6 hG hr (show i < zs r by omega) ha
    by_cases h1 : s.2 5 (64 * r + i) = nI 1
    · have hq6 : ∃ q, q < 6 ∧ s.2 6 (64 * r + i) = nI q := by
        rcases (hG r hr).2.2 i (by omega) with h0 | ⟨q, hq, h1, h2⟩ | ⟨kd, f, g, k2, k8, hf, hg, h5, h6, h7⟩
        · exact absurd (h0.symm.trans h1) (nIn (by decide) (by decide) (by decide))
        · exact ⟨q, hq, h2⟩
        · exact absurd (h5.symm.trans h1) (nIn (by omega) (by decide) (by omega))
      obtain ⟨q, hq6, hq⟩ := hq6
      have hzq := (hG q hq6).1
      have hzq9 := (hG q hq6).2.1
      have ez : zN (s.2 6 (64 * r + i)) = q := by rw [hq]; exact zN_nI (by omega)
      by_cases hz0 : zs q = 0
      · cases a with
        | none =>
          refine EW.iload_n dX9_lacking_15 rfl rfl ?_
          refine EW.bp 64 dX9_lacking_16 ?_
          refine EW.iload_n dX9_lacking_18 rfl rfl ?_
          refine EW.imul dX9_lacking_19 ?_
          refine EW.top (pk_mul _ _) ?_
          refine EW.aload_n dX9_lacking_20 rfl rfl ?_
          refine EM.get f_X9_33 dX9_lacking_21 rfl ?_
          refine EW.iload_n dX9_lacking_24 rfl rfl ?_
          refine EM.ialdN r dX9_lacking_25 rfl rfl (by simp only [mLen]; omega) ?_
          refine EW.top hz ?_
          refine EW.iadd dX9_lacking_26 ?_
          refine EW.top (nI_add _ _) ?_
          refine EW.icmp_ge 97 dX9_lacking_27 (by decide) (fun c27 => ?_) (fun c27 => ?_)
          · have c27 : (64 * r) + (zs r) ≤ 64 * r + i := (nI_leI (by omega) (by omega)).mp c27; omega
          · have c27 : ¬ ((64 * r) + (zs r) ≤ 64 * r + i) := fun h => c27 ((nI_leI (by omega) (by omega)).mpr h)
            refine EW.aload_n dX9_lacking_30 rfl rfl ?_
            refine EM.get f_X9_17 dX9_lacking_31 rfl ?_
            refine EW.iload_n dX9_lacking_34 rfl rfl ?_
            refine EM.ialdN (64 * r + i) dX9_lacking_35 rfl rfl (by simp only [mLen]; omega) ?_
            refine EW.top h1 ?_
            refine EW.ic 1 dX9_lacking_36 ?_
            refine EW.icmp_ne 58 dX9_lacking_37 (by decide) (fun c37 => ?_) (fun c37 => ?_)
            · exact absurd c37 (by decide +kernel)
            · refine EW.aload_n dX9_lacking_40 rfl rfl ?_
              refine EM.get f_X9_33 dX9_lacking_41 rfl ?_
              refine EW.aload_n dX9_lacking_44 rfl rfl ?_
              refine EM.get f_X9_20 dX9_lacking_45 rfl ?_
              refine EW.iload_n dX9_lacking_48 rfl rfl ?_
              refine EM.ialdN (64 * r + i) dX9_lacking_49 rfl rfl (by simp only [mLen]; omega) ?_
              refine EW.top hq ?_
              refine EM.ialdN q dX9_lacking_50 rfl rfl (by simp only [mLen]; omega) ?_
              refine EW.top hzq ?_
              refine EW.if_ne 58 dX9_lacking_51 (by decide) (fun c51 => ?_) (fun c51 => ?_)
              · have c51 : ¬ zs q = 0 := fun h => c51 ((nI_eq0 (by omega)).mpr h); omega
              · have c51 : zs q = 0 := (nI_eq0 (by omega)).mp c51
                refine EW.ic 1 dX9_lacking_54 ?_
                refine EW.goto 59 dX9_lacking_55 (by decide) ?_
                refine EW.istore dX9_lacking_59 (by decide) ?_
                refine EW.iload dX9_lacking_61 rfl ?_
                refine EW.if_eq 89 dX9_lacking_63 (by decide) (fun c63 => ?_) (fun c63 => ?_)
                · exact absurd c63 (by decide +kernel)
                · refine EW.iload_n dX9_lacking_66 rfl rfl ?_
                  refine EW.if_lt 80 dX9_lacking_67 (by decide) (fun c67 => ?_) (fun c67 => ?_)
                  · refine EW.aload_n dX9_lacking_80 rfl rfl ?_
                    refine EM.get f_X9_20 dX9_lacking_81 rfl ?_
                    refine EW.iload_n dX9_lacking_84 rfl rfl ?_
                    refine EM.ialdN (64 * r + i) dX9_lacking_85 rfl rfl (by simp only [mLen]; omega) ?_
                    refine EW.top hq ?_
                    refine EW.goto 90 dX9_lacking_86 (by decide) ?_
                    refine EW.istore_n dX9_lacking_90 rfl (by decide) ?_
                    refine EW.iinc dX9_lacking_91 rfl (nI_inc _) (by decide) ?_
                    refine EW.goto 15 dX9_lacking_94 (by decide) ?_
                    have ev : lkV s.2 (64 * r + i) none = some q := by unfold lkV; rw [if_pos ⟨h1, by rw [ez, hzq, hz0]⟩, ez]
                    rw [lkK] at K
                    refine EW.loc (lv' := [(0, .ref (ad 43)), (1, .int (onI (lkV s.2 (64 * r + i) none))), (2, .int (nI r)), (3, .int (nI (64 * r + (i + 1))))]) ⟨rfl, by rw [ev]; rfl, rfl, rfl, trivial⟩ (M_lacking_in d zs r hr s hG Q n (i + 1) _ (by omega) hV K)
                  · exact absurd (by decide +kernel) c67
        | some x =>
          have hx6 := ha x rfl
          refine EW.iload_n dX9_lacking_15 rfl rfl ?_
          refine EW.bp 64 dX9_lacking_16 ?_
          refine EW.iload_n dX9_lacking_18 rfl rfl ?_
          refine EW.imul dX9_lacking_19 ?_
          refine EW.top (pk_mul _ _) ?_
          refine EW.aload_n dX9_lacking_20 rfl rfl ?_
          refine EM.get f_X9_33 dX9_lacking_21 rfl ?_
          refine EW.iload_n dX9_lacking_24 rfl rfl ?_
          refine EM.ialdN r dX9_lacking_25 rfl rfl (by simp only [mLen]; omega) ?_
          refine EW.top hz ?_
          refine EW.iadd dX9_lacking_26 ?_
          refine EW.top (nI_add _ _) ?_
          refine EW.icmp_ge 97 dX9_lacking_27 (by decide) (fun c27 => ?_) (fun c27 => ?_)
          · have c27 : (64 * r) + (zs r) ≤ 64 * r + i := (nI_leI (by omega) (by omega)).mp c27; omega
          · have c27 : ¬ ((64 * r) + (zs r) ≤ 64 * r + i) := fun h => c27 ((nI_leI (by omega) (by omega)).mpr h)
            refine EW.aload_n dX9_lacking_30 rfl rfl ?_
            refine EM.get f_X9_17 dX9_lacking_31 rfl ?_
            refine EW.iload_n dX9_lacking_34 rfl rfl ?_
            refine EM.ialdN (64 * r + i) dX9_lacking_35 rfl rfl (by simp only [mLen]; omega) ?_
            refine EW.top h1 ?_
            refine EW.ic 1 dX9_lacking_36 ?_
            refine EW.icmp_ne 58 dX9_lacking_37 (by decide) (fun c37 => ?_) (fun c37 => ?_)
            · exact absurd c37 (by decide +kernel)
            · refine EW.aload_n dX9_lacking_40 rfl rfl ?_
              refine EM.get f_X9_33 dX9_lacking_41 rfl ?_
              refine EW.aload_n dX9_lacking_44 rfl rfl ?_
              refine EM.get f_X9_20 dX9_lacking_45 rfl ?_
              refine EW.iload_n dX9_lacking_48 rfl rfl ?_
              refine EM.ialdN (64 * r + i) dX9_lacking_49 rfl rfl (by simp only [mLen]; omega) ?_
              refine EW.top hq ?_
              refine EM.ialdN q dX9_lacking_50 rfl rfl (by simp only [mLen]; omega) ?_
              refine EW.top hzq ?_
              refine EW.if_ne 58 dX9_lacking_51 (by decide) (fun c51 => ?_) (fun c51 => ?_)
              · have c51 : ¬ zs q = 0 := fun h => c51 ((nI_eq0 (by omega)).mpr h); omega
              · have c51 : zs q = 0 := (nI_eq0 (by omega)).mp c51
                refine EW.ic 1 dX9_lacking_54 ?_
                refine EW.goto 59 dX9_lacking_55 (by decide) ?_
                refine EW.istore dX9_lacking_59 (by decide) ?_
                refine EW.iload dX9_lacking_61 rfl ?_
                refine EW.if_eq 89 dX9_lacking_63 (by decide) (fun c63 => ?_) (fun c63 => ?_)
                · exact absurd c63 (by decide +kernel)
                · refine EW.iload_n dX9_lacking_66 rfl rfl ?_
                  refine EW.if_lt 80 dX9_lacking_67 (by decide) (fun c67 => ?_) (fun c67 => ?_)
                  · exact absurd c67 (nI_pos (by omega))
                  · refine EW.aload_n dX9_lacking_70 rfl rfl ?_
                    refine EM.get f_X9_20 dX9_lacking_71 rfl ?_
                    refine EW.iload_n dX9_lacking_74 rfl rfl ?_
                    refine EM.ialdN (64 * r + i) dX9_lacking_75 rfl rfl (by simp only [mLen]; omega) ?_
                    refine EW.top hq ?_
                    refine EW.iload_n dX9_lacking_76 rfl rfl ?_
                    refine EW.icmp_ge 89 dX9_lacking_77 (by decide) (fun c77 => ?_) (fun c77 => ?_)
                    · have c77 : x ≤ q := (nI_leI (by omega) (by omega)).mp c77
                      refine EW.iload_n dX9_lacking_89 rfl rfl ?_
                      refine EW.istore_n dX9_lacking_90 rfl (by decide) ?_
                      refine EW.iinc dX9_lacking_91 rfl (nI_inc _) (by decide) ?_
                      refine EW.goto 15 dX9_lacking_94 (by decide) ?_
                      have ev : lkV s.2 (64 * r + i) (some x) = some x := by unfold lkV; rw [if_pos ⟨h1, by rw [ez, hzq, hz0]⟩, ez]; exact if_neg (by omega)
                      rw [lkK] at K
                      refine EW.loc (lv' := [(0, .ref (ad 43)), (1, .int (onI (lkV s.2 (64 * r + i) (some x)))), (2, .int (nI r)), (3, .int (nI (64 * r + (i + 1))))]) ⟨rfl, by rw [ev]; rfl, rfl, rfl, trivial⟩ (M_lacking_in d zs r hr s hG Q n (i + 1) _ (by omega) hV K)
                    · have c77 : ¬ (x ≤ q) := fun h => c77 ((nI_leI (by omega) (by omega)).mpr h)
                      refine EW.aload_n dX9_lacking_80 rfl rfl ?_
                      refine EM.get f_X9_20 dX9_lacking_81 rfl ?_
                      refine EW.iload_n dX9_lacking_84 rfl rfl ?_
                      refine EM.ialdN (64 * r + i) dX9_lacking_85 rfl rfl (by simp only [mLen]; omega) ?_
                      refine EW.top hq ?_
                      refine EW.goto 90 dX9_lacking_86 (by decide) ?_
                      refine EW.istore_n dX9_lacking_90 rfl (by decide) ?_
                      refine EW.iinc dX9_lacking_91 rfl (nI_inc _) (by decide) ?_
                      refine EW.goto 15 dX9_lacking_94 (by decide) ?_
                      have ev : lkV s.2 (64 * r + i) (some x) = some q := by unfold lkV; rw [if_pos ⟨h1, by rw [ez, hzq, hz0]⟩, ez]; exact if_pos (by omega)
                      rw [lkK] at K
                      refine EW.loc (lv' := [(0, .ref (ad 43)), (1, .int (onI (lkV s.2 (64 * r + i) (some x)))), (2, .int (nI r)), (3, .int (nI (64 * r + (i + 1))))]) ⟨rfl, by rw [ev]; rfl, rfl, rfl, trivial⟩ (M_lacking_in d zs r hr s hG Q n (i + 1) _ (by omega) hV K)
      · refine EW.iload_n dX9_lacking_15 rfl rfl ?_
        refine EW.bp 64 dX9_lacking_16 ?_
        refine EW.iload_n dX9_lacking_18 rfl rfl ?_
        refine EW.imul dX9_lacking_19 ?_
        refine EW.top (pk_mul _ _) ?_
        refine EW.aload_n dX9_lacking_20 rfl rfl ?_
        refine EM.get f_X9_33 dX9_lacking_21 rfl ?_
        refine EW.iload_n dX9_lacking_24 rfl rfl ?_
        refine EM.ialdN r dX9_lacking_25 rfl rfl (by simp only [mLen]; omega) ?_
        refine EW.top hz ?_
        refine EW.iadd dX9_lacking_26 ?_
        refine EW.top (nI_add _ _) ?_
        refine EW.icmp_ge 97 dX9_lacking_27 (by decide) (fun c27 => ?_) (fun c27 => ?_)
        · have c27 : (64 * r) + (zs r) ≤ 64 * r + i := (nI_leI (by omega) (by omega)).mp c27; omega
        · have c27 : ¬ ((64 * r) + (zs r) ≤ 64 * r + i) := fun h => c27 ((nI_leI (by omega) (by omega)).mpr h)
          refine EW.aload_n dX9_lacking_30 rfl rfl ?_
          refine EM.get f_X9_17 dX9_lacking_31 rfl ?_
          refine EW.iload_n dX9_lacking_34 rfl rfl ?_
          refine EM.ialdN (64 * r + i) dX9_lacking_35 rfl rfl (by simp only [mLen]; omega) ?_
          refine EW.top h1 ?_
          refine EW.ic 1 dX9_lacking_36 ?_
          refine EW.icmp_ne 58 dX9_lacking_37 (by decide) (fun c37 => ?_) (fun c37 => ?_)
          · exact absurd c37 (by decide +kernel)
          · refine EW.aload_n dX9_lacking_40 rfl rfl ?_
            refine EM.get f_X9_33 dX9_lacking_41 rfl ?_
            refine EW.aload_n dX9_lacking_44 rfl rfl ?_
            refine EM.get f_X9_20 dX9_lacking_45 rfl ?_
            refine EW.iload_n dX9_lacking_48 rfl rfl ?_
            refine EM.ialdN (64 * r + i) dX9_lacking_49 rfl rfl (by simp only [mLen]; omega) ?_
            refine EW.top hq ?_
            refine EM.ialdN q dX9_lacking_50 rfl rfl (by simp only [mLen]; omega) ?_
            refine EW.top hzq ?_
            refine EW.if_ne 58 dX9_lacking_51 (by decide) (fun c51 => ?_) (fun c51 => ?_)
            · have c51 : ¬ zs q = 0 := fun h => c51 ((nI_eq0 (by omega)).mpr h)
              refine EW.ic 0 dX9_lacking_58 ?_
              refine EW.istore dX9_lacking_59 (by decide) ?_
              refine EW.iload dX9_lacking_61 rfl ?_
              refine EW.if_eq 89 dX9_lacking_63 (by decide) (fun c63 => ?_) (fun c63 => ?_)
              · refine EW.iload_n dX9_lacking_89 rfl rfl ?_
                refine EW.istore_n dX9_lacking_90 rfl (by decide) ?_
                refine EW.iinc dX9_lacking_91 rfl (nI_inc _) (by decide) ?_
                refine EW.goto 15 dX9_lacking_94 (by decide) ?_
                have ev : lkV s.2 (64 * r + i) a = a := by unfold lkV; exact if_neg (fun c => hz0 (by have c2 := c.2; rw [ez, hzq] at c2; exact (nI_eq (by omega) (by omega)).mp c2))
                rw [lkK] at K
                refine EW.loc (lv' := [(0, .ref (ad 43)), (1, .int (onI (lkV s.2 (64 * r + i) a))), (2, .int (nI r)), (3, .int (nI (64 * r + (i + 1))))]) ⟨rfl, by rw [ev]; rfl, rfl, rfl, trivial⟩ (M_lacking_in d zs r hr s hG Q n (i + 1) _ (by omega) hV K)
              · exact absurd c63 (by decide +kernel)
            · have c51 : zs q = 0 := (nI_eq0 (by omega)).mp c51; omega
    · refine EW.iload_n dX9_lacking_15 rfl rfl ?_
      refine EW.bp 64 dX9_lacking_16 ?_
      refine EW.iload_n dX9_lacking_18 rfl rfl ?_
      refine EW.imul dX9_lacking_19 ?_
      refine EW.top (pk_mul _ _) ?_
      refine EW.aload_n dX9_lacking_20 rfl rfl ?_
      refine EM.get f_X9_33 dX9_lacking_21 rfl ?_
      refine EW.iload_n dX9_lacking_24 rfl rfl ?_
      refine EM.ialdN r dX9_lacking_25 rfl rfl (by simp only [mLen]; omega) ?_
      refine EW.top hz ?_
      refine EW.iadd dX9_lacking_26 ?_
      refine EW.top (nI_add _ _) ?_
      refine EW.icmp_ge 97 dX9_lacking_27 (by decide) (fun c27 => ?_) (fun c27 => ?_)
      · have c27 : (64 * r) + (zs r) ≤ 64 * r + i := (nI_leI (by omega) (by omega)).mp c27; omega
      · have c27 : ¬ ((64 * r) + (zs r) ≤ 64 * r + i) := fun h => c27 ((nI_leI (by omega) (by omega)).mpr h)
        refine EW.aload_n dX9_lacking_30 rfl rfl ?_
        refine EM.get f_X9_17 dX9_lacking_31 rfl ?_
        refine EW.iload_n dX9_lacking_34 rfl rfl ?_
        refine EM.ialdN (64 * r + i) dX9_lacking_35 rfl rfl (by simp only [mLen]; omega) ?_
        refine EW.ic 1 dX9_lacking_36 ?_
        refine EW.icmp_ne 58 dX9_lacking_37 (by decide) (fun c37 => ?_) (fun c37 => ?_)
        · refine EW.ic 0 dX9_lacking_58 ?_
          refine EW.istore dX9_lacking_59 (by decide) ?_
          refine EW.iload dX9_lacking_61 rfl ?_
          refine EW.if_eq 89 dX9_lacking_63 (by decide) (fun c63 => ?_) (fun c63 => ?_)
          · refine EW.iload_n dX9_lacking_89 rfl rfl ?_
            refine EW.istore_n dX9_lacking_90 rfl (by decide) ?_
            refine EW.iinc dX9_lacking_91 rfl (nI_inc _) (by decide) ?_
            refine EW.goto 15 dX9_lacking_94 (by decide) ?_
            have ev : lkV s.2 (64 * r + i) a = a := by unfold lkV; exact if_neg (fun c => h1 c.1)
            rw [lkK] at K
            refine EW.loc (lv' := [(0, .ref (ad 43)), (1, .int (onI (lkV s.2 (64 * r + i) a))), (2, .int (nI r)), (3, .int (nI (64 * r + (i + 1))))]) ⟨rfl, by rw [ev]; rfl, rfl, rfl, trivial⟩ (M_lacking_in d zs r hr s hG Q n (i + 1) _ (by omega) hV K)
          · exact absurd c63 (by decide +kernel)
        · exact absurd c37 h1
set_option maxHeartbeats 4000000 in
theorem M_lacking_out (d : Nat) (zs : Nat → Nat) (s : MSt) (hG : GM zs s.2) : ∀ (n r : Nat) (a : Option Nat), r + n = 6 → o6 a → EW (IM cy ad hp0) l D cy base mX9_lacking d 0 0 4 [(0, .ref (ad 43)), (1, .int (onI a)), (2, .int (nI r))] [] s (fun o s2 => o = .inl (some (.int (onI (lkR zs s.2 n r a)))) ∧ s2 = s)
  | 0, r, a, hr, ha => by
    refine EW.iload_n dX9_lacking_4 rfl rfl ?_
    refine EW.bp 6 dX9_lacking_5 ?_
    refine EW.icmp_ge 103 dX9_lacking_7 (by decide) (fun c7 => ?_) (fun c7 => ?_)
    · have c7 : 6 ≤ r := (nI_leI (by omega) (by omega)).mp c7
      refine EW.iload_n dX9_lacking_103 rfl rfl ?_
      refine EW.iret rfl dX9_lacking_104 ?_
      exact ⟨rfl, rfl⟩
    · have c7 : ¬ (6 ≤ r) := fun h => c7 ((nI_leI (by omega) (by omega)).mpr h); omega
  | n + 1, r, a, hr, ha => by
    refine EW.iload_n dX9_lacking_4 rfl rfl ?_
    refine EW.bp 6 dX9_lacking_5 ?_
    refine EW.icmp_ge 103 dX9_lacking_7 (by decide) (fun c7 => ?_) (fun c7 => ?_)
    · have c7 : 6 ≤ r := (nI_leI (by omega) (by omega)).mp c7; omega
    · have c7 : ¬ (6 ≤ r) := fun h => c7 ((nI_leI (by omega) (by omega)).mpr h)
      refine EW.bp 64 dX9_lacking_10 ?_
      refine EW.iload_n dX9_lacking_12 rfl rfl ?_
      refine EW.imul dX9_lacking_13 ?_
      refine EW.top (pk_mul _ _) ?_
      refine EW.istore_n dX9_lacking_14 rfl (by decide) ?_
      refine EW.loc (lv' := [(0, .ref (ad 43)), (1, .int (onI a)), (2, .int (nI r)), (3, .int (nI (64 * r + 0)))]) ⟨rfl, rfl, rfl, rfl, trivial⟩ ?_
      refine M_lacking_in d zs r (by omega) s hG _ (zs r) 0 a (by omega) ha ?_
      refine EW.iinc dX9_lacking_97 rfl (nI_inc _) (by decide) ?_
      refine EW.goto 4 dX9_lacking_100 (by decide) ?_
      exact EW.loc (lv' := [(0, .ref (ad 43)), (1, .int _), (2, .int (nI (r + 1)))]) ⟨rfl, rfl, rfl, trivial⟩ <| M_lacking_out d zs s hG n (r + 1) (lkK s.2 r (zs r) 0 a) (by omega) (lkK_6 hG (by omega) _ _ _ (by omega) ha)
set_option maxHeartbeats 4000000 in
theorem M_lacking (hl : l.stackTraces = false) (d : Nat) (zs : Nat → Nat) (s : MSt) (hG : GM zs s.2) : MtW (IM cy ad hp0) l D cy base mX9_lacking d 0 0 [.ref (ad 43)] s (fun o s2 => o = .inl (some (.int (onI (lkR zs s.2 6 0 none)))) ∧ s2 = s) := by
  refine MtW.of hl mfX9_lacking rfl (Nat.le_of_ble_eq_true rfl) ?_
  refine EW.iconst (v := -1) dX9_lacking_0 (by decide +kernel) ?_
  refine EW.istore_n dX9_lacking_1 rfl (by decide) ?_
  refine EW.ic 0 dX9_lacking_2 ?_
  refine EW.istore_n dX9_lacking_3 rfl (by decide) ?_
  exact EW.loc (lv' := [(0, .ref (ad 43)), (1, .int (onI none)), (2, .int (nI 0))]) ⟨rfl, rfl, rfl, trivial⟩ (M_lacking_out d zs s hG 6 0 none rfl (fun _ h => by cases h))
end M15
