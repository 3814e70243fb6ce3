section C10
variable {cy : Nat → ClassId} {ax : Nat → Nat} {hp0 : Hp} {l : Launch} {D : va_G} {base : Nat} {n : Nat} {w : Nat → Nat} {rl : Nat → Option Ex}
def KR (d : Nat) : Nat := 20 + 40 * (43 - d)
theorem KR_20 (d : Nat) : 20 ≤ KR d := Nat.le_add_right _ _
theorem KR_le {a b : Nat} (h : a ≤ b) : KR b ≤ KR a := by unfold KR; omega
theorem ht_B (m : Nat) (a b : Ex) : ht a + 1 ≤ ht (xB m a b) ∧ (m % 2 = 1 → ht b ≤ ht (xB m a b)) ∧ (¬ m % 2 = 1 → ht b + 1 ≤ ht (xB m a b)) := by
  show ht a + 1 ≤ (if m % 2 = 1 then max (ht a + 1) (ht b) else max (ht a + 1) (ht b + 1)) ∧ (m % 2 = 1 → ht b ≤ (if m % 2 = 1 then max (ht a + 1) (ht b) else max (ht a + 1) (ht b + 1))) ∧ (¬ m % 2 = 1 → ht b + 1 ≤ (if m % 2 = 1 then max (ht a + 1) (ht b) else max (ht a + 1) (ht b + 1)))
  split <;> omega
section defs
variable (cy ax hp0 l D base n w rl)
def HRP (f : Nat) : Prop := ∀ (r q d dd : Nat) (s : CSt) (O : Rs), r < 6 → q ≤ n → d ≤ 100 → 41 ≤ f + d → MG n w rl s → KR d ≤ dd → evR n w rl f r q d s = O → MtW (IC cy ax hp0) l D cy base mX3_matchRule dd (b1 O) (b6 O) [.ref (ax 12), .int (nI r), .int (nI q), .int (nI d)] s (pst O)
def GOP (f : Nat) (t : Ex) : Prop := ∀ (p q d dd : Nat) (c : Option Nat) (s : CSt) (O : Rs), MG n w rl s → rep s.2.2.2.2.1 t p → q ≤ n → d + ht t ≤ 90 → 39 ≤ f + d → (∀ j, c = some j → j < 126) → 2 * ht t + KR (d + 2) + 5 ≤ dd → evA n w (evR n w rl f) t q d c s = O → MtW (IC cy ax hp0) l D cy base mX3_go dd (b1 O) (b6 O) [.ref (ax 12), .ref p, .int (nI q), .int (nI d), .int (cN c)] s (pst O)
def RWP (f : Nat) (t : Ex) : Prop := ∀ (g q d dd : Nat) (c : Option Nat) (s : CSt) (O : Rs), MG n w rl s → repL s.2.2.2.2.1 t g → q ≤ n → d + ht t ≤ 90 → 39 ≤ f + d → (∀ j, c = some j → j < 126) → 2 * ht t + KR (d + 2) + 4 ≤ dd → evA n w (evR n w rl f) t q d c s = O → EW (IC cy ax hp0) l D cy base mX3_goRow dd (b1 O) (b6 O) 6 [(0, .ref (ax 12)), (3, .int (nI (d + 1))), (4, .int (cN c)), (5, .int (nI q)), (6, .ref g)] [] s (pst O)
def CHP (f : Nat) (t : Ex) : Prop := ∀ (g q d dd : Nat) (c : Option Nat) (s : CSt) (O : Rs), MG n w rl s → repL s.2.2.2.2.1 t g → q ≤ n → d + ht t ≤ 90 → 39 ≤ f + d → (∀ j, c = some j → j < 126) → 2 * ht t + KR (d + 2) + 4 ≤ dd → evA n w (evR n w rl f) t q d c s = O → EW (IC cy ax hp0) l D cy base mX3_goChoice dd (b1 O) (b6 O) 14 [(0, .ref (ax 12)), (2, .int (nI q)), (3, .int (nI (d + 1))), (4, .int (cN c)), (5, .int (bsz c s)), (6, .ref g)] [] s (pst O)
end defs
theorem MG.wfs {s : CSt} (h : MG n w rl s) : ∀ r t, r < 6 → rl r = some t → wf t := fun r t hr e => by
  have h1 := h.2.2.2.2 r hr
  rw [e] at h1
  exact h1.1
theorem okE {s : CSt} {t : Ex} {f q d : Nat} {c : Option Nat} {R : Rs} (h : MG n w rl s) (ht : wf t) (hq : q ≤ n) (e : evA n w (evR n w rl f) t q d c s = R) : okR n s R := by
  subst e
  exact evA_ok (fun r p d s hr hp hm => evR_ok h.2.1 h.wfs f r p d s hr hp hm) t ht q d c s hq h.2.2.2.1
theorem MG.ok {s : CSt} {R : Rs} (h : MG n w rl s) (k : okR n s R) : MG n w rl R.2 := h.fr k.1 k.2.1
set_option maxHeartbeats 4000000 in
theorem C_goRule (hl : l.stackTraces = false) {f : Nat} (hR : HRP cy ax hp0 l D base n w rl f) (r q d dd : Nat) (c : Option Nat) (s : CSt) (O : Rs) (hr : r < 6) (hq : q ≤ n) (hd : d ≤ 90) (hf : 39 ≤ f + d) (hMG : MG n w rl s) (hc : ∀ j, c = some j → j < 126) (hdd : KR (d + 2) + 1 ≤ dd) (hev : evA n w (evR n w rl f) (xC r) q d c s = O) : MtW (IC cy ax hp0) l D cy base mX3_goRule dd (b1 O) (b6 O) [.ref (ax 12), .int (nI r), .int (nI q), .int (nI d), .int (cN c)] s (pst O) := by
  refine MtW.of hl mfX3_goRule rfl (Nat.le_of_ble_eq_true rfl) ?_
  have hn20 := hMG.2.1
  have hk20 := KR_20 (d + 2)
  obtain ⟨R1, hR1⟩ : ∃ R, evR n w rl f r q (d + 2) s = R := ⟨_, rfl⟩
  have hO : bnd R1 (fun q1 s1 => (some (some q1), adb c (r * 21 + q) s1)) (fun s1 => (some none, s1)) = O := by rw [← hR1, ← hev]; rfl
  have K : okR n s R1 := by rw [← hR1]; exact evR_ok hMG.2.1 hMG.wfs f r q (d + 2) s hr hq hMG.2.2.2.1
  refine EW.aload_n dX3_goRule_0 rfl rfl ?_
  refine EW.iload_n dX3_goRule_1 rfl rfl ?_
  refine EW.iload_n dX3_goRule_2 rfl rfl ?_
  refine EW.iload_n dX3_goRule_3 rfl rfl ?_
  refine EW.ic 2 dX3_goRule_4 ?_
  refine EW.iadd dX3_goRule_5 ?_
  refine EW.top (nI_add _ _) ?_
  refine EC.callR (O := O) (k := 12) (hR r q (d + 2) (dd - 1) s R1 hr hq (by omega) (by omega) hMG (by omega) hR1) mfX3_matchRule l_X3_110 mvX3_matchRule (by omega) dX3_goRule_6 rfl rfl (by decide) rfl rfl rfl (Nat.le_of_ble_eq_true rfl) rfl (fun h => by rw [← hO, bnd_none h]) (fun v6 h6 => ?_)
  cases v6 with
  | none =>
    refine EW.top (y := -1) rfl ?_
    refine EW.istore dX3_goRule_9 (by decide) ?_
    refine EW.iload dX3_goRule_11 rfl ?_
    refine EW.iconst (v := -1) dX3_goRule_13 (by decide +kernel) ?_
    refine EW.icmp_eq 31 dX3_goRule_14 (by decide) (fun c14 => ?_) (fun c14 => ?_)
    · refine EW.iload dX3_goRule_31 rfl ?_
      refine EW.iret rfl dX3_goRule_33 ?_
      exact pst_ret (v := none) (by rw [← hO, bnd_fail h6])
    · exact absurd rfl c14
  | some x6 =>
    refine EW.top (y := nI x6) rfl ?_
    have hx6 := K.2.2 x6 h6
    refine EW.istore dX3_goRule_9 (by decide) ?_
    refine EW.iload dX3_goRule_11 rfl ?_
    refine EW.iconst (v := -1) dX3_goRule_13 (by decide +kernel) ?_
    refine EW.icmp_eq 31 dX3_goRule_14 (by decide) (fun c14 => ?_) (fun c14 => ?_)
    · exact absurd c14 (nI_m1 (by omega))
    · refine EW.aload_n dX3_goRule_17 rfl rfl ?_
      refine EC.get (k := 12) f_X3_19 dX3_goRule_18 (by decide) rfl rfl ?_
      refine EW.iload dX3_goRule_21 rfl ?_
      refine EW.iload_n dX3_goRule_23 rfl rfl ?_
      refine EW.iload_n dX3_goRule_24 rfl rfl ?_
      refine EW.callS (bc := (b1 O)) (bs := (b6 O)) (mc' := 0) (ms' := 0) (C_cellOf hl _ 0 R1.2 r q hr (by omega)) mfX4_cellOf rfl l_X3_30 mvX4_cellOf (by omega) dX3_goRule_25 rfl rfl (Nat.le_of_ble_eq_true rfl) (fun v25 s25 q25 => ?_) (fun _ _ q => nomatch q.1)
      obtain ⟨e25, h25⟩ := q25; cases e25; replace h25 := h25.symm; subst h25
      refine EC.callV (bc := (b1 O)) (bs := (b6 O)) (mc' := 0) (ms' := 0) (k := 8) (C_adb hl R1.2 c hc (r * 21 + q) (by omega)) mfX4_addBelow l_X3_114 mvX4_addBelow (by omega) dX3_goRule_28 rfl rfl (by decide) rfl rfl rfl (Nat.le_of_ble_eq_true rfl) (fun v28 s28 q28 => ?_) (fun _ _ q => nomatch q.1)
      obtain ⟨e28, h28⟩ := q28; cases e28; replace h28 := h28.symm; subst h28
      refine EW.iload dX3_goRule_31 rfl ?_
      refine EW.iret rfl dX3_goRule_33 ?_
      exact pst_ret (v := some x6) (by rw [← hO, bnd_some h6])
set_option maxHeartbeats 4000000 in
theorem RWP_odd (hl : l.stackTraces = false) {f : Nat} {a b : Ex} (wa : wf a) (wb : wf b) (hA : GOP cy ax hp0 l D base n w rl f a) (hB : RWP cy ax hp0 l D base n w rl f b) : RWP cy ax hp0 l D base n w rl f (xB 1 a b) := by
  intro g q d dd c s O hMG hrep hq hd hf hc hdd hev
  have hn20 := hMG.2.1
  have hk20 := KR_20 (d + 2)
  have hht := ht_B 1 a b
  have hh1 := hht.1
  have hh2 := hht.2.1 (by decide)
  have hk1 : KR (d + 1 + 2) ≤ KR (d + 2) := KR_le (by omega)
  obtain ⟨R1, hR1⟩ : ∃ R, evA n w (evR n w rl f) a q (d + 1) c s = R := ⟨_, rfl⟩
  have hO : bnd R1 (fun q1 s1 => evA n w (evR n w rl f) b q1 d c s1) (fun s1 => (some none, s1)) = O := by rw [← hR1, ← hev]; rfl
  have K := okE hMG wa hq hR1
  have hMG1 := hMG.ok K
  obtain ⟨ra, nf, g2, hnf, hnx, rb⟩ : rep s.2.2.2.2.1 a g ∧ ∃ nf g2, s.2.2.2.2.1 g = some nf ∧ nNext nf = some g2 ∧ repL s.2.2.2.2.1 b g2 := hrep
  refine EW.aload dX3_goRow_6 rfl ?_
  refine EW.ifnull (r := some g) 40 dX3_goRow_8 (by decide) (fun h => nomatch h) (fun _ _ => ?_)
  refine EW.iload dX3_goRow_11 rfl ?_
  refine EW.iconst (v := -1) dX3_goRow_13 (by decide +kernel) ?_
  refine EW.icmp_eq 40 dX3_goRow_14 (by decide) (fun c14 => ?_) (fun c14 => ?_)
  · exact absurd c14 (nI_m1 (by omega))
  · refine EW.aload_n dX3_goRow_17 rfl rfl ?_
    refine EW.aload dX3_goRow_18 rfl ?_
    refine EW.iload dX3_goRow_20 rfl ?_
    refine EW.iload_n dX3_goRow_22 rfl rfl ?_
    refine EW.iload dX3_goRow_23 rfl ?_
    refine EC.callR (O := O) (k := 12) (hA g q (d + 1) (dd - 1) c s R1 hMG ra hq (by omega) (by omega) hc (by omega) hR1) mfX3_go l_X3_67 mvX3_go (by omega) dX3_goRow_25 rfl rfl (by decide) rfl rfl rfl (Nat.le_of_ble_eq_true rfl) rfl (fun h => by rw [← hO, bnd_none h]) (fun v25 h25 => ?_)
    replace hnf : R1.2.2.2.2.2.1 g = some nf := by rw [K.1.1]; exact hnf
    cases v25 with
    | none =>
      refine EW.top (y := -1) rfl ?_
      refine EW.istore dX3_goRow_28 (by decide) ?_
      refine EW.aload dX3_goRow_30 rfl ?_
      refine EC.ndget f_X3_117 dX3_goRow_32 hnf rfl ?_
      refine EW.rf hnx ?_
      refine EW.astore dX3_goRow_35 (by decide) ?_
      refine EW.goto 6 dX3_goRow_37 (by decide) ?_
      refine EW.aload dX3_goRow_6 rfl ?_
      refine EW.ifnull (r := some g2) 40 dX3_goRow_8 (by decide) (fun h => nomatch h) (fun _ _ => ?_)
      refine EW.iload dX3_goRow_11 rfl ?_
      refine EW.iconst (v := -1) dX3_goRow_13 (by decide +kernel) ?_
      refine EW.icmp_eq 40 dX3_goRow_14 (by decide) (fun c14 => ?_) (fun c14 => ?_)
      · refine EW.iload dX3_goRow_40 rfl ?_
        refine EW.iret rfl dX3_goRow_42 ?_
        exact pst_ret (v := none) (by rw [← hO, bnd_fail h25])
      · exact absurd rfl c14
    | some x25 =>
      refine EW.top (y := nI x25) rfl ?_
      have hx25 := K.2.2 x25 h25
      refine EW.istore dX3_goRow_28 (by decide) ?_
      refine EW.aload dX3_goRow_30 rfl ?_
      refine EC.ndget f_X3_117 dX3_goRow_32 hnf rfl ?_
      refine EW.rf hnx ?_
      refine EW.astore dX3_goRow_35 (by decide) ?_
      refine EW.goto 6 dX3_goRow_37 (by decide) ?_
      exact EW.loc (lv' := [(0, .ref (ax 12)), (3, .int (nI (d + 1))), (4, .int (cN c)), (5, .int (nI x25)), (6, .ref g2)]) ⟨rfl, rfl, rfl, rfl, rfl, trivial⟩ (hB g2 x25 d dd c R1.2 O hMG1 (by rw [K.1.1]; exact rb) hx25 (by omega) (by omega) hc (by omega) (by rw [← hO, bnd_some h25]))
set_option maxHeartbeats 4000000 in
theorem RWP_even (hl : l.stackTraces = false) {f : Nat} {a b : Ex} (wa : wf a) (wb : wf b) (hA : GOP cy ax hp0 l D base n w rl f a) (hB : GOP cy ax hp0 l D base n w rl f b) : RWP cy ax hp0 l D base n w rl f (xB 0 a b) := by
  intro g q d dd c s O hMG hrep hq hd hf hc hdd hev
  have hn20 := hMG.2.1
  have hk20 := KR_20 (d + 2)
  have hht := ht_B 0 a b
  have hh1 := hht.1
  have hh2 := hht.2.2 (by decide)
  have hk1 : KR (d + 1 + 2) ≤ KR (d + 2) := KR_le (by omega)
  obtain ⟨R1, hR1⟩ : ∃ R, evA n w (evR n w rl f) a q (d + 1) c s = R := ⟨_, rfl⟩
  have hO : bnd R1 (fun q1 s1 => evA n w (evR n w rl f) b q1 (d + 1) c s1) (fun s1 => (some none, s1)) = O := by rw [← hR1, ← hev]; rfl
  have K := okE hMG wa hq hR1
  have hMG1 := hMG.ok K
  obtain ⟨ra, nf, g2, hnf, hnx, rb, ng, hng, hnn⟩ : rep s.2.2.2.2.1 a g ∧ ∃ nf g2, s.2.2.2.2.1 g = some nf ∧ nNext nf = some g2 ∧ rep s.2.2.2.2.1 b g2 ∧ ∃ ng, s.2.2.2.2.1 g2 = some ng ∧ nNext ng = none := hrep
  refine EW.aload dX3_goRow_6 rfl ?_
  refine EW.ifnull (r := some g) 40 dX3_goRow_8 (by decide) (fun h => nomatch h) (fun _ _ => ?_)
  refine EW.iload dX3_goRow_11 rfl ?_
  refine EW.iconst (v := -1) dX3_goRow_13 (by decide +kernel) ?_
  refine EW.icmp_eq 40 dX3_goRow_14 (by decide) (fun c14 => ?_) (fun c14 => ?_)
  · exact absurd c14 (nI_m1 (by omega))
  · refine EW.aload_n dX3_goRow_17 rfl rfl ?_
    refine EW.aload dX3_goRow_18 rfl ?_
    refine EW.iload dX3_goRow_20 rfl ?_
    refine EW.iload_n dX3_goRow_22 rfl rfl ?_
    refine EW.iload dX3_goRow_23 rfl ?_
    refine EC.callR (O := O) (k := 12) (hA g q (d + 1) (dd - 1) c s R1 hMG ra hq (by omega) (by omega) hc (by omega) hR1) mfX3_go l_X3_67 mvX3_go (by omega) dX3_goRow_25 rfl rfl (by decide) rfl rfl rfl (Nat.le_of_ble_eq_true rfl) rfl (fun h => by rw [← hO, bnd_none h]) (fun v25 h25 => ?_)
    replace hnf : R1.2.2.2.2.2.1 g = some nf := by rw [K.1.1]; exact hnf
    replace hng : R1.2.2.2.2.2.1 g2 = some ng := by rw [K.1.1]; exact hng
    cases v25 with
    | none =>
      refine EW.top (y := -1) rfl ?_
      refine EW.istore dX3_goRow_28 (by decide) ?_
      refine EW.aload dX3_goRow_30 rfl ?_
      refine EC.ndget f_X3_117 dX3_goRow_32 hnf rfl ?_
      refine EW.rf hnx ?_
      refine EW.astore dX3_goRow_35 (by decide) ?_
      refine EW.goto 6 dX3_goRow_37 (by decide) ?_
      refine EW.aload dX3_goRow_6 rfl ?_
      refine EW.ifnull (r := some g2) 40 dX3_goRow_8 (by decide) (fun h => nomatch h) (fun _ _ => ?_)
      refine EW.iload dX3_goRow_11 rfl ?_
      refine EW.iconst (v := -1) dX3_goRow_13 (by decide +kernel) ?_
      refine EW.icmp_eq 40 dX3_goRow_14 (by decide) (fun c14 => ?_) (fun c14 => ?_)
      · refine EW.iload dX3_goRow_40 rfl ?_
        refine EW.iret rfl dX3_goRow_42 ?_
        exact pst_ret (v := none) (by rw [← hO, bnd_fail h25])
      · exact absurd rfl c14
    | some x25 =>
      refine EW.top (y := nI x25) rfl ?_
      have hx25 := K.2.2 x25 h25
      obtain ⟨R2, hR2⟩ : ∃ R, evA n w (evR n w rl f) b x25 (d + 1) c R1.2 = R := ⟨_, rfl⟩
      have hO2 : R2 = O := by rw [← hR2, ← hO, bnd_some h25]
      have K2 := okE hMG1 wb hx25 hR2
      refine EW.istore dX3_goRow_28 (by decide) ?_
      refine EW.aload dX3_goRow_30 rfl ?_
      refine EC.ndget f_X3_117 dX3_goRow_32 hnf rfl ?_
      refine EW.rf hnx ?_
      refine EW.astore dX3_goRow_35 (by decide) ?_
      refine EW.goto 6 dX3_goRow_37 (by decide) ?_
      refine EW.aload dX3_goRow_6 rfl ?_
      refine EW.ifnull (r := some g2) 40 dX3_goRow_8 (by decide) (fun h => nomatch h) (fun _ _ => ?_)
      refine EW.iload dX3_goRow_11 rfl ?_
      refine EW.iconst (v := -1) dX3_goRow_13 (by decide +kernel) ?_
      refine EW.icmp_eq 40 dX3_goRow_14 (by decide) (fun c14 => ?_) (fun c14 => ?_)
      · exact absurd c14 (nI_m1 (by omega))
      · refine EW.aload_n dX3_goRow_17 rfl rfl ?_
        refine EW.aload dX3_goRow_18 rfl ?_
        refine EW.iload dX3_goRow_20 rfl ?_
        refine EW.iload_n dX3_goRow_22 rfl rfl ?_
        refine EW.iload dX3_goRow_23 rfl ?_
        refine EC.callR (O := O) (k := 12) (hB g2 x25 (d + 1) (dd - 1) c R1.2 R2 hMG1 (by rw [K.1.1]; exact rb) hx25 (by omega) (by omega) hc (by omega) hR2) mfX3_go l_X3_67 mvX3_go (by omega) dX3_goRow_25 rfl rfl (by decide) rfl rfl rfl (Nat.le_of_ble_eq_true rfl) rfl (fun h => by rw [← hO2]; exact Prod.ext h rfl) (fun v25 h25 => ?_)
        replace hng : R2.2.2.2.2.2.1 g2 = some ng := by rw [K2.1.1]; exact hng
        refine EW.istore dX3_goRow_28 (by decide) ?_
        refine EW.aload dX3_goRow_30 rfl ?_
        refine EC.ndget f_X3_117 dX3_goRow_32 hng rfl ?_
        refine EW.rn hnn ?_
        refine EW.astoreq dX3_goRow_35 (by decide) ?_
        refine EW.goto 6 dX3_goRow_37 (by decide) ?_
        refine EW.aloadq dX3_goRow_6 rfl ?_
        refine EW.ifnull (r := none) 40 dX3_goRow_8 (by decide) (fun _ => ?_) (fun _ h => nomatch h)
        refine EW.iload dX3_goRow_40 rfl ?_
        refine EW.iret rfl dX3_goRow_42 ?_
        exact pst_ret (v := v25) (by rw [← hO2]; exact Prod.ext h25 rfl)
set_option maxHeartbeats 4000000 in
theorem CHP_odd (hl : l.stackTraces = false) {f : Nat} {a b : Ex} (wa : wf a) (wb : wf b) (hA : GOP cy ax hp0 l D base n w rl f a) (hB : CHP cy ax hp0 l D base n w rl f b) : CHP cy ax hp0 l D base n w rl f (xB 3 a b) := by
  intro g q d dd c s O hMG hrep hq hd hf hc hdd hev
  have hn20 := hMG.2.1
  have hk20 := KR_20 (d + 2)
  have hht := ht_B 3 a b
  have hh1 := hht.1
  have hh2 := hht.2.1 (by decide)
  have hk1 : KR (d + 1 + 2) ≤ KR (d + 2) := KR_le (by omega)
  obtain ⟨R1, hR1⟩ : ∃ R, evA n w (evR n w rl f) a q (d + 1) c s = R := ⟨_, rfl⟩
  have hO : bnd R1 (fun q1 s1 => (some (some q1), s1)) (fun s1 => bnd (evA n w (evR n w rl f) b q d c (cut c (bsz c s) s1)) (fun q1 s2 => (some (some q1), s2)) (fun s2 => (some none, s2))) = O := by rw [← hR1, ← hev]; rfl
  have K := okE hMG wa hq hR1
  have F1 : frM s (cut c (bsz c s) R1.2) := K.1.tr frM.cut
  have hMG1 : MG n w rl (cut c (bsz c s) R1.2) := hMG.fr F1 K.2.1.cut
  obtain ⟨ra, nf, g2, hnf, hnx, rb⟩ : rep s.2.2.2.2.1 a g ∧ ∃ nf g2, s.2.2.2.2.1 g = some nf ∧ nNext nf = some g2 ∧ repL s.2.2.2.2.1 b g2 := hrep
  refine EW.aload dX3_goChoice_14 rfl ?_
  refine EW.ifnull (r := some g) 61 dX3_goChoice_16 (by decide) (fun h => nomatch h) (fun _ _ => ?_)
  refine EW.aload_n dX3_goChoice_19 rfl rfl ?_
  refine EW.aload dX3_goChoice_20 rfl ?_
  refine EW.iload_n dX3_goChoice_22 rfl rfl ?_
  refine EW.iload_n dX3_goChoice_23 rfl rfl ?_
  refine EW.iload dX3_goChoice_24 rfl ?_
  refine EC.callR (O := O) (k := 12) (hA g q (d + 1) (dd - 1) c s R1 hMG ra hq (by omega) (by omega) hc (by omega) hR1) mfX3_go l_X3_67 mvX3_go (by omega) dX3_goChoice_26 rfl rfl (by decide) rfl rfl rfl (Nat.le_of_ble_eq_true rfl) rfl (fun h => by rw [← hO, bnd_none h]) (fun v26 h26 => ?_)
  cases v26 with
  | none =>
    refine EW.top (y := -1) rfl ?_
    refine EW.istore dX3_goChoice_29 (by decide) ?_
    refine EW.iload dX3_goChoice_31 rfl ?_
    refine EW.iconst (v := -1) dX3_goChoice_33 (by decide +kernel) ?_
    refine EW.icmp_eq 40 dX3_goChoice_34 (by decide) (fun c34 => ?_) (fun c34 => ?_)
    · refine EW.aload_n dX3_goChoice_40 rfl rfl ?_
      refine EC.get (k := 12) f_X3_19 dX3_goChoice_41 (by decide) rfl rfl ?_
      refine EW.iload dX3_goChoice_44 rfl ?_
      refine EW.iload dX3_goChoice_46 rfl ?_
      refine EC.callV (bc := (b1 O)) (bs := (b6 O)) (mc' := 0) (ms' := 0) (k := 8) (C_cut hl R1.2 c hc (bsz c s)) mfX4_cutBelow l_X3_51 mvX4_cutBelow (by omega) dX3_goChoice_48 rfl rfl (by decide) rfl rfl rfl (Nat.le_of_ble_eq_true rfl) (fun v48 s48 q48 => ?_) (fun _ _ q => nomatch q.1)
      obtain ⟨e48, h48⟩ := q48; cases e48; replace h48 := h48.symm; subst h48
      replace hnf : (cut c (bsz c s) R1.2).2.2.2.2.1 g = some nf := by rw [F1.1]; exact hnf
      refine EW.aload dX3_goChoice_51 rfl ?_
      refine EC.ndget f_X3_117 dX3_goChoice_53 hnf rfl ?_
      refine EW.rf hnx ?_
      refine EW.astore dX3_goChoice_56 (by decide) ?_
      refine EW.goto 14 dX3_goChoice_58 (by decide) ?_
      exact EW.loc (lv' := [(0, .ref (ax 12)), (2, .int (nI q)), (3, .int (nI (d + 1))), (4, .int (cN c)), (5, .int (bsz c (cut c (bsz c s) R1.2))), (6, .ref g2)]) ⟨rfl, rfl, rfl, rfl, by rw [bsz_cut]; rfl, rfl, trivial⟩ (hB g2 q d dd c (cut c (bsz c s) R1.2) O hMG1 (by rw [F1.1]; exact rb) hq (by omega) (by omega) hc (by omega) (by rw [← hO, bnd_fail h26, bnd_id]))
    · exact absurd rfl c34
  | some x26 =>
    refine EW.top (y := nI x26) rfl ?_
    have hx26 := K.2.2 x26 h26
    refine EW.istore dX3_goChoice_29 (by decide) ?_
    refine EW.iload dX3_goChoice_31 rfl ?_
    refine EW.iconst (v := -1) dX3_goChoice_33 (by decide +kernel) ?_
    refine EW.icmp_eq 40 dX3_goChoice_34 (by decide) (fun c34 => ?_) (fun c34 => ?_)
    · exact absurd c34 (nI_m1 (by omega))
    · refine EW.iload dX3_goChoice_37 rfl ?_
      refine EW.iret rfl dX3_goChoice_39 ?_
      exact pst_ret (v := some x26) (by rw [← hO, bnd_some h26])
set_option maxHeartbeats 4000000 in
theorem CHP_even (hl : l.stackTraces = false) {f : Nat} {a b : Ex} (wa : wf a) (wb : wf b) (hA : GOP cy ax hp0 l D base n w rl f a) (hB : GOP cy ax hp0 l D base n w rl f b) : CHP cy ax hp0 l D base n w rl f (xB 2 a b) := by
  intro g q d dd c s O hMG hrep hq hd hf hc hdd hev
  have hn20 := hMG.2.1
  have hk20 := KR_20 (d + 2)
  have hht := ht_B 2 a b
  have hh1 := hht.1
  have hh2 := hht.2.2 (by decide)
  have hk1 : KR (d + 1 + 2) ≤ KR (d + 2) := KR_le (by omega)
  obtain ⟨R1, hR1⟩ : ∃ R, evA n w (evR n w rl f) a q (d + 1) c s = R := ⟨_, rfl⟩
  have hO : bnd R1 (fun q1 s1 => (some (some q1), s1)) (fun s1 => bnd (evA n w (evR n w rl f) b q (d + 1) c (cut c (bsz c s) s1)) (fun q1 s2 => (some (some q1), s2)) (fun s2 => (some none, cut c (bsz c s) s2))) = O := by rw [← hR1, ← hev]; rfl
  have K := okE hMG wa hq hR1
  have F1 : frM s (cut c (bsz c s) R1.2) := K.1.tr frM.cut
  have hMG1 : MG n w rl (cut c (bsz c s) R1.2) := hMG.fr F1 K.2.1.cut
  obtain ⟨ra, nf, g2, hnf, hnx, rb, ng, hng, hnn⟩ : rep s.2.2.2.2.1 a g ∧ ∃ nf g2, s.2.2.2.2.1 g = some nf ∧ nNext nf = some g2 ∧ rep s.2.2.2.2.1 b g2 ∧ ∃ ng, s.2.2.2.2.1 g2 = some ng ∧ nNext ng = none := hrep
  refine EW.aload dX3_goChoice_14 rfl ?_
  refine EW.ifnull (r := some g) 61 dX3_goChoice_16 (by decide) (fun h => nomatch h) (fun _ _ => ?_)
  refine EW.aload_n dX3_goChoice_19 rfl rfl ?_
  refine EW.aload dX3_goChoice_20 rfl ?_
  refine EW.iload_n dX3_goChoice_22 rfl rfl ?_
  refine EW.iload_n dX3_goChoice_23 rfl rfl ?_
  refine EW.iload dX3_goChoice_24 rfl ?_
  refine EC.callR (O := O) (k := 12) (hA g q (d + 1) (dd - 1) c s R1 hMG ra hq (by omega) (by omega) hc (by omega) hR1) mfX3_go l_X3_67 mvX3_go (by omega) dX3_goChoice_26 rfl rfl (by decide) rfl rfl rfl (Nat.le_of_ble_eq_true rfl) rfl (fun h => by rw [← hO, bnd_none h]) (fun v26 h26 => ?_)
  cases v26 with
  | none =>
    refine EW.top (y := -1) rfl ?_
    obtain ⟨R2, hR2⟩ : ∃ R, evA n w (evR n w rl f) b q (d + 1) c (cut c (bsz c s) R1.2) = R := ⟨_, rfl⟩
    have hO2 : bnd R2 (fun q1 s2 => (some (some q1), s2)) (fun s2 => (some none, cut c (bsz c s) s2)) = O := by rw [← hR2, ← hO, bnd_fail h26]
    have K2 := okE hMG1 wb hq hR2
    have F2 : frM s (cut c (bsz c s) R2.2) := (F1.tr K2.1).tr frM.cut
    refine EW.istore dX3_goChoice_29 (by decide) ?_
    refine EW.iload dX3_goChoice_31 rfl ?_
    refine EW.iconst (v := -1) dX3_goChoice_33 (by decide +kernel) ?_
    refine EW.icmp_eq 40 dX3_goChoice_34 (by decide) (fun c34 => ?_) (fun c34 => ?_)
    · refine EW.aload_n dX3_goChoice_40 rfl rfl ?_
      refine EC.get (k := 12) f_X3_19 dX3_goChoice_41 (by decide) rfl rfl ?_
      refine EW.iload dX3_goChoice_44 rfl ?_
      refine EW.iload dX3_goChoice_46 rfl ?_
      refine EC.callV (bc := (b1 O)) (bs := (b6 O)) (mc' := 0) (ms' := 0) (k := 8) (C_cut hl R1.2 c hc (bsz c s)) mfX4_cutBelow l_X3_51 mvX4_cutBelow (by omega) dX3_goChoice_48 rfl rfl (by decide) rfl rfl rfl (Nat.le_of_ble_eq_true rfl) (fun v48 s48 q48 => ?_) (fun _ _ q => nomatch q.1)
      obtain ⟨e48, h48⟩ := q48; cases e48; replace h48 := h48.symm; subst h48
      replace hnf : (cut c (bsz c s) R1.2).2.2.2.2.1 g = some nf := by rw [F1.1]; exact hnf
      refine EW.aload dX3_goChoice_51 rfl ?_
      refine EC.ndget f_X3_117 dX3_goChoice_53 hnf rfl ?_
      refine EW.rf hnx ?_
      refine EW.astore dX3_goChoice_56 (by decide) ?_
      refine EW.goto 14 dX3_goChoice_58 (by decide) ?_
      refine EW.aload dX3_goChoice_14 rfl ?_
      refine EW.ifnull (r := some g2) 61 dX3_goChoice_16 (by decide) (fun h => nomatch h) (fun _ _ => ?_)
      refine EW.aload_n dX3_goChoice_19 rfl rfl ?_
      refine EW.aload dX3_goChoice_20 rfl ?_
      refine EW.iload_n dX3_goChoice_22 rfl rfl ?_
      refine EW.iload_n dX3_goChoice_23 rfl rfl ?_
      refine EW.iload dX3_goChoice_24 rfl ?_
      refine EC.callR (O := O) (k := 12) (hB g2 q (d + 1) (dd - 1) c (cut c (bsz c s) R1.2) R2 hMG1 (by rw [F1.1]; exact rb) hq (by omega) (by omega) hc (by omega) hR2) mfX3_go l_X3_67 mvX3_go (by omega) dX3_goChoice_26 rfl rfl (by decide) rfl rfl rfl (Nat.le_of_ble_eq_true rfl) rfl (fun h => by rw [← hO2, bnd_none h]) (fun v26 h26 => ?_)
      cases v26 with
      | none =>
        refine EW.top (y := -1) rfl ?_
        refine EW.istore dX3_goChoice_29 (by decide) ?_
        refine EW.iload dX3_goChoice_31 rfl ?_
        refine EW.iconst (v := -1) dX3_goChoice_33 (by decide +kernel) ?_
        refine EW.icmp_eq 40 dX3_goChoice_34 (by decide) (fun c34 => ?_) (fun c34 => ?_)
        · refine EW.aload_n dX3_goChoice_40 rfl rfl ?_
          refine EC.get (k := 12) f_X3_19 dX3_goChoice_41 (by decide) rfl rfl ?_
          refine EW.iload dX3_goChoice_44 rfl ?_
          refine EW.iload dX3_goChoice_46 rfl ?_
          refine EC.callV (bc := (b1 O)) (bs := (b6 O)) (mc' := 0) (ms' := 0) (k := 8) (C_cut hl R2.2 c hc (bsz c s)) mfX4_cutBelow l_X3_51 mvX4_cutBelow (by omega) dX3_goChoice_48 rfl rfl (by decide) rfl rfl rfl (Nat.le_of_ble_eq_true rfl) (fun v48 s48 q48 => ?_) (fun _ _ q => nomatch q.1)
          obtain ⟨e48, h48⟩ := q48; cases e48; replace h48 := h48.symm; subst h48
          replace hng : (cut c (bsz c s) R2.2).2.2.2.2.1 g2 = some ng := by rw [F2.1]; exact hng
          refine EW.aload dX3_goChoice_51 rfl ?_
          refine EC.ndget f_X3_117 dX3_goChoice_53 hng rfl ?_
          refine EW.rn hnn ?_
          refine EW.astoreq dX3_goChoice_56 (by decide) ?_
          refine EW.goto 14 dX3_goChoice_58 (by decide) ?_
          refine EW.aloadq dX3_goChoice_14 rfl ?_
          refine EW.ifnull (r := none) 61 dX3_goChoice_16 (by decide) (fun _ => ?_) (fun _ h => nomatch h)
          refine EW.iconst (v := -1) dX3_goChoice_61 (by decide +kernel) ?_
          refine EW.iret rfl dX3_goChoice_62 ?_
          exact pst_ret (v := none) (by rw [← hO2, bnd_fail h26])
        · exact absurd rfl c34
      | some x26 =>
        refine EW.top (y := nI x26) rfl ?_
        have hx26 := K2.2.2 x26 h26
        refine EW.istore dX3_goChoice_29 (by decide) ?_
        refine EW.iload dX3_goChoice_31 rfl ?_
        refine EW.iconst (v := -1) dX3_goChoice_33 (by decide +kernel) ?_
        refine EW.icmp_eq 40 dX3_goChoice_34 (by decide) (fun c34 => ?_) (fun c34 => ?_)
        · exact absurd c34 (nI_m1 (by omega))
        · refine EW.iload dX3_goChoice_37 rfl ?_
          refine EW.iret rfl dX3_goChoice_39 ?_
          exact pst_ret (v := some x26) (by rw [← hO2, bnd_some h26])
    · exact absurd rfl c34
  | some x26 =>
    refine EW.top (y := nI x26) rfl ?_
    have hx26 := K.2.2 x26 h26
    refine EW.istore dX3_goChoice_29 (by decide) ?_
    refine EW.iload dX3_goChoice_31 rfl ?_
    refine EW.iconst (v := -1) dX3_goChoice_33 (by decide +kernel) ?_
    refine EW.icmp_eq 40 dX3_goChoice_34 (by decide) (fun c34 => ?_) (fun c34 => ?_)
    · exact absurd c34 (nI_m1 (by omega))
    · refine EW.iload dX3_goChoice_37 rfl ?_
      refine EW.iret rfl dX3_goChoice_39 ?_
      exact pst_ret (v := some x26) (by rw [← hO, bnd_some h26])
set_option maxHeartbeats 4000000 in
theorem C_goRep_loop (hl : l.stackTraces = false) {f : Nat} {e : Ex} (we : wf e) (hE : GOP cy ax hp0 l D base n w rl f e) (p d dd most : Nat) (c : Option Nat) (np : ND) (fe : Nat) (hfi : np.2.2.2.1 = some fe) (hd : d + 1 + ht e ≤ 90) (hf : 39 ≤ f + d) (hc : ∀ j, c = some j → j < 126) (hdd : 2 * ht e + KR (d + 2) + 6 ≤ dd) (hmost : most ≤ 21) : ∀ (j i : Nat) (a9 : Option Nat) (q : Nat) (s : CSt) (O : Rs), i + j = most → MG n w rl s → s.2.2.2.2.1 p = some np → rep s.2.2.2.2.1 e fe → q ≤ n → evRep (fun q s => evA n w (evR n w rl f) e q (d + 1) c s) c j a9 q s = O → EW (IC cy ax hp0) l D cy base mX3_goRepeated dd (b1 O) (b6 O) 39 [(0, .ref (ax 12)), (1, .ref p), (3, .int (nI (d + 1))), (4, .int (cN c)), (5, .int (nI most)), (6, .int (onI a9)), (7, .int (nI q)), (8, .int (nI i))] [] s (pst O) := by
  intro j
  induction j with
  | zero =>
    intro i a9 q s O hi hMG hnp hre hq hev
    refine EW.iload dX3_goRepeated_39 rfl ?_
    refine EW.iload dX3_goRepeated_41 rfl ?_
    refine EW.icmp_ge 106 dX3_goRepeated_43 (by decide) (fun c43 => ?_) (fun c43 => ?_)
    · have c43 : most ≤ i := (nI_leI (by omega) (by omega)).mp c43
      refine EW.iload dX3_goRepeated_106 rfl ?_
      refine EW.iret rfl dX3_goRepeated_108 ?_
      exact pst_ret (v := a9) hev.symm
    · have c43 : ¬ (most ≤ i) := fun h => c43 ((nI_leI (by omega) (by omega)).mpr h); omega
  | succ j ih =>
    intro i a9 q s O hi hMG hnp hre hq hev
    have hn20 := hMG.2.1
    have hk20 := KR_20 (d + 2)
    have hk1 : KR (d + 1 + 2) ≤ KR (d + 2) := KR_le (by omega)
    obtain ⟨R1, hR1⟩ : ∃ R, evA n w (evR n w rl f) e q (d + 1) c s = R := ⟨_, rfl⟩
    have hO : bnd R1 (fun q1 s1 => evRep (fun q s => evA n w (evR n w rl f) e q (d + 1) c s) c j (some q1) q1 s1) (fun s1 => (some a9, cut c (bsz c s) s1)) = O := by rw [← hR1, ← hev]; rfl
    have K := okE hMG we hq hR1
    have hMG1 := hMG.ok K
    refine EW.iload dX3_goRepeated_39 rfl ?_
    refine EW.iload dX3_goRepeated_41 rfl ?_
    refine EW.icmp_ge 106 dX3_goRepeated_43 (by decide) (fun c43 => ?_) (fun c43 => ?_)
    · have c43 : most ≤ i := (nI_leI (by omega) (by omega)).mp c43; omega
    · have c43 : ¬ (most ≤ i) := fun h => c43 ((nI_leI (by omega) (by omega)).mpr h)
      refine EW.aload_n dX3_goRepeated_46 rfl rfl ?_
      refine EC.get (k := 12) f_X3_19 dX3_goRepeated_47 (by decide) rfl rfl ?_
      refine EW.iload dX3_goRepeated_50 rfl ?_
      refine EC.callV (bc := (b1 O)) (bs := (b6 O)) (mc' := 0) (ms' := 0) (k := 8) (C_bsz hl s c hc) mfX4_belowSize l_X3_120 mvX4_belowSize (by omega) dX3_goRepeated_52 rfl rfl (by decide) rfl rfl rfl (Nat.le_of_ble_eq_true rfl) (fun v52 s52 q52 => ?_) (fun _ _ q => nomatch q.1)
      obtain ⟨e52, h52⟩ := q52; cases e52; replace h52 := h52.symm; subst h52
      refine EW.istore dX3_goRepeated_55 (by decide) ?_
      refine EW.aload_n dX3_goRepeated_57 rfl rfl ?_
      refine EW.aload_n dX3_goRepeated_58 rfl rfl ?_
      refine EC.ndget f_X3_89 dX3_goRepeated_59 hnp rfl ?_
      refine EW.rf hfi ?_
      refine EW.iload dX3_goRepeated_62 rfl ?_
      refine EW.iload_n dX3_goRepeated_64 rfl rfl ?_
      refine EW.iload dX3_goRepeated_65 rfl ?_
      refine EC.callR (O := O) (k := 12) (hE fe q (d + 1) (dd - 1) c s R1 hMG hre hq (by omega) (by omega) hc (by omega) hR1) mfX3_go l_X3_67 mvX3_go (by omega) dX3_goRepeated_67 rfl rfl (by decide) rfl rfl rfl (Nat.le_of_ble_eq_true rfl) rfl (fun h => by rw [← hO, bnd_none h]) (fun v67 h67 => ?_)
      cases v67 with
      | none =>
        refine EW.top (y := -1) rfl ?_
        refine EW.istore dX3_goRepeated_70 (by decide) ?_
        refine EW.iload dX3_goRepeated_72 rfl ?_
        refine EW.iconst (v := -1) dX3_goRepeated_74 (by decide +kernel) ?_
        refine EW.icmp_ne 92 dX3_goRepeated_75 (by decide) (fun c75 => ?_) (fun c75 => ?_)
        · exact absurd rfl c75
        · refine EW.aload_n dX3_goRepeated_78 rfl rfl ?_
          refine EC.get (k := 12) f_X3_19 dX3_goRepeated_79 (by decide) rfl rfl ?_
          refine EW.iload dX3_goRepeated_82 rfl ?_
          refine EW.iload dX3_goRepeated_84 rfl ?_
          refine EC.callV (bc := (b1 O)) (bs := (b6 O)) (mc' := 0) (ms' := 0) (k := 8) (C_cut hl R1.2 c hc (bsz c s)) mfX4_cutBelow l_X3_51 mvX4_cutBelow (by omega) dX3_goRepeated_86 rfl rfl (by decide) rfl rfl rfl (Nat.le_of_ble_eq_true rfl) (fun v86 s86 q86 => ?_) (fun _ _ q => nomatch q.1)
          obtain ⟨e86, h86⟩ := q86; cases e86; replace h86 := h86.symm; subst h86
          refine EW.goto 106 dX3_goRepeated_89 (by decide) ?_
          refine EW.iload dX3_goRepeated_106 rfl ?_
          refine EW.iret rfl dX3_goRepeated_108 ?_
          exact pst_ret (v := a9) (by rw [← hO, bnd_fail h67])
      | some x67 =>
        refine EW.top (y := nI x67) rfl ?_
        have hx67 := K.2.2 x67 h67
        refine EW.istore dX3_goRepeated_70 (by decide) ?_
        refine EW.iload dX3_goRepeated_72 rfl ?_
        refine EW.iconst (v := -1) dX3_goRepeated_74 (by decide +kernel) ?_
        refine EW.icmp_ne 92 dX3_goRepeated_75 (by decide) (fun c75 => ?_) (fun c75 => ?_)
        · refine EW.iload dX3_goRepeated_92 rfl ?_
          refine EW.istore dX3_goRepeated_94 (by decide) ?_
          refine EW.iload dX3_goRepeated_96 rfl ?_
          refine EW.istore dX3_goRepeated_98 (by decide) ?_
          refine EW.iinc dX3_goRepeated_100 rfl (nI_inc _) (by decide) ?_
          refine EW.goto 39 dX3_goRepeated_103 (by decide) ?_
          exact EW.loc (lv' := [(0, .ref (ax 12)), (1, .ref p), (3, .int (nI (d + 1))), (4, .int (cN c)), (5, .int (nI most)), (6, .int (onI (some x67))), (7, .int (nI x67)), (8, .int (nI (i + 1)))]) ⟨rfl, rfl, rfl, rfl, rfl, rfl, rfl, rfl, trivial⟩ (ih (i + 1) (some x67) x67 R1.2 O (by omega) hMG1 (by rw [K.1.1]; exact hnp) (by rw [K.1.1]; exact hre) hx67 (by rw [← hO, bnd_some h67]))
        · exact absurd c75 (nI_m1 (by omega))
set_option maxHeartbeats 4000000 in
theorem C_goRep4 (hl : l.stackTraces = false) {f : Nat} {e : Ex} (we : wf e) (hE : GOP cy ax hp0 l D base n w rl f e) (p q d dd : Nat) (c : Option Nat) (np : ND) (fe : Nat) (hkd : np.1 = nI 5) (hfi : np.2.2.2.1 = some fe) (hd : d + 1 + ht e ≤ 90) (hf : 39 ≤ f + d) (hc : ∀ j, c = some j → j < 126) (hdd : 2 * ht e + KR (d + 2) + 6 ≤ dd) (s : CSt) (O : Rs) (hMG : MG n w rl s) (hnp : s.2.2.2.2.1 p = some np) (hre : rep s.2.2.2.2.1 e fe) (hq : q ≤ n) (hev : evA n w (evR n w rl f) (xS 4 e) q d c s = O) : MtW (IC cy ax hp0) l D cy base mX3_goRepeated dd (b1 O) (b6 O) [.ref (ax 12), .ref p, .int (nI q), .int (nI (d + 1)), .int (cN c)] s (pst O) := by
  refine MtW.of hl mfX3_goRepeated rfl (Nat.le_of_ble_eq_true rfl) ?_
  have hn20 := hMG.2.1
  have hk20 := KR_20 (d + 2)
  refine EW.aload_n dX3_goRepeated_0 rfl rfl ?_
  refine EC.ndget f_X3_74 dX3_goRepeated_1 hnp rfl ?_
  refine EW.top hkd ?_
  refine EW.bp 7 dX3_goRepeated_4 ?_
  refine EW.icmp_ne 13 dX3_goRepeated_6 (by decide) (fun c6 => ?_) (fun c6 => ?_)
  · refine EW.bp 21 dX3_goRepeated_13 ?_
    refine EW.istore dX3_goRepeated_15 (by decide) ?_
    refine EW.aload_n dX3_goRepeated_17 rfl rfl ?_
    refine EC.ndget f_X3_74 dX3_goRepeated_18 hnp rfl ?_
    refine EW.top hkd ?_
    refine EW.bp 6 dX3_goRepeated_21 ?_
    refine EW.icmp_ne 30 dX3_goRepeated_23 (by decide) (fun c23 => ?_) (fun c23 => ?_)
    · refine EW.iload_n dX3_goRepeated_30 rfl rfl ?_
      refine EW.istore dX3_goRepeated_31 (by decide) ?_
      refine EW.iload_n dX3_goRepeated_33 rfl rfl ?_
      refine EW.istore dX3_goRepeated_34 (by decide) ?_
      refine EW.ic 0 dX3_goRepeated_36 ?_
      refine EW.istore dX3_goRepeated_37 (by decide) ?_
      exact EW.loc (lv' := [(0, .ref (ax 12)), (1, .ref p), (3, .int (nI (d + 1))), (4, .int (cN c)), (5, .int (nI 21)), (6, .int (onI (some q))), (7, .int (nI q)), (8, .int (nI 0))]) ⟨rfl, rfl, rfl, rfl, rfl, rfl, rfl, rfl, trivial⟩ (C_goRep_loop hl we hE p d dd 21 c np fe hfi hd hf hc hdd (by decide) 21 0 (some q) q s O rfl hMG hnp hre hq hev)
    · exact absurd c23 (by decide +kernel)
  · exact absurd c6 (by decide +kernel)
set_option maxHeartbeats 4000000 in
theorem C_goRep5 (hl : l.stackTraces = false) {f : Nat} {e : Ex} (we : wf e) (hE : GOP cy ax hp0 l D base n w rl f e) (p q d dd : Nat) (c : Option Nat) (np : ND) (fe : Nat) (hkd : np.1 = nI 6) (hfi : np.2.2.2.1 = some fe) (hd : d + 1 + ht e ≤ 90) (hf : 39 ≤ f + d) (hc : ∀ j, c = some j → j < 126) (hdd : 2 * ht e + KR (d + 2) + 6 ≤ dd) (s : CSt) (O : Rs) (hMG : MG n w rl s) (hnp : s.2.2.2.2.1 p = some np) (hre : rep s.2.2.2.2.1 e fe) (hq : q ≤ n) (hev : evA n w (evR n w rl f) (xS 5 e) q d c s = O) : MtW (IC cy ax hp0) l D cy base mX3_goRepeated dd (b1 O) (b6 O) [.ref (ax 12), .ref p, .int (nI q), .int (nI (d + 1)), .int (cN c)] s (pst O) := by
  refine MtW.of hl mfX3_goRepeated rfl (Nat.le_of_ble_eq_true rfl) ?_
  have hn20 := hMG.2.1
  have hk20 := KR_20 (d + 2)
  refine EW.aload_n dX3_goRepeated_0 rfl rfl ?_
  refine EC.ndget f_X3_74 dX3_goRepeated_1 hnp rfl ?_
  refine EW.top hkd ?_
  refine EW.bp 7 dX3_goRepeated_4 ?_
  refine EW.icmp_ne 13 dX3_goRepeated_6 (by decide) (fun c6 => ?_) (fun c6 => ?_)
  · refine EW.bp 21 dX3_goRepeated_13 ?_
    refine EW.istore dX3_goRepeated_15 (by decide) ?_
    refine EW.aload_n dX3_goRepeated_17 rfl rfl ?_
    refine EC.ndget f_X3_74 dX3_goRepeated_18 hnp rfl ?_
    refine EW.top hkd ?_
    refine EW.bp 6 dX3_goRepeated_21 ?_
    refine EW.icmp_ne 30 dX3_goRepeated_23 (by decide) (fun c23 => ?_) (fun c23 => ?_)
    · exact absurd c23 (by decide +kernel)
    · refine EW.iconst (v := -1) dX3_goRepeated_26 (by decide +kernel) ?_
      refine EW.goto 31 dX3_goRepeated_27 (by decide) ?_
      refine EW.istore dX3_goRepeated_31 (by decide) ?_
      refine EW.iload_n dX3_goRepeated_33 rfl rfl ?_
      refine EW.istore dX3_goRepeated_34 (by decide) ?_
      refine EW.ic 0 dX3_goRepeated_36 ?_
      refine EW.istore dX3_goRepeated_37 (by decide) ?_
      exact EW.loc (lv' := [(0, .ref (ax 12)), (1, .ref p), (3, .int (nI (d + 1))), (4, .int (cN c)), (5, .int (nI 21)), (6, .int (onI none)), (7, .int (nI q)), (8, .int (nI 0))]) ⟨rfl, rfl, rfl, rfl, rfl, rfl, rfl, rfl, trivial⟩ (C_goRep_loop hl we hE p d dd 21 c np fe hfi hd hf hc hdd (by decide) 21 0 none q s O rfl hMG hnp hre hq hev)
  · exact absurd c6 (by decide +kernel)
set_option maxHeartbeats 4000000 in
theorem C_goRep6 (hl : l.stackTraces = false) {f : Nat} {e : Ex} (we : wf e) (hE : GOP cy ax hp0 l D base n w rl f e) (p q d dd : Nat) (c : Option Nat) (np : ND) (fe : Nat) (hkd : np.1 = nI 7) (hfi : np.2.2.2.1 = some fe) (hd : d + 1 + ht e ≤ 90) (hf : 39 ≤ f + d) (hc : ∀ j, c = some j → j < 126) (hdd : 2 * ht e + KR (d + 2) + 6 ≤ dd) (s : CSt) (O : Rs) (hMG : MG n w rl s) (hnp : s.2.2.2.2.1 p = some np) (hre : rep s.2.2.2.2.1 e fe) (hq : q ≤ n) (hev : evA n w (evR n w rl f) (xS 6 e) q d c s = O) : MtW (IC cy ax hp0) l D cy base mX3_goRepeated dd (b1 O) (b6 O) [.ref (ax 12), .ref p, .int (nI q), .int (nI (d + 1)), .int (cN c)] s (pst O) := by
  refine MtW.of hl mfX3_goRepeated rfl (Nat.le_of_ble_eq_true rfl) ?_
  have hn20 := hMG.2.1
  have hk20 := KR_20 (d + 2)
  refine EW.aload_n dX3_goRepeated_0 rfl rfl ?_
  refine EC.ndget f_X3_74 dX3_goRepeated_1 hnp rfl ?_
  refine EW.top hkd ?_
  refine EW.bp 7 dX3_goRepeated_4 ?_
  refine EW.icmp_ne 13 dX3_goRepeated_6 (by decide) (fun c6 => ?_) (fun c6 => ?_)
  · exact absurd c6 (by decide +kernel)
  · refine EW.ic 1 dX3_goRepeated_9 ?_
    refine EW.goto 15 dX3_goRepeated_10 (by decide) ?_
    refine EW.istore dX3_goRepeated_15 (by decide) ?_
    refine EW.aload_n dX3_goRepeated_17 rfl rfl ?_
    refine EC.ndget f_X3_74 dX3_goRepeated_18 hnp rfl ?_
    refine EW.top hkd ?_
    refine EW.bp 6 dX3_goRepeated_21 ?_
    refine EW.icmp_ne 30 dX3_goRepeated_23 (by decide) (fun c23 => ?_) (fun c23 => ?_)
    · refine EW.iload_n dX3_goRepeated_30 rfl rfl ?_
      refine EW.istore dX3_goRepeated_31 (by decide) ?_
      refine EW.iload_n dX3_goRepeated_33 rfl rfl ?_
      refine EW.istore dX3_goRepeated_34 (by decide) ?_
      refine EW.ic 0 dX3_goRepeated_36 ?_
      refine EW.istore dX3_goRepeated_37 (by decide) ?_
      exact EW.loc (lv' := [(0, .ref (ax 12)), (1, .ref p), (3, .int (nI (d + 1))), (4, .int (cN c)), (5, .int (nI 1)), (6, .int (onI (some q))), (7, .int (nI q)), (8, .int (nI 0))]) ⟨rfl, rfl, rfl, rfl, rfl, rfl, rfl, rfl, trivial⟩ (C_goRep_loop hl we hE p d dd 1 c np fe hfi hd hf hc hdd (by decide) 1 0 (some q) q s O rfl hMG hnp hre hq hev)
    · exact absurd c23 (by decide +kernel)
set_option maxHeartbeats 4000000 in
theorem GOP_range (hl : l.stackTraces = false) {f : Nat} (lo hi : Nat) (h8 : lo ≤ 8 ∧ hi ≤ 8) : GOP cy ax hp0 l D base n w rl f (xR lo hi) := by
  intro p q d dd c s O hMG hrep hq hd hf hc hdd hev
  have hn20 := hMG.2.1
  have hk20 := KR_20 (d + 2)
  obtain ⟨np, hnp, hkd, hlo, hhi⟩ : ∃ np, s.2.2.2.2.1 p = some np ∧ np.1 = nI 1 ∧ np.2.1 = nI (97 + lo) ∧ np.2.2.1 = nI (97 + hi) := hrep
  refine MtW.of hl mfX3_go rfl (Nat.le_of_ble_eq_true rfl) ?_
  refine EW.aload_n dX3_go_0 rfl rfl ?_
  refine EW.ifnonnull (r := some p) 6 dX3_go_1 (by decide) (fun _ _ => ?_) (fun h => nomatch h)
  refine EW.aload_n dX3_go_6 rfl rfl ?_
  refine EC.ndget f_X3_74 dX3_go_7 hnp rfl ?_
  refine EW.top hkd ?_
  refine EW.tableIn (off := 50) 60 dX3_go_10 (by decide +kernel) (by decide +kernel) (by decide +kernel) (by decide) ?_
  refine EW.aload_n dX3_go_60 rfl rfl ?_
  refine EW.aload_n dX3_go_61 rfl rfl ?_
  refine EW.iload_n dX3_go_62 rfl rfl ?_
  refine EC.callV (bc := (b1 O)) (bs := (b6 O)) (mc' := 0) (ms' := 0) (k := 12) (C_goLetter hl p lo hi q s hMG np hnp hlo hhi h8 hq) mfX3_goLetter l_X3_79 mvX3_goLetter (by omega) dX3_go_63 rfl rfl (by decide) rfl rfl rfl (Nat.le_of_ble_eq_true rfl) (fun v63 s63 q63 => ?_) (fun _ _ q => nomatch q.1)
  obtain ⟨e63, h63⟩ := q63; cases e63; replace h63 := h63.symm; subst h63
  refine EW.iret rfl dX3_go_66 ?_
  exact pst_ret (v := if q < n ∧ lo ≤ w q ∧ w q ≤ hi then some (q + 1) else none) hev.symm
set_option maxHeartbeats 4000000 in
theorem GOP_rule (hl : l.stackTraces = false) {f : Nat} (r : Nat) (hr : r < 6) (hR : HRP cy ax hp0 l D base n w rl f) : GOP cy ax hp0 l D base n w rl f (xC r) := by
  intro p q d dd c s O hMG hrep hq hd hf hc hdd hev
  have hn20 := hMG.2.1
  have hk20 := KR_20 (d + 2)
  obtain ⟨np, hnp, hkd, hlo⟩ : ∃ np, s.2.2.2.2.1 p = some np ∧ np.1 = nI 2 ∧ np.2.1 = nI r := hrep
  have h1 : ht (xC r) = 1 := rfl
  refine MtW.of hl mfX3_go rfl (Nat.le_of_ble_eq_true rfl) ?_
  refine EW.aload_n dX3_go_0 rfl rfl ?_
  refine EW.ifnonnull (r := some p) 6 dX3_go_1 (by decide) (fun _ _ => ?_) (fun h => nomatch h)
  refine EW.aload_n dX3_go_6 rfl rfl ?_
  refine EC.ndget f_X3_74 dX3_go_7 hnp rfl ?_
  refine EW.top hkd ?_
  refine EW.tableIn (off := 57) 67 dX3_go_10 (by decide +kernel) (by decide +kernel) (by decide +kernel) (by decide) ?_
  refine EW.aload_n dX3_go_67 rfl rfl ?_
  refine EW.aload_n dX3_go_68 rfl rfl ?_
  refine EC.ndget f_X3_83 dX3_go_69 hnp rfl ?_
  refine EW.top hlo ?_
  refine EW.iload_n dX3_go_72 rfl rfl ?_
  refine EW.iload_n dX3_go_73 rfl rfl ?_
  refine EW.iload dX3_go_74 rfl ?_
  refine EC.callR (O := O) (k := 12) (C_goRule hl hR r q d (dd - 1) c s O hr hq (by omega) hf hMG hc (by omega) hev) mfX3_goRule l_X3_86 mvX3_goRule (by omega) dX3_go_76 rfl rfl (by decide) rfl rfl rfl (Nat.le_of_ble_eq_true rfl) rfl (fun h => Prod.ext h rfl) (fun v76 h76 => ?_)
  refine EW.iret rfl dX3_go_79 ?_
  exact pst_ret (v := v76) (Prod.ext h76 rfl)
set_option maxHeartbeats 4000000 in
theorem C_go_row (hl : l.stackTraces = false) {f : Nat} {t : Ex} (hP : RWP cy ax hp0 l D base n w rl f t) (g q d dd : Nat) (c : Option Nat) (s : CSt) (O : Rs) (hMG : MG n w rl s) (hrl : repL s.2.2.2.2.1 t g) (hq : q ≤ n) (hd : d + ht t ≤ 90) (hf : 39 ≤ f + d) (hc : ∀ j, c = some j → j < 126) (hdd : 2 * ht t + KR (d + 2) + 4 ≤ dd) (hev : evA n w (evR n w rl f) t q d c s = O) : MtW (IC cy ax hp0) l D cy base mX3_goRow dd (b1 O) (b6 O) [.ref (ax 12), .ref g, .int (nI q), .int (nI (d + 1)), .int (cN c)] s (pst O) := by
  refine MtW.of hl mfX3_goRow rfl (Nat.le_of_ble_eq_true rfl) ?_
  have hn20 := hMG.2.1
  have hk20 := KR_20 (d + 2)
  refine EW.iload_n dX3_goRow_0 rfl rfl ?_
  refine EW.istore dX3_goRow_1 (by decide) ?_
  refine EW.aload_n dX3_goRow_3 rfl rfl ?_
  refine EW.astore dX3_goRow_4 (by decide) ?_
  exact EW.loc (lv' := [(0, .ref (ax 12)), (3, .int (nI (d + 1))), (4, .int (cN c)), (5, .int (nI q)), (6, .ref g)]) ⟨rfl, rfl, rfl, rfl, rfl, trivial⟩ (hP g q d dd c s O hMG hrl hq hd hf hc hdd hev)
set_option maxHeartbeats 4000000 in
theorem GOP_row (hl : l.stackTraces = false) {f : Nat} (m : Nat) (a b : Ex) (hm : m / 2 = 0) (hP : RWP cy ax hp0 l D base n w rl f (xB m a b)) : GOP cy ax hp0 l D base n w rl f (xB m a b) := by
  intro p q d dd c s O hMG hrep hq hd hf hc hdd hev
  have hn20 := hMG.2.1
  have hk20 := KR_20 (d + 2)
  obtain ⟨np, g, hnp, hkd, hfi, hrl⟩ : ∃ np g, s.2.2.2.2.1 p = some np ∧ np.1 = nI (3 + m / 2) ∧ np.2.2.2.1 = some g ∧ repL s.2.2.2.2.1 (xB m a b) g := by obtain ⟨np, g, h1, h2, h3, h4⟩ := hrep; exact ⟨np, g, h1, h2, h3, h4⟩
  replace hkd : np.1 = nI 3 := by rw [hkd, hm]
  refine MtW.of hl mfX3_go rfl (Nat.le_of_ble_eq_true rfl) ?_
  refine EW.aload_n dX3_go_0 rfl rfl ?_
  refine EW.ifnonnull (r := some p) 6 dX3_go_1 (by decide) (fun _ _ => ?_) (fun h => nomatch h)
  refine EW.aload_n dX3_go_6 rfl rfl ?_
  refine EC.ndget f_X3_74 dX3_go_7 hnp rfl ?_
  refine EW.top hkd ?_
  refine EW.tableIn (off := 70) 80 dX3_go_10 (by decide +kernel) (by decide +kernel) (by decide +kernel) (by decide) ?_
  refine EW.aload_n dX3_go_80 rfl rfl ?_
  refine EW.aload_n dX3_go_81 rfl rfl ?_
  refine EC.ndget f_X3_89 dX3_go_82 hnp rfl ?_
  refine EW.rf hfi ?_
  refine EW.iload_n dX3_go_85 rfl rfl ?_
  refine EW.iload_n dX3_go_86 rfl rfl ?_
  refine EW.ic 1 dX3_go_87 ?_
  refine EW.iadd dX3_go_88 ?_
  refine EW.top (nI_add _ _) ?_
  refine EW.iload dX3_go_89 rfl ?_
  refine EC.callR (O := O) (k := 12) (C_go_row hl hP g q d (dd - 1) c s O hMG hrl hq hd hf hc (by omega) hev) mfX3_goRow l_X3_92 mvX3_goRow (by omega) dX3_go_91 rfl rfl (by decide) rfl rfl rfl (Nat.le_of_ble_eq_true rfl) rfl (fun h => Prod.ext h rfl) (fun v91 h91 => ?_)
  refine EW.iret rfl dX3_go_94 ?_
  exact pst_ret (v := v91) (Prod.ext h91 rfl)
set_option maxHeartbeats 4000000 in
theorem C_go_choice (hl : l.stackTraces = false) {f : Nat} {t : Ex} (hP : CHP cy ax hp0 l D base n w rl f t) (g q d dd : Nat) (c : Option Nat) (s : CSt) (O : Rs) (hMG : MG n w rl s) (hrl : repL s.2.2.2.2.1 t g) (hq : q ≤ n) (hd : d + ht t ≤ 90) (hf : 39 ≤ f + d) (hc : ∀ j, c = some j → j < 126) (hdd : 2 * ht t + KR (d + 2) + 4 ≤ dd) (hev : evA n w (evR n w rl f) t q d c s = O) : MtW (IC cy ax hp0) l D cy base mX3_goChoice dd (b1 O) (b6 O) [.ref (ax 12), .ref g, .int (nI q), .int (nI (d + 1)), .int (cN c)] s (pst O) := by
  refine MtW.of hl mfX3_goChoice rfl (Nat.le_of_ble_eq_true rfl) ?_
  have hn20 := hMG.2.1
  have hk20 := KR_20 (d + 2)
  refine EW.aload_n dX3_goChoice_0 rfl rfl ?_
  refine EC.get (k := 12) f_X3_19 dX3_goChoice_1 (by decide) rfl rfl ?_
  refine EW.iload dX3_goChoice_4 rfl ?_
  refine EC.callV (bc := (b1 O)) (bs := (b6 O)) (mc' := 0) (ms' := 0) (k := 8) (C_bsz hl s c hc) mfX4_belowSize l_X3_120 mvX4_belowSize (by omega) dX3_goChoice_6 rfl rfl (by decide) rfl rfl rfl (Nat.le_of_ble_eq_true rfl) (fun v6 s6 q6 => ?_) (fun _ _ q => nomatch q.1)
  obtain ⟨e6, h6⟩ := q6; cases e6; replace h6 := h6.symm; subst h6
  refine EW.istore dX3_goChoice_9 (by decide) ?_
  refine EW.aload_n dX3_goChoice_11 rfl rfl ?_
  refine EW.astore dX3_goChoice_12 (by decide) ?_
  exact EW.loc (lv' := [(0, .ref (ax 12)), (2, .int (nI q)), (3, .int (nI (d + 1))), (4, .int (cN c)), (5, .int (bsz c s)), (6, .ref g)]) ⟨rfl, rfl, rfl, rfl, rfl, rfl, trivial⟩ (hP g q d dd c s O hMG hrl hq hd hf hc hdd hev)
set_option maxHeartbeats 4000000 in
theorem GOP_choice (hl : l.stackTraces = false) {f : Nat} (m : Nat) (a b : Ex) (hm : m / 2 = 1) (hP : CHP cy ax hp0 l D base n w rl f (xB m a b)) : GOP cy ax hp0 l D base n w rl f (xB m a b) := by
  intro p q d dd c s O hMG hrep hq hd hf hc hdd hev
  have hn20 := hMG.2.1
  have hk20 := KR_20 (d + 2)
  obtain ⟨np, g, hnp, hkd, hfi, hrl⟩ : ∃ np g, s.2.2.2.2.1 p = some np ∧ np.1 = nI (3 + m / 2) ∧ np.2.2.2.1 = some g ∧ repL s.2.2.2.2.1 (xB m a b) g := by obtain ⟨np, g, h1, h2, h3, h4⟩ := hrep; exact ⟨np, g, h1, h2, h3, h4⟩
  replace hkd : np.1 = nI 4 := by rw [hkd, hm]
  refine MtW.of hl mfX3_go rfl (Nat.le_of_ble_eq_true rfl) ?_
  refine EW.aload_n dX3_go_0 rfl rfl ?_
  refine EW.ifnonnull (r := some p) 6 dX3_go_1 (by decide) (fun _ _ => ?_) (fun h => nomatch h)
  refine EW.aload_n dX3_go_6 rfl rfl ?_
  refine EC.ndget f_X3_74 dX3_go_7 hnp rfl ?_
  refine EW.top hkd ?_
  refine EW.tableIn (off := 85) 95 dX3_go_10 (by decide +kernel) (by decide +kernel) (by decide +kernel) (by decide) ?_
  refine EW.aload_n dX3_go_95 rfl rfl ?_
  refine EW.aload_n dX3_go_96 rfl rfl ?_
  refine EC.ndget f_X3_89 dX3_go_97 hnp rfl ?_
  refine EW.rf hfi ?_
  refine EW.iload_n dX3_go_100 rfl rfl ?_
  refine EW.iload_n dX3_go_101 rfl rfl ?_
  refine EW.ic 1 dX3_go_102 ?_
  refine EW.iadd dX3_go_103 ?_
  refine EW.top (nI_add _ _) ?_
  refine EW.iload dX3_go_104 rfl ?_
  refine EC.callR (O := O) (k := 12) (C_go_choice hl hP g q d (dd - 1) c s O hMG hrl hq hd hf hc (by omega) hev) mfX3_goChoice l_X3_95 mvX3_goChoice (by omega) dX3_go_106 rfl rfl (by decide) rfl rfl rfl (Nat.le_of_ble_eq_true rfl) rfl (fun h => Prod.ext h rfl) (fun v106 h106 => ?_)
  refine EW.iret rfl dX3_go_109 ?_
  exact pst_ret (v := v106) (Prod.ext h106 rfl)
set_option maxHeartbeats 4000000 in
theorem GOP_sign4 (hl : l.stackTraces = false) {f : Nat} (e : Ex) (we : wf e) (hE : GOP cy ax hp0 l D base n w rl f e) : GOP cy ax hp0 l D base n w rl f (xS 4 e) := by
  intro p q d dd c s O hMG hrep hq hd hf hc hdd hev
  have hn20 := hMG.2.1
  have hk20 := KR_20 (d + 2)
  obtain ⟨np, g, hnp, hkd, hfi, hre⟩ : ∃ np g, s.2.2.2.2.1 p = some np ∧ np.1 = nI 5 ∧ np.2.2.2.1 = some g ∧ rep s.2.2.2.2.1 e g := hrep
  have h1 : ht (xS 4 e) = ht e + 1 := rfl
  have hk1 : KR (d + 1 + 2) ≤ KR (d + 2) := KR_le (by omega)
  refine MtW.of hl mfX3_go rfl (Nat.le_of_ble_eq_true rfl) ?_
  refine EW.aload_n dX3_go_0 rfl rfl ?_
  refine EW.ifnonnull (r := some p) 6 dX3_go_1 (by decide) (fun _ _ => ?_) (fun h => nomatch h)
  refine EW.aload_n dX3_go_6 rfl rfl ?_
  refine EC.ndget f_X3_74 dX3_go_7 hnp rfl ?_
  refine EW.top hkd ?_
  refine EW.tableIn (off := 146) 156 dX3_go_10 (by decide +kernel) (by decide +kernel) (by decide +kernel) (by decide) ?_
  refine EW.aload_n dX3_go_156 rfl rfl ?_
  refine EW.aload_n dX3_go_157 rfl rfl ?_
  refine EW.iload_n dX3_go_158 rfl rfl ?_
  refine EW.iload_n dX3_go_159 rfl rfl ?_
  refine EW.ic 1 dX3_go_160 ?_
  refine EW.iadd dX3_go_161 ?_
  refine EW.top (nI_add _ _) ?_
  refine EW.iload dX3_go_162 rfl ?_
  refine EC.callR (O := O) (k := 12) (C_goRep4 hl we hE p q d (dd - 1) c np g hkd hfi (by omega) hf hc (by omega) s O hMG hnp hre hq hev) mfX3_goRepeated l_X3_98 mvX3_goRepeated (by omega) dX3_go_164 rfl rfl (by decide) rfl rfl rfl (Nat.le_of_ble_eq_true rfl) rfl (fun h => Prod.ext h rfl) (fun v164 h164 => ?_)
  refine EW.iret rfl dX3_go_167 ?_
  exact pst_ret (v := v164) (Prod.ext h164 rfl)
set_option maxHeartbeats 4000000 in
theorem GOP_sign5 (hl : l.stackTraces = false) {f : Nat} (e : Ex) (we : wf e) (hE : GOP cy ax hp0 l D base n w rl f e) : GOP cy ax hp0 l D base n w rl f (xS 5 e) := by
  intro p q d dd c s O hMG hrep hq hd hf hc hdd hev
  have hn20 := hMG.2.1
  have hk20 := KR_20 (d + 2)
  obtain ⟨np, g, hnp, hkd, hfi, hre⟩ : ∃ np g, s.2.2.2.2.1 p = some np ∧ np.1 = nI 6 ∧ np.2.2.2.1 = some g ∧ rep s.2.2.2.2.1 e g := hrep
  have h1 : ht (xS 5 e) = ht e + 1 := rfl
  have hk1 : KR (d + 1 + 2) ≤ KR (d + 2) := KR_le (by omega)
  refine MtW.of hl mfX3_go rfl (Nat.le_of_ble_eq_true rfl) ?_
  refine EW.aload_n dX3_go_0 rfl rfl ?_
  refine EW.ifnonnull (r := some p) 6 dX3_go_1 (by decide) (fun _ _ => ?_) (fun h => nomatch h)
  refine EW.aload_n dX3_go_6 rfl rfl ?_
  refine EC.ndget f_X3_74 dX3_go_7 hnp rfl ?_
  refine EW.top hkd ?_
  refine EW.tableIn (off := 146) 156 dX3_go_10 (by decide +kernel) (by decide +kernel) (by decide +kernel) (by decide) ?_
  refine EW.aload_n dX3_go_156 rfl rfl ?_
  refine EW.aload_n dX3_go_157 rfl rfl ?_
  refine EW.iload_n dX3_go_158 rfl rfl ?_
  refine EW.iload_n dX3_go_159 rfl rfl ?_
  refine EW.ic 1 dX3_go_160 ?_
  refine EW.iadd dX3_go_161 ?_
  refine EW.top (nI_add _ _) ?_
  refine EW.iload dX3_go_162 rfl ?_
  refine EC.callR (O := O) (k := 12) (C_goRep5 hl we hE p q d (dd - 1) c np g hkd hfi (by omega) hf hc (by omega) s O hMG hnp hre hq hev) mfX3_goRepeated l_X3_98 mvX3_goRepeated (by omega) dX3_go_164 rfl rfl (by decide) rfl rfl rfl (Nat.le_of_ble_eq_true rfl) rfl (fun h => Prod.ext h rfl) (fun v164 h164 => ?_)
  refine EW.iret rfl dX3_go_167 ?_
  exact pst_ret (v := v164) (Prod.ext h164 rfl)
set_option maxHeartbeats 4000000 in
theorem GOP_sign6 (hl : l.stackTraces = false) {f : Nat} (e : Ex) (we : wf e) (hE : GOP cy ax hp0 l D base n w rl f e) : GOP cy ax hp0 l D base n w rl f (xS 6 e) := by
  intro p q d dd c s O hMG hrep hq hd hf hc hdd hev
  have hn20 := hMG.2.1
  have hk20 := KR_20 (d + 2)
  obtain ⟨np, g, hnp, hkd, hfi, hre⟩ : ∃ np g, s.2.2.2.2.1 p = some np ∧ np.1 = nI 7 ∧ np.2.2.2.1 = some g ∧ rep s.2.2.2.2.1 e g := hrep
  have h1 : ht (xS 6 e) = ht e + 1 := rfl
  have hk1 : KR (d + 1 + 2) ≤ KR (d + 2) := KR_le (by omega)
  refine MtW.of hl mfX3_go rfl (Nat.le_of_ble_eq_true rfl) ?_
  refine EW.aload_n dX3_go_0 rfl rfl ?_
  refine EW.ifnonnull (r := some p) 6 dX3_go_1 (by decide) (fun _ _ => ?_) (fun h => nomatch h)
  refine EW.aload_n dX3_go_6 rfl rfl ?_
  refine EC.ndget f_X3_74 dX3_go_7 hnp rfl ?_
  refine EW.top hkd ?_
  refine EW.tableIn (off := 146) 156 dX3_go_10 (by decide +kernel) (by decide +kernel) (by decide +kernel) (by decide) ?_
  refine EW.aload_n dX3_go_156 rfl rfl ?_
  refine EW.aload_n dX3_go_157 rfl rfl ?_
  refine EW.iload_n dX3_go_158 rfl rfl ?_
  refine EW.iload_n dX3_go_159 rfl rfl ?_
  refine EW.ic 1 dX3_go_160 ?_
  refine EW.iadd dX3_go_161 ?_
  refine EW.top (nI_add _ _) ?_
  refine EW.iload dX3_go_162 rfl ?_
  refine EC.callR (O := O) (k := 12) (C_goRep6 hl we hE p q d (dd - 1) c np g hkd hfi (by omega) hf hc (by omega) s O hMG hnp hre hq hev) mfX3_goRepeated l_X3_98 mvX3_goRepeated (by omega) dX3_go_164 rfl rfl (by decide) rfl rfl rfl (Nat.le_of_ble_eq_true rfl) rfl (fun h => Prod.ext h rfl) (fun v164 h164 => ?_)
  refine EW.iret rfl dX3_go_167 ?_
  exact pst_ret (v := v164) (Prod.ext h164 rfl)
set_option maxHeartbeats 4000000 in
theorem GOP_sign7 (hl : l.stackTraces = false) {f : Nat} (e : Ex) (we : wf e) (hE : GOP cy ax hp0 l D base n w rl f e) : GOP cy ax hp0 l D base n w rl f (xS 7 e) := by
  intro p q d dd c s O hMG hrep hq hd hf hc hdd hev
  have hn20 := hMG.2.1
  have hk20 := KR_20 (d + 2)
  obtain ⟨np, g, hnp, hkd, hfi, hre⟩ : ∃ np g, s.2.2.2.2.1 p = some np ∧ np.1 = nI 8 ∧ np.2.2.2.1 = some g ∧ rep s.2.2.2.2.1 e g := hrep
  have h1 : ht (xS 7 e) = ht e + 1 := rfl
  have hk1 : KR (d + 1 + 2) ≤ KR (d + 2) := KR_le (by omega)
  obtain ⟨R1, hR1⟩ : ∃ R, evA n w (evR n w rl f) e q (d + 1) none s = R := ⟨_, rfl⟩
  have hO : bnd R1 (fun _ s1 => (some (some q), s1)) (fun s1 => (some none, s1)) = O := by rw [← hR1, ← hev]; rfl
  have K := okE hMG we hq hR1
  refine MtW.of hl mfX3_go rfl (Nat.le_of_ble_eq_true rfl) ?_
  refine EW.aload_n dX3_go_0 rfl rfl ?_
  refine EW.ifnonnull (r := some p) 6 dX3_go_1 (by decide) (fun _ _ => ?_) (fun h => nomatch h)
  refine EW.aload_n dX3_go_6 rfl rfl ?_
  refine EC.ndget f_X3_74 dX3_go_7 hnp rfl ?_
  refine EW.top hkd ?_
  refine EW.tableIn (off := 100) 110 dX3_go_10 (by decide +kernel) (by decide +kernel) (by decide +kernel) (by decide) ?_
  refine EW.aload_n dX3_go_110 rfl rfl ?_
  refine EW.aload_n dX3_go_111 rfl rfl ?_
  refine EC.ndget f_X3_89 dX3_go_112 hnp rfl ?_
  refine EW.rf hfi ?_
  refine EW.iload_n dX3_go_115 rfl rfl ?_
  refine EW.iload_n dX3_go_116 rfl rfl ?_
  refine EW.ic 1 dX3_go_117 ?_
  refine EW.iadd dX3_go_118 ?_
  refine EW.top (nI_add _ _) ?_
  refine EW.iconst (v := -1) dX3_go_119 (by decide +kernel) ?_
  refine EC.callR (O := O) (k := 12) (hE g q (d + 1) (dd - 1) none s R1 hMG hre hq (by omega) (by omega) (fun j h => nomatch h) (by omega) hR1) mfX3_go l_X3_67 mvX3_go (by omega) dX3_go_120 rfl rfl (by decide) rfl rfl rfl (Nat.le_of_ble_eq_true rfl) rfl (fun h => by rw [← hO, bnd_none h]) (fun v120 h120 => ?_)
  cases v120 with
  | none =>
    refine EW.top (y := -1) rfl ?_
    refine EW.iconst (v := -1) dX3_go_123 (by decide +kernel) ?_
    refine EW.icmp_ne 131 dX3_go_124 (by decide) (fun c124 => ?_) (fun c124 => ?_)
    · exact absurd rfl c124
    · refine EW.iconst (v := -1) dX3_go_127 (by decide +kernel) ?_
      refine EW.goto 132 dX3_go_128 (by decide) ?_
      refine EW.iret rfl dX3_go_132 ?_
      exact pst_ret (v := none) (by rw [← hO, bnd_fail h120])
  | some x120 =>
    refine EW.top (y := nI x120) rfl ?_
    have hx := K.2.2 x120 h120
    refine EW.iconst (v := -1) dX3_go_123 (by decide +kernel) ?_
    refine EW.icmp_ne 131 dX3_go_124 (by decide) (fun c124 => ?_) (fun c124 => ?_)
    · refine EW.iload_n dX3_go_131 rfl rfl ?_
      refine EW.iret rfl dX3_go_132 ?_
      exact pst_ret (v := some q) (by rw [← hO, bnd_some h120])
    · exact absurd c124 (nI_m1 (by omega))
set_option maxHeartbeats 4000000 in
theorem GOP_sign8 (hl : l.stackTraces = false) {f : Nat} (e : Ex) (we : wf e) (hE : GOP cy ax hp0 l D base n w rl f e) : GOP cy ax hp0 l D base n w rl f (xS 8 e) := by
  intro p q d dd c s O hMG hrep hq hd hf hc hdd hev
  have hn20 := hMG.2.1
  have hk20 := KR_20 (d + 2)
  obtain ⟨np, g, hnp, hkd, hfi, hre⟩ : ∃ np g, s.2.2.2.2.1 p = some np ∧ np.1 = nI 9 ∧ np.2.2.2.1 = some g ∧ rep s.2.2.2.2.1 e g := hrep
  have h1 : ht (xS 8 e) = ht e + 1 := rfl
  have hk1 : KR (d + 1 + 2) ≤ KR (d + 2) := KR_le (by omega)
  obtain ⟨R1, hR1⟩ : ∃ R, evA n w (evR n w rl f) e q (d + 1) none s = R := ⟨_, rfl⟩
  have hO : bnd R1 (fun _ s1 => (some none, s1)) (fun s1 => (some (some q), s1)) = O := by rw [← hR1, ← hev]; rfl
  have K := okE hMG we hq hR1
  refine MtW.of hl mfX3_go rfl (Nat.le_of_ble_eq_true rfl) ?_
  refine EW.aload_n dX3_go_0 rfl rfl ?_
  refine EW.ifnonnull (r := some p) 6 dX3_go_1 (by decide) (fun _ _ => ?_) (fun h => nomatch h)
  refine EW.aload_n dX3_go_6 rfl rfl ?_
  refine EC.ndget f_X3_74 dX3_go_7 hnp rfl ?_
  refine EW.top hkd ?_
  refine EW.tableIn (off := 123) 133 dX3_go_10 (by decide +kernel) (by decide +kernel) (by decide +kernel) (by decide) ?_
  refine EW.aload_n dX3_go_133 rfl rfl ?_
  refine EW.aload_n dX3_go_134 rfl rfl ?_
  refine EC.ndget f_X3_89 dX3_go_135 hnp rfl ?_
  refine EW.rf hfi ?_
  refine EW.iload_n dX3_go_138 rfl rfl ?_
  refine EW.iload_n dX3_go_139 rfl rfl ?_
  refine EW.ic 1 dX3_go_140 ?_
  refine EW.iadd dX3_go_141 ?_
  refine EW.top (nI_add _ _) ?_
  refine EW.iconst (v := -1) dX3_go_142 (by decide +kernel) ?_
  refine EC.callR (O := O) (k := 12) (hE g q (d + 1) (dd - 1) none s R1 hMG hre hq (by omega) (by omega) (fun j h => nomatch h) (by omega) hR1) mfX3_go l_X3_67 mvX3_go (by omega) dX3_go_143 rfl rfl (by decide) rfl rfl rfl (Nat.le_of_ble_eq_true rfl) rfl (fun h => by rw [← hO, bnd_none h]) (fun v143 h143 => ?_)
  cases v143 with
  | none =>
    refine EW.top (y := -1) rfl ?_
    refine EW.iconst (v := -1) dX3_go_146 (by decide +kernel) ?_
    refine EW.icmp_ne 154 dX3_go_147 (by decide) (fun c147 => ?_) (fun c147 => ?_)
    · exact absurd rfl c147
    · refine EW.iload_n dX3_go_150 rfl rfl ?_
      refine EW.goto 155 dX3_go_151 (by decide) ?_
      refine EW.iret rfl dX3_go_155 ?_
      exact pst_ret (v := some q) (by rw [← hO, bnd_fail h143])
  | some x143 =>
    refine EW.top (y := nI x143) rfl ?_
    have hx := K.2.2 x143 h143
    refine EW.iconst (v := -1) dX3_go_146 (by decide +kernel) ?_
    refine EW.icmp_ne 154 dX3_go_147 (by decide) (fun c147 => ?_) (fun c147 => ?_)
    · refine EW.iconst (v := -1) dX3_go_154 (by decide +kernel) ?_
      refine EW.iret rfl dX3_go_155 ?_
      exact pst_ret (v := none) (by rw [← hO, bnd_some h143])
    · exact absurd c147 (nI_m1 (by omega))
theorem GOP_all (hl : l.stackTraces = false) {f : Nat} (hR : HRP cy ax hp0 l D base n w rl f) : ∀ t, wf t → GOP cy ax hp0 l D base n w rl f t := by
  have key : ∀ t, wf t → GOP cy ax hp0 l D base n w rl f t ∧ (isB 0 t → RWP cy ax hp0 l D base n w rl f t) ∧ (isB 1 t → CHP cy ax hp0 l D base n w rl f t) := by
    refine ast_ind (fun lo hi h1 h2 => ⟨GOP_range hl lo hi ⟨h1, h2⟩, fun h => h.elim, fun h => h.elim⟩) (fun r hr => ⟨GOP_rule hl r hr hR, fun h => h.elim, fun h => h.elim⟩) (fun m a b hm hg wa wb ha hb => ?_) (fun k e h1 h2 we he => ?_)
    · rcases (show m = 0 ∨ m = 1 ∨ m = 2 ∨ m = 3 by omega) with rfl | rfl | rfl | rfl
      · have P := RWP_even hl wa wb ha.1 hb.1
        exact ⟨GOP_row hl 0 a b rfl P, fun _ => P, fun h => absurd h (by show ¬ 0 / 2 = 1; decide)⟩
      · have P := RWP_odd hl wa wb ha.1 (hb.2.1 (hg rfl))
        exact ⟨GOP_row hl 1 a b rfl P, fun _ => P, fun h => absurd h (by show ¬ 1 / 2 = 1; decide)⟩
      · have P := CHP_even hl wa wb ha.1 hb.1
        exact ⟨GOP_choice hl 2 a b rfl P, fun h => absurd h (by show ¬ 2 / 2 = 0; decide), fun _ => P⟩
      · have P := CHP_odd hl wa wb ha.1 (hb.2.2 (hg rfl))
        exact ⟨GOP_choice hl 3 a b rfl P, fun h => absurd h (by show ¬ 3 / 2 = 0; decide), fun _ => P⟩
    · refine ⟨?_, fun h => h.elim, fun h => h.elim⟩
      rcases (show k = 4 ∨ k = 5 ∨ k = 6 ∨ k = 7 ∨ k = 8 by omega) with rfl | rfl | rfl | rfl | rfl
      · exact GOP_sign4 hl e we he.1
      · exact GOP_sign5 hl e we he.1
      · exact GOP_sign6 hl e we he.1
      · exact GOP_sign7 hl e we he.1
      · exact GOP_sign8 hl e we he.1
  exact fun t ht => (key t ht).1
set_option maxHeartbeats 4000000 in
theorem C_workOut0 (hl : l.stackTraces = false) (r q d dd : Nat) (s : CSt) (hd : 40 < d) (hd2 : d ≤ 100) (hdd : 8 ≤ dd) : MtW (IC cy ax hp0) l D cy base mX3_workOut dd 1 6 [.ref (ax 12), .int (nI r), .int (nI q), .int (nI d), .int (nI (r * 21 + q))] s (pst (none, s)) := by
  refine MtW.of hl mfX3_workOut rfl (Nat.le_of_ble_eq_true rfl) ?_
  refine EW.iload_n dX3_workOut_0 rfl rfl ?_
  refine EW.bp 40 dX3_workOut_1 ?_
  refine EW.icmp_le 16 dX3_workOut_3 (by decide) (fun c3 => ?_) (fun c3 => ?_)
  · have c3 : d ≤ 40 := (nI_leI (by omega) (by omega)).mp c3; omega
  · have c3 : ¬ (d ≤ 40) := fun h => c3 ((nI_leI (by omega) (by omega)).mpr h)
    exact EW.throwS (bc := 0) (bs := 0) ts_X3 rfl dX3_workOut_6 dX3_workOut_9 dX3_workOut_10 dX3_workOut_12 dX3_workOut_15 (by omega) (Nat.le_of_ble_eq_true rfl) ⟨rfl, rfl⟩
set_option maxHeartbeats 4000000 in
theorem C_workOutN (hl : l.stackTraces = false) (r q d dd : Nat) (s : CSt) (O : Rs) (hr : r < 6) (hq : q ≤ n) (hd : d ≤ 40) (hMG : MG n w rl s) (hdd : KR d ≤ dd + 1) (hx : s.2.2.2.1 r = none) (hev : (some none, kept (r * 21 + q) (-1) (cut (some (r * 21 + q)) (nI 0) (va_up s.1 5 (s.1 5 + nI 1), s.2))) = O) : MtW (IC cy ax hp0) l D cy base mX3_workOut dd (b1 O) (b6 O) [.ref (ax 12), .int (nI r), .int (nI q), .int (nI d), .int (nI (r * 21 + q))] s (pst O) := by
  refine MtW.of hl mfX3_workOut rfl (Nat.le_of_ble_eq_true rfl) ?_
  have hn20 := hMG.2.1
  have hk20 := KR_20 d
  have hk9 : KR (d + 2) + 80 ≤ KR d := by unfold KR; omega
  refine EW.iload_n dX3_workOut_0 rfl rfl ?_
  refine EW.bp 40 dX3_workOut_1 ?_
  refine EW.icmp_le 16 dX3_workOut_3 (by decide) (fun c3 => ?_) (fun c3 => ?_)
  · have c3 : d ≤ 40 := (nI_leI (by omega) (by omega)).mp c3
    refine EW.aload_n dX3_workOut_16 rfl rfl ?_
    refine EW.dup dX3_workOut_17 rfl ?_
    refine EC.get (k := 12) f_X3_23 dX3_workOut_18 (by decide) rfl rfl ?_
    refine EW.ic 1 dX3_workOut_21 ?_
    refine EW.iadd dX3_workOut_22 ?_
    refine EC.put5 f_X3_23 dX3_workOut_23 ?_
    refine EW.aload_n dX3_workOut_26 rfl rfl ?_
    refine EC.get (k := 12) f_X3_19 dX3_workOut_27 (by decide) rfl rfl ?_
    refine EW.iload dX3_workOut_30 rfl ?_
    refine EW.ic 0 dX3_workOut_32 ?_
    refine EC.callV (bc := (b1 O)) (bs := (b6 O)) (mc' := 0) (ms' := 0) (k := 8) (C_cut hl (va_up s.1 5 (s.1 5 + nI 1), s.2) (some (r * 21 + q)) (fun j h => by cases h; omega) (nI 0)) mfX4_cutBelow l_X3_51 mvX4_cutBelow (by omega) dX3_workOut_33 rfl rfl (by decide) rfl rfl rfl (Nat.le_of_ble_eq_true rfl) (fun v33 s33 q33 => ?_) (fun _ _ q => nomatch q.1)
    obtain ⟨e33, h33⟩ := q33; cases e33; replace h33 := h33.symm; subst h33
    refine EW.aload_n dX3_workOut_36 rfl rfl ?_
    refine EC.get (k := 12) f_X3_9 dX3_workOut_37 (by decide) rfl rfl ?_
    refine EW.iload_n dX3_workOut_40 rfl rfl ?_
    refine EC.callV (bc := (b1 O)) (bs := (b6 O)) (mc' := 0) (ms' := 0) (k := 6) (C_expressionOf hl 0 r (cut (some (r * 21 + q)) (nI 0) (va_up s.1 5 (s.1 5 + nI 1), s.2)) hr) mfX2_expressionOf l_X3_55 mvX2_expressionOf (by omega) dX3_workOut_41 rfl rfl (by decide) rfl rfl rfl (Nat.le_of_ble_eq_true rfl) (fun v41 s41 q41 => ?_) (fun _ _ q => nomatch q.1)
    obtain ⟨e41, h41⟩ := q41; cases e41; replace h41 := h41.symm; subst h41
    refine EW.rn hx ?_
    refine EW.astoreq dX3_workOut_44 (by decide) ?_
    refine EW.aloadq dX3_workOut_46 rfl ?_
    refine EW.ifnonnull (r := none) 55 dX3_workOut_48 (by decide) (fun _ h => nomatch h) (fun _ => ?_)
    refine EW.iconst (v := -1) dX3_workOut_51 (by decide +kernel) ?_
    refine EW.goto 68 dX3_workOut_52 (by decide) ?_
    refine EW.istore dX3_workOut_68 (by decide) ?_
    refine EW.aload_n dX3_workOut_70 rfl rfl ?_
    refine EC.get (k := 12) f_X3_19 dX3_workOut_71 (by decide) rfl rfl ?_
    refine EW.iload dX3_workOut_74 rfl ?_
    refine EW.iload dX3_workOut_76 rfl ?_
    refine EC.callV (bc := (b1 O)) (bs := (b6 O)) (mc' := 0) (ms' := 0) (k := 8) (C_keep hl 0 (cut (some (r * 21 + q)) (nI 0) (va_up s.1 5 (s.1 5 + nI 1), s.2)) (r * 21 + q) (by omega) (-1)) mfX4_keep l_X3_71 mvX4_keep (by omega) dX3_workOut_78 rfl rfl (by decide) rfl rfl rfl (Nat.le_of_ble_eq_true rfl) (fun v78 s78 q78 => ?_) (fun _ _ q => nomatch q.1)
    obtain ⟨e78, h78⟩ := q78; cases e78; replace h78 := h78.symm; subst h78
    refine EW.iload dX3_workOut_81 rfl ?_
    refine EW.iret rfl dX3_workOut_83 ?_
    exact pst_ret (v := none) hev.symm
  · have c3 : ¬ (d ≤ 40) := fun h => c3 ((nI_leI (by omega) (by omega)).mpr h); omega
set_option maxHeartbeats 4000000 in
theorem C_workOut (hl : l.stackTraces = false) (r q d dd : Nat) (s : CSt) (O : Rs) (hr : r < 6) (hq : q ≤ n) (hd : d ≤ 40) (hMG : MG n w rl s) (hdd : KR d ≤ dd + 1) {f : Nat} (t : Ex) (hG : GOP cy ax hp0 l D base n w rl f t) (wt : wf t) (h24 : ht t ≤ 24) (hf : 39 ≤ f + d) (x pr : Nat) (e9 : Option Nat × Option Nat) (hx : s.2.2.2.1 r = some x) (he : s.2.2.2.2.2 x = some e9) (hpr : e9.2 = some pr) (hre : rep s.2.2.2.2.1 t pr) (hev : bnd (evA n w (evR n w rl f) t q d (some (r * 21 + q)) (cut (some (r * 21 + q)) (nI 0) (va_up s.1 5 (s.1 5 + nI 1), s.2))) (fun q1 s1 => (some (some q1), kept (r * 21 + q) (nI q1) s1)) (fun s1 => (some none, kept (r * 21 + q) (-1) s1)) = O) : MtW (IC cy ax hp0) l D cy base mX3_workOut dd (b1 O) (b6 O) [.ref (ax 12), .int (nI r), .int (nI q), .int (nI d), .int (nI (r * 21 + q))] s (pst O) := by
  refine MtW.of hl mfX3_workOut rfl (Nat.le_of_ble_eq_true rfl) ?_
  have hn20 := hMG.2.1
  have hk20 := KR_20 d
  have hk9 : KR (d + 2) + 80 ≤ KR d := by unfold KR; omega
  obtain ⟨R1, hR1⟩ : ∃ R, evA n w (evR n w rl f) t q d (some (r * 21 + q)) (cut (some (r * 21 + q)) (nI 0) (va_up s.1 5 (s.1 5 + nI 1), s.2)) = R := ⟨_, rfl⟩
  rw [hR1] at hev
  have hMG0 : MG n w rl (cut (some (r * 21 + q)) (nI 0) (va_up s.1 5 (s.1 5 + nI 1), s.2)) := hMG.fr ((frM.cnt (by decide)).tr frM.cut) (memOK.cut hMG.2.2.2.1)
  have K := okE hMG0 wt hq hR1
  refine EW.iload_n dX3_workOut_0 rfl rfl ?_
  refine EW.bp 40 dX3_workOut_1 ?_
  refine EW.icmp_le 16 dX3_workOut_3 (by decide) (fun c3 => ?_) (fun c3 => ?_)
  · have c3 : d ≤ 40 := (nI_leI (by omega) (by omega)).mp c3
    refine EW.aload_n dX3_workOut_16 rfl rfl ?_
    refine EW.dup dX3_workOut_17 rfl ?_
    refine EC.get (k := 12) f_X3_23 dX3_workOut_18 (by decide) rfl rfl ?_
    refine EW.ic 1 dX3_workOut_21 ?_
    refine EW.iadd dX3_workOut_22 ?_
    refine EC.put5 f_X3_23 dX3_workOut_23 ?_
    refine EW.aload_n dX3_workOut_26 rfl rfl ?_
    refine EC.get (k := 12) f_X3_19 dX3_workOut_27 (by decide) rfl rfl ?_
    refine EW.iload dX3_workOut_30 rfl ?_
    refine EW.ic 0 dX3_workOut_32 ?_
    refine EC.callV (bc := (b1 O)) (bs := (b6 O)) (mc' := 0) (ms' := 0) (k := 8) (C_cut hl (va_up s.1 5 (s.1 5 + nI 1), s.2) (some (r * 21 + q)) (fun j h => by cases h; omega) (nI 0)) mfX4_cutBelow l_X3_51 mvX4_cutBelow (by omega) dX3_workOut_33 rfl rfl (by decide) rfl rfl rfl (Nat.le_of_ble_eq_true rfl) (fun v33 s33 q33 => ?_) (fun _ _ q => nomatch q.1)
    obtain ⟨e33, h33⟩ := q33; cases e33; replace h33 := h33.symm; subst h33
    refine EW.aload_n dX3_workOut_36 rfl rfl ?_
    refine EC.get (k := 12) f_X3_9 dX3_workOut_37 (by decide) rfl rfl ?_
    refine EW.iload_n dX3_workOut_40 rfl rfl ?_
    refine EC.callV (bc := (b1 O)) (bs := (b6 O)) (mc' := 0) (ms' := 0) (k := 6) (C_expressionOf hl 0 r (cut (some (r * 21 + q)) (nI 0) (va_up s.1 5 (s.1 5 + nI 1), s.2)) hr) mfX2_expressionOf l_X3_55 mvX2_expressionOf (by omega) dX3_workOut_41 rfl rfl (by decide) rfl rfl rfl (Nat.le_of_ble_eq_true rfl) (fun v41 s41 q41 => ?_) (fun _ _ q => nomatch q.1)
    obtain ⟨e41, h41⟩ := q41; cases e41; replace h41 := h41.symm; subst h41
    refine EW.rf hx ?_
    refine EW.astore dX3_workOut_44 (by decide) ?_
    refine EW.aload dX3_workOut_46 rfl ?_
    refine EW.ifnonnull (r := some x) 55 dX3_workOut_48 (by decide) (fun _ _ => ?_) (fun h => nomatch h)
    refine EW.aload_n dX3_workOut_55 rfl rfl ?_
    refine EW.aload dX3_workOut_56 rfl ?_
    refine EC.exget f_X3_61 dX3_workOut_58 he rfl ?_
    refine EW.rf hpr ?_
    refine EW.iload_n dX3_workOut_61 rfl rfl ?_
    refine EW.iload_n dX3_workOut_62 rfl rfl ?_
    refine EW.iload dX3_workOut_63 rfl ?_
    refine EC.callR (O := O) (k := 12) (hG pr q d (dd - 1) (some (r * 21 + q)) (cut (some (r * 21 + q)) (nI 0) (va_up s.1 5 (s.1 5 + nI 1), s.2)) R1 hMG0 hre hq (by omega) hf (fun j h => by cases h; omega) (by omega) hR1) mfX3_go l_X3_67 mvX3_go (by omega) dX3_workOut_65 rfl rfl (by decide) rfl rfl rfl (Nat.le_of_ble_eq_true rfl) rfl (fun h => by rw [← hev, bnd_none h]) (fun v65 h65 => ?_)
    cases v65 with
    | none =>
      refine EW.top (y := -1) rfl ?_
      refine EW.istore dX3_workOut_68 (by decide) ?_
      refine EW.aload_n dX3_workOut_70 rfl rfl ?_
      refine EC.get (k := 12) f_X3_19 dX3_workOut_71 (by decide) rfl rfl ?_
      refine EW.iload dX3_workOut_74 rfl ?_
      refine EW.iload dX3_workOut_76 rfl ?_
      refine EC.callV (bc := (b1 O)) (bs := (b6 O)) (mc' := 0) (ms' := 0) (k := 8) (C_keep hl 0 R1.2 (r * 21 + q) (by omega) (-1)) mfX4_keep l_X3_71 mvX4_keep (by omega) dX3_workOut_78 rfl rfl (by decide) rfl rfl rfl (Nat.le_of_ble_eq_true rfl) (fun v78 s78 q78 => ?_) (fun _ _ q => nomatch q.1)
      obtain ⟨e78, h78⟩ := q78; cases e78; replace h78 := h78.symm; subst h78
      refine EW.iload dX3_workOut_81 rfl ?_
      refine EW.iret rfl dX3_workOut_83 ?_
      exact pst_ret (v := none) (by rw [← hev, bnd_fail h65]; rfl)
    | some x65 =>
      refine EW.top (y := nI x65) rfl ?_
      refine EW.istore dX3_workOut_68 (by decide) ?_
      refine EW.aload_n dX3_workOut_70 rfl rfl ?_
      refine EC.get (k := 12) f_X3_19 dX3_workOut_71 (by decide) rfl rfl ?_
      refine EW.iload dX3_workOut_74 rfl ?_
      refine EW.iload dX3_workOut_76 rfl ?_
      refine EC.callV (bc := (b1 O)) (bs := (b6 O)) (mc' := 0) (ms' := 0) (k := 8) (C_keep hl 0 R1.2 (r * 21 + q) (by omega) (nI x65)) mfX4_keep l_X3_71 mvX4_keep (by omega) dX3_workOut_78 rfl rfl (by decide) rfl rfl rfl (Nat.le_of_ble_eq_true rfl) (fun v78 s78 q78 => ?_) (fun _ _ q => nomatch q.1)
      obtain ⟨e78, h78⟩ := q78; cases e78; replace h78 := h78.symm; subst h78
      refine EW.iload dX3_workOut_81 rfl ?_
      refine EW.iret rfl dX3_workOut_83 ?_
      exact pst_ret (v := some x65) (by rw [← hev, bnd_some h65]; rfl)
  · have c3 : ¬ (d ≤ 40) := fun h => c3 ((nI_leI (by omega) (by omega)).mpr h); omega
theorem evR_known {f r q d : Nat} {s : CSt} (h : ¬ s.2.1 9 (r * 21 + q) = -2) : evR n w rl f r q d s = (some (vO (s.2.1 9 (r * 21 + q))), (va_up s.1 6 (s.1 6 + nI 1), s.2)) := by
  cases f <;> (unfold evR; rw [if_neg h])
theorem evR_deep {f r q d : Nat} {s : CSt} (h : s.2.1 9 (r * 21 + q) = -2) (hd : 40 < d) : evR n w rl f r q d s = (none, s) := by
  cases f
  · unfold evR; rw [if_pos h]
  · unfold evR; rw [if_pos h, if_pos hd]
set_option maxHeartbeats 4000000 in
theorem C_matchK (hl : l.stackTraces = false) (r q d dd : Nat) (s : CSt) (O : Rs) (hr : r < 6) (hq : q ≤ n) (hd : d ≤ 100) (hMG : MG n w rl s) (hdd : 20 ≤ dd) (h : ¬ s.2.1 9 (r * 21 + q) = -2) (hev : (some (vO (s.2.1 9 (r * 21 + q))), (va_up s.1 6 (s.1 6 + nI 1), s.2)) = O) : MtW (IC cy ax hp0) l D cy base mX3_matchRule dd (b1 O) (b6 O) [.ref (ax 12), .int (nI r), .int (nI q), .int (nI d)] s (pst O) := by
  refine MtW.of hl mfX3_matchRule rfl (Nat.le_of_ble_eq_true rfl) ?_
  have hn20 := hMG.2.1
  refine EW.iload_n dX3_matchRule_0 rfl rfl ?_
  refine EW.iload_n dX3_matchRule_1 rfl rfl ?_
  refine EW.callS (bc := (b1 O)) (bs := (b6 O)) (mc' := 0) (ms' := 0) (C_cellOf hl _ 0 s r q hr (by omega)) mfX4_cellOf rfl l_X3_30 mvX4_cellOf (by omega) dX3_matchRule_2 rfl rfl (Nat.le_of_ble_eq_true rfl) (fun v2 s2 q2 => ?_) (fun _ _ q => nomatch q.1)
  obtain ⟨e2, h2⟩ := q2; cases e2; replace h2 := h2.symm; subst h2
  refine EW.istore dX3_matchRule_5 (by decide) ?_
  refine EW.aload_n dX3_matchRule_7 rfl rfl ?_
  refine EC.get (k := 12) f_X3_19 dX3_matchRule_8 (by decide) rfl rfl ?_
  refine EW.iload dX3_matchRule_11 rfl ?_
  refine EC.callV (bc := (b1 O)) (bs := (b6 O)) (mc' := 0) (ms' := 0) (k := 8) (C_recall hl 0 s (r * 21 + q) (by omega)) mfX4_recall l_X3_36 mvX4_recall (by omega) dX3_matchRule_13 rfl rfl (by decide) rfl rfl rfl (Nat.le_of_ble_eq_true rfl) (fun v13 s13 q13 => ?_) (fun _ _ q => nomatch q.1)
  obtain ⟨e13, h13⟩ := q13; cases e13; replace h13 := h13.symm; subst h13
  refine EW.istore dX3_matchRule_16 (by decide) ?_
  refine EW.iload dX3_matchRule_18 rfl ?_
  refine EW.bipush (v := -2) dX3_matchRule_20 (by decide +kernel) ?_
  refine EW.icmp_eq 38 dX3_matchRule_22 (by decide) (fun c22 => ?_) (fun c22 => ?_)
  · exact absurd c22 h
  · refine EW.aload_n dX3_matchRule_25 rfl rfl ?_
    refine EW.dup dX3_matchRule_26 rfl ?_
    refine EC.get (k := 12) f_X3_27 dX3_matchRule_27 (by decide) rfl rfl ?_
    refine EW.ic 1 dX3_matchRule_30 ?_
    refine EW.iadd dX3_matchRule_31 ?_
    refine EC.put6 f_X3_27 dX3_matchRule_32 ?_
    refine EW.iload dX3_matchRule_35 rfl ?_
    refine EW.iret rfl dX3_matchRule_37 ?_
    rw [← (vO_ok hn20 hMG.2.2.2.1 (by omega) h).1]; exact pst_ret hev.symm
set_option maxHeartbeats 4000000 in
theorem C_matchW (hl : l.stackTraces = false) (r q d dd : Nat) (s : CSt) (O : Rs) (hr : r < 6) (hq : q ≤ n) (hd : d ≤ 100) (hMG : MG n w rl s) (hdd : 20 ≤ dd) (h : s.2.1 9 (r * 21 + q) = -2) (hW : MtW (IC cy ax hp0) l D cy base mX3_workOut (dd - 1) (b1 O) (b6 O) [.ref (ax 12), .int (nI r), .int (nI q), .int (nI d), .int (nI (r * 21 + q))] s (pst O)) : MtW (IC cy ax hp0) l D cy base mX3_matchRule dd (b1 O) (b6 O) [.ref (ax 12), .int (nI r), .int (nI q), .int (nI d)] s (pst O) := by
  refine MtW.of hl mfX3_matchRule rfl (Nat.le_of_ble_eq_true rfl) ?_
  have hn20 := hMG.2.1
  refine EW.iload_n dX3_matchRule_0 rfl rfl ?_
  refine EW.iload_n dX3_matchRule_1 rfl rfl ?_
  refine EW.callS (bc := (b1 O)) (bs := (b6 O)) (mc' := 0) (ms' := 0) (C_cellOf hl _ 0 s r q hr (by omega)) mfX4_cellOf rfl l_X3_30 mvX4_cellOf (by omega) dX3_matchRule_2 rfl rfl (Nat.le_of_ble_eq_true rfl) (fun v2 s2 q2 => ?_) (fun _ _ q => nomatch q.1)
  obtain ⟨e2, h2⟩ := q2; cases e2; replace h2 := h2.symm; subst h2
  refine EW.istore dX3_matchRule_5 (by decide) ?_
  refine EW.aload_n dX3_matchRule_7 rfl rfl ?_
  refine EC.get (k := 12) f_X3_19 dX3_matchRule_8 (by decide) rfl rfl ?_
  refine EW.iload dX3_matchRule_11 rfl ?_
  refine EC.callV (bc := (b1 O)) (bs := (b6 O)) (mc' := 0) (ms' := 0) (k := 8) (C_recall hl 0 s (r * 21 + q) (by omega)) mfX4_recall l_X3_36 mvX4_recall (by omega) dX3_matchRule_13 rfl rfl (by decide) rfl rfl rfl (Nat.le_of_ble_eq_true rfl) (fun v13 s13 q13 => ?_) (fun _ _ q => nomatch q.1)
  obtain ⟨e13, h13⟩ := q13; cases e13; replace h13 := h13.symm; subst h13
  refine EW.istore dX3_matchRule_16 (by decide) ?_
  refine EW.iload dX3_matchRule_18 rfl ?_
  refine EW.bipush (v := -2) dX3_matchRule_20 (by decide +kernel) ?_
  refine EW.icmp_eq 38 dX3_matchRule_22 (by decide) (fun c22 => ?_) (fun c22 => ?_)
  · refine EW.aload_n dX3_matchRule_38 rfl rfl ?_
    refine EW.iload_n dX3_matchRule_39 rfl rfl ?_
    refine EW.iload_n dX3_matchRule_40 rfl rfl ?_
    refine EW.iload_n dX3_matchRule_41 rfl rfl ?_
    refine EW.iload dX3_matchRule_42 rfl ?_
    refine EC.callR (O := O) (k := 12) (hW) mfX3_workOut l_X3_40 mvX3_workOut (by omega) dX3_matchRule_44 rfl rfl (by decide) rfl rfl rfl (Nat.le_of_ble_eq_true rfl) rfl (fun h => Prod.ext h rfl) (fun v44 h44 => ?_)
    refine EW.iret rfl dX3_matchRule_47 ?_
    exact pst_ret (v := v44) (Prod.ext h44 rfl)
  · exact absurd h c22
theorem HRP_all (hl : l.stackTraces = false) : ∀ f, HRP cy ax hp0 l D base n w rl f := by
  intro f
  induction f with
  | zero =>
    intro r q d dd s O hr hq hd hf hMG hdd hev
    have hk20 := KR_20 d
    by_cases h : s.2.1 9 (r * 21 + q) = -2
    · rw [evR_deep h (by omega)] at hev
      subst hev
      exact C_matchW hl r q d dd s _ hr hq hd hMG (by omega) h (C_workOut0 hl r q d (dd - 1) s (by omega) hd (by omega))
    · rw [evR_known h] at hev
      exact C_matchK hl r q d dd s O hr hq hd hMG (by omega) h hev
  | succ f ih =>
    intro r q d dd s O hr hq hd hf hMG hdd hev
    have hk20 := KR_20 d
    by_cases h : s.2.1 9 (r * 21 + q) = -2
    · by_cases h40 : 40 < d
      · rw [evR_deep h h40] at hev
        subst hev
        exact C_matchW hl r q d dd s _ hr hq hd hMG (by omega) h (C_workOut0 hl r q d (dd - 1) s h40 hd (by omega))
      · refine C_matchW hl r q d dd s O hr hq hd hMG (by omega) h ?_
        have h5 := hMG.2.2.2.2 r hr
        unfold evR at hev
        rw [if_pos h, if_neg h40] at hev
        cases hx : rl r with
        | none =>
          rw [hx] at hev h5
          exact C_workOutN hl r q d (dd - 1) s O hr hq (by omega) hMG (by omega) h5 hev
        | some t =>
          rw [hx] at hev h5
          obtain ⟨wt, h24, x, e9, pr, g1, g2, g3, g4⟩ := h5
          exact C_workOut hl r q d (dd - 1) s O hr hq (by omega) hMG (by omega) t (GOP_all hl ih t wt) wt h24 (by omega) x pr e9 g1 g2 g3 g4 hev
    · rw [evR_known h] at hev
      exact C_matchK hl r q d dd s O hr hq hd hMG (by omega) h hev
end C10
