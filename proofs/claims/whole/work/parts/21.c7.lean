section C7
/-- the six rules' expressions: their chains ps, their roots rt -/
def GP (s : CSt) (rt : Nat → Nat) (ps : Nat → List Nat) : Prop := ∀ r, r < 6 → ∀ x, s.2.2.2.1 r = some x → ∃ e9 m9, s.2.2.2.2.2 x = some e9 ∧ e9.2 = some (rt r) ∧ s.2.2.2.2.1 (rt r) = some m9 ∧ lnk s.2.2.2.2.1 nLater (ps r) e9.1
def GOK (s : CSt) (K : Nat → List Nat) (rt : Nat → Nat) (ps : Nat → List Nat) : Prop := ∀ r, r < 6 → ∀ x, s.2.2.2.1 r = some x → ∀ p ∈ ps r, nodeOK s K rt p
theorem GP.sk {s : CSt} {rt : Nat → Nat} {ps : Nat → List Nat} {nd' : Nat → Option ND} (h : GP s rt ps) (hs : skE s.2.2.2.2.1 nd') : GP (ndP s nd') rt ps := by
  intro r hr x hx
  obtain ⟨e9, m9, h1, h2, h3, h4⟩ := h r hr x hx
  obtain ⟨m', hm', -⟩ := hs.get h3
  exact ⟨e9, m', h1, h2, hm', lnk_skL hs _ _ h4⟩
theorem GOK.sk {s : CSt} {K : Nat → List Nat} {rt : Nat → Nat} {ps : Nat → List Nat} {nd' : Nat → Option ND} (h : GOK s K rt ps) (hs : skE s.2.2.2.2.1 nd') : GOK (ndP s nd') K rt ps := fun r hr x hx p hp => (h r hr x hx p hp).sk hs
def rndO (es : Nat → Option Nat) (K : Nat → List Nat) (rt : Nat → Nat) (ps : Nat → List Nat) : Nat → Nat → (Nat → Option ND) → Int32 → (Nat → Option ND) × Int32
  | 0, _, nd, b => (nd, b)
  | n + 1, i, nd, b => match es i with
    | none => rndO es K rt ps n (i + 1) nd (b ||| nI 0)
    | some _ => rndO es K rt ps n (i + 1) (pasO K rt (ps i) nd) (b ||| (if ndO (pasO K rt (ps i) nd) (rt i) = ndO nd (rt i) then nI 0 else nI 1))
def itO (es : Nat → Option Nat) (K : Nat → List Nat) (rt : Nat → Nat) (ps : Nat → List Nat) : Nat → (Nat → Option ND) → (Nat → Option ND)
  | 0, nd => nd
  | k + 1, nd => if (rndO es K rt ps 6 0 nd (nI 0)).2 = 0 then (rndO es K rt ps 6 0 nd (nI 0)).1 else itO es K rt ps k (rndO es K rt ps 6 0 nd (nI 0)).1
def gB (nd : Nat → Option ND) (q : Nat) : Int32 := if ndG nd q = 0 then nI 0 else nI 1
def rndG (es : Nat → Option Nat) (K : Nat → List Nat) (rt : Nat → Nat) (ps : Nat → List Nat) : Nat → Nat → (Nat → Option ND) → Int32 → (Nat → Option ND) × Int32
  | 0, _, nd, b => (nd, b)
  | n + 1, i, nd, b => match es i with
    | none => rndG es K rt ps n (i + 1) nd (b ||| nI 0)
    | some _ => rndG es K rt ps n (i + 1) (pasG K rt (ps i) nd) (b ||| (if gB (pasG K rt (ps i) nd) (rt i) = gB nd (rt i) then nI 0 else nI 1))
def itG (es : Nat → Option Nat) (K : Nat → List Nat) (rt : Nat → Nat) (ps : Nat → List Nat) : Nat → (Nat → Option ND) → (Nat → Option ND)
  | 0, nd => nd
  | k + 1, nd => if (rndG es K rt ps 6 0 nd (nI 0)).2 = 0 then (rndG es K rt ps 6 0 nd (nI 0)).1 else itG es K rt ps k (rndG es K rt ps 6 0 nd (nI 0)).1
theorem rndO_sk {es : Nat → Option Nat} {K : Nat → List Nat} {rt : Nat → Nat} {ps : Nat → List Nat} : ∀ (n i : Nat) (nd : Nat → Option ND) (b : Int32), skE nd (rndO es K rt ps n i nd b).1
  | 0, _, _, _ => skE.rf
  | n + 1, i, nd, b => by
    unfold rndO
    cases es i with
    | none => exact rndO_sk n (i + 1) nd _
    | some _ => exact skE.tr (pasO_sk _ _) (rndO_sk n (i + 1) _ _)
theorem rndG_sk {es : Nat → Option Nat} {K : Nat → List Nat} {rt : Nat → Nat} {ps : Nat → List Nat} : ∀ (n i : Nat) (nd : Nat → Option ND) (b : Int32), skE nd (rndG es K rt ps n i nd b).1
  | 0, _, _, _ => skE.rf
  | n + 1, i, nd, b => by
    unfold rndG
    cases es i with
    | none => exact rndG_sk n (i + 1) nd _
    | some _ => exact skE.tr (pasG_sk _ _) (rndG_sk n (i + 1) _ _)
theorem itO_sk {es : Nat → Option Nat} {K : Nat → List Nat} {rt : Nat → Nat} {ps : Nat → List Nat} : ∀ (k : Nat) (nd : Nat → Option ND), skE nd (itO es K rt ps k nd)
  | 0, _ => skE.rf
  | k + 1, nd => by
    unfold itO
    split
    · exact rndO_sk _ _ _ _
    · exact skE.tr (rndO_sk _ _ _ _) (itO_sk k _)
theorem itG_sk {es : Nat → Option Nat} {K : Nat → List Nat} {rt : Nat → Nat} {ps : Nat → List Nat} : ∀ (k : Nat) (nd : Nat → Option ND), skE nd (itG es K rt ps k nd)
  | 0, _ => skE.rf
  | k + 1, nd => by
    unfold itG
    split
    · exact rndG_sk _ _ _ _
    · exact skE.tr (rndG_sk _ _ _ _) (itG_sk k _)
theorem if01 {c : Prop} [Decidable c] (h : (if c then nI 0 else nI 1) = 0) : c := by
  by_cases hc : c
  · exact hc
  · rw [if_neg hc] at h
    exact absurd h (by decide +kernel)
theorem if10 {c : Prop} [Decidable c] (h : ¬ (if c then nI 0 else nI 1) = 0) : ¬ c := fun hc => h (by rw [if_pos hc]; decide +kernel)
variable {cy : Nat → ClassId} {ax : Nat → Nat} {hp0 : Hp} {l : Launch} {D : va_G} {base : Nat}
set_option maxHeartbeats 4000000 in
theorem C_findOutcomes_in (hl : l.stackTraces = false) (d : Nat) (K : Nat → List Nat) (rt : Nat → Nat) (ps : Nat → List Nat) (p : Nat) (Q : Oc → CSt → Prop) : ∀ (n i : Nat) (b : Int32) (s : CSt), i + n = 6 → GP s rt ps → GOK s K rt ps →
    EW (IC cy ax hp0) l D cy base mX2_findOutcomes (d + 4) 0 0 69 [(0, .ref (ax 6)), (1, .int (rndO s.2.2.2.1 K rt ps n i s.2.2.2.2.1 b).2), (2, .int (nI p))] [] (ndP s (rndO s.2.2.2.1 K rt ps n i s.2.2.2.2.1 b).1) Q →
    EW (IC cy ax hp0) l D cy base mX2_findOutcomes (d + 4) 0 0 28 [(0, .ref (ax 6)), (1, .int b), (2, .int (nI p)), (3, .ref (ax 7)), (4, .int (nI 6)), (5, .int (nI i))] [] s Q := by
  intro n
  induction n with
  | zero =>
    intro i b s hi hG hO k
    refine EW.iload dX2_findOutcomes_28 rfl ?_
    refine EW.iload dX2_findOutcomes_30 rfl ?_
    refine EW.icmp_ge 69 dX2_findOutcomes_32 (by decide) (fun c32 => ?_) (fun c32 => ?_)
    · have c32 : 6 ≤ i := (nI_leI (by omega) (by omega)).mp c32
      exact EW.loc (lv' := [(0, .ref (ax 6)), (1, .int b), (2, .int (nI p))]) ⟨rfl, rfl, rfl, trivial⟩ k
    · have c32 : ¬ (6 ≤ i) := fun h => c32 ((nI_leI (by omega) (by omega)).mpr h); omega
  | succ n ih =>
    intro i b s hi hG hO k
    cases hx : s.2.2.2.1 i with
    | none =>
      have hu : rndO s.2.2.2.1 K rt ps (n + 1) i s.2.2.2.2.1 b = rndO s.2.2.2.1 K rt ps n (i + 1) s.2.2.2.2.1 (b ||| nI 0) := by
        rw [rndO, hx]
      rw [hu] at k
      have IHX := ih (i + 1) (b ||| nI 0) s (by omega) hG hO k
      refine EW.iload dX2_findOutcomes_28 rfl ?_
      refine EW.iload dX2_findOutcomes_30 rfl ?_
      refine EW.icmp_ge 69 dX2_findOutcomes_32 (by decide) (fun c32 => ?_) (fun c32 => ?_)
      · have c32 : 6 ≤ i := (nI_leI (by omega) (by omega)).mp c32; omega
      · have c32 : ¬ (6 ≤ i) := fun h => c32 ((nI_leI (by omega) (by omega)).mpr h)
        refine EW.aload_n dX2_findOutcomes_35 rfl rfl ?_
        refine EW.iload dX2_findOutcomes_36 rfl ?_
        refine EC.ald7 (i) dX2_findOutcomes_38 (by omega) ?_
        refine EW.astoreq dX2_findOutcomes_39 (by decide) ?_
        refine EW.iload_n dX2_findOutcomes_41 rfl rfl ?_
        refine EW.aloadq dX2_findOutcomes_42 rfl ?_
        refine EW.ifnull 60 dX2_findOutcomes_44 (by decide) (fun c44 => ?_) (fun a44 c44 => ?_)
        · refine EW.ic 0 dX2_findOutcomes_60 ?_
          refine EW.ior dX2_findOutcomes_61 ?_
          refine EW.istore_n dX2_findOutcomes_62 rfl (by decide) ?_
          refine EW.iinc dX2_findOutcomes_63 rfl (nI_inc _) (by decide) ?_
          refine EW.goto 28 dX2_findOutcomes_66 (by decide) ?_
          refine EW.loc (lv' := [(0, .ref (ax 6)), (1, .int _), (2, .int (nI p)), (3, .ref (ax 7)), (4, .int (nI 6)), (5, .int (nI (i + 1)))]) ⟨rfl, rfl, rfl, rfl, rfl, rfl, trivial⟩ ?_
          exact IHX
        · rw [hx] at c44; cases c44
    | some x =>
      obtain ⟨e9, m9, he, hq, hm, hps⟩ := hG i (by omega) x hx
      have hu : rndO s.2.2.2.1 K rt ps (n + 1) i s.2.2.2.2.1 b = rndO s.2.2.2.1 K rt ps n (i + 1) (pasO K rt (ps i) s.2.2.2.2.1) (b ||| (if ndO (pasO K rt (ps i) s.2.2.2.2.1) (rt i) = ndO s.2.2.2.2.1 (rt i) then nI 0 else nI 1)) := by
        rw [rndO, hx]
      rw [hu] at k
      have hs := pasO_sk (K := K) (rt := rt) (ps i) s.2.2.2.2.1
      have IHX := ih (i + 1) (b ||| (if ndO (pasO K rt (ps i) s.2.2.2.2.1) (rt i) = ndO s.2.2.2.2.1 (rt i) then nI 0 else nI 1)) (ndP s (pasO K rt (ps i) s.2.2.2.2.1)) (by omega) (hG.sk hs) (hO.sk hs) k
      refine EW.iload dX2_findOutcomes_28 rfl ?_
      refine EW.iload dX2_findOutcomes_30 rfl ?_
      refine EW.icmp_ge 69 dX2_findOutcomes_32 (by decide) (fun c32 => ?_) (fun c32 => ?_)
      · have c32 : 6 ≤ i := (nI_leI (by omega) (by omega)).mp c32; omega
      · have c32 : ¬ (6 ≤ i) := fun h => c32 ((nI_leI (by omega) (by omega)).mpr h)
        refine EW.aload_n dX2_findOutcomes_35 rfl rfl ?_
        refine EW.iload dX2_findOutcomes_36 rfl ?_
        refine EC.ald7 (i) dX2_findOutcomes_38 (by omega) ?_
        refine EW.astoreq dX2_findOutcomes_39 (by decide) ?_
        refine EW.iload_n dX2_findOutcomes_41 rfl rfl ?_
        refine EW.aloadq dX2_findOutcomes_42 rfl ?_
        refine EW.rf hx ?_
        refine EW.ifnull (r := some x) 60 dX2_findOutcomes_44 (by decide) (fun h => nomatch h) (fun _ _ => ?_)
        refine EW.aload_n dX2_findOutcomes_47 rfl rfl ?_
        refine EW.aloadq dX2_findOutcomes_48 rfl ?_
        refine EW.rf hx ?_
        refine EC.callV (bc := 0) (bs := 0) (mc' := 0) (ms' := 0) (k := 6) (C_findOutcomesIn hl d s K rt x (rt i) e9 he hq m9 hm (ps i) hps (hO i (by omega) x hx)) mfX2_findOutcomesIn l_X2_55 mvX2_findOutcomesIn (by omega) dX2_findOutcomes_50 rfl rfl (by decide) rfl rfl rfl (Nat.le_of_ble_eq_true rfl) (fun v50 s50 q50 => ?_) (fun _ _ q => nomatch q.1)
        obtain ⟨e50, h50⟩ := q50; cases e50; replace h50 := h50.symm; subst h50
        refine EW.if_eq 60 dX2_findOutcomes_53 (by decide) (fun c53 => ?_) (fun c53 => ?_)
        · have c53 := if01 c53
          have c53 : ndO (pasO K rt (ps i) s.2.2.2.2.1) (rt i) = ndO s.2.2.2.2.1 (rt i) := c53
          rw [if_pos c53] at IHX
          refine EW.ic 0 dX2_findOutcomes_60 ?_
          refine EW.ior dX2_findOutcomes_61 ?_
          refine EW.istore_n dX2_findOutcomes_62 rfl (by decide) ?_
          refine EW.iinc dX2_findOutcomes_63 rfl (nI_inc _) (by decide) ?_
          refine EW.goto 28 dX2_findOutcomes_66 (by decide) ?_
          refine EW.loc (lv' := [(0, .ref (ax 6)), (1, .int _), (2, .int (nI p)), (3, .ref (ax 7)), (4, .int (nI 6)), (5, .int (nI (i + 1)))]) ⟨rfl, rfl, rfl, rfl, rfl, rfl, trivial⟩ ?_
          exact IHX
        · have c53 := if10 c53
          have c53 : ¬ ndO (pasO K rt (ps i) s.2.2.2.2.1) (rt i) = ndO s.2.2.2.2.1 (rt i) := c53
          rw [if_neg c53] at IHX
          refine EW.ic 1 dX2_findOutcomes_56 ?_
          refine EW.goto 61 dX2_findOutcomes_57 (by decide) ?_
          refine EW.ior dX2_findOutcomes_61 ?_
          refine EW.istore_n dX2_findOutcomes_62 rfl (by decide) ?_
          refine EW.iinc dX2_findOutcomes_63 rfl (nI_inc _) (by decide) ?_
          refine EW.goto 28 dX2_findOutcomes_66 (by decide) ?_
          refine EW.loc (lv' := [(0, .ref (ax 6)), (1, .int _), (2, .int (nI p)), (3, .ref (ax 7)), (4, .int (nI 6)), (5, .int (nI (i + 1)))]) ⟨rfl, rfl, rfl, rfl, rfl, rfl, trivial⟩ ?_
          exact IHX
set_option maxHeartbeats 4000000 in
theorem C_findOutcomes_out (hl : l.stackTraces = false) (d : Nat) (K : Nat → List Nat) (rt : Nat → Nat) (ps : Nat → List Nat) : ∀ (k p : Nat) (s : CSt), p + k = 19 → GP s rt ps → GOK s K rt ps → ∀ b : Int32, ¬ b = 0 →
    EW (IC cy ax hp0) l D cy base mX2_findOutcomes (d + 4) 0 0 4 [(0, .ref (ax 6)), (1, .int b), (2, .int (nI p))] [] s (fun o s2 => o = .inl none ∧ s2 = ndP s (itO s.2.2.2.1 K rt ps k s.2.2.2.2.1)) := by
  intro k
  induction k with
  | zero =>
    intro p s hp hG hO b hb
    refine EW.iload_n dX2_findOutcomes_4 rfl rfl ?_
    refine EW.bp 19 dX2_findOutcomes_5 ?_
    refine EW.icmp_ge 75 dX2_findOutcomes_7 (by decide) (fun c7 => ?_) (fun c7 => ?_)
    · have c7 : 19 ≤ p := (nI_leI (by omega) (by omega)).mp c7
      refine EW.vret rfl dX2_findOutcomes_75 ?_
      exact ⟨rfl, rfl⟩
    · have c7 : ¬ (19 ≤ p) := fun h => c7 ((nI_leI (by omega) (by omega)).mpr h); omega
  | succ k ih =>
    intro p s hp hG hO b hb
    refine EW.iload_n dX2_findOutcomes_4 rfl rfl ?_
    refine EW.bp 19 dX2_findOutcomes_5 ?_
    refine EW.icmp_ge 75 dX2_findOutcomes_7 (by decide) (fun c7 => ?_) (fun c7 => ?_)
    · have c7 : 19 ≤ p := (nI_leI (by omega) (by omega)).mp c7; omega
    · have c7 : ¬ (19 ≤ p) := fun h => c7 ((nI_leI (by omega) (by omega)).mpr h)
      refine EW.iload_n dX2_findOutcomes_10 rfl rfl ?_
      refine EW.if_eq 75 dX2_findOutcomes_11 (by decide) (fun c11 => ?_) (fun c11 => ?_)
      · exact absurd c11 hb
      · refine EW.ic 0 dX2_findOutcomes_14 ?_
        refine EW.istore_n dX2_findOutcomes_15 rfl (by decide) ?_
        refine EW.aload_n dX2_findOutcomes_16 rfl rfl ?_
        refine EC.get (k := 6) f_X2_11 dX2_findOutcomes_17 (by decide) rfl rfl ?_
        refine EW.astore_n dX2_findOutcomes_20 rfl (by decide) ?_
        refine EW.aload_n dX2_findOutcomes_21 rfl rfl ?_
        refine EC.len7 dX2_findOutcomes_22 ?_
        refine EW.istore dX2_findOutcomes_23 (by decide) ?_
        refine EW.ic 0 dX2_findOutcomes_25 ?_
        refine EW.istore dX2_findOutcomes_26 (by decide) ?_
        refine EW.loc (lv' := [(0, .ref (ax 6)), (1, .int (nI 0)), (2, .int (nI p)), (3, .ref (ax 7)), (4, .int (nI 6)), (5, .int (nI 0))]) ⟨rfl, rfl, rfl, rfl, rfl, rfl, trivial⟩ ?_
        refine C_findOutcomes_in hl d K rt ps p _ 6 0 (nI 0) s rfl hG hO ?_
        have hs := rndO_sk (es := s.2.2.2.1) (K := K) (rt := rt) (ps := ps) 6 0 s.2.2.2.2.1 (nI 0)
        refine EW.iinc dX2_findOutcomes_69 rfl (nI_inc _) (by decide) ?_
        refine EW.goto 4 dX2_findOutcomes_72 (by decide) ?_
        refine EW.loc (lv' := [(0, .ref (ax 6)), (1, .int (rndO s.2.2.2.1 K rt ps 6 0 s.2.2.2.2.1 (nI 0)).2), (2, .int (nI (p + 1)))]) ⟨rfl, rfl, rfl, trivial⟩ ?_
        by_cases hz : (rndO s.2.2.2.1 K rt ps 6 0 s.2.2.2.2.1 (nI 0)).2 = 0
        · have hi : itO s.2.2.2.1 K rt ps (k + 1) s.2.2.2.2.1 = (rndO s.2.2.2.1 K rt ps 6 0 s.2.2.2.2.1 (nI 0)).1 := by rw [itO, if_pos hz]
          rw [hi, hz]
          refine EW.iload_n dX2_findOutcomes_4 rfl rfl ?_
          refine EW.bp 19 dX2_findOutcomes_5 ?_
          refine EW.icmp_ge 75 dX2_findOutcomes_7 (by decide) (fun c7 => ?_) (fun c7 => ?_)
          · exact EW.vret rfl dX2_findOutcomes_75 ⟨rfl, rfl⟩
          · refine EW.iload_n dX2_findOutcomes_10 rfl rfl ?_
            refine EW.if_eq 75 dX2_findOutcomes_11 (by decide) (fun c11 => ?_) (fun c11 => absurd rfl c11)
            exact EW.vret rfl dX2_findOutcomes_75 ⟨rfl, rfl⟩
        · have hi : itO s.2.2.2.1 K rt ps (k + 1) s.2.2.2.2.1 = itO s.2.2.2.1 K rt ps k (rndO s.2.2.2.1 K rt ps 6 0 s.2.2.2.2.1 (nI 0)).1 := by rw [itO, if_neg hz]
          rw [hi]
          exact ih (p + 1) (ndP s (rndO s.2.2.2.1 K rt ps 6 0 s.2.2.2.2.1 (nI 0)).1) (by omega) (hG.sk hs) (hO.sk hs) _ hz
set_option maxHeartbeats 4000000 in
theorem C_findOutcomes (hl : l.stackTraces = false) (d : Nat) (s : CSt) (K : Nat → List Nat) (rt : Nat → Nat) (ps : Nat → List Nat) (hG : GP s rt ps) (hO : GOK s K rt ps) : MtW (IC cy ax hp0) l D cy base mX2_findOutcomes (d + 4) 0 0 [.ref (ax 6)] s (fun o s2 => o = .inl none ∧ s2 = ndP s (itO s.2.2.2.1 K rt ps 19 s.2.2.2.2.1)) := by
  refine MtW.of hl mfX2_findOutcomes rfl (Nat.le_of_ble_eq_true rfl) ?_
  refine EW.ic 1 dX2_findOutcomes_0 ?_
  refine EW.istore_n dX2_findOutcomes_1 rfl (by decide) ?_
  refine EW.ic 0 dX2_findOutcomes_2 ?_
  refine EW.istore_n dX2_findOutcomes_3 rfl (by decide) ?_
  exact EW.loc (lv' := [(0, .ref (ax 6)), (1, .int (nI 1)), (2, .int (nI 0))]) ⟨rfl, rfl, rfl, trivial⟩ (C_findOutcomes_out hl d K rt ps 19 0 s rfl hG hO (nI 1) (by decide +kernel))
set_option maxHeartbeats 4000000 in
theorem C_findGood_in (hl : l.stackTraces = false) (d : Nat) (K : Nat → List Nat) (rt : Nat → Nat) (ps : Nat → List Nat) (p : Nat) (Q : Oc → CSt → Prop) : ∀ (n i : Nat) (b : Int32) (s : CSt), i + n = 6 → GP s rt ps → GOK s K rt ps →
    EW (IC cy ax hp0) l D cy base mX2_findGood (d + 4) 0 0 69 [(0, .ref (ax 6)), (1, .int (rndG s.2.2.2.1 K rt ps n i s.2.2.2.2.1 b).2), (2, .int (nI p))] [] (ndP s (rndG s.2.2.2.1 K rt ps n i s.2.2.2.2.1 b).1) Q →
    EW (IC cy ax hp0) l D cy base mX2_findGood (d + 4) 0 0 28 [(0, .ref (ax 6)), (1, .int b), (2, .int (nI p)), (3, .ref (ax 7)), (4, .int (nI 6)), (5, .int (nI i))] [] s Q := by
  intro n
  induction n with
  | zero =>
    intro i b s hi hG hO k
    refine EW.iload dX2_findGood_28 rfl ?_
    refine EW.iload dX2_findGood_30 rfl ?_
    refine EW.icmp_ge 69 dX2_findGood_32 (by decide) (fun c32 => ?_) (fun c32 => ?_)
    · have c32 : 6 ≤ i := (nI_leI (by omega) (by omega)).mp c32
      exact EW.loc (lv' := [(0, .ref (ax 6)), (1, .int b), (2, .int (nI p))]) ⟨rfl, rfl, rfl, trivial⟩ k
    · have c32 : ¬ (6 ≤ i) := fun h => c32 ((nI_leI (by omega) (by omega)).mpr h); omega
  | succ n ih =>
    intro i b s hi hG hO k
    cases hx : s.2.2.2.1 i with
    | none =>
      have hu : rndG s.2.2.2.1 K rt ps (n + 1) i s.2.2.2.2.1 b = rndG s.2.2.2.1 K rt ps n (i + 1) s.2.2.2.2.1 (b ||| nI 0) := by
        rw [rndG, hx]
      rw [hu] at k
      have IHX := ih (i + 1) (b ||| nI 0) s (by omega) hG hO k
      refine EW.iload dX2_findGood_28 rfl ?_
      refine EW.iload dX2_findGood_30 rfl ?_
      refine EW.icmp_ge 69 dX2_findGood_32 (by decide) (fun c32 => ?_) (fun c32 => ?_)
      · have c32 : 6 ≤ i := (nI_leI (by omega) (by omega)).mp c32; omega
      · have c32 : ¬ (6 ≤ i) := fun h => c32 ((nI_leI (by omega) (by omega)).mpr h)
        refine EW.aload_n dX2_findGood_35 rfl rfl ?_
        refine EW.iload dX2_findGood_36 rfl ?_
        refine EC.ald7 (i) dX2_findGood_38 (by omega) ?_
        refine EW.astoreq dX2_findGood_39 (by decide) ?_
        refine EW.iload_n dX2_findGood_41 rfl rfl ?_
        refine EW.aloadq dX2_findGood_42 rfl ?_
        refine EW.ifnull 60 dX2_findGood_44 (by decide) (fun c44 => ?_) (fun a44 c44 => ?_)
        · refine EW.ic 0 dX2_findGood_60 ?_
          refine EW.ior dX2_findGood_61 ?_
          refine EW.istore_n dX2_findGood_62 rfl (by decide) ?_
          refine EW.iinc dX2_findGood_63 rfl (nI_inc _) (by decide) ?_
          refine EW.goto 28 dX2_findGood_66 (by decide) ?_
          refine EW.loc (lv' := [(0, .ref (ax 6)), (1, .int _), (2, .int (nI p)), (3, .ref (ax 7)), (4, .int (nI 6)), (5, .int (nI (i + 1)))]) ⟨rfl, rfl, rfl, rfl, rfl, rfl, trivial⟩ ?_
          exact IHX
        · rw [hx] at c44; cases c44
    | some x =>
      obtain ⟨e9, m9, he, hq, hm, hps⟩ := hG i (by omega) x hx
      have hu : rndG s.2.2.2.1 K rt ps (n + 1) i s.2.2.2.2.1 b = rndG s.2.2.2.1 K rt ps n (i + 1) (pasG K rt (ps i) s.2.2.2.2.1) (b ||| (if gB (pasG K rt (ps i) s.2.2.2.2.1) (rt i) = gB s.2.2.2.2.1 (rt i) then nI 0 else nI 1)) := by
        rw [rndG, hx]
      rw [hu] at k
      have hs := pasG_sk (K := K) (rt := rt) (ps i) s.2.2.2.2.1
      have IHX := ih (i + 1) (b ||| (if gB (pasG K rt (ps i) s.2.2.2.2.1) (rt i) = gB s.2.2.2.2.1 (rt i) then nI 0 else nI 1)) (ndP s (pasG K rt (ps i) s.2.2.2.2.1)) (by omega) (hG.sk hs) (hO.sk hs) k
      refine EW.iload dX2_findGood_28 rfl ?_
      refine EW.iload dX2_findGood_30 rfl ?_
      refine EW.icmp_ge 69 dX2_findGood_32 (by decide) (fun c32 => ?_) (fun c32 => ?_)
      · have c32 : 6 ≤ i := (nI_leI (by omega) (by omega)).mp c32; omega
      · have c32 : ¬ (6 ≤ i) := fun h => c32 ((nI_leI (by omega) (by omega)).mpr h)
        refine EW.aload_n dX2_findGood_35 rfl rfl ?_
        refine EW.iload dX2_findGood_36 rfl ?_
        refine EC.ald7 (i) dX2_findGood_38 (by omega) ?_
        refine EW.astoreq dX2_findGood_39 (by decide) ?_
        refine EW.iload_n dX2_findGood_41 rfl rfl ?_
        refine EW.aloadq dX2_findGood_42 rfl ?_
        refine EW.rf hx ?_
        refine EW.ifnull (r := some x) 60 dX2_findGood_44 (by decide) (fun h => nomatch h) (fun _ _ => ?_)
        refine EW.aload_n dX2_findGood_47 rfl rfl ?_
        refine EW.aloadq dX2_findGood_48 rfl ?_
        refine EW.rf hx ?_
        refine EC.callV (bc := 0) (bs := 0) (mc' := 0) (ms' := 0) (k := 6) (C_findGoodIn hl d s K rt x (rt i) e9 he hq m9 hm (ps i) hps (hO i (by omega) x hx)) mfX2_findGoodIn l_X2_111 mvX2_findGoodIn (by omega) dX2_findGood_50 rfl rfl (by decide) rfl rfl rfl (Nat.le_of_ble_eq_true rfl) (fun v50 s50 q50 => ?_) (fun _ _ q => nomatch q.1)
        obtain ⟨e50, h50⟩ := q50; cases e50; replace h50 := h50.symm; subst h50
        refine EW.if_eq 60 dX2_findGood_53 (by decide) (fun c53 => ?_) (fun c53 => ?_)
        · have c53 := if01 c53
          have c53 : gB (pasG K rt (ps i) s.2.2.2.2.1) (rt i) = gB s.2.2.2.2.1 (rt i) := c53
          rw [if_pos c53] at IHX
          refine EW.ic 0 dX2_findGood_60 ?_
          refine EW.ior dX2_findGood_61 ?_
          refine EW.istore_n dX2_findGood_62 rfl (by decide) ?_
          refine EW.iinc dX2_findGood_63 rfl (nI_inc _) (by decide) ?_
          refine EW.goto 28 dX2_findGood_66 (by decide) ?_
          refine EW.loc (lv' := [(0, .ref (ax 6)), (1, .int _), (2, .int (nI p)), (3, .ref (ax 7)), (4, .int (nI 6)), (5, .int (nI (i + 1)))]) ⟨rfl, rfl, rfl, rfl, rfl, rfl, trivial⟩ ?_
          exact IHX
        · have c53 := if10 c53
          have c53 : ¬ gB (pasG K rt (ps i) s.2.2.2.2.1) (rt i) = gB s.2.2.2.2.1 (rt i) := c53
          rw [if_neg c53] at IHX
          refine EW.ic 1 dX2_findGood_56 ?_
          refine EW.goto 61 dX2_findGood_57 (by decide) ?_
          refine EW.ior dX2_findGood_61 ?_
          refine EW.istore_n dX2_findGood_62 rfl (by decide) ?_
          refine EW.iinc dX2_findGood_63 rfl (nI_inc _) (by decide) ?_
          refine EW.goto 28 dX2_findGood_66 (by decide) ?_
          refine EW.loc (lv' := [(0, .ref (ax 6)), (1, .int _), (2, .int (nI p)), (3, .ref (ax 7)), (4, .int (nI 6)), (5, .int (nI (i + 1)))]) ⟨rfl, rfl, rfl, rfl, rfl, rfl, trivial⟩ ?_
          exact IHX
set_option maxHeartbeats 4000000 in
theorem C_findGood_out (hl : l.stackTraces = false) (d : Nat) (K : Nat → List Nat) (rt : Nat → Nat) (ps : Nat → List Nat) : ∀ (k p : Nat) (s : CSt), p + k = 19 → GP s rt ps → GOK s K rt ps → ∀ b : Int32, ¬ b = 0 →
    EW (IC cy ax hp0) l D cy base mX2_findGood (d + 4) 0 0 4 [(0, .ref (ax 6)), (1, .int b), (2, .int (nI p))] [] s (fun o s2 => o = .inl none ∧ s2 = ndP s (itG s.2.2.2.1 K rt ps k s.2.2.2.2.1)) := by
  intro k
  induction k with
  | zero =>
    intro p s hp hG hO b hb
    refine EW.iload_n dX2_findGood_4 rfl rfl ?_
    refine EW.bp 19 dX2_findGood_5 ?_
    refine EW.icmp_ge 75 dX2_findGood_7 (by decide) (fun c7 => ?_) (fun c7 => ?_)
    · have c7 : 19 ≤ p := (nI_leI (by omega) (by omega)).mp c7
      refine EW.vret rfl dX2_findGood_75 ?_
      exact ⟨rfl, rfl⟩
    · have c7 : ¬ (19 ≤ p) := fun h => c7 ((nI_leI (by omega) (by omega)).mpr h); omega
  | succ k ih =>
    intro p s hp hG hO b hb
    refine EW.iload_n dX2_findGood_4 rfl rfl ?_
    refine EW.bp 19 dX2_findGood_5 ?_
    refine EW.icmp_ge 75 dX2_findGood_7 (by decide) (fun c7 => ?_) (fun c7 => ?_)
    · have c7 : 19 ≤ p := (nI_leI (by omega) (by omega)).mp c7; omega
    · have c7 : ¬ (19 ≤ p) := fun h => c7 ((nI_leI (by omega) (by omega)).mpr h)
      refine EW.iload_n dX2_findGood_10 rfl rfl ?_
      refine EW.if_eq 75 dX2_findGood_11 (by decide) (fun c11 => ?_) (fun c11 => ?_)
      · exact absurd c11 hb
      · refine EW.ic 0 dX2_findGood_14 ?_
        refine EW.istore_n dX2_findGood_15 rfl (by decide) ?_
        refine EW.aload_n dX2_findGood_16 rfl rfl ?_
        refine EC.get (k := 6) f_X2_11 dX2_findGood_17 (by decide) rfl rfl ?_
        refine EW.astore_n dX2_findGood_20 rfl (by decide) ?_
        refine EW.aload_n dX2_findGood_21 rfl rfl ?_
        refine EC.len7 dX2_findGood_22 ?_
        refine EW.istore dX2_findGood_23 (by decide) ?_
        refine EW.ic 0 dX2_findGood_25 ?_
        refine EW.istore dX2_findGood_26 (by decide) ?_
        refine EW.loc (lv' := [(0, .ref (ax 6)), (1, .int (nI 0)), (2, .int (nI p)), (3, .ref (ax 7)), (4, .int (nI 6)), (5, .int (nI 0))]) ⟨rfl, rfl, rfl, rfl, rfl, rfl, trivial⟩ ?_
        refine C_findGood_in hl d K rt ps p _ 6 0 (nI 0) s rfl hG hO ?_
        have hs := rndG_sk (es := s.2.2.2.1) (K := K) (rt := rt) (ps := ps) 6 0 s.2.2.2.2.1 (nI 0)
        refine EW.iinc dX2_findGood_69 rfl (nI_inc _) (by decide) ?_
        refine EW.goto 4 dX2_findGood_72 (by decide) ?_
        refine EW.loc (lv' := [(0, .ref (ax 6)), (1, .int (rndG s.2.2.2.1 K rt ps 6 0 s.2.2.2.2.1 (nI 0)).2), (2, .int (nI (p + 1)))]) ⟨rfl, rfl, rfl, trivial⟩ ?_
        by_cases hz : (rndG s.2.2.2.1 K rt ps 6 0 s.2.2.2.2.1 (nI 0)).2 = 0
        · have hi : itG s.2.2.2.1 K rt ps (k + 1) s.2.2.2.2.1 = (rndG s.2.2.2.1 K rt ps 6 0 s.2.2.2.2.1 (nI 0)).1 := by rw [itG, if_pos hz]
          rw [hi, hz]
          refine EW.iload_n dX2_findGood_4 rfl rfl ?_
          refine EW.bp 19 dX2_findGood_5 ?_
          refine EW.icmp_ge 75 dX2_findGood_7 (by decide) (fun c7 => ?_) (fun c7 => ?_)
          · exact EW.vret rfl dX2_findGood_75 ⟨rfl, rfl⟩
          · refine EW.iload_n dX2_findGood_10 rfl rfl ?_
            refine EW.if_eq 75 dX2_findGood_11 (by decide) (fun c11 => ?_) (fun c11 => absurd rfl c11)
            exact EW.vret rfl dX2_findGood_75 ⟨rfl, rfl⟩
        · have hi : itG s.2.2.2.1 K rt ps (k + 1) s.2.2.2.2.1 = itG s.2.2.2.1 K rt ps k (rndG s.2.2.2.1 K rt ps 6 0 s.2.2.2.2.1 (nI 0)).1 := by rw [itG, if_neg hz]
          rw [hi]
          exact ih (p + 1) (ndP s (rndG s.2.2.2.1 K rt ps 6 0 s.2.2.2.2.1 (nI 0)).1) (by omega) (hG.sk hs) (hO.sk hs) _ hz
set_option maxHeartbeats 4000000 in
theorem C_findGood (hl : l.stackTraces = false) (d : Nat) (s : CSt) (K : Nat → List Nat) (rt : Nat → Nat) (ps : Nat → List Nat) (hG : GP s rt ps) (hO : GOK s K rt ps) : MtW (IC cy ax hp0) l D cy base mX2_findGood (d + 4) 0 0 [.ref (ax 6)] s (fun o s2 => o = .inl none ∧ s2 = ndP s (itG s.2.2.2.1 K rt ps 19 s.2.2.2.2.1)) := by
  refine MtW.of hl mfX2_findGood rfl (Nat.le_of_ble_eq_true rfl) ?_
  refine EW.ic 1 dX2_findGood_0 ?_
  refine EW.istore_n dX2_findGood_1 rfl (by decide) ?_
  refine EW.ic 0 dX2_findGood_2 ?_
  refine EW.istore_n dX2_findGood_3 rfl (by decide) ?_
  exact EW.loc (lv' := [(0, .ref (ax 6)), (1, .int (nI 1)), (2, .int (nI 0))]) ⟨rfl, rfl, rfl, trivial⟩ (C_findGood_out hl d K rt ps 19 0 s rfl hG hO (nI 1) (by decide +kernel))
end C7
