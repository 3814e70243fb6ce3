section M23
variable {cy : Nat → ClassId} {ad : Nat → Nat} {hp0 : Hp} {l : Launch} {D : va_G} {base : Nat}
/-- only the block of rule r (without depths) has changed -/
def frC (r : Nat) (s s2 : MSt) : Prop := s2.1 = s.1 ∧ ∀ k x, ¬ (pk k ∧ 64 * r ≤ x ∧ x < 64 * r + 64) → s2.2 k x = s.2 k x
theorem frC.rf {r : Nat} {s : MSt} : frC r s s := ⟨rfl, fun _ _ _ => rfl⟩
theorem frC.tr {r : Nat} {a b c : MSt} (f : frC r a b) (g : frC r b c) : frC r a c := ⟨g.1.trans f.1, fun k x h => (g.2 k x h).trans (f.2 k x h)⟩
def cpS (r i : Nat) (s : MSt) : MSt := aU 9 (64 * r + i) (vp_nar .boolean (s.2 9 (384 + i))) (aU 7 (64 * r + i) (s.2 7 (384 + i)) (aU 6 (64 * r + i) (s.2 6 (384 + i)) (aU 5 (64 * r + i) (s.2 5 (384 + i)) s)))
theorem cpS_fr {r i : Nat} {s : MSt} (hi : i < 64) : frC r s (cpS r i s) := ⟨rfl, fun k x h => by
  unfold cpS
  rw [aU_2, if_neg (fun c => h ⟨Or.inr (Or.inr (Or.inr c.1)), by omega, by omega⟩), aU_2, if_neg (fun c => h ⟨Or.inr (Or.inr (Or.inl c.1)), by omega, by omega⟩), aU_2, if_neg (fun c => h ⟨Or.inr (Or.inl c.1), by omega, by omega⟩), aU_2, if_neg (fun c => h ⟨Or.inl c.1, by omega, by omega⟩)]⟩
def nk (k : Nat) (v : Int32) : Int32 := if k = 9 then vp_nar .boolean v else v
theorem cpS_v {r i : Nat} {s : MSt} {k : Nat} (hk : pk k) : (cpS r i s).2 k (64 * r + i) = nk k (s.2 k (384 + i)) := by
  unfold cpS nk
  rcases hk with rfl | rfl | rfl | rfl
  · simp [aU_2]
  · simp [aU_2]
  · simp [aU_2]
  · rw [aU_2, if_pos ⟨rfl, rfl⟩, if_pos rfl]
/-- only what lies from place a on in the block of rule r has changed -/
def frA (r a : Nat) (s s2 : MSt) : Prop := s2.1 = s.1 ∧ ∀ k x, ¬ (pk k ∧ 64 * r + a ≤ x ∧ x < 64 * r + 64) → s2.2 k x = s.2 k x
theorem frA.C {r a : Nat} {s s2 : MSt} (f : frA r a s s2) : frC r s s2 := ⟨f.1, fun k x h => f.2 k x (fun c => h ⟨c.1, by omega, by omega⟩)⟩
theorem cpS_frA {r i : Nat} {s : MSt} (hi : i < 64) : frA r i s (cpS r i s) := ⟨rfl, fun k x h => by
  unfold cpS
  rw [aU_2, if_neg (fun c => h ⟨Or.inr (Or.inr (Or.inr c.1)), by omega, by omega⟩), aU_2, if_neg (fun c => h ⟨Or.inr (Or.inr (Or.inl c.1)), by omega, by omega⟩), aU_2, if_neg (fun c => h ⟨Or.inr (Or.inl c.1), by omega, by omega⟩), aU_2, if_neg (fun c => h ⟨Or.inl c.1, by omega, by omega⟩)]⟩
set_option maxHeartbeats 4000000 in
theorem M_rule_cp (dd r z : Nat) (hr : r < 6) (hz9 : z < 64) (Q : Oc → MSt → Prop) : ∀ (m i : Nat) (s : MSt), i + m = z → s.2 10 6 = nI z → (∀ s2, frA r i s s2 → (∀ j, i ≤ j → j < z → ∀ k, pk k → s2.2 k (64 * r + j) = nk k (s.2 k (384 + j))) → EW (IM cy ad hp0) l D cy base mX9_rule dd 0 0 152 [(0, .ref (ad 43)), (2, .int (nI r))] [] s2 Q) → EW (IM cy ad hp0) l D cy base mX9_rule dd 0 0 59 [(0, .ref (ad 43)), (2, .int (nI r)), (3, .int (nI i))] [] s Q
  | 0, i, s, hi, hz, K => by
    refine EW.iload_n dX9_rule_59 rfl rfl ?_
    refine EW.aload_n dX9_rule_60 rfl rfl ?_
    refine EM.get f_X9_33 dX9_rule_61 rfl ?_
    refine EW.bp 6 dX9_rule_64 ?_
    refine EM.ialdN 6 dX9_rule_66 rfl rfl (by simp only [mLen]; omega) ?_
    refine EW.top hz ?_
    refine EW.icmp_ge 152 dX9_rule_67 (by decide) (fun c67 => ?_) (fun c67 => ?_)
    · have c67 : z ≤ i := (nI_leI (by omega) (by omega)).mp c67
      exact EW.loc (lv' := [(0, .ref (ad 43)), (2, .int (nI r))]) ⟨rfl, rfl, trivial⟩ (K s ⟨rfl, fun _ _ _ => rfl⟩ (fun j h1 h2 => absurd h1 (by omega)))
    · have c67 : ¬ (z ≤ i) := fun h => c67 ((nI_leI (by omega) (by omega)).mpr h); omega
  | m + 1, i, s, hi, hz, K => by
    refine EW.iload_n dX9_rule_59 rfl rfl ?_
    refine EW.aload_n dX9_rule_60 rfl rfl ?_
    refine EM.get f_X9_33 dX9_rule_61 rfl ?_
    refine EW.bp 6 dX9_rule_64 ?_
    refine EM.ialdN 6 dX9_rule_66 rfl rfl (by simp only [mLen]; omega) ?_
    refine EW.top hz ?_
    refine EW.icmp_ge 152 dX9_rule_67 (by decide) (fun c67 => ?_) (fun c67 => ?_)
    · have c67 : z ≤ i := (nI_leI (by omega) (by omega)).mp c67; omega
    · have c67 : ¬ (z ≤ i) := fun h => c67 ((nI_leI (by omega) (by omega)).mpr h)
      refine EW.bp 64 dX9_rule_70 ?_
      refine EW.iload_n dX9_rule_72 rfl rfl ?_
      refine EW.imul dX9_rule_73 ?_
      refine EW.top (pk_mul _ _) ?_
      refine EW.iload_n dX9_rule_74 rfl rfl ?_
      refine EW.iadd dX9_rule_75 ?_
      refine EW.top (nI_add _ _) ?_
      refine EW.istore dX9_rule_76 (by decide) ?_
      refine EW.aload_n dX9_rule_78 rfl rfl ?_
      refine EM.get f_X9_17 dX9_rule_79 rfl ?_
      refine EW.iload dX9_rule_82 rfl ?_
      refine EW.aload_n dX9_rule_84 rfl rfl ?_
      refine EM.get f_X9_17 dX9_rule_85 rfl ?_
      refine EW.sp 384 dX9_rule_88 ?_
      refine EW.iload_n dX9_rule_91 rfl rfl ?_
      refine EW.iadd dX9_rule_92 ?_
      refine EW.top (nI_add _ _) ?_
      refine EM.ialdN (384 + i) dX9_rule_93 rfl rfl (by simp only [mLen]; omega) ?_
      refine EM.iastN ((64 * r) + i) dX9_rule_94 rfl rfl (by simp only [mLen]; omega) ?_
      refine EW.aload_n dX9_rule_95 rfl rfl ?_
      refine EM.get f_X9_20 dX9_rule_96 rfl ?_
      refine EW.iload dX9_rule_99 rfl ?_
      refine EW.aload_n dX9_rule_101 rfl rfl ?_
      refine EM.get f_X9_20 dX9_rule_102 rfl ?_
      refine EW.sp 384 dX9_rule_105 ?_
      refine EW.iload_n dX9_rule_108 rfl rfl ?_
      refine EW.iadd dX9_rule_109 ?_
      refine EW.top (nI_add _ _) ?_
      refine EM.ialdN (384 + i) dX9_rule_110 rfl rfl (by simp only [mLen]; omega) ?_
      refine EM.iastN ((64 * r) + i) dX9_rule_111 rfl rfl (by simp only [mLen]; omega) ?_
      refine EW.aload_n dX9_rule_112 rfl rfl ?_
      refine EM.get f_X9_23 dX9_rule_113 rfl ?_
      refine EW.iload dX9_rule_116 rfl ?_
      refine EW.aload_n dX9_rule_118 rfl rfl ?_
      refine EM.get f_X9_23 dX9_rule_119 rfl ?_
      refine EW.sp 384 dX9_rule_122 ?_
      refine EW.iload_n dX9_rule_125 rfl rfl ?_
      refine EW.iadd dX9_rule_126 ?_
      refine EW.top (nI_add _ _) ?_
      refine EM.ialdN (384 + i) dX9_rule_127 rfl rfl (by simp only [mLen]; omega) ?_
      refine EM.iastN ((64 * r) + i) dX9_rule_128 rfl rfl (by simp only [mLen]; omega) ?_
      refine EW.aload_n dX9_rule_129 rfl rfl ?_
      refine EM.get f_X9_29 dX9_rule_130 rfl ?_
      refine EW.iload dX9_rule_133 rfl ?_
      refine EW.aload_n dX9_rule_135 rfl rfl ?_
      refine EM.get f_X9_29 dX9_rule_136 rfl ?_
      refine EW.sp 384 dX9_rule_139 ?_
      refine EW.iload_n dX9_rule_142 rfl rfl ?_
      refine EW.iadd dX9_rule_143 ?_
      refine EW.top (nI_add _ _) ?_
      refine EM.zaldN (384 + i) dX9_rule_144 rfl rfl (by simp only [mLen]; omega) ?_
      refine EM.zastN ((64 * r) + i) dX9_rule_145 rfl rfl (by simp only [mLen]; omega) ?_
      refine EW.iinc dX9_rule_146 rfl (nI_inc _) (by decide) ?_
      refine EW.goto 59 dX9_rule_149 (by decide) ?_
      have e1 : ∀ v, (aU 5 (64 * r + i) v s).2 6 (384 + i) = s.2 6 (384 + i) := fun v => by rw [aU_2, if_neg (by omega)]
      have e2 : ∀ v u, (aU 6 (64 * r + i) u (aU 5 (64 * r + i) v s)).2 7 (384 + i) = s.2 7 (384 + i) := fun v u => by rw [aU_2, if_neg (by omega), aU_2, if_neg (by omega)]
      have e3 : ∀ v u x, (aU 7 (64 * r + i) x (aU 6 (64 * r + i) u (aU 5 (64 * r + i) v s))).2 9 (384 + i) = s.2 9 (384 + i) := fun v u x => by rw [aU_2, if_neg (by omega), aU_2, if_neg (by omega), aU_2, if_neg (by omega)]
      refine EW.eqs (s' := cpS r i s) ?_ ?_
      · show aU 9 (64 * r + i) (vp_nar .boolean ((aU 7 (64 * r + i) ((aU 6 (64 * r + i) ((aU 5 (64 * r + i) (s.2 5 (384 + i)) s).2 6 (384 + i)) (aU 5 (64 * r + i) (s.2 5 (384 + i)) s)).2 7 (384 + i)) (aU 6 (64 * r + i) ((aU 5 (64 * r + i) (s.2 5 (384 + i)) s).2 6 (384 + i)) (aU 5 (64 * r + i) (s.2 5 (384 + i)) s))).2 9 (384 + i))) (aU 7 (64 * r + i) ((aU 6 (64 * r + i) ((aU 5 (64 * r + i) (s.2 5 (384 + i)) s).2 6 (384 + i)) (aU 5 (64 * r + i) (s.2 5 (384 + i)) s)).2 7 (384 + i)) (aU 6 (64 * r + i) ((aU 5 (64 * r + i) (s.2 5 (384 + i)) s).2 6 (384 + i)) (aU 5 (64 * r + i) (s.2 5 (384 + i)) s))) = cpS r i s
        rw [e3, e2, e1]
        rfl
      refine EW.loc (lv' := [(0, .ref (ad 43)), (2, .int (nI r)), (3, .int (nI (i + 1)))]) ⟨rfl, rfl, rfl, trivial⟩ ?_
      refine EW.loc (lv' := [(0, .ref (ad 43)), (2, .int (nI r)), (3, .int (nI (i + 1)))]) ⟨rfl, rfl, rfl, trivial⟩ ?_
      have F := cpS_frA (r := r) (i := i) (s := s) (by omega)
      have q : ∀ k j, j < 64 → (cpS r i s).2 k (384 + j) = s.2 k (384 + j) := fun k j hj => F.2 k _ (fun c => by omega)
      refine M_rule_cp dd r z hr hz9 Q m (i + 1) (cpS r i s) (by omega) ((F.2 10 6 (fun c => by have := c.1; unfold pk at this; omega)).trans hz) (fun s2 f2 h2 => K s2 ⟨f2.1.trans F.1, fun k x h => (f2.2 k x (fun c => h ⟨c.1, by omega, by omega⟩)).trans (F.2 k x h)⟩ (fun j h3 h4 k hk => ?_))
      by_cases e : j = i
      · subst e
        rw [f2.2 k _ (fun c => by omega)]
        exact cpS_v hk
      · rw [h2 j (by omega) h4 k hk, q k j (by omega)]
theorem TXM.f0 {s : MSt} {n : Nat} {tx : Nat → Nat} {v : Int32} (h : TXM s n tx) : TXM (fU 0 v s) n tx := ⟨by rw [fU_1, if_neg (by decide)]; exact h.1, h.2⟩
set_option maxHeartbeats 4000000 in
theorem M_ruleF (hl : l.stackTraces = false) (dd n : Nat) (tx : Nat → Nat) (s : MSt) (hdd : 7 ≤ dd) (hT : TXM s n tx) (f b9 : Nat) (hf : f < 1000) (hP : pRead tx n = (none, f)) : MtW (IM cy ad hp0) l D cy base mX9_rule dd 0 0 [.ref (ad 43)] s (fun o s2 => o = .inl (some (.int (nI (1 + f)))) ∧ ∃ s1, FPR 0 0 0 0 (fU 0 (nI 0) s) s1 ∧ s2 = fU 1 (nI 0) s1) := by
  have hn9 := hT.2.1
  have hz0 := hT.2.2.2.2
  have ht0 := hT.2.2.2.1 0
  refine MtW.of hl mfX9_rule rfl (Nat.le_of_ble_eq_true rfl) ?_
  refine EW.aload_n dX9_rule_0 rfl rfl ?_
  refine EW.ic 0 dX9_rule_1 ?_
  refine EM.put f_X9_105 dX9_rule_2 rfl ?_
  refine EW.aload_n dX9_rule_5 rfl rfl ?_
  refine EM.callV (M_read (n := n) (tx := tx) (dd := 6) hl (Nat.le_refl _) (fU 0 (nI 0) s) hT.f0) mfX9_read l_X9_158 mvX9_read (by omega) dX9_rule_6 rfl rfl rfl rfl (Nat.le_of_ble_eq_true rfl) (fun X s9 q => by rw [hP] at q; exact nomatch q.2) (fun v6 s6 q6 => ?_)
  rw [hP] at q6
  obtain ⟨f1, q1⟩ := q6
  cases q1
  have hn1 : s6.1 1 = nI n := (f1.1 1 (by decide) (by decide) (by decide)).trans hT.f0.1
  have hp1 : 0 < n → s6.2 2 0 = nI (tx 0) := fun h => (f1.2 2 0 (by unfold pk; omega) (by omega) (by omega) (by omega) (by omega)).trans (hT.f0.2.2.1 0 h)
  refine EW.istore_n dX9_rule_9 rfl (by decide) ?_
  refine EW.aload_n dX9_rule_10 rfl rfl ?_
  refine EM.get f_X9_120 dX9_rule_11 rfl ?_
  refine EW.top hn1 ?_
  refine EW.if_le 29 dX9_rule_14 (by decide) (fun c14 => ?_) (fun c14 => ?_)
  · have c14 : n = 0 := (nI_le0 (by omega)).mp c14
    refine EW.ic 0 dX9_rule_29 ?_
    refine EW.istore_n dX9_rule_30 rfl (by decide) ?_
    refine EW.aload_n dX9_rule_31 rfl rfl ?_
    refine EW.ic 0 dX9_rule_32 ?_
    refine EM.put f_X9_120 dX9_rule_33 rfl ?_
    refine EW.iload_n dX9_rule_36 rfl rfl ?_
    refine EW.if_lt 44 dX9_rule_37 (by decide) (fun c37 => ?_) (fun c37 => ?_)
    · exact absurd c37 (nI_pos (by omega))
    · refine EW.ic 1 dX9_rule_40 ?_
      refine EW.iload_n dX9_rule_41 rfl rfl ?_
      refine EW.iadd dX9_rule_42 ?_
      refine EW.top (nI_add _ _) ?_
      refine EW.iret rfl dX9_rule_43 ?_
      exact ⟨rfl, s6, f1, rfl⟩
  · have c14 : ¬ n = 0 := fun h => c14 ((nI_le0 (by omega)).mpr h)
    refine EW.aload_n dX9_rule_17 rfl rfl ?_
    refine EM.get f_X9_7 dX9_rule_18 rfl ?_
    refine EW.ic 0 dX9_rule_21 ?_
    refine EM.caldN 0 dX9_rule_22 rfl rfl (by simp only [mLen]; omega) ?_
    refine EW.bp 65 dX9_rule_23 ?_
    refine EW.isub dX9_rule_25 ?_
    refine EW.goto 30 dX9_rule_26 (by decide) ?_
    refine EW.istore_n dX9_rule_30 rfl (by decide) ?_
    refine EW.aload_n dX9_rule_31 rfl rfl ?_
    refine EW.ic 0 dX9_rule_32 ?_
    refine EM.put f_X9_120 dX9_rule_33 rfl ?_
    refine EW.iload_n dX9_rule_36 rfl rfl ?_
    refine EW.if_lt 44 dX9_rule_37 (by decide) (fun c37 => ?_) (fun c37 => ?_)
    · exact absurd c37 (nI_pos (by omega))
    · refine EW.ic 1 dX9_rule_40 ?_
      refine EW.iload_n dX9_rule_41 rfl rfl ?_
      refine EW.iadd dX9_rule_42 ?_
      refine EW.top (nI_add _ _) ?_
      refine EW.iret rfl dX9_rule_43 ?_
      exact ⟨rfl, s6, f1, rfl⟩
theorem encP_mv {H H' : Nat → Nat → Int32} {B B' : Nat} : ∀ t, wf t → ∀ o, (∀ k x, pk k → o ≤ x → x < o + sz t → H' k (B' + x) = nk k (H k (B + x))) → encP H B t o → encP H' B' t o := by
  refine ast_ind (fun lo hi _ _ o hH h => ?_) (fun r _ o hH h => ?_) (fun m a b _ _ wa wb ha hb o hH h => ?_) (fun k e _ _ we he o hH h => ?_)
  · have hs : sz (xR lo hi) = 1 := rfl
    rw [hs] at hH
    have q := fun k hk => hH k o hk (Nat.le_refl _) (by omega)
    obtain ⟨h1, h2, h3⟩ := h
    exact ⟨((q 5 (Or.inl rfl)).trans (show nk 5 _ = _ from h1)), ((q 6 (Or.inr (Or.inl rfl))).trans (show nk 6 _ = _ from h2)), ((q 7 (Or.inr (Or.inr (Or.inl rfl)))).trans (show nk 7 _ = _ from h3))⟩
  · have hs : sz (xC r) = 1 := rfl
    rw [hs] at hH
    have q := fun k hk => hH k o hk (Nat.le_refl _) (by omega)
    obtain ⟨h1, h2⟩ := h
    exact ⟨((q 5 (Or.inl rfl)).trans (show nk 5 _ = _ from h1)), ((q 6 (Or.inr (Or.inl rfl))).trans (show nk 6 _ = _ from h2))⟩
  · have hs : sz (xB m a b) = sz a + sz b + 1 := rfl
    rw [hs] at hH
    have q := fun k hk => hH k (o + sz a + sz b) hk (by omega) (by omega)
    obtain ⟨ga, gb, h1, h2, h3, h4⟩ := h
    exact ⟨ha o (fun k x hk h5 h6 => hH k x hk h5 (by omega)) ga, hb _ (fun k x hk h5 h6 => hH k x hk (by omega) (by omega)) gb, ((q 5 (Or.inl rfl)).trans (show nk 5 _ = _ from h1)), ((q 6 (Or.inr (Or.inl rfl))).trans (show nk 6 _ = _ from h2)), ((q 7 (Or.inr (Or.inr (Or.inl rfl)))).trans (show nk 7 _ = _ from h3)), ((q 9 (Or.inr (Or.inr (Or.inr rfl)))).trans (by rw [h4]; exact bN (by omega)))⟩
  · have hs : sz (xS k e) = sz e + 1 := rfl
    rw [hs] at hH
    have q := fun k hk => hH k (o + sz e) hk (by omega) (by omega)
    obtain ⟨ge, h1, h2, h3⟩ := h
    exact ⟨he o (fun k x hk h5 h6 => hH k x hk h5 (by omega)) ge, ((q 5 (Or.inl rfl)).trans (show nk 5 _ = _ from h1)), ((q 6 (Or.inr (Or.inl rfl))).trans (show nk 6 _ = _ from h2)), ((q 7 (Or.inr (Or.inr (Or.inl rfl)))).trans (show nk 7 _ = _ from h3))⟩
/-- what a new rule leaves as it was -/
def frN (r : Nat) (s s2 : MSt) : Prop := (∀ j, j ≠ 0 → j ≠ 1 → j ≠ 35 → j ≠ 36 → j ≠ 38 → s2.1 j = s.1 j) ∧ s2.1 0 = nI 0 ∧ s2.1 1 = nI 0 ∧ ∀ k x, ¬ (pk k ∧ 384 ≤ x) → ¬ (5 ≤ k ∧ k ≤ 9 ∧ 64 * r ≤ x ∧ x < 64 * r + 64) → ¬ (k = 10 ∧ (x = 6 ∨ x = r)) → k ≠ 13 → ¬ (37 ≤ k ∧ k ≤ 42) → s2.2 k x = s.2 k x
theorem rule_fin {s s6 s1 s2 s3 : MSt} {r : Nat} {t : Ex} {mf : Nat → Int32} (wt : wf t) (hz : sz t ≤ 63) (hr : r < 6) (f1 : FPR 0 0 0 0 (fU 0 (nI 0) s) s6) (hs1 : aU 10 r (nI (sz t)) (fU 1 (nI 0) s6) = s1) (f2 : frA r 0 s1 s2) (hF8 : fr8 (64 * r) (64 * r + sz t) s2 s3) (hE8 : enc s3.2 (64 * r) t 0 0) (hs2f : s2.2 10 r = nI (sz t)) (hmf : ∀ j, j < 126 → mf j = -2) : enc (s3.1, va_up s3.2 13 mf).2 (64 * r) t 0 0 ∧ (s3.1, va_up s3.2 13 mf).2 10 r = nI (sz t) ∧ (∀ j, j < 126 → (s3.1, va_up s3.2 13 mf).2 13 j = -2) ∧ frN r s (s3.1, va_up s3.2 13 mf) := by
  have G1 : ∀ k x, ¬ (k = 10 ∧ x = r) → s1.2 k x = s6.2 k x := fun k x h => by rw [← hs1, aU_2, if_neg h]; rfl
  have G3 : ∀ k x, k ≠ 13 → (s3.1, va_up s3.2 13 mf).2 k x = s3.2 k x := fun k x h => by show va_up s3.2 13 mf k x = _; rw [va_up_ne _ _ h]
  have G4 : s3.1 = s1.1 := hF8.1.trans f2.1
  have G5 : ∀ j, s3.1 j = (fU 1 (nI 0) s6).1 j := fun j => by rw [G4, ← hs1, aU_1]
  refine ⟨enc_fr (fun k x a b => G3 k x (by omega)) t wt _ _ hE8, ?_, fun j hj => ?_, fun j h0 h1 h2 h3 h4 => ?_, ?_, ?_, fun k x h1 h2 h3 h4 h5 => ?_⟩
  · exact (G3 10 r (by decide)).trans ((hF8.2 10 r (by omega)).trans hs2f)
  · show va_up s3.2 13 mf 13 j = _
    rw [va_up_self]
    exact hmf j hj
  · show s3.1 j = _
    rw [G5, fU_1, if_neg h1, f1.1 j h2 h3 h4, fU_1, if_neg h0]
  · show s3.1 0 = _
    rw [G5, fU_1, if_neg (by decide), f1.1 0 (by decide) (by decide) (by decide), fU_1, if_pos rfl]
  · show s3.1 1 = _
    rw [G5, fU_1, if_pos rfl]
  · rw [G3 k x h4, hF8.2 k x (fun c => h2 ⟨by omega, by omega, by omega, by omega⟩), f2.2 k x (fun c => h2 ⟨by have := c.1; unfold pk at this; omega, by have := c.1; unfold pk at this; omega, by omega, by omega⟩), G1 k x (fun c => h3 ⟨c.1, Or.inr c.2⟩)]
    exact f1.2 k x (fun c => h1 ⟨c.1, by omega⟩) (fun c => h3 ⟨c.1, Or.inl c.2⟩) (fun c => h5 ⟨by omega, by omega⟩) (fun c => h5 ⟨by omega, by omega⟩) (fun c => h5 ⟨by omega, by omega⟩)
set_option maxHeartbeats 4000000 in
theorem M_ruleS (hl : l.stackTraces = false) (dd n : Nat) (tx : Nat → Nat) (s : MSt) (hdd : 7 ≤ dd) (hT : TXM s n tx) (t : Ex) (b9 : Nat) (hP : pRead tx n = (some t, b9)) (hR : isR (tx 0)) (h0n : 0 < n) (hsz : sz t ≤ 63) : MtW (IM cy ad hp0) l D cy base mX9_rule dd 0 0 [.ref (ad 43)] s (fun o s2 => o = .inl (some (.int (nI 0))) ∧ enc s2.2 (64 * (tx 0 - 65)) t 0 0 ∧ s2.2 10 (tx 0 - 65) = nI (sz t) ∧ (∀ j, j < 126 → s2.2 13 j = -2) ∧ frN (tx 0 - 65) s s2) := by
  have hn9 := hT.2.1
  have hz0 := hT.2.2.2.2
  have ht0 := hT.2.2.2.1 0
  refine MtW.of hl mfX9_rule rfl (Nat.le_of_ble_eq_true rfl) ?_
  refine EW.aload_n dX9_rule_0 rfl rfl ?_
  refine EW.ic 0 dX9_rule_1 ?_
  refine EM.put f_X9_105 dX9_rule_2 rfl ?_
  refine EW.aload_n dX9_rule_5 rfl rfl ?_
  refine EM.callV (M_read (n := n) (tx := tx) (dd := 6) hl (Nat.le_refl _) (fU 0 (nI 0) s) hT.f0) mfX9_read l_X9_158 mvX9_read (by omega) dX9_rule_6 rfl rfl rfl rfl (Nat.le_of_ble_eq_true rfl) (fun X s9 q => by rw [hP] at q; exact nomatch q.2.1) (fun v6 s6 q6 => ?_)
  rw [hP] at q6
  obtain ⟨f1, q1⟩ := q6
  obtain ⟨e1, wt, et, ez⟩ := q1
  cases e1
  have hn1 : s6.1 1 = nI n := (f1.1 1 (by decide) (by decide) (by decide)).trans hT.f0.1
  have hp1 : 0 < n → s6.2 2 0 = nI (tx 0) := fun h => (f1.2 2 0 (by unfold pk; omega) (by omega) (by omega) (by omega) (by omega)).trans (hT.f0.2.2.1 0 h)
  have hp2 := hp1 (by omega)
  refine EW.istore_n dX9_rule_9 rfl (by decide) ?_
  refine EW.aload_n dX9_rule_10 rfl rfl ?_
  refine EM.get f_X9_120 dX9_rule_11 rfl ?_
  refine EW.top hn1 ?_
  refine EW.if_le 29 dX9_rule_14 (by decide) (fun c14 => ?_) (fun c14 => ?_)
  · have c14 : n = 0 := (nI_le0 (by omega)).mp c14; omega
  · have c14 : ¬ n = 0 := fun h => c14 ((nI_le0 (by omega)).mpr h)
    refine EW.aload_n dX9_rule_17 rfl rfl ?_
    refine EM.get f_X9_7 dX9_rule_18 rfl ?_
    refine EW.ic 0 dX9_rule_21 ?_
    refine EM.caldN 0 dX9_rule_22 rfl rfl (by simp only [mLen]; omega) ?_
    refine EW.top hp2 ?_
    refine EW.bp 65 dX9_rule_23 ?_
    refine EW.isub dX9_rule_25 ?_
    refine EW.top (pk_sub (by omega)) ?_
    refine EW.goto 30 dX9_rule_26 (by decide) ?_
    refine EW.istore_n dX9_rule_30 rfl (by decide) ?_
    refine EW.aload_n dX9_rule_31 rfl rfl ?_
    refine EW.ic 0 dX9_rule_32 ?_
    refine EM.put f_X9_120 dX9_rule_33 rfl ?_
    refine EW.iload_n dX9_rule_36 rfl rfl ?_
    refine EW.if_lt 44 dX9_rule_37 (by decide) (fun c37 => ?_) (fun c37 => ?_)
    · refine EW.aload_n dX9_rule_44 rfl rfl ?_
      refine EM.get f_X9_33 dX9_rule_45 rfl ?_
      refine EW.iload_n dX9_rule_48 rfl rfl ?_
      refine EW.aload_n dX9_rule_49 rfl rfl ?_
      refine EM.get f_X9_33 dX9_rule_50 rfl ?_
      refine EW.bp 6 dX9_rule_53 ?_
      refine EM.ialdN 6 dX9_rule_55 rfl rfl (by simp only [mLen]; omega) ?_
      refine EW.top ez ?_
      refine EM.iastN ((tx 0) - 65) dX9_rule_56 rfl rfl (by simp only [mLen]; omega) ?_
      refine EW.ic 0 dX9_rule_57 ?_
      refine EW.istore_n dX9_rule_58 rfl (by decide) ?_
      have hr0 : tx 0 - 65 < 6 := by omega
      refine EW.loc (lv' := [(0, .ref (ad 43)), (2, .int (nI (tx 0 - 65))), (3, .int (nI 0))]) ⟨rfl, rfl, rfl, trivial⟩ ?_
      refine EW.eqs (s' := aU 10 (tx 0 - 65) (nI (sz t)) (fU 1 (nI 0) s6)) rfl ?_
      generalize hs1 : aU 10 (tx 0 - 65) (nI (sz t)) (fU 1 (nI 0) s6) = s1
      generalize hrr : tx 0 - 65 = r at *
      have G1 : ∀ k x, ¬ (k = 10 ∧ x = r) → s1.2 k x = s6.2 k x := fun k x h => by rw [← hs1, aU_2, if_neg h]; rfl
      refine M_rule_cp dd r (sz t) hr0 (by omega) _ (sz t) 0 s1 (by omega) ((G1 10 6 (by omega)).trans ez) (fun s2 f2 h2 => ?_)
      have hs2e : encP s2.2 (64 * r) t 0 := encP_mv t wt 0 (fun k x hk _ h => by rw [h2 x (by omega) (by omega) k hk, G1 k _ (by unfold pk at hk; omega)]) et
      have hs2f : s2.2 10 r = nI (sz t) := (f2.2 10 r (fun c => by have := c.1; unfold pk at this; omega)).trans (by rw [← hs1, aU_2, if_pos ⟨rfl, rfl⟩])
      refine EW.aload_n dX9_rule_152 rfl rfl ?_
      refine EW.bp 64 dX9_rule_153 ?_
      refine EW.iload_n dX9_rule_155 rfl rfl ?_
      refine EW.imul dX9_rule_156 ?_
      refine EW.top (pk_mul _ _) ?_
      refine EM.callV (M_findDepths hl 0 r (sz t) s2 t wt hr0 rfl (by omega) hs2f hs2e) mfX9_findDepths l_X9_161 mvX9_findDepths (by omega) dX9_rule_157 rfl rfl rfl rfl (Nat.le_of_ble_eq_true rfl) (fun _ _ q => nomatch q.1) (fun v157 s157 q157 => ?_)
      obtain ⟨e157, hF8, hE8⟩ := q157; cases e157
      refine EW.aload_n dX9_rule_160 rfl rfl ?_
      refine EM.callV (M_forget hl 0 _) mfX9_forget l_X9_102 mvX9_forget (by omega) dX9_rule_161 rfl rfl rfl rfl (Nat.le_of_ble_eq_true rfl) (fun _ _ q => by obtain ⟨f, e, _⟩ := q; cases e) (fun v161 s161 q161 => ?_)
      obtain ⟨mf, e161, h161, hmf⟩ := q161; cases e161; subst h161
      refine EW.ic 0 dX9_rule_164 ?_
      refine EW.iret rfl dX9_rule_165 ?_
      exact ⟨rfl, rule_fin wt hsz hr0 f1 hs1 f2 hF8 hE8 hs2f hmf⟩
    · exact absurd (by decide +kernel) c37
end M23
