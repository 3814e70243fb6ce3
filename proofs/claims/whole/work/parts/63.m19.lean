section M19
variable {cy : Nat → ClassId} {ad : Nat → Nat} {hp0 : Hp} {l : Launch} {D : va_G} {base : Nat}
/-- a level of the reading: the rows done and the parts of the row under way -/
def LVL (s : MSt) (k z0 pb rb : Nat) (rs ps : List Ex) (sg : Nat) : Prop := s.1 35 = nI k ∧ s.2 40 k = nI pb ∧ s.2 41 k = nI rb ∧ s.1 36 = nI (pb + ps.length) ∧ s.1 38 = nI (rb + rs.length) ∧ s.2 10 6 = nI (z0 + szL rs + szL ps) ∧ layP s.2 z0 rs ∧ layP s.2 (z0 + szL rs) ps ∧ stkL (s.2 39) rb z0 rs ∧ stkL (s.2 37) pb (z0 + szL rs) ps ∧ s.2 42 k = nI sg
def FPR (k z0 pb rb : Nat) (s s2 : MSt) : Prop := (∀ j, j ≠ 35 → j ≠ 36 → j ≠ 38 → s2.1 j = s.1 j) ∧ ∀ q x, ¬ (pk q ∧ 384 + z0 ≤ x) → ¬ (q = 10 ∧ x = 6) → ¬ (q = 37 ∧ pb ≤ x) → ¬ (q = 39 ∧ rb ≤ x) → ¬ (40 ≤ q ∧ q ≤ 42 ∧ k ≤ x) → s2.2 q x = s.2 q x
theorem FPR.rf {k z0 pb rb : Nat} {s : MSt} : FPR k z0 pb rb s s := ⟨fun _ _ _ _ => rfl, fun _ _ _ _ _ _ _ => rfl⟩
theorem FPR.tr {k z0 pb rb : Nat} {a b c : MSt} (f : FPR k z0 pb rb a b) (g : FPR k z0 pb rb b c) : FPR k z0 pb rb a c := ⟨fun j h1 h2 h3 => (g.1 j h1 h2 h3).trans (f.1 j h1 h2 h3), fun q x h1 h2 h3 h4 h5 => (g.2 q x h1 h2 h3 h4 h5).trans (f.2 q x h1 h2 h3 h4 h5)⟩
theorem FPR.mo {k z0 pb rb k' z0' pb' rb' : Nat} {s s2 : MSt} (f : FPR k' z0' pb' rb' s s2) (h1 : k ≤ k') (h2 : z0 ≤ z0') (h3 : pb ≤ pb') (h4 : rb ≤ rb') : FPR k z0 pb rb s s2 := ⟨f.1, fun q x a b c d e => f.2 q x (fun y => a ⟨y.1, by omega⟩) b (fun y => c ⟨y.1, by omega⟩) (fun y => d ⟨y.1, by omega⟩) (fun y => e ⟨y.1, y.2.1, by omega⟩)⟩
theorem szL_mk (m : Nat) : ∀ (t : List Ex) (e : Ex), sz (mkB m e t) = szL (e :: t) + t.length
  | [], e => by show sz e = sz e + 0 + 0; omega
  | x :: t, e => by
    rw [mkB_cons]
    have := szL_mk m t x
    show sz e + sz (mkB m x t) + 1 = (sz e + szL (x :: t)) + (t.length + 1)
    omega
theorem split_last (p : Ex) (pt : List Ex) : ∃ ps x, p :: pt = ps ++ [x] := by
  rcases List.eq_nil_or_concat (p :: pt) with h | ⟨a, c, h⟩
  · cases h
  · exact ⟨a, c, by rw [h, List.concat_eq_append]⟩
set_option maxHeartbeats 4000000 in
theorem M_rowDone (hl : l.stackTraces = false) (d : Nat) (s : MSt) (k z0 pb rb : Nat) (rs : List Ex) (p : Ex) (pt : List Ex) (sg : Nat) (hL : LVL s k z0 pb rb rs (p :: pt) sg) (hk : k < 8) (h62 : z0 + szL rs + szL (p :: pt) + pt.length < 62) (hpb : pb + (p :: pt).length ≤ 32) (hrb : rb + rs.length < 32) : MtW (IM cy ad hp0) l D cy base mX9_rowDone (d + 1) 0 0 [.ref (ad 43)] s (fun o s2 => o = .inl none ∧ LVL s2 k z0 pb rb (rs ++ [mkB 0 p pt]) [] sg ∧ wf (mkB 0 p pt) ∧ FPR k z0 pb rb s s2) := by
  obtain ⟨a1, a2, a3, a4, a5, a6, a7, a8, a9, a10, a11⟩ := hL
  have eM : mkB 0 p pt = mkL 0 (p :: pt) := rfl
  have esz := szL_mk 0 pt p
  rw [eM] at esz ⊢
  have elen : (p :: pt).length = pt.length + 1 := rfl
  rw [elen] at a4 hpb
  obtain ⟨ps, x, e⟩ := split_last p pt
  have hlen : ps.length = pt.length := by
    have := congrArg List.length e
    rw [List.length_append] at this
    exact (Nat.succ.inj this).symm
  rw [e] at a6 a8 a10 esz h62 ⊢
  obtain ⟨lay1, wx, encx, -⟩ := (layP_app ps [x] _).mp a8
  obtain ⟨stk1, hv, -⟩ := (stkL_app ps [x] pb _).mp a10
  have hsz1 : szL (ps ++ [x]) = szL ps + sz x := by rw [szL_app]; rfl
  have hxz := sz_pos x wx
  rw [hlen] at hv
  rw [hsz1] at a6 esz h62
  have hv2 : s.2 37 (pb + (pt.length + 1) - 1) = nI (z0 + szL rs + szL ps + sz x - 1) := by rw [show pb + (pt.length + 1) - 1 = pb + pt.length by omega]; exact hv
  refine MtW.of hl mfX9_rowDone rfl (Nat.le_of_ble_eq_true rfl) ?_
  refine EW.aload_n dX9_rowDone_0 rfl rfl ?_
  refine EM.get f_X9_87 dX9_rowDone_1 rfl ?_
  refine EW.aload_n dX9_rowDone_4 rfl rfl ?_
  refine EM.get f_X9_134 dX9_rowDone_5 rfl ?_
  refine EW.top a4 ?_
  refine EW.ic 1 dX9_rowDone_8 ?_
  refine EW.isub dX9_rowDone_9 ?_
  refine EW.top (pk_sub (by omega)) ?_
  refine EM.ialdN ((pb + (pt.length + 1)) - 1) dX9_rowDone_10 rfl rfl (by simp only [mLen]; omega) ?_
  refine EW.top hv2 ?_
  refine EW.istore_n dX9_rowDone_11 rfl (by decide) ?_
  refine EW.aload_n dX9_rowDone_12 rfl rfl ?_
  refine EW.dup dX9_rowDone_13 rfl ?_
  refine EM.get f_X9_134 dX9_rowDone_14 rfl ?_
  refine EW.top a4 ?_
  refine EW.ic 1 dX9_rowDone_17 ?_
  refine EW.isub dX9_rowDone_18 ?_
  refine EW.top (pk_sub (by omega)) ?_
  refine EM.put f_X9_134 dX9_rowDone_19 rfl ?_
  refine EW.ic 0 dX9_rowDone_22 ?_
  refine EW.istore_n dX9_rowDone_23 rfl (by decide) ?_
  refine EW.eqs (s' := fU 36 (nI (pb + pt.length)) s) (by rw [show pb + (pt.length + 1) - 1 = pb + pt.length by omega]; rfl) ?_
  refine EW.loc (lv' := [(0, .ref (ad 43)), (1, .int (nI (z0 + szL rs + szL ps + sz x - 1))), (2, .int (nI 0))]) ⟨rfl, rfl, rfl, trivial⟩ ?_
  refine M_row_loop hl (d + 1) k pb (z0 + szL rs) (by omega) hk _ pt.length ps (fU 36 (nI (pb + pt.length)) s) x [] 0 (z0 + szL rs + szL ps + sz x) hlen (by rw [fU_1, if_neg (by decide)]; exact a1) a2 (by rw [fU_1, if_pos rfl]) lay1 stk1 wx encx rfl (a6.trans (by congr 1; omega)) (by omega) (by omega) rfl ?_
  intro s2 b1 b2 b2b b3 b4 b5
  have hszM : sz (mkL 0 (ps ++ [x])) = szL ps + pt.length + sz x := b2b
  have c38 : s2.1 38 = nI (rb + rs.length) := (b5.1 38 (by decide)).trans (by rw [fU_1, if_neg (by decide)]; exact a5)
  have Fo : ∀ q y, ¬ (pk q ∧ 384 + (z0 + szL rs + szL ps + sz x) ≤ y) → ¬ (q = 10 ∧ y = 6) → s2.2 q y = s.2 q y := fun q y h1 h2 => b5.2 q y h1 h2
  refine EW.aload_n dX9_rowDone_82 rfl rfl ?_
  refine EM.get f_X9_90 dX9_rowDone_83 rfl ?_
  refine EW.aload_n dX9_rowDone_86 rfl rfl ?_
  refine EM.get f_X9_137 dX9_rowDone_87 rfl ?_
  refine EW.top c38 ?_
  refine EW.iload_n dX9_rowDone_90 rfl rfl ?_
  refine EM.iastN (rb + rs.length) dX9_rowDone_91 rfl rfl (by simp only [mLen]; omega) ?_
  refine EW.aload_n dX9_rowDone_92 rfl rfl ?_
  refine EW.dup dX9_rowDone_93 rfl ?_
  refine EM.get f_X9_137 dX9_rowDone_94 rfl ?_
  refine EW.top c38 ?_
  refine EW.ic 1 dX9_rowDone_97 ?_
  refine EW.iadd dX9_rowDone_98 ?_
  refine EW.top (nI_add _ _) ?_
  refine EM.put f_X9_137 dX9_rowDone_99 rfl ?_
  refine EW.vret rfl dX9_rowDone_102 ?_
  have hS : (va_up s2.1 38 (nI (rb + rs.length + 1)), va_up s2.2 39 (upd (s2.2 39) (rb + rs.length) (nI (z0 + szL rs + sz (mkL 0 (ps ++ [x])) - 1)))) = fU 38 (nI (rb + rs.length + 1)) (aU 39 (rb + rs.length) (nI (z0 + szL rs + sz (mkL 0 (ps ++ [x])) - 1)) s2) := rfl
  have G : ∀ q y, ¬ (q = 39 ∧ y = rb + rs.length) → (fU 38 (nI (rb + rs.length + 1)) (aU 39 (rb + rs.length) (nI (z0 + szL rs + sz (mkL 0 (ps ++ [x])) - 1)) s2)).2 q y = s2.2 q y := fun q y h => by rw [fU_2, aU_2, if_neg h]
  have eN : szL (rs ++ [mkL 0 (ps ++ [x])]) = szL rs + sz (mkL 0 (ps ++ [x])) := by rw [szL_app]; rfl
  refine ⟨rfl, ⟨?_, ?_, ?_, ?_, ?_, ?_, ?_, trivial, ?_, trivial, ?_⟩, b2, ?_, ?_⟩
  · show (fU 38 _ (aU 39 _ _ s2)).1 35 = _
    rw [fU_1, if_neg (by decide), aU_1, b5.1 35 (by decide), fU_1, if_neg (by decide)]; exact a1
  · exact (G 40 k (by omega)).trans ((Fo 40 k (by unfold pk; omega) (by omega)).trans a2)
  · exact (G 41 k (by omega)).trans ((Fo 41 k (by unfold pk; omega) (by omega)).trans a3)
  · show (fU 38 _ (aU 39 _ _ s2)).1 36 = _
    rw [fU_1, if_neg (by decide), aU_1]; exact b1
  · show (fU 38 _ (aU 39 _ _ s2)).1 38 = _
    rw [fU_1, if_pos rfl, List.length_append]; rfl
  · rw [eN]; exact (G 10 6 (by omega)).trans (b4.trans (by congr 1; show _ = z0 + (szL rs + sz (mkL 0 (ps ++ [x]))) + 0; omega))
  · refine (layP_app rs _ z0).mpr ⟨layP_fr rs z0 (fun q y hq h1 h2 => (G q _ (by unfold pk at hq; omega)).trans (Fo q _ (by omega) (by unfold pk at hq; omega))) a7, b2, encP_fr _ b2 _ (fun q y hq h1 h2 => G q _ (by unfold pk at hq; omega)) b3, trivial⟩
  · refine (stkL_app rs _ rb z0).mpr ⟨stkL_fr rs rb z0 (fun y h1 h2 => (G 39 y (by omega)).trans (Fo 39 y (by unfold pk; omega) (by omega))) a9, ?_, trivial⟩
    show (fU 38 _ (aU 39 _ _ s2)).2 39 _ = _
    rw [fU_2, aU_2, if_pos ⟨rfl, rfl⟩]
  · exact (G 42 k (by omega)).trans ((Fo 42 k (by unfold pk; omega) (by omega)).trans a11)
  · intro j h1 h2 h3
    show (fU 38 _ (aU 39 _ _ s2)).1 j = _
    rw [fU_1, if_neg h3, aU_1, b5.1 j h2, fU_1, if_neg h2]
  · intro q y h1 h2 h3 h4 h5
    exact (G q y (fun c => h4 ⟨c.1, by omega⟩)).trans (Fo q y (fun c => h1 ⟨c.1, by omega⟩) h2)
set_option maxHeartbeats 4000000 in
theorem M_choiceDone (hl : l.stackTraces = false) (d : Nat) (s : MSt) (k z0 pb rb : Nat) (rs : List Ex) (p : Ex) (pt : List Ex) (sg : Nat) (hL : LVL s k z0 pb rb rs (p :: pt) sg) (hk : k < 8) (h62 : z0 + szL rs + szL (p :: pt) + pt.length + rs.length < 62) (hpb : pb + (p :: pt).length ≤ 32) (hrb : rb + rs.length < 32) : MtW (IM cy ad hp0) l D cy base mX9_choiceDone (d + 2) 0 0 [.ref (ad 43)] s (fun o s2 => ∃ t, t = mkL 2 (rs ++ [mkB 0 p pt]) ∧ o = .inl (some (.int (nI (z0 + sz t - 1)))) ∧ wf t ∧ encP s2.2 384 t z0 ∧ s2.2 10 6 = nI (z0 + sz t) ∧ s2.1 35 = nI k ∧ s2.1 36 = nI pb ∧ s2.1 38 = nI rb ∧ FPR k z0 pb rb s s2) := by
  have esz0 := szL_mk 0 pt p
  refine MtW.of hl mfX9_choiceDone rfl (Nat.le_of_ble_eq_true rfl) ?_
  refine EW.aload_n dX9_choiceDone_0 rfl rfl ?_
  refine EM.callV (M_rowDone hl d s k z0 pb rb rs p pt sg hL hk (by omega) hpb hrb) mfX9_rowDone l_X9_140 mvX9_rowDone (by omega) dX9_choiceDone_1 rfl rfl rfl rfl (Nat.le_of_ble_eq_true rfl) (fun _ _ q => nomatch q.1) (fun v1 s1 q1 => ?_)
  obtain ⟨e1, ⟨a1, a2, a3, a4, a5, a6, a7, a8, a9, a10, a11⟩, wM, F0⟩ := q1; cases e1
  generalize hM : mkB 0 p pt = M at *
  rw [List.length_append] at a5
  have a5 : s1.1 38 = nI (rb + (rs.length + 1)) := a5
  obtain ⟨lay1, -, encM, -⟩ := (layP_app rs [M] _).mp a7
  obtain ⟨stk1, hv, -⟩ := (stkL_app rs [M] rb _).mp a9
  have hsz1 : szL (rs ++ [M]) = szL rs + sz M := by rw [szL_app]; rfl
  rw [hsz1] at a6
  have a6 : s1.2 10 6 = nI (z0 + (szL rs + sz M) + 0) := a6
  have hmz := sz_pos M wM
  have hv2 : s1.2 39 (rb + (rs.length + 1) - 1) = nI (z0 + szL rs + sz M - 1) := by rw [show rb + (rs.length + 1) - 1 = rb + rs.length by omega]; exact hv
  refine EW.aload_n dX9_choiceDone_4 rfl rfl ?_
  refine EM.get f_X9_90 dX9_choiceDone_5 rfl ?_
  refine EW.aload_n dX9_choiceDone_8 rfl rfl ?_
  refine EM.get f_X9_137 dX9_choiceDone_9 rfl ?_
  refine EW.top a5 ?_
  refine EW.ic 1 dX9_choiceDone_12 ?_
  refine EW.isub dX9_choiceDone_13 ?_
  refine EW.top (pk_sub (by omega)) ?_
  refine EM.ialdN ((rb + (rs.length + 1)) - 1) dX9_choiceDone_14 rfl rfl (by simp only [mLen]; omega) ?_
  refine EW.top hv2 ?_
  refine EW.istore_n dX9_choiceDone_15 rfl (by decide) ?_
  refine EW.aload_n dX9_choiceDone_16 rfl rfl ?_
  refine EW.dup dX9_choiceDone_17 rfl ?_
  refine EM.get f_X9_137 dX9_choiceDone_18 rfl ?_
  refine EW.top a5 ?_
  refine EW.ic 1 dX9_choiceDone_21 ?_
  refine EW.isub dX9_choiceDone_22 ?_
  refine EW.top (pk_sub (by omega)) ?_
  refine EM.put f_X9_137 dX9_choiceDone_23 rfl ?_
  refine EW.ic 0 dX9_choiceDone_26 ?_
  refine EW.istore_n dX9_choiceDone_27 rfl (by decide) ?_
  refine EW.eqs (s' := fU 38 (nI (rb + rs.length)) s1) (by rw [show rb + (rs.length + 1) - 1 = rb + rs.length by omega]; rfl) ?_
  refine EW.loc (lv' := [(0, .ref (ad 43)), (1, .int (nI (z0 + szL rs + sz M - 1))), (2, .int (nI 0))]) ⟨rfl, rfl, rfl, trivial⟩ ?_
  refine M_cho_loop hl (d + 2) k rb z0 (by omega) hk _ rs.length rs (fU 38 (nI (rb + rs.length)) s1) M [] 0 (z0 + szL rs + sz M) rfl (by rw [fU_1, if_neg (by decide)]; exact a1) a3 (by rw [fU_1, if_pos rfl]) lay1 stk1 wM encM rfl (a6.trans (by congr 1; omega)) (by omega) (by omega) rfl ?_
  intro s2 b1 b2 b2b b3 b4 b5
  refine EW.iload_n dX9_choiceDone_86 rfl rfl ?_
  refine EW.iret rfl dX9_choiceDone_87 ?_
  refine ⟨_, rfl, rfl, b2, b3, b4, ?_, ?_, b1, ?_⟩
  · rw [b5.1 35 (by decide), fU_1, if_neg (by decide)]; exact a1
  · rw [b5.1 36 (by decide), fU_1, if_neg (by decide)]; exact a4
  · refine F0.tr ⟨fun j h1 h2 h3 => by rw [b5.1 j h3, fU_1, if_neg h3], fun q y h1 h2 h3 h4 h5 => ?_⟩
    exact b5.2 q y (fun c => h1 ⟨c.1, by omega⟩) h2
end M19
