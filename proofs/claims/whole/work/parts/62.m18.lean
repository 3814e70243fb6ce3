section M18
variable {cy : Nat → ClassId} {ad : Nat → Nat} {hp0 : Hp} {l : Launch} {D : va_G} {base : Nat}
/-- what a joining of rows or parts leaves as it was -/
def fr5 (F zz : Nat) (s s2 : MSt) : Prop := (∀ j, j ≠ F → s2.1 j = s.1 j) ∧ ∀ k x, ¬ (pk k ∧ 384 + zz ≤ x) → ¬ (k = 10 ∧ x = 6) → s2.2 k x = s.2 k x
theorem fr5.rf {F zz : Nat} {s : MSt} : fr5 F zz s s := ⟨fun _ _ => rfl, fun _ _ _ _ => rfl⟩
theorem fr5.tr {F zz z2 : Nat} {a b c : MSt} (h : fr5 F zz a b) (g : fr5 F z2 b c) (hz : zz ≤ z2) : fr5 F zz a c := ⟨fun j hj => (g.1 j hj).trans (h.1 j hj), fun k x h1 h2 => (g.2 k x (fun ⟨c1, c2⟩ => h1 ⟨c1, by omega⟩) h2).trans (h.2 k x h1 h2)⟩
theorem mkB_cons {m : Nat} {p x : Ex} {t : List Ex} : mkB m p (x :: t) = xB (m + if t = [] then 0 else 1) p (mkB m x t) := by
  cases t with
  | nil => rfl
  | cons y t => rfl
def mkL (m : Nat) : List Ex → Ex
  | [] => xC 0
  | e :: t => mkB m e t
theorem mkL_step {m : Nat} {p x : Ex} {t : List Ex} : ∀ ps : List Ex, mkL m ((ps ++ [p]) ++ x :: t) = mkL m (ps ++ p :: (x :: t)) := fun ps => by rw [List.append_assoc]; rfl
theorem wf_B {m : Nat} (hm : m = 0 ∨ m = 2) {p x : Ex} {t : List Ex} (hp : wf p) (hx : wf (mkB m x t)) : wf (mkB m p (x :: t)) := by
  rw [mkB_cons]
  refine ⟨by split <;> omega, fun h => ?_, hp, hx⟩
  cases t with
  | nil => simp at h; omega
  | cons y t =>
    have : (m + if y :: t = [] then 0 else 1) / 2 = m / 2 := by simp; omega
    rw [this]
    exact mkB_isB (by omega) x y t
theorem bN {b : Nat} (h : b ≤ 1) : vp_nar .boolean (nI b) = nI b := by
  have : b = 0 ∨ b = 1 := by omega
  rcases this with rfl | rfl <;> decide +kernel
set_option maxHeartbeats 4000000 in
theorem M_row_loop (hl : l.stackTraces = false) (dd op pb o : Nat) (hdd : 1 ≤ dd) (ho8 : op < 8) (Q : Oc → MSt → Prop) : ∀ (j : Nat) (ps : List Ex) (s : MSt) (x : Ex) (t : List Ex) (b zz : Nat), ps.length = j → s.1 35 = nI op → s.2 40 op = nI pb → s.1 36 = nI (pb + j) → layP s.2 o ps → stkL (s.2 37) pb o ps → wf (mkB 0 x t) → encP s.2 384 (mkB 0 x t) (o + szL ps) → zz = o + szL ps + sz (mkB 0 x t) → s.2 10 6 = nI zz → zz + j < 62 → pb + j ≤ 32 → b = (if t = [] then 0 else 1) → (∀ s2, s2.1 36 = nI pb → wf (mkL 0 (ps ++ x :: t)) → sz (mkL 0 (ps ++ x :: t)) = szL ps + j + sz (mkB 0 x t) → encP s2.2 384 (mkL 0 (ps ++ x :: t)) o → s2.2 10 6 = nI (o + sz (mkL 0 (ps ++ x :: t))) → fr5 36 zz s s2 → EW (IM cy ad hp0) l D cy base mX9_rowDone dd 0 0 82 [(0, .ref (ad 43)), (1, .int (nI (o + sz (mkL 0 (ps ++ x :: t)) - 1)))] [] s2 Q) → EW (IM cy ad hp0) l D cy base mX9_rowDone dd 0 0 24 [(0, .ref (ad 43)), (1, .int (nI (zz - 1))), (2, .int (nI b))] [] s Q
  | 0, ps, s, x, t, b, zz, hj, ho, hpb, hp, hlay, hst, hw, henc, hzz, hz, hz9, hpj, hb, K => by
    have e0 : ps = [] := List.eq_nil_of_length_eq_zero hj
    subst e0
    refine EW.aload_n dX9_rowDone_24 rfl rfl ?_
    refine EM.get f_X9_134 dX9_rowDone_25 rfl ?_
    refine EW.top hp ?_
    refine EW.aload_n dX9_rowDone_28 rfl rfl ?_
    refine EM.get f_X9_93 dX9_rowDone_29 rfl ?_
    refine EW.aload_n dX9_rowDone_32 rfl rfl ?_
    refine EM.get f_X9_131 dX9_rowDone_33 rfl ?_
    refine EW.top ho ?_
    refine EM.ialdN op dX9_rowDone_36 rfl rfl (by simp only [mLen]; omega) ?_
    refine EW.top hpb ?_
    refine EW.icmp_le 82 dX9_rowDone_37 (by decide) (fun c37 => ?_) (fun c37 => ?_)
    · have c37 : pb + 0 ≤ pb := (nI_leI (by omega) (by omega)).mp c37
      have K2 := K s hp hw (by show sz (mkB 0 x t) = 0 + 0 + sz (mkB 0 x t); omega) henc (by rw [hz, hzz]; congr 1) fr5.rf
      have e1 : zz - 1 = o + sz (mkL 0 ([] ++ x :: t)) - 1 := by show zz - 1 = o + sz (mkB 0 x t) - 1; rw [hzz]; show o + 0 + sz (mkB 0 x t) - 1 = _; omega
      rw [e1]
      exact EW.loc (lv' := [(0, .ref (ad 43)), (1, .int (nI (_)))]) ⟨rfl, rfl, trivial⟩ K2
    · have c37 : ¬ (pb + 0 ≤ pb) := fun h => c37 ((nI_leI (by omega) (by omega)).mpr h); omega
  | j + 1, ps, s, x, t, b, zz, hj, ho, hpb, hp, hlay, hst, hw, henc, hzz, hz, hz9, hpj, hb, K => by
    obtain ⟨ps1, p, rfl⟩ : ∃ ps1 p, ps = ps1 ++ [p] := by
      rcases List.eq_nil_or_concat ps with h | ⟨a, c, h⟩
      · rw [h] at hj; cases hj
      · exact ⟨a, c, by rw [h, List.concat_eq_append]⟩
    have hj1 : ps1.length = j := by rw [List.length_append] at hj; exact Nat.succ.inj hj
    have hsz1 : szL (ps1 ++ [p]) = szL ps1 + sz p := by rw [szL_app]; rfl
    rw [hsz1] at henc hzz
    obtain ⟨lay1, wp, encp, -⟩ := (layP_app ps1 [p] o).mp hlay
    obtain ⟨stk1, hv, -⟩ := (stkL_app ps1 [p] pb o).mp hst
    rw [hj1] at hv
    have hpz := sz_pos p wp
    have hmz := sz_pos _ hw
    have hb1 : b ≤ 1 := by rw [hb]; split <;> omega
    have hv2 : s.2 37 (pb + (j + 1) - 1) = nI (o + szL ps1 + sz p - 1) := by rw [show pb + (j + 1) - 1 = pb + j by omega]; exact hv
    refine EW.aload_n dX9_rowDone_24 rfl rfl ?_
    refine EM.get f_X9_134 dX9_rowDone_25 rfl ?_
    refine EW.top hp ?_
    refine EW.aload_n dX9_rowDone_28 rfl rfl ?_
    refine EM.get f_X9_93 dX9_rowDone_29 rfl ?_
    refine EW.aload_n dX9_rowDone_32 rfl rfl ?_
    refine EM.get f_X9_131 dX9_rowDone_33 rfl ?_
    refine EW.top ho ?_
    refine EM.ialdN op dX9_rowDone_36 rfl rfl (by simp only [mLen]; omega) ?_
    refine EW.top hpb ?_
    refine EW.icmp_le 82 dX9_rowDone_37 (by decide) (fun c37 => ?_) (fun c37 => ?_)
    · have c37 : pb + (j + 1) ≤ pb := (nI_leI (by omega) (by omega)).mp c37; omega
    · have c37 : ¬ (pb + (j + 1) ≤ pb) := fun h => c37 ((nI_leI (by omega) (by omega)).mpr h)
      refine EW.aload_n dX9_rowDone_40 rfl rfl ?_
      refine EW.dup dX9_rowDone_41 rfl ?_
      refine EM.get f_X9_134 dX9_rowDone_42 rfl ?_
      refine EW.top hp ?_
      refine EW.ic 1 dX9_rowDone_45 ?_
      refine EW.isub dX9_rowDone_46 ?_
      refine EW.top (pk_sub (by omega)) ?_
      refine EM.put f_X9_134 dX9_rowDone_47 rfl ?_
      refine EW.aload_n dX9_rowDone_50 rfl rfl ?_
      refine EW.ic 2 dX9_rowDone_51 ?_
      refine EW.aload_n dX9_rowDone_52 rfl rfl ?_
      refine EM.get f_X9_87 dX9_rowDone_53 rfl ?_
      refine EW.aload_n dX9_rowDone_56 rfl rfl ?_
      refine EM.get f_X9_134 dX9_rowDone_57 rfl ?_
      refine EW.top (show va_up s.1 36 (nI (pb + (j + 1) - 1)) 36 = nI (pb + (j + 1) - 1) from va_up_self _ _ _) ?_
      refine EM.ialdN ((pb + (j + 1)) - 1) dX9_rowDone_60 rfl rfl (by simp only [mLen]; omega) ?_
      refine EW.top hv2 ?_
      refine EW.iload_n dX9_rowDone_61 rfl rfl ?_
      refine EM.callV (M_madeS hl 0 (fU 36 (nI (pb + (j + 1) - 1)) s) zz 2 (nI (o + szL ps1 + sz p - 1)) (nI (zz - 1)) hz (by omega)) mfX9_made l_X9_127 mvX9_made (by omega) dX9_rowDone_62 rfl rfl rfl rfl (Nat.le_of_ble_eq_true rfl) (fun _ _ q => nomatch q.1) (fun v62 s62 q62 => ?_)
      obtain ⟨e62, h62⟩ := q62; cases e62; replace h62 := h62.symm; subst h62
      refine EW.istore_n dX9_rowDone_65 rfl (by decide) ?_
      refine EW.aload_n dX9_rowDone_66 rfl rfl ?_
      refine EM.get f_X9_29 dX9_rowDone_67 rfl ?_
      refine EW.sp 384 dX9_rowDone_70 ?_
      refine EW.iload_n dX9_rowDone_73 rfl rfl ?_
      refine EW.iadd dX9_rowDone_74 ?_
      refine EW.top (nI_add _ _) ?_
      refine EW.iload_n dX9_rowDone_75 rfl rfl ?_
      refine EM.zastN (384 + zz) dX9_rowDone_76 rfl rfl (by simp only [mLen]; omega) ?_
      refine EW.ic 1 dX9_rowDone_77 ?_
      refine EW.istore_n dX9_rowDone_78 rfl (by decide) ?_
      refine EW.goto 24 dX9_rowDone_79 (by decide) ?_
      refine EW.eqs (s' := aU 9 (384 + zz) (nI b) (mdS zz 2 (nI (o + szL ps1 + sz p - 1)) (nI (zz - 1)) (fU 36 (nI (pb + j)) s))) (by rw [show pb + (j + 1) - 1 = pb + j by omega]; unfold aU; rw [bN hb1]) ?_
      generalize hs1 : aU 9 (384 + zz) (nI b) (mdS zz 2 (nI (o + szL ps1 + sz p - 1)) (nI (zz - 1)) (fU 36 (nI (pb + j)) s)) = s1
      have Fo : ∀ k x, ¬ (pk k ∧ 384 + zz ≤ x) → ¬ (k = 10 ∧ x = 6) → s1.2 k x = s.2 k x := fun k x h1 h2 => by
        rw [← hs1, aU_2, if_neg (fun c => h1 ⟨Or.inr (Or.inr (Or.inr c.1)), by omega⟩), mdS_o (fun c => h1 ⟨c.1, by omega⟩) h2]
        rfl
      have F1 : fr5 36 zz s s1 := ⟨fun j hj => by rw [← hs1, aU_1, mdS_1, fU_1, if_neg hj], Fo⟩
      have hpk : ∀ k, pk k → k ≠ 10 := fun k h e => by subst e; unfold pk at h; omega
      have G9 : s1.2 9 (384 + zz) = nI b := by rw [← hs1, aU_2, if_pos ⟨rfl, rfl⟩]
      have G5 : s1.2 5 (384 + zz) = nI 2 := by rw [← hs1, aU_2, if_neg (by omega)]; exact mdS_5
      have G6 : s1.2 6 (384 + zz) = nI (o + szL ps1 + sz p - 1) := by rw [← hs1, aU_2, if_neg (by omega)]; exact mdS_6
      have G7 : s1.2 7 (384 + zz) = nI (zz - 1) := by rw [← hs1, aU_2, if_neg (by omega)]; exact mdS_7
      have G10 : s1.2 10 6 = nI (zz + 1) := by rw [← hs1, aU_2, if_neg (by omega)]; exact mdS_10
      have ezz : o + szL ps1 + sz p + sz (mkB 0 x t) = zz := by omega
      have hsB : sz (mkB 0 p (x :: t)) = sz p + sz (mkB 0 x t) + 1 := by rw [mkB_cons]; rfl
      have hbm : (0 + if t = [] then 0 else 1) % 2 = b := by rw [hb]; split <;> rfl
      have hbd : 2 + (0 + if t = [] then 0 else 1) / 2 = 2 := by split <;> rfl
      have E1 : encP s1.2 384 (mkB 0 p (x :: t)) (o + szL ps1) := by
        rw [mkB_cons]
        refine ⟨encP_fr p wp _ (fun k x hk a c => Fo k _ (by omega) (fun h => hpk k hk h.1)) encp, encP_fr _ hw _ (fun k x hk a c => Fo k _ (by omega) (fun h => hpk k hk h.1)) (by rw [show o + szL ps1 + sz p = o + (szL ps1 + sz p) by omega]; exact henc), ?_, ?_, ?_, ?_⟩
        · rw [ezz, hbd]; exact G5
        · rw [ezz]; exact G6
        · rw [ezz]; exact G7
        · rw [ezz, hbm]; exact G9
      have ez1 : zz + 1 = o + szL ps1 + sz (mkB 0 p (x :: t)) := by rw [hsB]; omega
      refine EW.loc (lv' := [(0, .ref (ad 43)), (1, .int (nI (zz + 1 - 1))), (2, .int (nI 1))]) ⟨rfl, by rw [show zz + 1 - 1 = zz by omega]; rfl, rfl, trivial⟩ ?_
      refine M_row_loop hl dd op pb o hdd ho8 Q j ps1 s1 p (x :: t) 1 (zz + 1) hj1 ((F1.1 35 (by decide)).trans ho) ((Fo 40 op (by unfold pk; omega) (by omega)).trans hpb) ?_ (layP_fr ps1 o (fun k x hk a c => Fo k _ (by omega) (fun h => hpk k hk h.1)) lay1) (stkL_fr ps1 pb o (fun x _ _ => Fo 37 x (by unfold pk; omega) (by omega)) stk1) (wf_B (by omega) wp hw) E1 ez1 G10 (by omega) (by omega) (by rw [if_neg (by intro h; cases h)]) ?_
      · rw [← hs1, aU_1, mdS_1, fU_1, if_pos rfl]
      · intro s2 h1 h2 h2b h3 h4 h5
        have ee : ps1 ++ p :: (x :: t) = (ps1 ++ [p]) ++ x :: t := by rw [List.append_assoc]; rfl
        rw [ee] at h2 h2b h3 h4 ⊢
        exact K s2 h1 h2 (by rw [h2b, hsz1, hsB]; omega) h3 h4 (F1.tr h5 (by omega))
set_option maxHeartbeats 4000000 in
theorem M_cho_loop (hl : l.stackTraces = false) (dd op pb o : Nat) (hdd : 1 ≤ dd) (ho8 : op < 8) (Q : Oc → MSt → Prop) : ∀ (j : Nat) (ps : List Ex) (s : MSt) (x : Ex) (t : List Ex) (b zz : Nat), ps.length = j → s.1 35 = nI op → s.2 41 op = nI pb → s.1 38 = nI (pb + j) → layP s.2 o ps → stkL (s.2 39) pb o ps → wf (mkB 2 x t) → encP s.2 384 (mkB 2 x t) (o + szL ps) → zz = o + szL ps + sz (mkB 2 x t) → s.2 10 6 = nI zz → zz + j < 62 → pb + j ≤ 32 → b = (if t = [] then 0 else 1) → (∀ s2, s2.1 38 = nI pb → wf (mkL 2 (ps ++ x :: t)) → sz (mkL 2 (ps ++ x :: t)) = szL ps + j + sz (mkB 2 x t) → encP s2.2 384 (mkL 2 (ps ++ x :: t)) o → s2.2 10 6 = nI (o + sz (mkL 2 (ps ++ x :: t))) → fr5 38 zz s s2 → EW (IM cy ad hp0) l D cy base mX9_choiceDone dd 0 0 86 [(0, .ref (ad 43)), (1, .int (nI (o + sz (mkL 2 (ps ++ x :: t)) - 1)))] [] s2 Q) → EW (IM cy ad hp0) l D cy base mX9_choiceDone dd 0 0 28 [(0, .ref (ad 43)), (1, .int (nI (zz - 1))), (2, .int (nI b))] [] s Q
  | 0, ps, s, x, t, b, zz, hj, ho, hpb, hp, hlay, hst, hw, henc, hzz, hz, hz9, hpj, hb, K => by
    have e0 : ps = [] := List.eq_nil_of_length_eq_zero hj
    subst e0
    refine EW.aload_n dX9_choiceDone_28 rfl rfl ?_
    refine EM.get f_X9_137 dX9_choiceDone_29 rfl ?_
    refine EW.top hp ?_
    refine EW.aload_n dX9_choiceDone_32 rfl rfl ?_
    refine EM.get f_X9_96 dX9_choiceDone_33 rfl ?_
    refine EW.aload_n dX9_choiceDone_36 rfl rfl ?_
    refine EM.get f_X9_131 dX9_choiceDone_37 rfl ?_
    refine EW.top ho ?_
    refine EM.ialdN op dX9_choiceDone_40 rfl rfl (by simp only [mLen]; omega) ?_
    refine EW.top hpb ?_
    refine EW.icmp_le 86 dX9_choiceDone_41 (by decide) (fun c41 => ?_) (fun c41 => ?_)
    · have c41 : pb + 0 ≤ pb := (nI_leI (by omega) (by omega)).mp c41
      have K2 := K s hp hw (by show sz (mkB 2 x t) = 0 + 0 + sz (mkB 2 x t); omega) henc (by rw [hz, hzz]; congr 1) fr5.rf
      have e1 : zz - 1 = o + sz (mkL 2 ([] ++ x :: t)) - 1 := by show zz - 1 = o + sz (mkB 2 x t) - 1; rw [hzz]; show o + 0 + sz (mkB 2 x t) - 1 = _; omega
      rw [e1]
      exact EW.loc (lv' := [(0, .ref (ad 43)), (1, .int (nI (_)))]) ⟨rfl, rfl, trivial⟩ K2
    · have c41 : ¬ (pb + 0 ≤ pb) := fun h => c41 ((nI_leI (by omega) (by omega)).mpr h); omega
  | j + 1, ps, s, x, t, b, zz, hj, ho, hpb, hp, hlay, hst, hw, henc, hzz, hz, hz9, hpj, hb, K => by
    obtain ⟨ps1, p, rfl⟩ : ∃ ps1 p, ps = ps1 ++ [p] := by
      rcases List.eq_nil_or_concat ps with h | ⟨a, c, h⟩
      · rw [h] at hj; cases hj
      · exact ⟨a, c, by rw [h, List.concat_eq_append]⟩
    have hj1 : ps1.length = j := by rw [List.length_append] at hj; exact Nat.succ.inj hj
    have hsz1 : szL (ps1 ++ [p]) = szL ps1 + sz p := by rw [szL_app]; rfl
    rw [hsz1] at henc hzz
    obtain ⟨lay1, wp, encp, -⟩ := (layP_app ps1 [p] o).mp hlay
    obtain ⟨stk1, hv, -⟩ := (stkL_app ps1 [p] pb o).mp hst
    rw [hj1] at hv
    have hpz := sz_pos p wp
    have hmz := sz_pos _ hw
    have hb1 : b ≤ 1 := by rw [hb]; split <;> omega
    have hv2 : s.2 39 (pb + (j + 1) - 1) = nI (o + szL ps1 + sz p - 1) := by rw [show pb + (j + 1) - 1 = pb + j by omega]; exact hv
    refine EW.aload_n dX9_choiceDone_28 rfl rfl ?_
    refine EM.get f_X9_137 dX9_choiceDone_29 rfl ?_
    refine EW.top hp ?_
    refine EW.aload_n dX9_choiceDone_32 rfl rfl ?_
    refine EM.get f_X9_96 dX9_choiceDone_33 rfl ?_
    refine EW.aload_n dX9_choiceDone_36 rfl rfl ?_
    refine EM.get f_X9_131 dX9_choiceDone_37 rfl ?_
    refine EW.top ho ?_
    refine EM.ialdN op dX9_choiceDone_40 rfl rfl (by simp only [mLen]; omega) ?_
    refine EW.top hpb ?_
    refine EW.icmp_le 86 dX9_choiceDone_41 (by decide) (fun c41 => ?_) (fun c41 => ?_)
    · have c41 : pb + (j + 1) ≤ pb := (nI_leI (by omega) (by omega)).mp c41; omega
    · have c41 : ¬ (pb + (j + 1) ≤ pb) := fun h => c41 ((nI_leI (by omega) (by omega)).mpr h)
      refine EW.aload_n dX9_choiceDone_44 rfl rfl ?_
      refine EW.dup dX9_choiceDone_45 rfl ?_
      refine EM.get f_X9_137 dX9_choiceDone_46 rfl ?_
      refine EW.top hp ?_
      refine EW.ic 1 dX9_choiceDone_49 ?_
      refine EW.isub dX9_choiceDone_50 ?_
      refine EW.top (pk_sub (by omega)) ?_
      refine EM.put f_X9_137 dX9_choiceDone_51 rfl ?_
      refine EW.aload_n dX9_choiceDone_54 rfl rfl ?_
      refine EW.ic 3 dX9_choiceDone_55 ?_
      refine EW.aload_n dX9_choiceDone_56 rfl rfl ?_
      refine EM.get f_X9_90 dX9_choiceDone_57 rfl ?_
      refine EW.aload_n dX9_choiceDone_60 rfl rfl ?_
      refine EM.get f_X9_137 dX9_choiceDone_61 rfl ?_
      refine EW.top (show va_up s.1 38 (nI (pb + (j + 1) - 1)) 38 = nI (pb + (j + 1) - 1) from va_up_self _ _ _) ?_
      refine EM.ialdN ((pb + (j + 1)) - 1) dX9_choiceDone_64 rfl rfl (by simp only [mLen]; omega) ?_
      refine EW.top hv2 ?_
      refine EW.iload_n dX9_choiceDone_65 rfl rfl ?_
      refine EM.callV (M_madeS hl 0 (fU 38 (nI (pb + (j + 1) - 1)) s) zz 3 (nI (o + szL ps1 + sz p - 1)) (nI (zz - 1)) hz (by omega)) mfX9_made l_X9_127 mvX9_made (by omega) dX9_choiceDone_66 rfl rfl rfl rfl (Nat.le_of_ble_eq_true rfl) (fun _ _ q => nomatch q.1) (fun v66 s66 q66 => ?_)
      obtain ⟨e66, h66⟩ := q66; cases e66; replace h66 := h66.symm; subst h66
      refine EW.istore_n dX9_choiceDone_69 rfl (by decide) ?_
      refine EW.aload_n dX9_choiceDone_70 rfl rfl ?_
      refine EM.get f_X9_29 dX9_choiceDone_71 rfl ?_
      refine EW.sp 384 dX9_choiceDone_74 ?_
      refine EW.iload_n dX9_choiceDone_77 rfl rfl ?_
      refine EW.iadd dX9_choiceDone_78 ?_
      refine EW.top (nI_add _ _) ?_
      refine EW.iload_n dX9_choiceDone_79 rfl rfl ?_
      refine EM.zastN (384 + zz) dX9_choiceDone_80 rfl rfl (by simp only [mLen]; omega) ?_
      refine EW.ic 1 dX9_choiceDone_81 ?_
      refine EW.istore_n dX9_choiceDone_82 rfl (by decide) ?_
      refine EW.goto 28 dX9_choiceDone_83 (by decide) ?_
      refine EW.eqs (s' := aU 9 (384 + zz) (nI b) (mdS zz 3 (nI (o + szL ps1 + sz p - 1)) (nI (zz - 1)) (fU 38 (nI (pb + j)) s))) (by rw [show pb + (j + 1) - 1 = pb + j by omega]; unfold aU; rw [bN hb1]) ?_
      generalize hs1 : aU 9 (384 + zz) (nI b) (mdS zz 3 (nI (o + szL ps1 + sz p - 1)) (nI (zz - 1)) (fU 38 (nI (pb + j)) s)) = s1
      have Fo : ∀ k x, ¬ (pk k ∧ 384 + zz ≤ x) → ¬ (k = 10 ∧ x = 6) → s1.2 k x = s.2 k x := fun k x h1 h2 => by
        rw [← hs1, aU_2, if_neg (fun c => h1 ⟨Or.inr (Or.inr (Or.inr c.1)), by omega⟩), mdS_o (fun c => h1 ⟨c.1, by omega⟩) h2]
        rfl
      have F1 : fr5 38 zz s s1 := ⟨fun j hj => by rw [← hs1, aU_1, mdS_1, fU_1, if_neg hj], Fo⟩
      have hpk : ∀ k, pk k → k ≠ 10 := fun k h e => by subst e; unfold pk at h; omega
      have G9 : s1.2 9 (384 + zz) = nI b := by rw [← hs1, aU_2, if_pos ⟨rfl, rfl⟩]
      have G5 : s1.2 5 (384 + zz) = nI 3 := by rw [← hs1, aU_2, if_neg (by omega)]; exact mdS_5
      have G6 : s1.2 6 (384 + zz) = nI (o + szL ps1 + sz p - 1) := by rw [← hs1, aU_2, if_neg (by omega)]; exact mdS_6
      have G7 : s1.2 7 (384 + zz) = nI (zz - 1) := by rw [← hs1, aU_2, if_neg (by omega)]; exact mdS_7
      have G10 : s1.2 10 6 = nI (zz + 1) := by rw [← hs1, aU_2, if_neg (by omega)]; exact mdS_10
      have ezz : o + szL ps1 + sz p + sz (mkB 2 x t) = zz := by omega
      have hsB : sz (mkB 2 p (x :: t)) = sz p + sz (mkB 2 x t) + 1 := by rw [mkB_cons]; rfl
      have hbm : (2 + if t = [] then 0 else 1) % 2 = b := by rw [hb]; split <;> rfl
      have hbd : 2 + (2 + if t = [] then 0 else 1) / 2 = 3 := by split <;> rfl
      have E1 : encP s1.2 384 (mkB 2 p (x :: t)) (o + szL ps1) := by
        rw [mkB_cons]
        refine ⟨encP_fr p wp _ (fun k x hk a c => Fo k _ (by omega) (fun h => hpk k hk h.1)) encp, encP_fr _ hw _ (fun k x hk a c => Fo k _ (by omega) (fun h => hpk k hk h.1)) (by rw [show o + szL ps1 + sz p = o + (szL ps1 + sz p) by omega]; exact henc), ?_, ?_, ?_, ?_⟩
        · rw [ezz, hbd]; exact G5
        · rw [ezz]; exact G6
        · rw [ezz]; exact G7
        · rw [ezz, hbm]; exact G9
      have ez1 : zz + 1 = o + szL ps1 + sz (mkB 2 p (x :: t)) := by rw [hsB]; omega
      refine EW.loc (lv' := [(0, .ref (ad 43)), (1, .int (nI (zz + 1 - 1))), (2, .int (nI 1))]) ⟨rfl, by rw [show zz + 1 - 1 = zz by omega]; rfl, rfl, trivial⟩ ?_
      refine M_cho_loop hl dd op pb o hdd ho8 Q j ps1 s1 p (x :: t) 1 (zz + 1) hj1 ((F1.1 35 (by decide)).trans ho) ((Fo 41 op (by unfold pk; omega) (by omega)).trans hpb) ?_ (layP_fr ps1 o (fun k x hk a c => Fo k _ (by omega) (fun h => hpk k hk h.1)) lay1) (stkL_fr ps1 pb o (fun x _ _ => Fo 39 x (by unfold pk; omega) (by omega)) stk1) (wf_B (by omega) wp hw) E1 ez1 G10 (by omega) (by omega) (by rw [if_neg (by intro h; cases h)]) ?_
      · rw [← hs1, aU_1, mdS_1, fU_1, if_pos rfl]
      · intro s2 h1 h2 h2b h3 h4 h5
        have ee : ps1 ++ p :: (x :: t) = (ps1 ++ [p]) ++ x :: t := by rw [List.append_assoc]; rfl
        rw [ee] at h2 h2b h3 h4 ⊢
        exact K s2 h1 h2 (by rw [h2b, hsz1, hsB]; omega) h3 h4 (F1.tr h5 (by omega))
end M18
