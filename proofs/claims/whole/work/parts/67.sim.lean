section P67
variable {cy : Nat → ClassId} {ad : Nat → Nat} {hp0 : Hp} {l : Launch} {D : va_G} {base dd : Nat}
/-- the room that is left at place a -/
def RM (z0 pb rb : Nat) (rs ps : List Ex) (a : Nat) : Prop := z0 + szL rs + szL ps + rs.length + ps.length ≤ 2 * a ∧ pb + ps.length ≤ a ∧ rb + rs.length ≤ a
theorem RM.le {z0 pb rb : Nat} {rs ps : List Ex} {a b : Nat} (h : RM z0 pb rb rs ps a) (hab : a ≤ b) : RM z0 pb rb rs ps b := ⟨by have := h.1; omega, by have := h.2.1; omega, by have := h.2.2; omega⟩
theorem RM.add {z0 pb rb : Nat} {rs ps : List Ex} {a b : Nat} {t : Ex} (h : RM z0 pb rb rs ps a) (hab : a < b) (ht : sz t + 1 ≤ 2 * (b - a)) : RM z0 pb rb rs (ps ++ [t]) b := by
  obtain ⟨h1, h2, h3⟩ := h
  have e1 : szL (ps ++ [t]) = szL ps + sz t := by rw [szL_app]; rfl
  have e2 : (ps ++ [t]).length = ps.length + 1 := by rw [List.length_append]; rfl
  exact ⟨by rw [e1, e2]; omega, by rw [e2]; omega, by omega⟩
theorem RM.row {z0 pb rb : Nat} {rs pt : List Ex} {p : Ex} {a : Nat} (h : RM z0 pb rb rs (p :: pt) a) : RM z0 pb rb (rs ++ [mkB 0 p pt]) [] (a + 1) := by
  obtain ⟨h1, h2, h3⟩ := h
  have e0 := szL_mk 0 pt p
  have e1 : szL (rs ++ [mkB 0 p pt]) = szL rs + sz (mkB 0 p pt) := by rw [szL_app]; rfl
  have e2 : (rs ++ [mkB 0 p pt]).length = rs.length + 1 := by rw [List.length_append]; rfl
  have e3 : (p :: pt).length = pt.length + 1 := rfl
  rw [e3] at h1 h2
  exact ⟨by rw [e1, e2]; show z0 + _ + 0 + _ + 0 ≤ _; omega, by show pb + 0 ≤ _; omega, by rw [e2]; omega⟩
theorem LVL.k {s : MSt} {k z0 pb rb : Nat} {rs ps : List Ex} {sg : Nat} (h : LVL s k z0 pb rb rs ps sg) : s.1 35 = nI k := h.1
theorem LVL.sgn {s : MSt} {k z0 pb rb : Nat} {rs ps : List Ex} {sg : Nat} (h : LVL s k z0 pb rb rs ps sg) : s.2 42 k = nI sg := h.2.2.2.2.2.2.2.2.2.2
variable (n : Nat) (tx : Nat → Nat)
def UNITP (cy : Nat → ClassId) (ad : Nat → Nat) (hp0 : Hp) (l : Launch) (D : va_G) (base dd : Nat) (j : Nat) : Prop := ∀ (k z0 pb rb : Nat) (rs ps : List Ex) (sg a due : Nat) (s : MSt) (Q : Oc → MSt → Prop), k + j = 4 → LVL s k z0 pb rb rs ps sg → (sg = 0 ∨ sg = 38 ∨ sg = 33) → (sg = 0 → sB (tx a) = 0) → TXM s n tx → due ≤ 1 → (due = 1 ∨ bgP (tx a)) → a ≤ n → RM z0 pb rb rs ps a → (∀ f s2, pUnit tx (pD tx j) a = (none, f) → FPR k z0 pb rb s s2 → Q (.inl (some (.int (nI f)))) s2) → (∀ u b s2, pUnit tx (pD tx j) a = (some u, b) → LVL s2 k z0 pb rb rs (ps ++ [sgn (sB sg) (sgn (sE (tx b)) u)]) 0 → FPR k z0 pb rb s s2 → HD cy ad hp0 l D base dd s2 (if sE (tx b) = 0 then b else b + 1) 0 Q) → HD cy ad hp0 l D base dd s a due Q
def PARTP (cy : Nat → ClassId) (ad : Nat → Nat) (hp0 : Hp) (l : Launch) (D : va_G) (base dd : Nat) (j : Nat) : Prop := ∀ (k z0 pb rb : Nat) (rs ps : List Ex) (a due : Nat) (s : MSt) (Q : Oc → MSt → Prop), k + j = 4 → LVL s k z0 pb rb rs ps 0 → TXM s n tx → due ≤ 1 → (due = 1 ∨ bgP (tx a)) → a ≤ n → RM z0 pb rb rs ps a → (∀ f s2, pPart tx (pD tx j) a = (none, f) → FPR k z0 pb rb s s2 → Q (.inl (some (.int (nI f)))) s2) → (∀ t b s2, pPart tx (pD tx j) a = (some t, b) → LVL s2 k z0 pb rb rs (ps ++ [t]) 0 → FPR k z0 pb rb s s2 → HD cy ad hp0 l D base dd s2 b 0 Q) → HD cy ad hp0 l D base dd s a due Q
def CHOP (cy : Nat → ClassId) (ad : Nat → Nat) (hp0 : Hp) (l : Launch) (D : va_G) (base dd : Nat) (j : Nat) : Prop := ∀ (k z0 pb rb : Nat) (a : Nat) (s : MSt) (Q : Oc → MSt → Prop), k + j = 4 → LVL s k z0 pb rb [] [] 0 → TXM s n tx → a ≤ n → RM z0 pb rb [] [] a → (∀ f s2, pG tx j a = (none, f) → FPR k z0 pb rb s s2 → Q (.inl (some (.int (nI f)))) s2) → (∀ t b s2 rs p pt, pG tx j a = (some t, b) → t = mkL 2 (rs ++ [mkB 0 p pt]) → LVL s2 k z0 pb rb rs (p :: pt) 0 → FPR k z0 pb rb s s2 → ¬ bgP (tx b) → ¬ tx b = 47 → RM z0 pb rb rs (p :: pt) b → b ≤ n → HD cy ad hp0 l D base dd s2 b 0 Q) → HD cy ad hp0 l D base dd s a 1 Q
variable {n tx}
theorem sB_0 {c : Nat} (h : sB c = 0) : ¬ c = 38 ∧ ¬ c = 33 := by
  unfold sB at h
  constructor
  · intro e; rw [if_pos e] at h; cases h
  · intro e; rw [if_neg (by omega), if_pos e] at h; cases h
theorem sB_1 {c : Nat} (h : ¬ sB c = 0) : c = 38 ∨ c = 33 := by
  unfold sB at h
  by_cases h1 : c = 38
  · exact Or.inl h1
  · by_cases h2 : c = 33
    · exact Or.inr h2
    · rw [if_neg h1, if_neg h2] at h; exact absurd rfl h
theorem pU_no {Dp : Option (Nat → Pr)} {a : Nat} (h : ¬ bgP (tx a)) : pUnit tx Dp a = (none, a) := by
  unfold bgP at h
  unfold pUnit
  rw [if_neg (by omega), if_neg (by omega), if_neg (by omega), if_neg (by omega), if_neg (by omega)]
theorem pU_40 {Dp : Option (Nat → Pr)} {a : Nat} (h : tx a = 40) : pUnit tx Dp a = (match Dp with
    | none => (none, a)
    | some g => match g (a + 1) with
      | (none, b) => (none, b)
      | (some e, b) => if tx b = 41 then (some e, b + 1) else (none, b)) := by
  unfold pUnit
  rw [if_neg (by omega), if_pos h]
  cases Dp with
  | none => rfl
  | some g =>
    rcases g (a + 1) with ⟨_ | _, _⟩ <;> rfl
set_option maxHeartbeats 1000000 in
theorem UNITP_of (hl : l.stackTraces = false) (hdd : 6 ≤ dd) {j : Nat} (hC : ∀ j', j = j' + 1 → CHOP n tx cy ad hp0 l D base dd j') : UNITP n tx cy ad hp0 l D base dd j := by
  intro k z0 pb rb rs ps sg a due s Q hkj hL hsg hsB hT hdue hbg han hRM KF KS
  have hn24 := hT.2.1
  have ht0 := hT.2.2.2.1 a
  have hz0 := hT.2.2.2.2
  by_cases hlt : a < n
  · by_cases h40 : tx a = 40
    · cases j with
      | zero => exact R_open4 hl hdd hT hL.k (by omega) hdue hlt h40 (by omega) (KF a s (pU_40 h40) FPR.rf)
      | succ j =>
        refine R_open hl hdd hT hL.k (by omega) hdue hlt h40 (by omega) ?_
        obtain ⟨a1, a2, a3, a4, a5, a6, a7, a8, a9, a10, a11⟩ := id hL
        generalize hs1 : aU 42 (k + 1) (vp_nar .char (nI 0)) (aU 41 (k + 1) (s.1 38) (aU 40 (k + 1) (s.1 36) (fU 35 (nI (k + 1)) s))) = s1
        have h0 : vp_nar .char (nI 0) = nI 0 := by decide +kernel
        have G : ∀ q y, ¬ (40 ≤ q ∧ q ≤ 42 ∧ y = k + 1) → s1.2 q y = s.2 q y := fun q y h => by
          rw [← hs1, aU_2, if_neg (fun c => h ⟨by omega, by omega, c.2⟩), aU_2, if_neg (fun c => h ⟨by omega, by omega, c.2⟩), aU_2, if_neg (fun c => h ⟨by omega, by omega, c.2⟩)]
          rfl
        have G1 : ∀ i, i ≠ 35 → s1.1 i = s.1 i := fun i hi => by rw [← hs1, aU_1, aU_1, aU_1, fU_1, if_neg hi]
        have F1 : FPR (k + 1) (z0 + szL rs + szL ps) (pb + ps.length) (rb + rs.length) s s1 := ⟨fun i h1 _ _ => G1 i h1, fun q y h1 h2 h3 h4 h5 => G q y (fun c => h5 ⟨c.1, c.2.1, by omega⟩)⟩
        have L1 : LVL s1 (k + 1) (z0 + szL rs + szL ps) (pb + ps.length) (rb + rs.length) [] [] 0 := by
          refine ⟨by rw [← hs1, aU_1, aU_1, aU_1, fU_1, if_pos rfl], ?_, ?_, (G1 36 (by decide)).trans a4, (G1 38 (by decide)).trans a5, (G 10 6 (by omega)).trans a6, trivial, trivial, trivial, trivial, ?_⟩
          · rw [← hs1, aU_2, if_neg (by omega), aU_2, if_neg (by omega), aU_2, if_pos ⟨rfl, rfl⟩]; exact a4
          · rw [← hs1, aU_2, if_neg (by omega), aU_2, if_pos ⟨rfl, rfl⟩]; exact a5
          · rw [← hs1, aU_2, if_pos ⟨rfl, rfl⟩, h0]
        have hT1 := hT.fr F1
        have FM : ∀ s2, FPR (k + 1) (z0 + szL rs + szL ps) (pb + ps.length) (rb + rs.length) s1 s2 → FPR k z0 pb rb s s2 := fun s2 f => (F1.tr f).mo (by omega) (by omega) (by omega) (by omega)
        obtain ⟨r1, r2, r3⟩ := id hRM
        refine hC j rfl (k + 1) (z0 + szL rs + szL ps) (pb + ps.length) (rb + rs.length) (a + 1) s1 Q (by omega) L1 hT1 (by omega) ⟨by show z0 + szL rs + szL ps + 0 + 0 + 0 + 0 ≤ _; omega, by show pb + ps.length + 0 ≤ _; omega, by show rb + rs.length + 0 ≤ _; omega⟩ (fun f s2 e f2 => KF f s2 ?_ (FM s2 f2)) ?_
        · rw [pU_40 h40]
          show (match pG tx j (a + 1) with
            | (none, b) => (none, b)
            | (some e, b) => if tx b = 41 then (some e, b + 1) else (none, b)) = (none, f)
          rw [e]
        intro t b s2 rs' p pt e et L2 F2 hb1 hb2 hRM2 hbn
        have eU : pUnit tx (pD tx (j + 1)) a = if tx b = 41 then (some t, b + 1) else (none, b) := by
          rw [pU_40 h40]
          show (match pG tx j (a + 1) with
            | (none, b) => (none, b)
            | (some e, b) => if tx b = 41 then (some e, b + 1) else (none, b)) = _
          rw [e]
        have hT2 := hT1.fr F2
        have htb := hT.2.2.2.1 b
        by_cases hbn2 : b < n
        · by_cases h41 : tx b = 41
          · rw [if_pos h41] at eU
            obtain ⟨r4, r5, r6⟩ := hRM2
            have hlen : (p :: pt).length = pt.length + 1 := rfl
            rw [hlen] at r4 r5
            have hCh := M_choiceDone (cy := cy) (ad := ad) (hp0 := hp0) (D := D) (base := base) hl 0 s2 (k + 1) (z0 + szL rs + szL ps) (pb + ps.length) (rb + rs.length) rs' p pt 0 L2 (by omega) (by omega) (by rw [hlen]; omega) (by omega)
            have hszt : sz t + 1 ≤ szL rs' + szL (p :: pt) + rs'.length + (pt.length + 1) := by
              rw [et]
              have e1 := szL_mk 0 pt p
              cases hrs : rs' with
              | nil => show sz (mkB 2 (mkB 0 p pt) []) + 1 ≤ _; rw [szL_mk]; show sz (mkB 0 p pt) + 0 + 0 + 1 ≤ 0 + _ + 0 + _; omega
              | cons e0 t0 =>
                show sz (mkB 2 e0 (t0 ++ [mkB 0 p pt])) + 1 ≤ _
                rw [szL_mk]
                have e2 : szL (e0 :: (t0 ++ [mkB 0 p pt])) = szL (e0 :: t0) + sz (mkB 0 p pt) := by
                  show sz e0 + szL (t0 ++ [mkB 0 p pt]) = sz e0 + szL t0 + _
                  rw [szL_app]
                  show sz e0 + (szL t0 + (sz (mkB 0 p pt) + 0)) = _
                  omega
                have e3 : (t0 ++ [mkB 0 p pt]).length = t0.length + 1 := by rw [List.length_append]; rfl
                have e4 : (e0 :: t0).length = t0.length + 1 := rfl
                rw [e2, e3, e4]
                omega
            refine R_close (cy := cy) (ad := ad) (hp0 := hp0) (D := D) (base := base) hl hdd hT2 L2.k (by omega) (by decide) hbn2 h41 rfl (by omega) (u := z0 + szL rs + szL ps + sz t - 1) (b := if sE (tx (b + 1)) = 0 then b + 1 else b + 1 + 1) (P := fun s3 => wf t ∧ encP s3.2 384 t (z0 + szL rs + szL ps) ∧ s3.2 10 6 = nI (z0 + szL rs + szL ps + sz t) ∧ s3.1 35 = nI (k + 1) ∧ s3.1 36 = nI (pb + ps.length) ∧ s3.1 38 = nI (rb + rs.length) ∧ FPR (k + 1) (z0 + szL rs + szL ps) (pb + ps.length) (rb + rs.length) s2 s3) (P2 := fun s4 => LVL s4 k z0 pb rb rs (ps ++ [_root_.Jvm.Pilot.CChoiceParserLaw_law_r3167_6716c9.sgn (sB sg) (_root_.Jvm.Pilot.CChoiceParserLaw_law_r3167_6716c9.sgn (sE (tx (b + 1))) t)]) 0 ∧ FPR k z0 pb rb s s4) ?_ (fun s3 h => h.2.2.2.1) ?_ (fun s4 h => KS t (b + 1) s4 eU h.1 h.2)
            · refine MtW.post ?_ hCh
              rintro o s3 ⟨t', et', q1, q2, q3, q4, q5, q6, q7, q8⟩
              have : t' = t := et'.trans et.symm
              subst this
              exact ⟨q1, q2, q3, q4, q5, q6, q7, q8⟩
            · rintro s3 ⟨q2, q3, q4, q5, q6, q7, q8⟩
              have F3 : FPR (k + 1) (z0 + szL rs + szL ps) (pb + ps.length) (rb + rs.length) s (fU 35 (nI (k + 1 - 1)) s3) := (F1.tr (F2.tr q8)).tr ⟨fun i h1 _ _ => by rw [fU_1, if_neg h1], fun _ _ _ _ _ _ _ => rfl⟩
              have q := fun q y h1 h2 h3 h4 h5 => F3.2 q y h1 h2 h3 h4 h5
              have LU : LVU (fU 35 (nI (k + 1 - 1)) s3) k z0 pb rb rs ps sg t := by
                refine ⟨by rw [fU_1, if_pos rfl]; rfl, (q 40 k (by unfold pk; omega) (by omega) (by omega) (by omega) (by omega)).trans a2, (q 41 k (by unfold pk; omega) (by omega) (by omega) (by omega) (by omega)).trans a3, by rw [fU_1, if_neg (by decide)]; exact q6, by rw [fU_1, if_neg (by decide)]; exact q7, q4, ?_, ?_, ?_, ?_, (q 42 k (by unfold pk; omega) (by omega) (by omega) (by omega) (by omega)).trans a11, q2, q3⟩
                · exact layP_fr rs z0 (fun i y hi h1 h2 => q i _ (by omega) (by unfold pk at hi; omega) (by unfold pk at hi; omega) (by unfold pk at hi; omega) (by unfold pk at hi; omega)) a7
                · exact layP_fr ps _ (fun i y hi h1 h2 => q i _ (by omega) (by unfold pk at hi; omega) (by unfold pk at hi; omega) (by unfold pk at hi; omega) (by unfold pk at hi; omega)) a8
                · exact stkL_fr rs rb z0 (fun y h1 h2 => q 39 y (by unfold pk; omega) (by omega) (by omega) (by omega) (by omega)) a9
                · exact stkL_fr ps pb _ (fun y h1 h2 => q 37 y (by unfold pk; omega) (by omega) (by omega) (by omega) (by omega)) a10
              have hP := M_partD (cy := cy) (ad := ad) (hp0 := hp0) (D := D) (base := base) hl _ k z0 pb rb rs ps sg t (b + 1) n tx LU (hT.fr F3) (by omega) (by omega) (by omega) (by omega) hsg
              refine MtW.post ?_ hP
              rintro o s4 ⟨p1, p2, p3⟩
              exact ⟨p1, p2, (F3.mo (by omega) (by omega) (by omega) (by omega)).tr p3⟩
          · rw [if_neg h41] at eU
            refine R_simple hl hdd hT2 L2.k (by omega) (by decide) hbn2 L2.sgn (by decide) (Or.inl ⟨fun c => hb1 (by unfold bgP; omega), fun c => hb1 (by unfold bgP; omega)⟩) (fun c => hb1 (by unfold bgP; omega)) (Or.inr ⟨hb2, Or.inl h41⟩) ?_
            obtain ⟨r4, r5, r6⟩ := hRM2
            have hlen : (p :: pt).length = pt.length + 1 := rfl
            rw [hlen] at r4 r5
            have hS := M_simple (cy := cy) (ad := ad) (hp0 := hp0) (D := D) (base := base) hl s2 (k + 1) (z0 + szL rs + szL ps) (pb + ps.length) (rb + rs.length) rs' (p :: pt) 0 b n tx L2 hT2 (by omega) (by omega) (by omega) (by rw [hlen]; omega) (Or.inl rfl) (fun c => hb1 (by unfold bgP; omega)) none
            rw [pU_no hb1] at hS
            refine R_sim218 hl hdd hS (fun o s3 q => by obtain ⟨v, e, -⟩ := q; exact ⟨v, e, trivial⟩) (fun v s3 q => ?_)
            obtain ⟨v', e1, e2, e3, e4⟩ := q
            cases e1
            subst e4
            exact R_simF e2 e3 (KF b s3 eU (FM s3 F2))
        · have ebn : b = n := by omega
          have h41 : ¬ tx b = 41 := by rw [ebn, hz0 n (Nat.le_refl _)]; decide
          rw [if_neg h41] at eU
          exact R_endF hl hdd hT2 L2.k (by omega) (by decide) hbn2 (by omega) (Or.inr (by omega)) (by rw [← ebn]; exact KF b s2 eU (FM s2 F2))
    · obtain ⟨r1, r2, r3⟩ := id hRM
      refine R_simple hl hdd hT hL.k (by omega) hdue hlt hL.sgn (by omega) ?_ h40 ?_ ?_
      · rcases hsg with h | h | h
        · exact Or.inl (sB_0 (hsB h))
        · exact Or.inr (by omega)
        · exact Or.inr (by omega)
      · rcases hbg with h | h
        · exact Or.inl h
        · unfold bgP at h
          exact Or.inr ⟨by omega, Or.inl (by omega)⟩
      have hS := M_simple (cy := cy) (ad := ad) (hp0 := hp0) (D := D) (base := base) hl s k z0 pb rb rs ps sg a n tx hL hT (by omega) (by omega) (by omega) (by omega) hsg h40 (pD tx j)
      cases hU : pUnit tx (pD tx j) a with
      | mk o9 b =>
        rw [hU] at hS
        have hPB := pUnit_b (n := n) hz0 (pD_b hz0 j) a han
        rw [hU] at hPB
        cases o9 with
        | none =>
          refine R_sim218 hl hdd hS (fun o s3 q => by obtain ⟨v, e, -⟩ := q; exact ⟨v, e, trivial⟩) (fun v s3 q => ?_)
          obtain ⟨v', e1, e2, e3, e4⟩ := q
          cases e1
          subst e4
          exact R_simF e2 e3 (KF b s3 hU FPR.rf)
        | some u =>
          refine R_sim218 hl hdd hS (fun o s3 q => ⟨_, q.1, trivial⟩) (fun v s3 q => ?_)
          obtain ⟨e1, e2, e3⟩ := q
          cases e1
          have hb2 : b ≤ n := hPB.2.1
          exact R_simS (by split <;> omega) (KS u b s3 hU e2 e3)
  · have ean : a = n := by omega
    have hnb : ¬ bgP (tx a) := by rw [ean, hz0 n (Nat.le_refl _)]; unfold bgP; decide
    exact R_endF hl hdd hT hL.k (by omega) hdue hlt (by omega) (Or.inl (hbg.resolve_right hnb)) (by rw [← ean]; exact KF a s (pU_no hnb) FPR.rf)
end P67
