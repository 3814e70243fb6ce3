section P68
variable {cy : Nat → ClassId} {ad : Nat → Nat} {hp0 : Hp} {l : Launch} {D : va_G} {base dd n : Nat} {tx : Nat → Nat}
theorem PARTP_of (hl : l.stackTraces = false) (hdd : 6 ≤ dd) {j : Nat} (hU : UNITP n tx cy ad hp0 l D base dd j) : PARTP n tx cy ad hp0 l D base dd j := by
  intro k z0 pb rb rs ps a due s Q hkj hL hT hdue hbg han hRM KF KS
  have ht0 := hT.2.2.2.1 a
  have hz0 := hT.2.2.2.2
  by_cases hs : sB (tx a) = 0
  · refine hU k z0 pb rb rs ps 0 a due s Q hkj hL (Or.inl rfl) (fun _ => hs) hT hdue hbg han hRM (fun f s2 e f2 => KF f s2 ?_ f2) (fun u b s2 e L2 f2 => KS _ _ s2 ?_ L2 f2)
    · unfold pPart
      rw [if_pos hs, e]
    · unfold pPart
      rw [if_pos hs, e, hs]
      rfl
  · have hlt : a < n := tx_lt hz0 (rfl : tx a = tx a) (sB_nz hs).1
    have hc := sB_1 hs
    refine R_sign hl hdd hT hL.k (by omega) hdue hlt hc hL.sgn ?_
    obtain ⟨a1, a2, a3, a4, a5, a6, a7, a8, a9, a10, a11⟩ := hL
    have hcv : vp_nar .char (nI (tx a)) = nI (tx a) := by
      rcases hc with h | h <;> rw [h] <;> decide +kernel
    rw [hcv]
    generalize hs1 : aU 42 k (nI (tx a)) s = s1
    have G : ∀ q y, ¬ (q = 42 ∧ y = k) → s1.2 q y = s.2 q y := fun q y h => by rw [← hs1, aU_2, if_neg h]
    have F1 : FPR k z0 pb rb s s1 := ⟨fun i _ _ _ => by rw [← hs1, aU_1], fun q y h1 h2 h3 h4 h5 => G q y (fun c => h5 ⟨by omega, by omega, by omega⟩)⟩
    have L1 : LVL s1 k z0 pb rb rs ps (tx a) := by
      refine ⟨by rw [← hs1, aU_1]; exact a1, (G 40 k (by omega)).trans a2, (G 41 k (by omega)).trans a3, by rw [← hs1, aU_1]; exact a4, by rw [← hs1, aU_1]; exact a5, (G 10 6 (by omega)).trans a6, layP_fr rs z0 (fun i y hi _ _ => G i _ (by unfold pk at hi; omega)) a7, layP_fr ps _ (fun i y hi _ _ => G i _ (by unfold pk at hi; omega)) a8, stkL_fr rs rb z0 (fun y _ _ => G 39 y (by omega)) a9, stkL_fr ps pb _ (fun y _ _ => G 37 y (by omega)) a10, ?_⟩
      rw [← hs1, aU_2, if_pos ⟨rfl, rfl⟩]
    refine hU k z0 pb rb rs ps (tx a) (a + 1) 1 s1 Q hkj L1 (Or.inr hc) (fun h => by rcases hc with c | c <;> omega) (hT.fr F1) (Nat.le_refl _) (Or.inl rfl) (by omega) (hRM.le (by omega)) (fun f s2 e f2 => KF f s2 ?_ (F1.tr f2)) (fun u b s2 e L2 f2 => KS _ _ s2 ?_ L2 (F1.tr f2))
    · unfold pPart
      rw [if_neg hs, e]
    · unfold pPart
      rw [if_neg hs, e]
theorem ROWL_of (hl : l.stackTraces = false) (hdd : 6 ≤ dd) {j : Nat} (hP : PARTP n tx cy ad hp0 l D base dd j) (k z0 pb rb : Nat) (rs : List Ex) (hkj : k + j = 4) (Q : Oc → MSt → Prop) : ∀ (f : Nat) (ps : List Ex) (a : Nat) (s : MSt), n ≤ a + f → a ≤ n → LVL s k z0 pb rb rs ps 0 → TXM s n tx → RM z0 pb rb rs ps a → (∀ g s2, pRowL tx (pPart tx (pD tx j)) f a = (none, g) → FPR k z0 pb rb s s2 → Q (.inl (some (.int (nI g)))) s2) → (∀ es b s2, pRowL tx (pPart tx (pD tx j)) f a = (some es, b) → LVL s2 k z0 pb rb rs (ps ++ es) 0 → FPR k z0 pb rb s s2 → ¬ bgP (tx b) → RM z0 pb rb rs (ps ++ es) b → b ≤ n → HD cy ad hp0 l D base dd s2 b 0 Q) → HD cy ad hp0 l D base dd s a 0 Q
  | 0, ps, a, s, hf, han, hL, hT, hRM, KF, KS => by
    have hnb : ¬ bgP (tx a) := by rw [hT.2.2.2.2 a (by omega)]; unfold bgP; decide
    exact KS [] a s rfl (by rw [List.append_nil]; exact hL) FPR.rf hnb (by rw [List.append_nil]; exact hRM) han
  | f + 1, ps, a, s, hf, han, hL, hT, hRM, KF, KS => by
    have hz0 := hT.2.2.2.2
    by_cases hb : bgP (tx a)
    · have hPB := pPart_b (n := n) hz0 (pD_b hz0 j) a han
      refine hP k z0 pb rb rs ps a 0 s Q hkj hL hT (by decide) (Or.inr hb) han hRM (fun g s2 e f2 => KF g s2 ?_ f2) (fun t b s2 e L2 f2 => ?_)
      · unfold pRowL
        rw [if_pos hb, e]
      · rw [e] at hPB
        obtain ⟨b1, b2, b3⟩ := hPB
        obtain ⟨b4, b5, b6, b7⟩ := b3 t rfl
        have b1 : a ≤ b := b1
        have b2 : b ≤ n := b2
        have b4 : a < b := b4
        have b7 : sz t + 1 ≤ 2 * (b - a) := b7
        refine ROWL_of hl hdd hP k z0 pb rb rs hkj Q f (ps ++ [t]) b s2 (by omega) b2 L2 (hT.fr f2) (hRM.add b4 b7) (fun g s3 e3 f3 => KF g s3 ?_ (f2.tr f3)) (fun es c s3 e3 L3 f3 h1 h2 h3 => ?_)
        · unfold pRowL
          rw [if_pos hb, e]
          show (match pRowL tx (pPart tx (pD tx j)) f b with
            | (none, c) => (none, c)
            | (some t_1, c) => (some (t :: t_1), c)) = _
          rw [e3]
        · have ea : ps ++ [t] ++ es = ps ++ t :: es := by rw [List.append_assoc]; rfl
          rw [ea] at L3 h2
          refine KS (t :: es) c s3 ?_ L3 (f2.tr f3) h1 h2 h3
          unfold pRowL
          rw [if_pos hb, e]
          show (match pRowL tx (pPart tx (pD tx j)) f b with
            | (none, c) => (none, c)
            | (some t_1, c) => (some (t :: t_1), c)) = _
          rw [e3]
    · refine KS [] a s ?_ (by rw [List.append_nil]; exact hL) FPR.rf hb (by rw [List.append_nil]; exact hRM) han
      unfold pRowL
      rw [if_neg hb]
theorem ROW_of (hl : l.stackTraces = false) (hdd : 6 ≤ dd) {j : Nat} (hP : PARTP n tx cy ad hp0 l D base dd j) (k z0 pb rb : Nat) (rs : List Ex) (hkj : k + j = 4) (Q : Oc → MSt → Prop) (a : Nat) (s : MSt) (han : a ≤ n) (hL : LVL s k z0 pb rb rs [] 0) (hT : TXM s n tx) (hRM : RM z0 pb rb rs [] a) (KF : ∀ g s2, pRow tx (pPart tx (pD tx j)) a = (none, g) → FPR k z0 pb rb s s2 → Q (.inl (some (.int (nI g)))) s2) (KS : ∀ p pt b s2, pRow tx (pPart tx (pD tx j)) a = (some (mkB 0 p pt), b) → LVL s2 k z0 pb rb rs (p :: pt) 0 → FPR k z0 pb rb s s2 → ¬ bgP (tx b) → RM z0 pb rb rs (p :: pt) b → b ≤ n → a < b → HD cy ad hp0 l D base dd s2 b 0 Q) : HD cy ad hp0 l D base dd s a 1 Q := by
  have hz0 := hT.2.2.2.2
  have hn24 := hT.2.1
  have hPB := pPart_b (n := n) hz0 (pD_b hz0 j) a han
  refine hP k z0 pb rb rs [] a 1 s Q hkj hL hT (Nat.le_refl _) (Or.inl rfl) han hRM (fun g s2 e f2 => KF g s2 ?_ f2) (fun t b s2 e L2 f2 => ?_)
  · unfold pRow
    rw [e]
  · rw [e] at hPB
    obtain ⟨b1, b2, b3⟩ := hPB
    obtain ⟨b4, b5, b6, b7⟩ := b3 t rfl
    have b2 : b ≤ n := b2
    have b4 : a < b := b4
    have b7 : sz t + 1 ≤ 2 * (b - a) := b7
    have hLB := pRowL_b (tx := tx) (n := n) (pPart_b (n := n) hz0 (pD_b hz0 j)) 24 b b2
    refine ROWL_of hl hdd hP k z0 pb rb rs hkj Q 24 [t] b s2 (by omega) b2 L2 (hT.fr f2) (hRM.add b4 b7) (fun g s3 e3 f3 => KF g s3 ?_ (f2.tr f3)) (fun es c s3 e3 L3 f3 h1 h2 h3 => KS t es c s3 ?_ L3 (f2.tr f3) h1 h2 h3 ?_)
    · unfold pRow
      rw [e]
      show (match pRowL tx (pPart tx (pD tx j)) 24 b with
        | (none, c) => (none, c)
        | (some t_1, c) => (some (mkB 0 t t_1), c)) = _
      rw [e3]
    · unfold pRow
      rw [e]
      show (match pRowL tx (pPart tx (pD tx j)) 24 b with
        | (none, c) => (none, c)
        | (some t_1, c) => (some (mkB 0 t t_1), c)) = _
      rw [e3]
    · rw [e3] at hLB
      have : b ≤ c := hLB.1
      omega
theorem CHL_of (hl : l.stackTraces = false) (hdd : 6 ≤ dd) {j : Nat} (hP : PARTP n tx cy ad hp0 l D base dd j) (k z0 pb rb : Nat) (hkj : k + j = 4) (Q : Oc → MSt → Prop) : ∀ (f : Nat) (rs : List Ex) (p : Ex) (pt : List Ex) (c : Nat) (s : MSt), n ≤ c + f → c ≤ n → LVL s k z0 pb rb rs (p :: pt) 0 → TXM s n tx → RM z0 pb rb rs (p :: pt) c → ¬ bgP (tx c) → (∀ g s2, pChL tx (pRow tx (pPart tx (pD tx j))) f c = (none, g) → FPR k z0 pb rb s s2 → Q (.inl (some (.int (nI g)))) s2) → (∀ es b s2 rs' p' pt', pChL tx (pRow tx (pPart tx (pD tx j))) f c = (some es, b) → rs' ++ [mkB 0 p' pt'] = rs ++ mkB 0 p pt :: es → LVL s2 k z0 pb rb rs' (p' :: pt') 0 → FPR k z0 pb rb s s2 → ¬ bgP (tx b) → ¬ tx b = 47 → RM z0 pb rb rs' (p' :: pt') b → b ≤ n → HD cy ad hp0 l D base dd s2 b 0 Q) → HD cy ad hp0 l D base dd s c 0 Q
  | 0, rs, p, pt, c, s, hf, hcn, hL, hT, hRM, hnb, KF, KS => by
    have h47 : ¬ tx c = 47 := by rw [hT.2.2.2.2 c (by omega)]; decide
    exact KS [] c s rs p pt rfl rfl hL FPR.rf hnb h47 hRM hcn
  | f + 1, rs, p, pt, c, s, hf, hcn, hL, hT, hRM, hnb, KF, KS => by
    have hz0 := hT.2.2.2.2
    have hn24 := hT.2.1
    by_cases h47 : tx c = 47
    · have hlt : c < n := tx_lt hz0 h47 (by decide)
      obtain ⟨r1, r2, r3⟩ := id hRM
      have hlen : (p :: pt).length = pt.length + 1 := rfl
      rw [hlen] at r1 r2
      refine R_slash hl hdd hT hL.k (by omega) (by decide) hlt h47 rfl (M_rowDone hl 0 s k z0 pb rb rs p pt 0 hL (by omega) (by omega) (by rw [hlen]; omega) (by omega)) ?_
      rintro s2 ⟨L2, wM, f2⟩
      refine ROW_of hl hdd hP k z0 pb rb (rs ++ [mkB 0 p pt]) hkj Q (c + 1) s2 (by omega) L2 (hT.fr f2) hRM.row (fun g s3 e3 f3 => KF g s3 ?_ (f2.tr f3)) (fun p1 pt1 b s3 e3 L3 f3 h1 h2 h3 h4 => ?_)
      · unfold pChL
        rw [if_pos h47, e3]
      · refine CHL_of hl hdd hP k z0 pb rb hkj Q f (rs ++ [mkB 0 p pt]) p1 pt1 b s3 (by omega) h3 L3 ((hT.fr f2).fr f3) h2 h1 (fun g s4 e4 f4 => KF g s4 ?_ (f2.tr (f3.tr f4))) (fun es b2 s4 rs' p' pt' e4 e5 L4 f4 g1 g2 g3 g4 => KS (mkB 0 p1 pt1 :: es) b2 s4 rs' p' pt' ?_ ?_ L4 (f2.tr (f3.tr f4)) g1 g2 g3 g4)
        · unfold pChL
          rw [if_pos h47, e3]
          show (match pChL tx (pRow tx (pPart tx (pD tx j))) f b with
            | (none, c) => (none, c)
            | (some t, c) => (some (mkB 0 p1 pt1 :: t), c)) = _
          rw [e4]
        · unfold pChL
          rw [if_pos h47, e3]
          show (match pChL tx (pRow tx (pPart tx (pD tx j))) f b with
            | (none, c) => (none, c)
            | (some t, c) => (some (mkB 0 p1 pt1 :: t), c)) = _
          rw [e4]
        · rw [e5, List.append_assoc]
          rfl
    · refine KS [] c s rs p pt ?_ rfl hL FPR.rf hnb h47 hRM hcn
      unfold pChL
      rw [if_neg h47]
theorem CHOP_of (hl : l.stackTraces = false) (hdd : 6 ≤ dd) {j : Nat} (hP : PARTP n tx cy ad hp0 l D base dd j) : CHOP n tx cy ad hp0 l D base dd j := by
  intro k z0 pb rb a s Q hkj hL hT han hRM KF KS
  have hn24 := hT.2.1
  rw [pG_eq] at KF KS
  refine ROW_of hl hdd hP k z0 pb rb [] hkj Q a s han hL hT hRM (fun g s2 e f2 => KF g s2 ?_ f2) (fun p pt b s2 e L2 f2 h1 h2 h3 h4 => ?_)
  · unfold pChoice
    rw [e]
  · refine CHL_of hl hdd hP k z0 pb rb hkj Q 24 [] p pt b s2 (by omega) h3 L2 (hT.fr f2) h2 h1 (fun g s3 e3 f3 => KF g s3 ?_ (f2.tr f3)) (fun es c s3 rs' p' pt' e3 e4 L3 f3 g1 g2 g3 g4 => KS (mkB 2 (mkB 0 p pt) es) c s3 rs' p' pt' ?_ ?_ L3 (f2.tr f3) g1 g2 g3 g4)
    · unfold pChoice
      rw [e]
      show (match pChL tx (pRow tx (pPart tx (pD tx j))) 24 b with
        | (none, c) => (none, c)
        | (some t, c) => (some (mkB 2 (mkB 0 p pt) t), c)) = _
      rw [e3]
    · unfold pChoice
      rw [e]
      show (match pChL tx (pRow tx (pPart tx (pD tx j))) 24 b with
        | (none, c) => (none, c)
        | (some t, c) => (some (mkB 2 (mkB 0 p pt) t), c)) = _
      rw [e3]
    · rw [e4]
      rfl
theorem CHOP_all (hl : l.stackTraces = false) (hdd : 6 ≤ dd) : ∀ j, CHOP n tx cy ad hp0 l D base dd j
  | 0 => CHOP_of hl hdd (PARTP_of hl hdd (UNITP_of hl hdd (fun j' e => by cases e)))
  | j + 1 => CHOP_of hl hdd (PARTP_of hl hdd (UNITP_of hl hdd (fun j' e => by cases e; exact CHOP_all hl hdd j)))
/-- how the reference's reading ends -/
def mrQ (s : MSt) (r : Pr) : Oc → MSt → Prop := fun o s2 => FPR 0 0 0 0 s s2 ∧ match r with
  | (none, f) => o = .inl (some (.int (nI f)))
  | (some t, _) => o = .inl (some (.int (-1))) ∧ wf t ∧ encP s2.2 384 t 0 ∧ s2.2 10 6 = nI (sz t)
set_option maxHeartbeats 1000000 in
theorem M_read (hl : l.stackTraces = false) (hdd : 6 ≤ dd) (s : MSt) (hT : TXM s n tx) : MtW (IM cy ad hp0) l D cy base mX9_read dd 0 0 [.ref (ad 43)] s (mrQ s (pRead tx n)) := by
  have h0 : vp_nar .char (nI 0) = nI 0 := by decide +kernel
  generalize hs0 : (aU 42 0 (vp_nar .char (nI 0)) (aU 41 0 (nI 0) (aU 40 0 (nI 0) (fU 38 (nI 0) (fU 36 (nI 0) (fU 35 (nI 0) (aU 10 6 (nI 0) s))))))) = s0
  have G : ∀ q y, ¬ (40 ≤ q ∧ q ≤ 42 ∧ y = 0) → ¬ (q = 10 ∧ y = 6) → s0.2 q y = s.2 q y := fun q y h h2 => by
    rw [← hs0, aU_2, if_neg (fun c => h ⟨by omega, by omega, c.2⟩), aU_2, if_neg (fun c => h ⟨by omega, by omega, c.2⟩), aU_2, if_neg (fun c => h ⟨by omega, by omega, c.2⟩), fU_2, fU_2, fU_2, aU_2, if_neg h2]
  have F0 : FPR 0 0 0 0 s s0 := ⟨fun i h1 h2 h3 => by rw [← hs0, aU_1, aU_1, aU_1, fU_1, if_neg h3, fU_1, if_neg h2, fU_1, if_neg h1, aU_1], fun q y h1 h2 h3 h4 h5 => G q y (fun c => h5 ⟨c.1, c.2.1, by omega⟩) h2⟩
  have hT0 := hT.fr F0
  have hn24 := hT.2.1
  have hz0 := hT.2.2.2.2
  have L0 : LVL s0 0 0 0 0 [] [] 0 := by
    refine ⟨?_, ?_, ?_, ?_, ?_, ?_, trivial, trivial, trivial, trivial, ?_⟩
    · rw [← hs0, aU_1, aU_1, aU_1, fU_1, if_neg (by decide), fU_1, if_neg (by decide), fU_1, if_pos rfl]
    · rw [← hs0, aU_2, if_neg (by omega), aU_2, if_neg (by omega), aU_2, if_pos ⟨rfl, rfl⟩]
    · rw [← hs0, aU_2, if_neg (by omega), aU_2, if_pos ⟨rfl, rfl⟩]
    · rw [← hs0, aU_1, aU_1, aU_1, fU_1, if_neg (by decide), fU_1, if_pos rfl]; rfl
    · rw [← hs0, aU_1, aU_1, aU_1, fU_1, if_pos rfl]; rfl
    · rw [← hs0, aU_2, if_neg (by omega), aU_2, if_neg (by omega), aU_2, if_neg (by omega), fU_2, fU_2, fU_2, aU_2, if_pos ⟨rfl, rfl⟩]; rfl
    · rw [← hs0, aU_2, if_pos ⟨rfl, rfl⟩, h0]
  by_cases hR : isR (tx 0)
  · by_cases h1 : tx 1 = 61
    · have h2n : 1 < n := tx_lt hz0 h1 (by decide)
      refine R_beg2 hl hdd (tx := tx) (n := n) (by rw [hs0]; exact hT0) hR h1 ?_
      rw [hs0]
      have eP : pRead tx n = (match pG tx 4 2 with
        | (none, b) => (none, b)
        | (some e, b) => if b < n then (none, b) else (some e, b)) := by
        unfold pRead
        rw [if_neg (fun c => c hR), if_neg (fun c => c h1)]
        rcases pG tx 4 2 with ⟨_ | _, _⟩ <;> rfl
      refine CHOP_all (n := n) (tx := tx) hl hdd 4 0 0 0 0 2 s0 _ rfl L0 hT0 (by omega) ⟨by decide, by decide, by decide⟩ (fun f s2 e f2 => ?_) ?_
      · rw [e] at eP
        rw [eP]
        exact ⟨F0.tr f2, rfl⟩
      intro t b s2 rs p pt e et L2 f2 hb1 hb2 hRM2 hbn
      rw [e] at eP
      have eP : pRead tx n = if b < n then (none, b) else (some t, b) := eP
      have hT2 := hT0.fr f2
      have htb := hT.2.2.2.1 b
      obtain ⟨r4, r5, r6⟩ := id hRM2
      have hlen : (p :: pt).length = pt.length + 1 := rfl
      rw [hlen] at r4 r5
      by_cases hbn2 : b < n
      · rw [if_pos hbn2] at eP
        rw [eP]
        refine R_simple hl hdd hT2 L2.k (by omega) (by decide) hbn2 L2.sgn (by decide) (Or.inl ⟨fun c => hb1 (by unfold bgP; omega), fun c => hb1 (by unfold bgP; omega)⟩) (fun c => hb1 (by unfold bgP; omega)) (Or.inr ⟨hb2, Or.inr rfl⟩) ?_
        have hS := M_simple (cy := cy) (ad := ad) (hp0 := hp0) (D := D) (base := base) hl s2 0 0 0 0 rs (p :: pt) 0 b n tx L2 hT2 (by omega) (by omega) (by omega) (by rw [hlen]; omega) (Or.inl rfl) (fun c => hb1 (by unfold bgP; omega)) none
        rw [pU_no hb1] at hS
        refine R_sim218 hl hdd hS (fun o s3 q => by obtain ⟨v, e, -⟩ := q; exact ⟨v, e, trivial⟩) (fun v s3 q => ?_)
        obtain ⟨v', e1, e2, e3, e4⟩ := q
        cases e1
        subst e4
        exact R_simF e2 e3 ⟨F0.tr f2, rfl⟩
      · rw [if_neg hbn2] at eP
        rw [eP]
        have hCh := M_choiceDone (cy := cy) (ad := ad) (hp0 := hp0) (D := D) (base := base) hl 0 s2 0 0 0 0 rs p pt 0 L2 (by omega) (by omega) (by rw [hlen]; omega) (by omega)
        refine R_endS hl hdd hT2 L2.k (by omega) (by decide) hbn2 (by omega) rfl rfl (u := 0 + sz t - 1) (P := fun s3 => wf t ∧ encP s3.2 384 t 0 ∧ s3.2 10 6 = nI (0 + sz t) ∧ FPR 0 0 0 0 s2 s3) ?_ ?_
        · refine MtW.post ?_ hCh
          rintro o s3 ⟨t', et', q1, q2, q3, q4, q5, q6, q7, q8⟩
          have : t' = t := et'.trans et.symm
          subst this
          exact ⟨q1, q2, q3, q4, q8⟩
        · rintro s3 ⟨q1, q2, q3, q4⟩
          exact ⟨F0.tr (f2.tr q4), rfl, q1, q2, by rw [q3, Nat.zero_add]⟩
    · refine R_beg1 hl hdd (tx := tx) (n := n) (by rw [hs0]; exact hT0) hR h1 ?_
      have eP : pRead tx n = (none, 1) := by unfold pRead; rw [if_neg (fun c => c hR), if_pos h1]
      rw [hs0, eP]
      exact ⟨F0, rfl⟩
  · refine R_beg0 hl hdd (tx := tx) (n := n) (by rw [hs0]; exact hT0) hR ?_
    have eP : pRead tx n = (none, 0) := by unfold pRead; rw [if_pos hR]
    rw [hs0, eP]
    exact ⟨F0, rfl⟩
end P68
