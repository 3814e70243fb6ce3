section C18
variable {cy : Nat → ClassId} {ax : Nat → Nat} {hp0 : Hp} {l : Launch} {D : va_G} {base : Nat} {n : Nat} {tx : Nat → Nat}
theorem C_part (hl : l.stackTraces = false) (dp : Nat) {Dp : Option (Nat → Pr)} (dd : Nat) (hdd : 5 ≤ dd) (hz : ∀ j, n ≤ j → tx j = 0) (hD : ∀ g, Dp = some g → PB n g) (hU : RDC cy ax hp0 l D base n tx mX6_readUnit [.ref (ax 5), .int (nI dp)] (pUnit tx Dp) (dd - 1)) : RDC cy ax hp0 l D base n tx mX6_readPart [.ref (ax 5), .int (nI dp)] (pPart tx Dp) dd := by
  intro s x ps a hRJ ha
  unfold pPart
  by_cases hB : sB (tx a) = 0
  · rw [if_pos hB]
    have hM := hU s x ps a hRJ ha
    have hb := pUnit_b hz hD a ha
    cases hr : pUnit tx Dp a with
    | mk e b =>
      rw [hr] at hM hb
      obtain ⟨b1, b2, b3⟩ := hb
      have b1 : a ≤ b := b1
      have b2 : b ≤ n := b2
      cases e with
      | none => exact C_part0N0 hl s x ps a hRJ ha dp hB dd _ _ b b2 hM _ _ hdd (by show 0 + 2 * (b - a) ≤ 2 * (b - a); omega) (by show 0 + 8 * (2 * (b - a)) ≤ 8 * (2 * (b - a)); omega)
      | some e =>
        have b4 : a < b := (b3 e rfl).1
        have wt := (b3 e rfl).2.1
        dsimp only
        by_cases hE : sE (tx b) = 0
        · rw [if_pos hE]
          exact C_part0S0 hl s x ps a hRJ ha dp hB dd _ _ e b b2 wt hE hM _ _ hdd (by show 0 + (2 * (b - a) - 1) ≤ 2 * (b - a) - 1; omega) (by show 0 + 8 * (2 * (b - a) - 1) ≤ 8 * (2 * (b - a) - 1); omega)
        · rw [if_neg hE]
          exact C_part0S1 hl s x ps a hRJ ha dp hB dd _ _ e b b2 wt hE hM _ _ hdd (by show 1 + (2 * (b - a) - 1) ≤ 2 * (b + 1 - a) - 1; omega) (by show 8 + 8 * (2 * (b - a) - 1) ≤ 8 * (2 * (b + 1 - a) - 1); omega)
  · rw [if_neg hB]
    have k0 : a < n := tx_lt hz rfl (sB_nz hB).1
    have hM := hU s x ps (a + 1) hRJ (by omega)
    have hb := pUnit_b hz hD (a + 1) (by omega)
    cases hr : pUnit tx Dp (a + 1) with
    | mk e b =>
      rw [hr] at hM hb
      obtain ⟨b1, b2, b3⟩ := hb
      have b1 : a + 1 ≤ b := b1
      have b2 : b ≤ n := b2
      cases e with
      | none => exact C_part1N0 hl s x ps a hRJ ha dp hB dd _ _ b b2 hM _ _ hdd (by show 0 + 2 * (b - (a + 1)) ≤ 2 * (b - a); omega) (by show 0 + 8 * (2 * (b - (a + 1))) ≤ 8 * (2 * (b - a)); omega)
      | some e =>
        have b4 : a + 1 < b := (b3 e rfl).1
        have wt := (b3 e rfl).2.1
        dsimp only
        by_cases hE : sE (tx b) = 0
        · rw [if_pos hE]
          exact C_part1S0 hl s x ps a hRJ ha dp hB dd _ _ e b b2 wt hE hM _ _ hdd (by show 1 + (2 * (b - (a + 1)) - 1) ≤ 2 * (b - a) - 1; omega) (by show 8 + 8 * (2 * (b - (a + 1)) - 1) ≤ 8 * (2 * (b - a) - 1); omega)
        · rw [if_neg hE]
          exact C_part1S1 hl s x ps a hRJ ha dp hB dd _ _ e b b2 wt hE hM _ _ hdd (by show 2 + (2 * (b - (a + 1)) - 1) ≤ 2 * (b + 1 - a) - 1; omega) (by show 16 + 8 * (2 * (b - (a + 1)) - 1) ≤ 8 * (2 * (b + 1 - a) - 1); omega)
/-- what a row or a choice comes to: e0 and those of q have been read, r is what follows -/
def finR (m : Nat) (e0 : Ex) (q : List Ex) (r : Option (List Ex) × Nat) : Pr := match r.1 with
  | none => (none, r.2)
  | some t => (some (mkB m e0 (q ++ t)), r.2)
def conL (e : Ex) (r : Option (List Ex) × Nat) : Option (List Ex) × Nat := match r.1 with
  | none => (none, r.2)
  | some t => (some (e :: t), r.2)
theorem conL_2 (e : Ex) (r : Option (List Ex) × Nat) : (conL e r).2 = r.2 := by
  obtain ⟨v, d⟩ := r
  cases v <;> rfl
theorem finR_con (m : Nat) (e0 e : Ex) (q : List Ex) (r : Option (List Ex) × Nat) : finR m e0 q (conL e r) = finR m e0 (q ++ [e]) r := by
  obtain ⟨v, d⟩ := r
  cases v with
  | none => rfl
  | some t =>
    show (some (mkB m e0 (q ++ e :: t)), d) = (some (mkB m e0 (q ++ [e] ++ t)), d)
    rw [List.append_assoc]
    rfl
theorem pRowL_s {P : Nat → Pr} {k b c : Nat} {e : Ex} (h : bgP (tx b)) (hr : P b = (some e, c)) : pRowL tx P (k + 1) b = conL e (pRowL tx P k c) := by
  rw [pRowL, if_pos h, hr]
  dsimp only
  cases pRowL tx P k c with
  | mk v d => cases v <;> rfl
theorem pChL_s {P : Nat → Pr} {k b c : Nat} {e : Ex} (h : tx b = 47) (hr : P (b + 1) = (some e, c)) : pChL tx P (k + 1) b = conL e (pChL tx P k c) := by
  rw [pChL, if_pos h, hr]
  dsimp only
  cases pChL tx P k c with
  | mk v d => cases v <;> rfl
theorem pRow_n {P : Nat → Pr} {a b : Nat} (hr : P a = (none, b)) : pRow tx P a = (none, b) := by
  unfold pRow
  rw [hr]
theorem pRow_s {P : Nat → Pr} {a b : Nat} {e : Ex} (hr : P a = (some e, b)) : pRow tx P a = finR 0 e [] (pRowL tx P 24 b) := by
  unfold pRow
  rw [hr]
  dsimp only
  cases pRowL tx P 24 b with
  | mk v d => cases v <;> rfl
theorem pChoice_n {P : Nat → Pr} {a b : Nat} (hr : P a = (none, b)) : pChoice tx P a = (none, b) := by
  unfold pChoice
  rw [hr]
theorem pChoice_s {P : Nat → Pr} {a b : Nat} {e : Ex} (hr : P a = (some e, b)) : pChoice tx P a = finR 2 e [] (pChL tx P 24 b) := by
  unfold pChoice
  rw [hr]
  dsimp only
  cases pChL tx P 24 b with
  | mk v d => cases v <;> rfl
theorem layM {s1 s2 : CSt} {x i m : Nat} {ps1 : List Nat} {q : Nat} {e0 x0 : Ex} {t : List Ex} {qs : List Nat} {f z : Nat} (hm : m = 0 ∨ m = 2) (F : rdF s1 s2 x ps1 [q] i) (hw : ∀ a ∈ e0 :: x0 :: t, wf a) (hn : qs.Nodup) (h : layO s1.2.2.2.2.1 (e0 :: x0 :: t) qs f z) (hq : s2.2.2.2.2.1 q = some (ndN (nI (3 + m / 2)) (nI 0) (nI 0) (some f))) : layE s2.2.2.2.2.1 (mkB m e0 (x0 :: t)) (qs ++ [q]) q := by
  have h2 := layO_close (m := m) (by omega) t e0 x0 qs f z (layO_fr _ qs f z hw hn h (fun a _ n hn => F.2.2.2.2.2.2.2.2.1 a n hn))
  cases t with
  | nil => exact ⟨qs, _, f, rfl, hq, rfl, rfl, h2⟩
  | cons y t => exact ⟨qs, _, f, rfl, hq, by show nI (3 + m / 2) = nI (3 + (m + 1) / 2); rw [show (m + 1) / 2 = m / 2 by omega], rfl, h2⟩
set_option maxHeartbeats 4000000 in
theorem C_row_fin (hl : l.stackTraces = false) (dp dd : Nat) (hdd : 5 ≤ dd) (s : CSt) (x : Nat) (ps : List Nat) (hRJ : RJ n tx s x ps) (e0 : Ex) (q : List Ex) (qs : List Nat) (f z b i bc : Nat) (s1 : CSt) (F : rdF s s1 x ps qs b) (hb : b ≤ n) (hw : ∀ e ∈ e0 :: q, wf e) (hO : layO s1.2.2.2.2.1 (e0 :: q) qs f z) (hbc : (if q = [] then 0 else 1) ≤ bc) : EW (IC cy ax hp0) l D cy base mX6_readRow dd bc (8 * bc) 61 [(0, .ref (ax 5)), (1, .int (nI dp)), (2, .ref f), (3, .ref z), (4, .int (nI i))] [] (atS s1 b) (rdQ s x ps (some (mkB 0 e0 q), b)) := by
  have J := F.rj hRJ
  have hNd := nd_r F.2.2.2.2.2.2.2.1
  obtain ⟨e9, he, -⟩ := J.2.2.1
  refine EW.aload_n dX6_readRow_61 rfl rfl ?_
  refine EW.ifnull (r := some z) 70 dX6_readRow_62 (by decide) (fun h => nomatch h) (fun _ _ => ?_)
  refine EW.aload_n dX6_readRow_65 rfl rfl ?_
  refine EW.aload_n dX6_readRow_66 rfl rfl ?_
  refine EW.acmp_ne (rx := some z) (ry := some f) 72 dX6_readRow_67 (by decide) (fun c9 => ?_) (fun c9 => ?_)
  · cases q with
    | nil => exact absurd (by rw [hO.1]) c9
    | cons x0 t =>
      refine EW.more (bc' := 0 + 1) (bs' := 0 + 8) (by rw [if_neg (fun h => nomatch h)] at hbc; omega) (by rw [if_neg (fun h => nomatch h)] at hbc; omega) ?_
      refine EW.aload_n dX6_readRow_72 rfl rfl ?_
      refine EC.get (k := 5) f_X6_18 dX6_readRow_73 (by decide) rfl rfl ?_
      refine EW.rf J.2.1 ?_
      refine EW.ic 3 dX6_readRow_76 ?_
      refine EW.ic 0 dX6_readRow_77 ?_
      refine EW.ic 0 dX6_readRow_78 ?_
      refine EW.aload_n dX6_readRow_79 rfl rfl ?_
      refine EC.callE (bc := 0) (bs := 0) (mc' := 1) (ms' := 8) (C_addS hl 0 (b) s1 x (ps ++ qs) J (nI (3)) (nI (0)) (nI (0)) f) mfX1_add l_X6_58 mvX1_add (by omega) dX6_readRow_80 rfl rfl he rfl rfl (Nat.le_of_ble_eq_true rfl) (fun v80 s80 q80 => ?_) (fun _ _ q => by obtain ⟨_, e, _⟩ := q; cases e)
      obtain ⟨a80, e80, F80, n80⟩ := q80; cases e80
      refine EW.aret (r := some a80) rfl dX6_readRow_83 ?_
      exact ⟨qs ++ [a80], F.tr F80, a80, rfl, layM (Or.inl rfl) F80 hw hNd hO n80, _, n80, rfl⟩
  · have hfz : f = z := (Option.some.inj c9).symm
    cases q with
    | cons x0 t => exact absurd hfz (layO_ne hw hNd hO)
    | nil =>
      refine EW.aload_n dX6_readRow_70 rfl rfl ?_
      refine EW.aret (r := some z) rfl dX6_readRow_71 ?_
      obtain ⟨h1, h2, nf, h3, h4⟩ := hO
      subst h1
      exact ⟨qs, F.mv b, f, rfl, h2, nf, h3, h4⟩
set_option maxHeartbeats 8000000 in
theorem C_row_loop (hl : l.stackTraces = false) (dp dd : Nat) (hdd : 5 ≤ dd) (hz : ∀ j, n ≤ j → tx j = 0) {P : Nat → Pr} (hP : PB n P) (hR : RDC cy ax hp0 l D base n tx mX6_readPart [.ref (ax 5), .int (nI dp)] P (dd - 1)) (s : CSt) (x : Nat) (ps : List Nat) (hRJ : RJ n tx s x ps) (e0 : Ex) : ∀ (k i : Nat) (q : List Ex) (qs : List Nat) (f z b bc : Nat) (s1 : CSt), i + k = 24 → rdF s s1 x ps qs b → b ≤ n → (∀ e ∈ e0 :: q, wf e) → layO s1.2.2.2.2.1 (e0 :: q) qs f z → 2 * ((pRowL tx P k b).2 - b) + (if q = [] then 0 else 1) ≤ bc → EW (IC cy ax hp0) l D cy base mX6_readRow dd bc (8 * bc) 11 [(0, .ref (ax 5)), (1, .int (nI dp)), (2, .ref f), (3, .ref z), (4, .int (nI i))] [] (atS s1 b) (rdQ s x ps (finR 0 e0 q (pRowL tx P k b))) := by
  intro k
  induction k with
  | zero =>
    intro i q qs f z b bc s1 hi F hb hw hO hbc
    have hfin := C_row_fin (cy := cy) (ax := ax) (hp0 := hp0) (D := D) (base := base) hl dp dd hdd s x ps hRJ e0 q qs f z b i bc s1 F hb hw hO (by omega)
    rw [show finR 0 e0 q (pRowL tx P 0 b) = (some (mkB 0 e0 q), b) by show (some (mkB 0 e0 (q ++ [])), b) = _; rw [List.append_nil]]
    refine EW.iload dX6_readRow_11 rfl ?_
    refine EW.bp 24 dX6_readRow_13 ?_
    refine EW.icmp_ge 61 dX6_readRow_15 (by decide) (fun c15 => hfin) (fun c15 => ?_)
    exact absurd ((nI_leI (by decide) (by omega)).mpr (by omega)) c15
  | succ k ih =>
    intro i q qs f z b bc s1 hi F hb hw hO hbc
    have hfin := C_row_fin (cy := cy) (ax := ax) (hp0 := hp0) (D := D) (base := base) hl dp dd hdd s x ps hRJ e0 q qs f z b i bc s1 F hb hw hO (by omega)
    have hRJ1 := F.rj hRJ
    have hn24 := hRJ.1.2.1
    have hT4 := hRJ.1.2.2.2.1
    have hbt := hT4 b
    have hNd := nd_r F.2.2.2.2.2.2.2.1
    refine EW.iload dX6_readRow_11 rfl ?_
    refine EW.bp 24 dX6_readRow_13 ?_
    refine EW.icmp_ge 61 dX6_readRow_15 (by decide) (fun c15 => absurd ((nI_leI (by decide) (by omega)).mp c15) (by omega)) (fun c15 => ?_)
    refine EW.aload_n dX6_readRow_18 rfl rfl ?_
    refine EW.ifnull (r := some z) 61 dX6_readRow_19 (by decide) (fun h => nomatch h) (fun _ _ => ?_)
    by_cases hbg : bgP (tx b)
    · have hPb := hP (b) (by omega)
      have hM := hR s1 x (ps ++ qs) (b) hRJ1 (by omega)
      obtain ⟨zm1, zm2, nz, hnz, hnzn⟩ := layO_mem (e0 :: q) qs f z hw hO
      cases hr : P (b) with
      | mk e c =>
        rw [hr] at hM hPb
        obtain ⟨b1, b2, b3⟩ := hPb
        have b1 : b ≤ c := b1
        have b2 : c ≤ n := b2
        cases e with
        | none =>
          have hL : pRowL tx P (k + 1) b = (none, c) := by rw [pRowL, if_pos hbg, hr]
          rw [hL] at hbc ⊢
          have hbc : 2 * (c - b) + (if q = [] then 0 else 1) ≤ bc := hbc
          show EW _ _ _ _ _ _ _ _ _ _ _ _ _ (rdQ s x ps (none, c))
          refine EW.aload_n dX6_readRow_22 rfl rfl ?_
          refine EC.get (k := 5) f_X6_9 dX6_readRow_23 (by decide) rfl rfl ?_
          refine EW.aload_n dX6_readRow_26 rfl rfl ?_
          refine EC.get (k := 5) f_X6_22 dX6_readRow_27 (by decide) rfl rfl ?_
          refine EW.top atS_2 ?_
          refine EC.callV (bc := bc) (bs := (8 * bc)) (mc' := 0) (ms' := 0) (k := 1) (C_atx hl 0 (atS s1 (b)) n tx (hRJ1.at).1 (b) (by omega)) mfX0_at l_X6_29 mvX0_at (by omega) dX6_readRow_30 rfl rfl (by decide) rfl rfl rfl (Nat.le_of_ble_eq_true rfl) (fun v30 s30 q30 => ?_) (fun _ _ q => nomatch q.1)
          obtain ⟨e30, h30⟩ := q30; cases e30; replace h30 := h30.symm; subst h30
          refine EW.callS (bc := bc) (bs := (8 * bc)) (mc' := 0) (ms' := 0) (C_bgP hl _ 0 (atS s1 (b)) (tx (b)) (hT4 _)) mfX6_beginsPart rfl l_X6_65 mvX6_beginsPart (by omega) dX6_readRow_33 rfl rfl (Nat.le_of_ble_eq_true rfl) (fun v33 s33 q33 => ?_) (fun _ _ q => nomatch q.1)
          obtain ⟨e33, h33⟩ := q33; cases e33; replace h33 := h33.symm; subst h33
          refine EW.top (y := nI 1) (by rw [if_pos hbg]) ?_
          refine EW.if_eq 61 dX6_readRow_36 (by decide) (fun c36 => ?_) (fun c36 => ?_)
          · exact absurd c36 (by decide +kernel)
          refine EW.more (bc' := 0 + bud (none, c) (b)) (bs' := 0 + 8 * bud (none, c) (b)) (by show 0 + 2 * (c - (b)) ≤ bc; omega) (by show 0 + 8 * (2 * (c - (b))) ≤ 8 * bc; omega) ?_
          refine EW.aload_n dX6_readRow_39 rfl rfl ?_
          refine EW.iload_n dX6_readRow_40 rfl rfl ?_
          refine EC.rdN (bc := 0) (bs := 0) hM mfX6_readPart l_X6_62 mvX6_readPart (by omega) dX6_readRow_41 rfl rfl rfl rfl (Nat.le_of_ble_eq_true rfl) (fun s2 q2 F2 => ?_)
          refine EW.astoreq dX6_readRow_44 (by decide) ?_
          refine EW.aload_n dX6_readRow_46 rfl rfl ?_
          refine EW.aloadq dX6_readRow_47 rfl ?_
          obtain ⟨n2, hn2, e2⟩ := F2.2.2.2.2.2.2.2.2.1 z nz hnz
          have hn2n : nNext n2 = none := by simp only [nl5, Prod.mk.injEq] at e2; exact e2.2.2.2.2.trans hnzn
          refine EC.ndput (n := n2) (n' := n2) f_X6_52 dX6_readRow_49 hn2 (by decide) rfl rfl ?_ ?_
          · have h9 : va_rf n2.2.2.2.2.1 = va_rf none := by rw [show n2.2.2.2.2.1 = none from hn2n]
            show [Value.int n2.1, .int n2.2.1, .int n2.2.2.1, va_rf n2.2.2.2.1, va_rf none, va_rf n2.2.2.2.2.2.1, .int n2.2.2.2.2.2.2.1, .int n2.2.2.2.2.2.2.2] = ndF n2
            rw [← h9]
            rfl
          refine EW.eqs (s' := atS s2 c) (by rw [show va_up s2.2.2.2.2.1 z (some n2) = s2.2.2.2.2.1 by rw [← hn2, va_same]]; exact F2.at) ?_
          refine EW.aloadq dX6_readRow_52 rfl ?_
          refine EW.astoreq_n dX6_readRow_54 rfl (by decide) ?_
          refine EW.iinc dX6_readRow_55 rfl (nI_inc _) (by decide) ?_
          refine EW.goto 11 dX6_readRow_58 (by decide) ?_
          have hend : ∀ lv', lget lv' 3 = some (va_rf none) → EW (IC cy ax hp0) l D cy base mX6_readRow dd 0 0 61 lv' [] (atS s2 c) (rdQ s x ps (none, c)) := by
            intro lv' h3
            refine EW.aloadq_n dX6_readRow_61 rfl h3 ?_
            refine EW.ifnull (r := none) 70 dX6_readRow_62 (by decide) (fun _ => ?_) (fun _ h => nomatch h)
            refine EW.aloadq_n dX6_readRow_70 rfl h3 ?_
            refine EW.aret (r := none) rfl dX6_readRow_71 ?_
            exact ⟨qs ++ q2, F.tr (F2.mv c), rfl⟩
          refine EW.iload dX6_readRow_11 rfl ?_
          refine EW.bp 24 dX6_readRow_13 ?_
          refine EW.icmp_ge 61 dX6_readRow_15 (by decide) (fun _ => hend _ rfl) (fun _ => ?_)
          refine EW.aloadq_n dX6_readRow_18 rfl rfl ?_
          exact EW.ifnull (r := none) 61 dX6_readRow_19 (by decide) (fun _ => hend _ rfl) (fun _ h => nomatch h)
        | some e =>
          obtain ⟨b4, we, -, -⟩ := b3 e rfl
          have b4 : b < c := b4
          obtain ⟨r9, hr9⟩ : ∃ r9, pRowL tx P k c = r9 := ⟨_, rfl⟩
          have hbk := pRowL_b (tx := tx) hP k c b2
          rw [hr9] at hbk
          have hck : c ≤ r9.2 := hbk.1
          have hL : pRowL tx P (k + 1) b = conL e r9 := by rw [← hr9]; exact pRowL_s hbg hr
          have hL2 : (pRowL tx P (k + 1) b).2 = r9.2 := by rw [hL]; exact conL_2 e r9
          have hfr : finR 0 e0 q (pRowL tx P (k + 1) b) = finR 0 e0 (q ++ [e]) r9 := by rw [hL]; exact finR_con 0 e0 e q r9
          rw [hL2] at hbc
          rw [hfr, ← hr9]
          have hq1 : (if q = [] then 0 else 1) ≤ 1 := by split <;> omega
          refine EW.aload_n dX6_readRow_22 rfl rfl ?_
          refine EC.get (k := 5) f_X6_9 dX6_readRow_23 (by decide) rfl rfl ?_
          refine EW.aload_n dX6_readRow_26 rfl rfl ?_
          refine EC.get (k := 5) f_X6_22 dX6_readRow_27 (by decide) rfl rfl ?_
          refine EW.top atS_2 ?_
          refine EC.callV (bc := bc) (bs := (8 * bc)) (mc' := 0) (ms' := 0) (k := 1) (C_atx hl 0 (atS s1 (b)) n tx (hRJ1.at).1 (b) (by omega)) mfX0_at l_X6_29 mvX0_at (by omega) dX6_readRow_30 rfl rfl (by decide) rfl rfl rfl (Nat.le_of_ble_eq_true rfl) (fun v30 s30 q30 => ?_) (fun _ _ q => nomatch q.1)
          obtain ⟨e30, h30⟩ := q30; cases e30; replace h30 := h30.symm; subst h30
          refine EW.callS (bc := bc) (bs := (8 * bc)) (mc' := 0) (ms' := 0) (C_bgP hl _ 0 (atS s1 (b)) (tx (b)) (hT4 _)) mfX6_beginsPart rfl l_X6_65 mvX6_beginsPart (by omega) dX6_readRow_33 rfl rfl (Nat.le_of_ble_eq_true rfl) (fun v33 s33 q33 => ?_) (fun _ _ q => nomatch q.1)
          obtain ⟨e33, h33⟩ := q33; cases e33; replace h33 := h33.symm; subst h33
          refine EW.top (y := nI 1) (by rw [if_pos hbg]) ?_
          refine EW.if_eq 61 dX6_readRow_36 (by decide) (fun c36 => ?_) (fun c36 => ?_)
          · exact absurd c36 (by decide +kernel)
          refine EW.more (bc' := (2 * (r9.2 - c) + 1) + bud (some e, c) (b)) (bs' := 8 * (2 * (r9.2 - c) + 1) + 8 * bud (some e, c) (b)) (by show 2 * (r9.2 - c) + 1 + (2 * (c - (b)) - 1) ≤ bc; omega) (by show 8 * (2 * (r9.2 - c) + 1) + 8 * (2 * (c - (b)) - 1) ≤ 8 * bc; omega) ?_
          refine EW.aload_n dX6_readRow_39 rfl rfl ?_
          refine EW.iload_n dX6_readRow_40 rfl rfl ?_
          refine EC.rdS hM mfX6_readPart l_X6_62 mvX6_readPart (by omega) dX6_readRow_41 rfl rfl rfl rfl (Nat.le_of_ble_eq_true rfl) (fun s2 q2 p np F2 hl2 hp2 hx2 => ?_)
          refine EW.astore dX6_readRow_44 (by decide) ?_
          refine EW.aload_n dX6_readRow_46 rfl rfl ?_
          refine EW.aload dX6_readRow_47 rfl ?_
          obtain ⟨n2, hn2, e2⟩ := F2.2.2.2.2.2.2.2.2.1 z nz hnz
          refine EC.ndput (n := n2) (n' := nxtN n2 p) f_X6_52 dX6_readRow_49 hn2 (by decide) rfl rfl rfl ?_
          have F12 := F.tr F2
          have F13 := F12.next (p := p) (List.mem_append_left q2 zm2) hn2
          have hO2 := layO_fr (e0 :: q) qs f z hw hNd hO (fun a _ n hn => F2.2.2.2.2.2.2.2.2.1 a n hn)
          have hO3 := layO_snoc we hl2 hp2 hx2 hn2 (e0 :: q) qs f hw (nd_r F12.2.2.2.2.2.2.2.1) hO2
          refine EW.eqs F13.at ?_
          refine EW.aload dX6_readRow_52 rfl ?_
          refine EW.astore_n dX6_readRow_54 rfl (by decide) ?_
          refine EW.iinc dX6_readRow_55 rfl (nI_inc _) (by decide) ?_
          refine EW.goto 11 dX6_readRow_58 (by decide) ?_
          refine EW.loc (lv' := [(0, .ref (ax 5)), (1, .int (nI dp)), (2, .ref f), (3, .ref p), (4, .int (nI (i + 1)))]) ⟨rfl, rfl, rfl, rfl, rfl, trivial⟩ ?_
          refine ih (i + 1) (q ++ [e]) (qs ++ q2) f p c _ _ (by omega) F13 b2 (fun a ha => ?_) hO3 (by rw [hr9, if_neg (by intro h; cases q <;> cases h)]; exact Nat.le_refl _)
          rcases List.mem_cons.mp ha with rfl | ha
          · exact hw _ List.mem_cons_self
          · rcases List.mem_append.mp ha with ha | ha
            · exact hw a (List.mem_cons_of_mem _ ha)
            · rw [List.mem_singleton.mp ha]; exact we
    · rw [show finR 0 e0 q (pRowL tx P (k + 1) b) = (some (mkB 0 e0 q), b) by rw [pRowL, if_neg hbg]; show (some (mkB 0 e0 (q ++ [])), b) = _; rw [List.append_nil]]
      refine EW.aload_n dX6_readRow_22 rfl rfl ?_
      refine EC.get (k := 5) f_X6_9 dX6_readRow_23 (by decide) rfl rfl ?_
      refine EW.aload_n dX6_readRow_26 rfl rfl ?_
      refine EC.get (k := 5) f_X6_22 dX6_readRow_27 (by decide) rfl rfl ?_
      refine EW.top atS_2 ?_
      refine EC.callV (bc := bc) (bs := (8 * bc)) (mc' := 0) (ms' := 0) (k := 1) (C_atx hl 0 (atS s1 (b)) n tx (hRJ1.at).1 (b) (by omega)) mfX0_at l_X6_29 mvX0_at (by omega) dX6_readRow_30 rfl rfl (by decide) rfl rfl rfl (Nat.le_of_ble_eq_true rfl) (fun v30 s30 q30 => ?_) (fun _ _ q => nomatch q.1)
      obtain ⟨e30, h30⟩ := q30; cases e30; replace h30 := h30.symm; subst h30
      refine EW.callS (bc := bc) (bs := (8 * bc)) (mc' := 0) (ms' := 0) (C_bgP hl _ 0 (atS s1 (b)) (tx (b)) (hT4 _)) mfX6_beginsPart rfl l_X6_65 mvX6_beginsPart (by omega) dX6_readRow_33 rfl rfl (Nat.le_of_ble_eq_true rfl) (fun v33 s33 q33 => ?_) (fun _ _ q => nomatch q.1)
      obtain ⟨e33, h33⟩ := q33; cases e33; replace h33 := h33.symm; subst h33
      refine EW.top (y := nI 0) (by rw [if_neg hbg]) ?_
      refine EW.if_eq 61 dX6_readRow_36 (by decide) (fun c36 => ?_) (fun c36 => ?_)
      · exact hfin
      · exact absurd c36 (by decide +kernel)
set_option maxHeartbeats 8000000 in
theorem C_row (hl : l.stackTraces = false) (dp dd : Nat) (hdd : 5 ≤ dd) (hz : ∀ j, n ≤ j → tx j = 0) {P : Nat → Pr} (hP : PB n P) (hR : RDC cy ax hp0 l D base n tx mX6_readPart [.ref (ax 5), .int (nI dp)] P (dd - 1)) : RDC cy ax hp0 l D base n tx mX6_readRow [.ref (ax 5), .int (nI dp)] (pRow tx P) dd := by
  intro s x ps a hRJ ha
  have hPa := hP a ha
  have hM := hR s x ps a hRJ ha
  refine MtW.of hl mfX6_readRow rfl (Nat.le_of_ble_eq_true rfl) ?_
  cases hr : P a with
  | mk e b =>
    rw [hr] at hM hPa
    obtain ⟨b1, b2, b3⟩ := hPa
    have b1 : a ≤ b := b1
    have b2 : b ≤ n := b2
    cases e with
    | none =>
      rw [pRow_n hr]
      refine EW.more (bc' := 0 + bud (none, b) a) (bs' := 0 + 8 * bud (none, b) a) (by omega) (by omega) ?_
      refine EW.aload_n dX6_readRow_0 rfl rfl ?_
      refine EW.iload_n dX6_readRow_1 rfl rfl ?_
      refine EC.rdN (bc := 0) (bs := 0) hM mfX6_readPart l_X6_62 mvX6_readPart (by omega) dX6_readRow_2 rfl rfl rfl rfl (Nat.le_of_ble_eq_true rfl) (fun s2 q2 F2 => ?_)
      refine EW.eqs F2.at ?_
      refine EW.astoreq_n dX6_readRow_5 rfl (by decide) ?_
      refine EW.aloadq_n dX6_readRow_6 rfl rfl ?_
      refine EW.astoreq_n dX6_readRow_7 rfl (by decide) ?_
      refine EW.ic 0 dX6_readRow_8 ?_
      refine EW.istore dX6_readRow_9 (by decide) ?_
      refine EW.iload dX6_readRow_11 rfl ?_
      refine EW.bp 24 dX6_readRow_13 ?_
      refine EW.icmp_ge 61 dX6_readRow_15 (by decide) (fun c15 => absurd ((nI_leI (by decide) (by decide)).mp c15) (by decide)) (fun _ => ?_)
      refine EW.aloadq_n dX6_readRow_18 rfl rfl ?_
      refine EW.ifnull (r := none) 61 dX6_readRow_19 (by decide) (fun _ => ?_) (fun _ h => nomatch h)
      refine EW.aloadq_n dX6_readRow_61 rfl rfl ?_
      refine EW.ifnull (r := none) 70 dX6_readRow_62 (by decide) (fun _ => ?_) (fun _ h => nomatch h)
      refine EW.aloadq_n dX6_readRow_70 rfl rfl ?_
      refine EW.aret (r := none) rfl dX6_readRow_71 ?_
      exact ⟨q2, F2.mv b, rfl⟩
    | some e =>
      obtain ⟨b4, we, -, -⟩ := b3 e rfl
      have b4 : a < b := b4
      obtain ⟨r9, hr9⟩ : ∃ r9, pRowL tx P 24 b = r9 := ⟨_, rfl⟩
      have hbk := pRowL_b (tx := tx) hP 24 b b2
      rw [hr9] at hbk
      have hck : b ≤ r9.2 := hbk.1
      rw [pRow_s hr]
      have hbd : 2 * (r9.2 - b) + (2 * (b - a) - 1) ≤ bud (finR 0 e [] (pRowL tx P 24 b)) a := by
        rw [hr9]
        obtain ⟨v9, d9⟩ := r9
        cases v9 with
        | none => show 2 * (d9 - b) + (2 * (b - a) - 1) ≤ 2 * (d9 - a); have : b ≤ d9 := hck; omega
        | some t => show 2 * (d9 - b) + (2 * (b - a) - 1) ≤ 2 * (d9 - a) - 1; have : b ≤ d9 := hck; omega
      refine EW.more (bc' := 2 * (r9.2 - b) + bud (some e, b) a) (bs' := 8 * (2 * (r9.2 - b)) + 8 * bud (some e, b) a) hbd (by have h8 : bud (some e, b) a = 2 * (b - a) - 1 := rfl; omega) ?_
      refine EW.aload_n dX6_readRow_0 rfl rfl ?_
      refine EW.iload_n dX6_readRow_1 rfl rfl ?_
      refine EC.rdS hM mfX6_readPart l_X6_62 mvX6_readPart (by omega) dX6_readRow_2 rfl rfl rfl rfl (Nat.le_of_ble_eq_true rfl) (fun s2 q2 p np F2 hl2 hp2 hx2 => ?_)
      refine EW.eqs F2.at ?_
      refine EW.astore_n dX6_readRow_5 rfl (by decide) ?_
      refine EW.aload_n dX6_readRow_6 rfl rfl ?_
      refine EW.astore_n dX6_readRow_7 rfl (by decide) ?_
      refine EW.ic 0 dX6_readRow_8 ?_
      refine EW.istore dX6_readRow_9 (by decide) ?_
      refine EW.loc (lv' := [(0, .ref (ax 5)), (1, .int (nI dp)), (2, .ref p), (3, .ref p), (4, .int (nI 0))]) ⟨rfl, rfl, rfl, rfl, rfl, trivial⟩ ?_
      exact C_row_loop hl dp dd hdd hz hP hR s x ps hRJ e 24 0 [] q2 p p b (2 * (r9.2 - b)) s2 rfl F2 b2 (fun a ha => by rw [List.mem_singleton.mp ha]; exact we) ⟨rfl, hl2, np, hp2, hx2⟩ (by rw [hr9, if_pos rfl]; exact Nat.le_refl _)
set_option maxHeartbeats 4000000 in
theorem C_choice_fin (hl : l.stackTraces = false) (dp dd : Nat) (hdd : 5 ≤ dd) (s : CSt) (x : Nat) (ps : List Nat) (hRJ : RJ n tx s x ps) (e0 : Ex) (q : List Ex) (qs : List Nat) (f z b i bc : Nat) (s1 : CSt) (F : rdF s s1 x ps qs b) (hb : b ≤ n) (hw : ∀ e ∈ e0 :: q, wf e) (hO : layO s1.2.2.2.2.1 (e0 :: q) qs f z) (hbc : (if q = [] then 0 else 1) ≤ bc) : EW (IC cy ax hp0) l D cy base mX6_readChoice dd bc (8 * bc) 53 [(0, .ref (ax 5)), (1, .int (nI dp)), (2, .ref f), (3, .ref z), (4, .int (nI i))] [] (atS s1 b) (rdQ s x ps (some (mkB 2 e0 q), b)) := by
  have J := F.rj hRJ
  have hNd := nd_r F.2.2.2.2.2.2.2.1
  obtain ⟨e9, he, -⟩ := J.2.2.1
  refine EW.aload_n dX6_readChoice_53 rfl rfl ?_
  refine EW.ifnull (r := some z) 62 dX6_readChoice_54 (by decide) (fun h => nomatch h) (fun _ _ => ?_)
  refine EW.aload_n dX6_readChoice_57 rfl rfl ?_
  refine EW.aload_n dX6_readChoice_58 rfl rfl ?_
  refine EW.acmp_ne (rx := some z) (ry := some f) 64 dX6_readChoice_59 (by decide) (fun c9 => ?_) (fun c9 => ?_)
  · cases q with
    | nil => exact absurd (by rw [hO.1]) c9
    | cons x0 t =>
      refine EW.more (bc' := 0 + 1) (bs' := 0 + 8) (by rw [if_neg (fun h => nomatch h)] at hbc; omega) (by rw [if_neg (fun h => nomatch h)] at hbc; omega) ?_
      refine EW.aload_n dX6_readChoice_64 rfl rfl ?_
      refine EC.get (k := 5) f_X6_18 dX6_readChoice_65 (by decide) rfl rfl ?_
      refine EW.rf J.2.1 ?_
      refine EW.ic 4 dX6_readChoice_68 ?_
      refine EW.ic 0 dX6_readChoice_69 ?_
      refine EW.ic 0 dX6_readChoice_70 ?_
      refine EW.aload_n dX6_readChoice_71 rfl rfl ?_
      refine EC.callE (bc := 0) (bs := 0) (mc' := 1) (ms' := 8) (C_addS hl 0 (b) s1 x (ps ++ qs) J (nI (4)) (nI (0)) (nI (0)) f) mfX1_add l_X6_58 mvX1_add (by omega) dX6_readChoice_72 rfl rfl he rfl rfl (Nat.le_of_ble_eq_true rfl) (fun v72 s72 q72 => ?_) (fun _ _ q => by obtain ⟨_, e, _⟩ := q; cases e)
      obtain ⟨a72, e72, F72, n72⟩ := q72; cases e72
      refine EW.aret (r := some a72) rfl dX6_readChoice_75 ?_
      exact ⟨qs ++ [a72], F.tr F72, a72, rfl, layM (Or.inr rfl) F72 hw hNd hO n72, _, n72, rfl⟩
  · have hfz : f = z := (Option.some.inj c9).symm
    cases q with
    | cons x0 t => exact absurd hfz (layO_ne hw hNd hO)
    | nil =>
      refine EW.aload_n dX6_readChoice_62 rfl rfl ?_
      refine EW.aret (r := some z) rfl dX6_readChoice_63 ?_
      obtain ⟨h1, h2, nf, h3, h4⟩ := hO
      subst h1
      exact ⟨qs, F.mv b, f, rfl, h2, nf, h3, h4⟩
set_option maxHeartbeats 8000000 in
theorem C_choice_loop (hl : l.stackTraces = false) (dp dd : Nat) (hdd : 5 ≤ dd) (hz : ∀ j, n ≤ j → tx j = 0) {P : Nat → Pr} (hP : PB n P) (hR : RDC cy ax hp0 l D base n tx mX6_readRow [.ref (ax 5), .int (nI dp)] P (dd - 1)) (s : CSt) (x : Nat) (ps : List Nat) (hRJ : RJ n tx s x ps) (e0 : Ex) : ∀ (k i : Nat) (q : List Ex) (qs : List Nat) (f z b bc : Nat) (s1 : CSt), i + k = 24 → rdF s s1 x ps qs b → b ≤ n → (∀ e ∈ e0 :: q, wf e) → layO s1.2.2.2.2.1 (e0 :: q) qs f z → 2 * ((pChL tx P k b).2 - b) + (if q = [] then 0 else 1) ≤ bc → EW (IC cy ax hp0) l D cy base mX6_readChoice dd bc (8 * bc) 11 [(0, .ref (ax 5)), (1, .int (nI dp)), (2, .ref f), (3, .ref z), (4, .int (nI i))] [] (atS s1 b) (rdQ s x ps (finR 2 e0 q (pChL tx P k b))) := by
  intro k
  induction k with
  | zero =>
    intro i q qs f z b bc s1 hi F hb hw hO hbc
    have hfin := C_choice_fin (cy := cy) (ax := ax) (hp0 := hp0) (D := D) (base := base) hl dp dd hdd s x ps hRJ e0 q qs f z b i bc s1 F hb hw hO (by omega)
    rw [show finR 2 e0 q (pChL tx P 0 b) = (some (mkB 2 e0 q), b) by show (some (mkB 2 e0 (q ++ [])), b) = _; rw [List.append_nil]]
    refine EW.iload dX6_readChoice_11 rfl ?_
    refine EW.bp 24 dX6_readChoice_13 ?_
    refine EW.icmp_ge 53 dX6_readChoice_15 (by decide) (fun c15 => hfin) (fun c15 => ?_)
    exact absurd ((nI_leI (by decide) (by omega)).mpr (by omega)) c15
  | succ k ih =>
    intro i q qs f z b bc s1 hi F hb hw hO hbc
    have hfin := C_choice_fin (cy := cy) (ax := ax) (hp0 := hp0) (D := D) (base := base) hl dp dd hdd s x ps hRJ e0 q qs f z b i bc s1 F hb hw hO (by omega)
    have hRJ1 := F.rj hRJ
    have hn24 := hRJ.1.2.1
    have hT4 := hRJ.1.2.2.2.1
    have hbt := hT4 b
    have hNd := nd_r F.2.2.2.2.2.2.2.1
    refine EW.iload dX6_readChoice_11 rfl ?_
    refine EW.bp 24 dX6_readChoice_13 ?_
    refine EW.icmp_ge 53 dX6_readChoice_15 (by decide) (fun c15 => absurd ((nI_leI (by decide) (by omega)).mp c15) (by omega)) (fun c15 => ?_)
    refine EW.aload_n dX6_readChoice_18 rfl rfl ?_
    refine EW.ifnull (r := some z) 53 dX6_readChoice_19 (by decide) (fun h => nomatch h) (fun _ _ => ?_)
    by_cases hbg : tx b = 47
    · have hPb := hP (b + 1) (by have := tx_lt hz hbg (by decide); omega)
      have hM := hR s1 x (ps ++ qs) (b + 1) hRJ1 (by have := tx_lt hz hbg (by decide); omega)
      obtain ⟨zm1, zm2, nz, hnz, hnzn⟩ := layO_mem (e0 :: q) qs f z hw hO
      cases hr : P (b + 1) with
      | mk e c =>
        rw [hr] at hM hPb
        obtain ⟨b1, b2, b3⟩ := hPb
        have b1 : b + 1 ≤ c := b1
        have b2 : c ≤ n := b2
        cases e with
        | none =>
          have hL : pChL tx P (k + 1) b = (none, c) := by rw [pChL, if_pos hbg, hr]
          rw [hL] at hbc ⊢
          have hbc : 2 * (c - b) + (if q = [] then 0 else 1) ≤ bc := hbc
          show EW _ _ _ _ _ _ _ _ _ _ _ _ _ (rdQ s x ps (none, c))
          refine EW.aload_n dX6_readChoice_22 rfl rfl ?_
          refine EW.bp 47 dX6_readChoice_23 ?_
          refine EC.callV (bc := bc) (bs := (8 * bc)) (mc' := 0) (ms' := 0) (k := 5) (C_take1 hl 0 (atS s1 (b)) n tx (hRJ1.at).1 (b) 47 atS_2 (by omega) (by decide) hbg) mfX6_take l_X6_38 mvX6_take (by omega) dX6_readChoice_25 rfl rfl (by decide) rfl rfl rfl (Nat.le_of_ble_eq_true rfl) (fun v25 s25 q25 => ?_) (fun _ _ q => nomatch q.1)
          obtain ⟨e25, h25⟩ := q25; cases e25; replace h25 := h25.symm; subst h25
          refine EW.eqs (s' := atS s1 (b + 1)) atS_at ?_
          refine EW.if_eq 53 dX6_readChoice_28 (by decide) (fun c28 => ?_) (fun c28 => ?_)
          · exact absurd c28 (by decide +kernel)
          refine EW.more (bc' := 0 + bud (none, c) (b + 1)) (bs' := 0 + 8 * bud (none, c) (b + 1)) (by show 0 + 2 * (c - (b + 1)) ≤ bc; omega) (by show 0 + 8 * (2 * (c - (b + 1))) ≤ 8 * bc; omega) ?_
          refine EW.aload_n dX6_readChoice_31 rfl rfl ?_
          refine EW.iload_n dX6_readChoice_32 rfl rfl ?_
          refine EC.rdN (bc := 0) (bs := 0) hM mfX6_readRow l_X6_49 mvX6_readRow (by omega) dX6_readChoice_33 rfl rfl rfl rfl (Nat.le_of_ble_eq_true rfl) (fun s2 q2 F2 => ?_)
          refine EW.astoreq dX6_readChoice_36 (by decide) ?_
          refine EW.aload_n dX6_readChoice_38 rfl rfl ?_
          refine EW.aloadq dX6_readChoice_39 rfl ?_
          obtain ⟨n2, hn2, e2⟩ := F2.2.2.2.2.2.2.2.2.1 z nz hnz
          have hn2n : nNext n2 = none := by simp only [nl5, Prod.mk.injEq] at e2; exact e2.2.2.2.2.trans hnzn
          refine EC.ndput (n := n2) (n' := n2) f_X6_52 dX6_readChoice_41 hn2 (by decide) rfl rfl ?_ ?_
          · have h9 : va_rf n2.2.2.2.2.1 = va_rf none := by rw [show n2.2.2.2.2.1 = none from hn2n]
            show [Value.int n2.1, .int n2.2.1, .int n2.2.2.1, va_rf n2.2.2.2.1, va_rf none, va_rf n2.2.2.2.2.2.1, .int n2.2.2.2.2.2.2.1, .int n2.2.2.2.2.2.2.2] = ndF n2
            rw [← h9]
            rfl
          refine EW.eqs (s' := atS s2 c) (by rw [show va_up s2.2.2.2.2.1 z (some n2) = s2.2.2.2.2.1 by rw [← hn2, va_same]]; exact F2.at) ?_
          refine EW.aloadq dX6_readChoice_44 rfl ?_
          refine EW.astoreq_n dX6_readChoice_46 rfl (by decide) ?_
          refine EW.iinc dX6_readChoice_47 rfl (nI_inc _) (by decide) ?_
          refine EW.goto 11 dX6_readChoice_50 (by decide) ?_
          have hend : ∀ lv', lget lv' 3 = some (va_rf none) → EW (IC cy ax hp0) l D cy base mX6_readChoice dd 0 0 53 lv' [] (atS s2 c) (rdQ s x ps (none, c)) := by
            intro lv' h3
            refine EW.aloadq_n dX6_readChoice_53 rfl h3 ?_
            refine EW.ifnull (r := none) 62 dX6_readChoice_54 (by decide) (fun _ => ?_) (fun _ h => nomatch h)
            refine EW.aloadq_n dX6_readChoice_62 rfl h3 ?_
            refine EW.aret (r := none) rfl dX6_readChoice_63 ?_
            exact ⟨qs ++ q2, F.tr (F2.mv c), rfl⟩
          refine EW.iload dX6_readChoice_11 rfl ?_
          refine EW.bp 24 dX6_readChoice_13 ?_
          refine EW.icmp_ge 53 dX6_readChoice_15 (by decide) (fun _ => hend _ rfl) (fun _ => ?_)
          refine EW.aloadq_n dX6_readChoice_18 rfl rfl ?_
          exact EW.ifnull (r := none) 53 dX6_readChoice_19 (by decide) (fun _ => hend _ rfl) (fun _ h => nomatch h)
        | some e =>
          obtain ⟨b4, we, -, -⟩ := b3 e rfl
          have b4 : b + 1 < c := b4
          obtain ⟨r9, hr9⟩ : ∃ r9, pChL tx P k c = r9 := ⟨_, rfl⟩
          have hbk := pChL_b hz hP k c b2
          rw [hr9] at hbk
          have hck : c ≤ r9.2 := hbk.1
          have hL : pChL tx P (k + 1) b = conL e r9 := by rw [← hr9]; exact pChL_s hbg hr
          have hL2 : (pChL tx P (k + 1) b).2 = r9.2 := by rw [hL]; exact conL_2 e r9
          have hfr : finR 2 e0 q (pChL tx P (k + 1) b) = finR 2 e0 (q ++ [e]) r9 := by rw [hL]; exact finR_con 2 e0 e q r9
          rw [hL2] at hbc
          rw [hfr, ← hr9]
          have hq1 : (if q = [] then 0 else 1) ≤ 1 := by split <;> omega
          refine EW.aload_n dX6_readChoice_22 rfl rfl ?_
          refine EW.bp 47 dX6_readChoice_23 ?_
          refine EC.callV (bc := bc) (bs := (8 * bc)) (mc' := 0) (ms' := 0) (k := 5) (C_take1 hl 0 (atS s1 (b)) n tx (hRJ1.at).1 (b) 47 atS_2 (by omega) (by decide) hbg) mfX6_take l_X6_38 mvX6_take (by omega) dX6_readChoice_25 rfl rfl (by decide) rfl rfl rfl (Nat.le_of_ble_eq_true rfl) (fun v25 s25 q25 => ?_) (fun _ _ q => nomatch q.1)
          obtain ⟨e25, h25⟩ := q25; cases e25; replace h25 := h25.symm; subst h25
          refine EW.eqs (s' := atS s1 (b + 1)) atS_at ?_
          refine EW.if_eq 53 dX6_readChoice_28 (by decide) (fun c28 => ?_) (fun c28 => ?_)
          · exact absurd c28 (by decide +kernel)
          refine EW.more (bc' := (2 * (r9.2 - c) + 1) + bud (some e, c) (b + 1)) (bs' := 8 * (2 * (r9.2 - c) + 1) + 8 * bud (some e, c) (b + 1)) (by show 2 * (r9.2 - c) + 1 + (2 * (c - (b + 1)) - 1) ≤ bc; omega) (by show 8 * (2 * (r9.2 - c) + 1) + 8 * (2 * (c - (b + 1)) - 1) ≤ 8 * bc; omega) ?_
          refine EW.aload_n dX6_readChoice_31 rfl rfl ?_
          refine EW.iload_n dX6_readChoice_32 rfl rfl ?_
          refine EC.rdS hM mfX6_readRow l_X6_49 mvX6_readRow (by omega) dX6_readChoice_33 rfl rfl rfl rfl (Nat.le_of_ble_eq_true rfl) (fun s2 q2 p np F2 hl2 hp2 hx2 => ?_)
          refine EW.astore dX6_readChoice_36 (by decide) ?_
          refine EW.aload_n dX6_readChoice_38 rfl rfl ?_
          refine EW.aload dX6_readChoice_39 rfl ?_
          obtain ⟨n2, hn2, e2⟩ := F2.2.2.2.2.2.2.2.2.1 z nz hnz
          refine EC.ndput (n := n2) (n' := nxtN n2 p) f_X6_52 dX6_readChoice_41 hn2 (by decide) rfl rfl rfl ?_
          have F12 := F.tr F2
          have F13 := F12.next (p := p) (List.mem_append_left q2 zm2) hn2
          have hO2 := layO_fr (e0 :: q) qs f z hw hNd hO (fun a _ n hn => F2.2.2.2.2.2.2.2.2.1 a n hn)
          have hO3 := layO_snoc we hl2 hp2 hx2 hn2 (e0 :: q) qs f hw (nd_r F12.2.2.2.2.2.2.2.1) hO2
          refine EW.eqs F13.at ?_
          refine EW.aload dX6_readChoice_44 rfl ?_
          refine EW.astore_n dX6_readChoice_46 rfl (by decide) ?_
          refine EW.iinc dX6_readChoice_47 rfl (nI_inc _) (by decide) ?_
          refine EW.goto 11 dX6_readChoice_50 (by decide) ?_
          refine EW.loc (lv' := [(0, .ref (ax 5)), (1, .int (nI dp)), (2, .ref f), (3, .ref p), (4, .int (nI (i + 1)))]) ⟨rfl, rfl, rfl, rfl, rfl, trivial⟩ ?_
          refine ih (i + 1) (q ++ [e]) (qs ++ q2) f p c _ _ (by omega) F13 b2 (fun a ha => ?_) hO3 (by rw [hr9, if_neg (by intro h; cases q <;> cases h)]; exact Nat.le_refl _)
          rcases List.mem_cons.mp ha with rfl | ha
          · exact hw _ List.mem_cons_self
          · rcases List.mem_append.mp ha with ha | ha
            · exact hw a (List.mem_cons_of_mem _ ha)
            · rw [List.mem_singleton.mp ha]; exact we
    · rw [show finR 2 e0 q (pChL tx P (k + 1) b) = (some (mkB 2 e0 q), b) by rw [pChL, if_neg hbg]; show (some (mkB 2 e0 (q ++ [])), b) = _; rw [List.append_nil]]
      refine EW.aload_n dX6_readChoice_22 rfl rfl ?_
      refine EW.bp 47 dX6_readChoice_23 ?_
      refine EC.callV (bc := bc) (bs := (8 * bc)) (mc' := 0) (ms' := 0) (k := 5) (C_take0 hl 0 (atS s1 (b)) n tx (hRJ1.at).1 (b) 47 atS_2 (by omega) (by decide) hbg) mfX6_take l_X6_38 mvX6_take (by omega) dX6_readChoice_25 rfl rfl (by decide) rfl rfl rfl (Nat.le_of_ble_eq_true rfl) (fun v25 s25 q25 => ?_) (fun _ _ q => nomatch q.1)
      obtain ⟨e25, h25⟩ := q25; cases e25; replace h25 := h25.symm; subst h25
      refine EW.if_eq 53 dX6_readChoice_28 (by decide) (fun c28 => ?_) (fun c28 => ?_)
      · exact hfin
      · exact absurd c28 (by decide +kernel)
set_option maxHeartbeats 8000000 in
theorem C_choice (hl : l.stackTraces = false) (dp dd : Nat) (hdd : 5 ≤ dd) (hz : ∀ j, n ≤ j → tx j = 0) {P : Nat → Pr} (hP : PB n P) (hR : RDC cy ax hp0 l D base n tx mX6_readRow [.ref (ax 5), .int (nI dp)] P (dd - 1)) : RDC cy ax hp0 l D base n tx mX6_readChoice [.ref (ax 5), .int (nI dp)] (pChoice tx P) dd := by
  intro s x ps a hRJ ha
  have hPa := hP a ha
  have hM := hR s x ps a hRJ ha
  refine MtW.of hl mfX6_readChoice rfl (Nat.le_of_ble_eq_true rfl) ?_
  cases hr : P a with
  | mk e b =>
    rw [hr] at hM hPa
    obtain ⟨b1, b2, b3⟩ := hPa
    have b1 : a ≤ b := b1
    have b2 : b ≤ n := b2
    cases e with
    | none =>
      rw [pChoice_n hr]
      refine EW.more (bc' := 0 + bud (none, b) a) (bs' := 0 + 8 * bud (none, b) a) (by omega) (by omega) ?_
      refine EW.aload_n dX6_readChoice_0 rfl rfl ?_
      refine EW.iload_n dX6_readChoice_1 rfl rfl ?_
      refine EC.rdN (bc := 0) (bs := 0) hM mfX6_readRow l_X6_49 mvX6_readRow (by omega) dX6_readChoice_2 rfl rfl rfl rfl (Nat.le_of_ble_eq_true rfl) (fun s2 q2 F2 => ?_)
      refine EW.eqs F2.at ?_
      refine EW.astoreq_n dX6_readChoice_5 rfl (by decide) ?_
      refine EW.aloadq_n dX6_readChoice_6 rfl rfl ?_
      refine EW.astoreq_n dX6_readChoice_7 rfl (by decide) ?_
      refine EW.ic 0 dX6_readChoice_8 ?_
      refine EW.istore dX6_readChoice_9 (by decide) ?_
      refine EW.iload dX6_readChoice_11 rfl ?_
      refine EW.bp 24 dX6_readChoice_13 ?_
      refine EW.icmp_ge 53 dX6_readChoice_15 (by decide) (fun c15 => absurd ((nI_leI (by decide) (by decide)).mp c15) (by decide)) (fun _ => ?_)
      refine EW.aloadq_n dX6_readChoice_18 rfl rfl ?_
      refine EW.ifnull (r := none) 53 dX6_readChoice_19 (by decide) (fun _ => ?_) (fun _ h => nomatch h)
      refine EW.aloadq_n dX6_readChoice_53 rfl rfl ?_
      refine EW.ifnull (r := none) 62 dX6_readChoice_54 (by decide) (fun _ => ?_) (fun _ h => nomatch h)
      refine EW.aloadq_n dX6_readChoice_62 rfl rfl ?_
      refine EW.aret (r := none) rfl dX6_readChoice_63 ?_
      exact ⟨q2, F2.mv b, rfl⟩
    | some e =>
      obtain ⟨b4, we, -, -⟩ := b3 e rfl
      have b4 : a < b := b4
      obtain ⟨r9, hr9⟩ : ∃ r9, pChL tx P 24 b = r9 := ⟨_, rfl⟩
      have hbk := pChL_b hz hP 24 b b2
      rw [hr9] at hbk
      have hck : b ≤ r9.2 := hbk.1
      rw [pChoice_s hr]
      have hbd : 2 * (r9.2 - b) + (2 * (b - a) - 1) ≤ bud (finR 2 e [] (pChL tx P 24 b)) a := by
        rw [hr9]
        obtain ⟨v9, d9⟩ := r9
        cases v9 with
        | none => show 2 * (d9 - b) + (2 * (b - a) - 1) ≤ 2 * (d9 - a); have : b ≤ d9 := hck; omega
        | some t => show 2 * (d9 - b) + (2 * (b - a) - 1) ≤ 2 * (d9 - a) - 1; have : b ≤ d9 := hck; omega
      refine EW.more (bc' := 2 * (r9.2 - b) + bud (some e, b) a) (bs' := 8 * (2 * (r9.2 - b)) + 8 * bud (some e, b) a) hbd (by have h8 : bud (some e, b) a = 2 * (b - a) - 1 := rfl; omega) ?_
      refine EW.aload_n dX6_readChoice_0 rfl rfl ?_
      refine EW.iload_n dX6_readChoice_1 rfl rfl ?_
      refine EC.rdS hM mfX6_readRow l_X6_49 mvX6_readRow (by omega) dX6_readChoice_2 rfl rfl rfl rfl (Nat.le_of_ble_eq_true rfl) (fun s2 q2 p np F2 hl2 hp2 hx2 => ?_)
      refine EW.eqs F2.at ?_
      refine EW.astore_n dX6_readChoice_5 rfl (by decide) ?_
      refine EW.aload_n dX6_readChoice_6 rfl rfl ?_
      refine EW.astore_n dX6_readChoice_7 rfl (by decide) ?_
      refine EW.ic 0 dX6_readChoice_8 ?_
      refine EW.istore dX6_readChoice_9 (by decide) ?_
      refine EW.loc (lv' := [(0, .ref (ax 5)), (1, .int (nI dp)), (2, .ref p), (3, .ref p), (4, .int (nI 0))]) ⟨rfl, rfl, rfl, rfl, rfl, trivial⟩ ?_
      exact C_choice_loop hl dp dd hdd hz hP hR s x ps hRJ e 24 0 [] q2 p p b (2 * (r9.2 - b)) s2 rfl F2 b2 (fun a ha => by rw [List.mem_singleton.mp ha]; exact we) ⟨rfl, hl2, np, hp2, hx2⟩ (by rw [hr9, if_pos rfl]; exact Nat.le_refl _)
theorem C_read_all (hl : l.stackTraces = false) (hz : ∀ j, n ≤ j → tx j = 0) : ∀ (j dp : Nat), dp + j = 4 → ∀ dd, 5 * j + 20 ≤ dd → RDC cy ax hp0 l D base n tx mX6_readChoice [.ref (ax 5), .int (nI dp)] (pG tx j) dd := by
  intro j
  induction j with
  | zero =>
    intro dp hj dd hdd
    rw [pG_eq]
    have hU := C_unit (cy := cy) (ax := ax) (hp0 := hp0) (D := D) (base := base) (tx := tx) (n := n) hl dp 0 hj (dd - 1 - 1 - 1) (by omega) hz (fun j' h => by omega)
    have hPt := C_part hl dp (dd - 1 - 1) (by omega) hz (pD_b hz 0) hU
    have hRw := C_row hl dp (dd - 1) (by omega) hz (pPart_b hz (pD_b hz 0)) hPt
    exact C_choice hl dp dd (by omega) hz (pRow_b (pPart_b hz (pD_b hz 0))) hRw
  | succ j ih =>
    intro dp hj dd hdd
    rw [pG_eq]
    have hU := C_unit (cy := cy) (ax := ax) (hp0 := hp0) (D := D) (base := base) (tx := tx) (n := n) hl dp (j + 1) hj (dd - 1 - 1 - 1) (by omega) hz (fun j' h => by cases h; exact ih (dp + 1) (by omega) (dd - 1 - 1 - 1 - 2) (by omega))
    have hPt := C_part hl dp (dd - 1 - 1) (by omega) hz (pD_b hz (j + 1)) hU
    have hRw := C_row hl dp (dd - 1) (by omega) hz (pPart_b hz (pD_b hz (j + 1))) hPt
    exact C_choice hl dp dd (by omega) hz (pRow_b (pPart_b hz (pD_b hz (j + 1)))) hRw
end C18
