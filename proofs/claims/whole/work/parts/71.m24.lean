section M24
variable {cy : Nat → ClassId} {ad : Nat → Nat} {hp0 : Hp} {l : Launch} {D : va_G} {base : Nat}
/-- the nodes of a tree, the deepest first: what stands below is gone through -/
def dfs (ch : Nat → List Nat) : Nat → List (Nat × Nat) → List (Nat × Nat) → List (Nat × Nat)
  | 0, V, _ => V
  | _ + 1, V, [] => V
  | n + 1, V, x :: rest => if V.length < 60 then (match (ch x.1)[x.2]? with
    | some y => dfs ch n (V ++ [(y, rest.length + 1)]) ((y, 0) :: (x.1, x.2 + 1) :: rest)
    | none => dfs ch n V rest) else V
/-- the reference's tree -/
def TRM (s : MSt) (m : Nat → Int32) (V : List (Nat × Nat)) : Prop := s.1 28 = nI V.length ∧ V.length ≤ 60 ∧ ∀ (i : Nat) (x : Nat × Nat), V[i]? = some x → x.1 < 126 ∧ s.2 29 i = nI (x.1 / 21) ∧ s.2 30 i = nI (x.1 % 21) ∧ s.2 31 i = m x.1 ∧ s.2 32 i = nI x.2
def STK (s : MSt) (V : List (Nat × Nat)) : List (Nat × Nat) → Prop
  | [] => True
  | x :: rest => (∃ i lv, V[i]? = some (x.1, lv) ∧ s.2 33 rest.length = nI i) ∧ s.2 34 rest.length = nI x.2 ∧ x.2 ≤ V.length ∧ STK s V rest
/-- what growing leaves as it was -/
def frG (s s2 : MSt) : Prop := (∀ k, k ≠ 28 → s2.1 k = s.1 k) ∧ ∀ k x, ¬ (29 ≤ k ∧ k ≤ 34) → s2.2 k x = s.2 k x
theorem frG.rf {s : MSt} : frG s s := ⟨fun _ _ => rfl, fun _ _ _ => rfl⟩
/-- the state after a node is kept -/
def kpS (m lv : Nat) (r f t : Int32) (s : MSt) : MSt := fU 28 (nI (m + 1)) (aU 34 lv (nI 0) (aU 33 lv (nI m) (aU 32 m (nI lv) (aU 31 m t (aU 30 m f (aU 29 m r s))))))
theorem kpS_fr {m lv : Nat} {r f t : Int32} {s : MSt} : frG s (kpS m lv r f t s) := by
  refine ⟨fun k hk => ?_, fun k x h => ?_⟩
  · unfold kpS
    rw [fU_1, if_neg hk]
    rfl
  · unfold kpS
    rw [fU_2, aU_2, if_neg (by omega), aU_2, if_neg (by omega), aU_2, if_neg (by omega), aU_2, if_neg (by omega), aU_2, if_neg (by omega), aU_2, if_neg (by omega)]
theorem get_app {V : List (Nat × Nat)} {x y : Nat × Nat} {i : Nat} (h : (V ++ [x])[i]? = some y) : (V[i]? = some y ∧ i < V.length) ∨ (i = V.length ∧ y = x) := by
  by_cases hi : i < V.length
  · rw [List.getElem?_append_left hi] at h
    exact Or.inl ⟨h, hi⟩
  · rw [List.getElem?_append_right (by omega)] at h
    have e : i - V.length = 0 := by
      by_cases e : i - V.length = 0
      · exact e
      · rw [List.getElem?_eq_none (by show ([x] : List (Nat × Nat)).length ≤ _; simp; omega)] at h
        cases h
    rw [e] at h
    exact Or.inr ⟨by omega, (Option.some.inj h).symm⟩
theorem TRM.kp {s : MSt} {m : Nat → Int32} {V : List (Nat × Nat)} {y lv : Nat} (h : TRM s m V) (hl : V.length < 60) (hy : y < 126) : TRM (kpS V.length lv (nI (y / 21)) (nI (y % 21)) (m y) s) m (V ++ [(y, lv)]) := by
  obtain ⟨h1, h2, h3⟩ := h
  have e : (V ++ [(y, lv)]).length = V.length + 1 := by rw [List.length_append]; rfl
  refine ⟨by rw [e]; unfold kpS; rw [fU_1, if_pos rfl], by omega, fun i x hx => ?_⟩
  rcases get_app hx with ⟨hx, hi⟩ | ⟨rfl, rfl⟩
  · obtain ⟨a1, a2, a3, a4, a5⟩ := h3 i x hx
    have hne : i ≠ V.length := by omega
    refine ⟨a1, ?_, ?_, ?_, ?_⟩
    · unfold kpS; simp [fU_2, aU_2, hne]; exact a2
    · unfold kpS; simp [fU_2, aU_2, hne]; exact a3
    · unfold kpS; simp [fU_2, aU_2, hne]; exact a4
    · unfold kpS; simp [fU_2, aU_2, hne]; exact a5
  · refine ⟨hy, ?_, ?_, ?_, ?_⟩
    · unfold kpS; simp [fU_2, aU_2]
    · unfold kpS; simp [fU_2, aU_2]
    · unfold kpS; simp [fU_2, aU_2]
    · unfold kpS; simp [fU_2, aU_2]
theorem STK.fr {s s2 : MSt} {V V2 : List (Nat × Nat)} (hV : ∀ (i : Nat) (x : Nat × Nat), V[i]? = some x → V2[i]? = some x) (hVl : V.length ≤ V2.length) : ∀ st : List (Nat × Nat), (∀ j, j < st.length → s2.2 33 j = s.2 33 j ∧ s2.2 34 j = s.2 34 j) → STK s V st → STK s2 V2 st
  | [], _, _ => trivial
  | x :: rest, hj, ⟨⟨i, lv, h1, h2⟩, h3, h4, h5⟩ => by
    have q := hj rest.length (Nat.lt_succ_self _)
    exact ⟨⟨i, lv, hV i _ h1, q.1.trans h2⟩, q.2.trans h3, by omega, STK.fr hV hVl rest (fun j h => hj j (Nat.lt_succ_of_lt h)) h5⟩
/-- what a recording run gives -/
def GRUN (cy : Nat → ClassId) (ad : Nat → Nat) (hp0 : Hp) (l : Launch) (D : va_G) (base dd : Nat) (GI : MSt → Prop) (gd : Nat → Prop) (ch : Nat → List Nat) (m : Nat → Int32) (zs : Nat → Nat) : Prop := ∀ s c, gd c → GI s → MtW (IM cy ad hp0) l D cy base mX9_run dd 0 0 [.ref (ad 43), .int (nI (64 * (c / 21) + zs (c / 21) - 1)), .int (nI (c % 21))] s (fun o s2 => (∃ v : Int32, o = .inl (some (.int v))) ∧ s2.1 24 = nI (ch c).length ∧ (∀ (i y : Nat), (ch c)[i]? = some y → i < 64 → s2.2 25 i = nI (y / 21) ∧ s2.2 26 i = nI (y % 21) ∧ s2.2 27 i = m y) ∧ GI s2 ∧ frD s s2)
def frW (s s2 : MSt) : Prop := (∀ k, k ≠ 14 → k ≠ 15 → k ≠ 16 → k ≠ 22 → k ≠ 24 → k ≠ 28 → s2.1 k = s.1 k) ∧ ∀ k x, k ≠ 13 → ¬ (17 ≤ k ∧ k ≤ 21) → ¬ (25 ≤ k ∧ k ≤ 34) → s2.2 k x = s.2 k x
theorem frW.rf {s : MSt} : frW s s := ⟨fun _ _ _ _ _ _ _ => rfl, fun _ _ _ _ _ => rfl⟩
theorem frW.tr {a b c : MSt} (f : frW a b) (g : frW b c) : frW a c := ⟨fun k h1 h2 h3 h4 h5 h6 => (g.1 k h1 h2 h3 h4 h5 h6).trans (f.1 k h1 h2 h3 h4 h5 h6), fun k x h1 h2 h3 => (g.2 k x h1 h2 h3).trans (f.2 k x h1 h2 h3)⟩
theorem frD.W {s s2 : MSt} (f : frD s s2) : frW s s2 := ⟨fun k h1 h2 h3 h4 h5 _ => f.1 k h1 h2 h3 h4 h5, fun k x h1 h2 h3 => f.2 k x h1 (by omega) (by omega) (by omega) h2⟩
theorem frG.W {s s2 : MSt} (f : frG s s2) : frW s s2 := ⟨fun k _ _ _ _ _ h => f.1 k h, fun k x h1 h2 h3 => f.2 k x (by omega)⟩
theorem cell_lt {c : Nat} (h : c < 126) : c / 21 < 6 ∧ c % 21 < 21 ∧ c / 21 * 21 + c % 21 = c := by omega
set_option maxHeartbeats 4000000 in
theorem G_end (dd : Nat) (s : MSt) (Q : Oc → MSt → Prop) (hq : Q (.inl none) (fU 23 (vp_nar .boolean (nI 0)) s)) : EW (IM cy ad hp0) l D cy base mX9_grow (dd + 1) 0 0 152 [(0, .ref (ad 43))] [] s Q := by
  refine EW.aload_n dX9_grow_152 rfl rfl ?_
  refine EW.ic 0 dX9_grow_153 ?_
  refine EM.putz f_X9_217 dX9_grow_154 rfl (by decide) ?_
  refine EW.vret rfl dX9_grow_157 ?_
  exact hq
theorem m1_lt : (nI 0 + Int32.ofInt (-1)) < 0 := by decide +kernel
set_option maxHeartbeats 4000000 in
theorem G_loop (hl : l.stackTraces = false) (dd : Nat) (hdd : 1 ≤ dd) (GI : MSt → Prop) (gd : Nat → Prop) (ch : Nat → List Nat) (m : Nat → Int32) (zs : Nat → Nat) (hR : GRUN cy ad hp0 l D base dd GI gd ch m zs) (hGI : ∀ s s2, GI s → frG s s2 → GI s2) (hz : ∀ s c, GI s → gd c → s.2 10 (c / 21) = nI (zs (c / 21)) ∧ 1 ≤ zs (c / 21) ∧ zs (c / 21) < 64) (hgd : ∀ c, gd c → c < 126 ∧ (ch c).length < 2 ^ 30 ∧ ∀ y ∈ ch c, gd y) (Q : Oc → MSt → Prop) : ∀ (f : Nat) (V st : List (Nat × Nat)) (s : MSt), 2 * (60 - V.length) + st.length < f → GI s → TRM s m V → STK s V st → st.length ≤ V.length → (∀ x ∈ st, gd x.1) → (∀ s2, GI s2 → TRM s2 m (dfs ch f V st) → frW s s2 → EW (IM cy ad hp0) l D cy base mX9_grow (dd + 1) 0 0 152 [(0, .ref (ad 43))] [] s2 Q) → EW (IM cy ad hp0) l D cy base mX9_grow (dd + 1) 0 0 16 [(0, .ref (ad 43)), (4, .int (nI st.length + Int32.ofInt (-1)))] [] s Q
  | 0, V, st, s, hf, _, _, _, _, _, _ => by omega
  | f + 1, V, [], s, hf, hI, hT, hS, hsv, hgs, K => by
    refine EW.iload dX9_grow_16 rfl ?_
    refine EW.if_lt 152 dX9_grow_18 (by decide) (fun c18 => ?_) (fun c18 => ?_)
    · exact EW.loc (lv' := [(0, .ref (ad 43))]) ⟨rfl, trivial⟩ (K s hI hT frW.rf)
    · exact absurd m1_lt c18
  | f + 1, V, x :: rest, s, hf, hI, hT, hS, hsv, hgs, K => by
    obtain ⟨⟨ix, lvx, g1, g2⟩, g3, g4, g5⟩ := hS
    obtain ⟨t1, t2, t3⟩ := id hT
    have hlen : (x :: rest).length = rest.length + 1 := rfl
    rw [hlen] at hsv hf
    refine EW.loc (lv' := [(0, .ref (ad 43)), (4, .int (nI rest.length))]) ⟨rfl, by rw [hlen, nI_dk]; rfl, trivial⟩ ?_
    have hgx := hgs x (List.mem_cons_self)
    obtain ⟨hx126, hch, hchg⟩ := hgd x.1 hgx
    obtain ⟨hz1, hz2, hz3⟩ := hz s x.1 hI hgx
    obtain ⟨b1, b2, b3, b4, b5⟩ := t3 ix _ g1
    have hc9 := cell_lt hx126
    have hixV : ix < V.length := by
      rcases Nat.lt_or_ge ix V.length with h | h
      · exact h
      · rw [List.getElem?_eq_none h] at g1; cases g1
    by_cases h60 : V.length < 60
    · have hz1' : s.2 10 (x.1 / 21) = nI (zs (x.1 / 21)) := hz1
      refine EW.iload dX9_grow_16 rfl ?_
      refine EW.if_lt 152 dX9_grow_18 (by decide) (fun c18 => ?_) (fun c18 => ?_)
      · exact absurd c18 (nI_pos (by omega))
      · refine EW.aload_n dX9_grow_21 rfl rfl ?_
        refine EM.get f_X9_246 dX9_grow_22 rfl ?_
        refine EW.top t1 ?_
        refine EW.bp 60 dX9_grow_25 ?_
        refine EW.icmp_ge 152 dX9_grow_27 (by decide) (fun c27 => ?_) (fun c27 => ?_)
        · have c27 : 60 ≤ V.length := (nI_leI (by omega) (by omega)).mp c27; omega
        · have c27 : ¬ (60 ≤ V.length) := fun h => c27 ((nI_leI (by omega) (by omega)).mpr h)
          refine EW.aload_n dX9_grow_30 rfl rfl ?_
          refine EM.get f_X9_81 dX9_grow_31 rfl ?_
          refine EW.iload dX9_grow_34 rfl ?_
          refine EM.ialdN (rest.length) dX9_grow_36 rfl rfl (by simp only [mLen]; omega) ?_
          refine EW.top g2 ?_
          refine EW.istore dX9_grow_37 (by decide) ?_
          refine EW.aload_n dX9_grow_39 rfl rfl ?_
          refine EW.bp 64 dX9_grow_40 ?_
          refine EW.aload_n dX9_grow_42 rfl rfl ?_
          refine EM.get f_X9_69 dX9_grow_43 rfl ?_
          refine EW.iload dX9_grow_46 rfl ?_
          refine EM.ialdN ix dX9_grow_48 rfl rfl (by simp only [mLen]; omega) ?_
          refine EW.top b2 ?_
          refine EW.imul dX9_grow_49 ?_
          refine EW.top (pk_mul _ _) ?_
          refine EW.aload_n dX9_grow_50 rfl rfl ?_
          refine EM.get f_X9_33 dX9_grow_51 rfl ?_
          refine EW.aload_n dX9_grow_54 rfl rfl ?_
          refine EM.get f_X9_69 dX9_grow_55 rfl ?_
          refine EW.iload dX9_grow_58 rfl ?_
          refine EM.ialdN ix dX9_grow_60 rfl rfl (by simp only [mLen]; omega) ?_
          refine EW.top b2 ?_
          refine EM.ialdN (x.1 / 21) dX9_grow_61 rfl rfl (by simp only [mLen]; omega) ?_
          refine EW.top hz1' ?_
          refine EW.iadd dX9_grow_62 ?_
          refine EW.top (nI_add _ _) ?_
          refine EW.ic 1 dX9_grow_63 ?_
          refine EW.isub dX9_grow_64 ?_
          refine EW.top (pk_sub (by omega)) ?_
          refine EW.aload_n dX9_grow_65 rfl rfl ?_
          refine EM.get f_X9_72 dX9_grow_66 rfl ?_
          refine EW.iload dX9_grow_69 rfl ?_
          refine EM.ialdN ix dX9_grow_71 rfl rfl (by simp only [mLen]; omega) ?_
          refine EW.top b3 ?_
          refine EM.callV (hR s x.1 hgx hI) mfX9_run l_X9_253 mvX9_run (by omega) dX9_grow_72 rfl rfl rfl rfl (Nat.le_of_ble_eq_true rfl) (fun X s9 q => by obtain ⟨⟨v, e⟩, -⟩ := q; cases e) (fun v72 s72 q72 => ?_)
          obtain ⟨⟨v9, e9⟩, r1, r2, r3, r4⟩ := q72; cases e9
          have t1b : s72.1 28 = nI V.length := (r4.1 28 (by decide) (by decide) (by decide) (by decide) (by decide)).trans t1
          have q33 : ∀ k j, 28 ≤ k → s72.2 k j = s.2 k j := fun k j hk => r4.2 k j (by omega) (by omega) (by omega) (by omega) (by omega)
          have g3b : s72.2 34 rest.length = nI x.2 := (q33 34 _ (by decide)).trans g3
          have hT2 : TRM s72 m V := ⟨t1b, t2, fun i y hy => by obtain ⟨c1, c2, c3, c4, c5⟩ := t3 i y hy; exact ⟨c1, (q33 29 i (by decide)).trans c2, (q33 30 i (by decide)).trans c3, (q33 31 i (by decide)).trans c4, (q33 32 i (by decide)).trans c5⟩⟩
          have hS2 : STK s72 V rest := STK.fr (fun _ _ h => h) (Nat.le_refl _) rest (fun j _ => ⟨q33 33 j (by decide), q33 34 j (by decide)⟩) g5
          refine EW.istore dX9_grow_75 (by decide) ?_
          refine EW.aload_n dX9_grow_77 rfl rfl ?_
          refine EM.get f_X9_84 dX9_grow_78 rfl ?_
          refine EW.iload dX9_grow_81 rfl ?_
          refine EM.ialdN (rest.length) dX9_grow_83 rfl rfl (by simp only [mLen]; omega) ?_
          refine EW.top g3b ?_
          refine EW.istore dX9_grow_84 (by decide) ?_
          refine EW.iload dX9_grow_86 rfl ?_
          refine EW.aload_n dX9_grow_88 rfl rfl ?_
          refine EM.get f_X9_210 dX9_grow_89 rfl ?_
          refine EW.top r1 ?_
          refine EW.icmp_ge 146 dX9_grow_92 (by decide) (fun c92 => ?_) (fun c92 => ?_)
          · have c92 : (ch x.1).length ≤ x.2 := (nI_leI (by omega) (by omega)).mp c92
            refine EW.iinc dX9_grow_146 rfl rfl (by decide) ?_
            refine EW.goto 16 dX9_grow_149 (by decide) ?_
            have hno : (ch x.1)[x.2]? = none := List.getElem?_eq_none (by omega)
            have eD : dfs ch (f + 1) V (x :: rest) = dfs ch f V rest := by
              rw [dfs, if_pos h60, hno]
            rw [eD] at K
            exact EW.loc (lv' := [(0, .ref (ad 43)), (4, .int (nI rest.length + Int32.ofInt (-1)))]) ⟨rfl, rfl, trivial⟩ (G_loop hl dd hdd GI gd ch m zs hR hGI hz hgd Q f V rest _ (by omega) r3 hT2 hS2 (by omega) (fun z hz => hgs z (List.mem_cons_of_mem _ hz)) (fun s9 h1 h2 h3 => K s9 h1 h2 (r4.W.tr h3)))
          · have c92 : ¬ ((ch x.1).length ≤ x.2) := fun h => c92 ((nI_leI (by omega) (by omega)).mpr h)
            refine EW.iload dX9_grow_95 rfl ?_
            refine EW.bp 64 dX9_grow_97 ?_
            refine EW.icmp_ge 146 dX9_grow_99 (by decide) (fun c99 => ?_) (fun c99 => ?_)
            · have c99 : 64 ≤ x.2 := (nI_leI (by omega) (by omega)).mp c99
              refine EW.iinc dX9_grow_146 rfl rfl (by decide) ?_
              refine EW.goto 16 dX9_grow_149 (by decide) ?_
              have hno : (ch x.1)[x.2]? = none := List.getElem?_eq_none (by omega)
              have eD : dfs ch (f + 1) V (x :: rest) = dfs ch f V rest := by
                rw [dfs, if_pos h60, hno]
              rw [eD] at K
              exact EW.loc (lv' := [(0, .ref (ad 43)), (4, .int (nI rest.length + Int32.ofInt (-1)))]) ⟨rfl, rfl, trivial⟩ (G_loop hl dd hdd GI gd ch m zs hR hGI hz hgd Q f V rest _ (by omega) r3 hT2 hS2 (by omega) (fun z hz => hgs z (List.mem_cons_of_mem _ hz)) (fun s9 h1 h2 h3 => K s9 h1 h2 (r4.W.tr h3)))
            · have c99 : ¬ (64 ≤ x.2) := fun h => c99 ((nI_leI (by omega) (by omega)).mpr h)
              have hlt : x.2 < (ch x.1).length := by omega
              have hy : (ch x.1)[x.2]? = some ((ch x.1)[x.2]'hlt) := List.getElem?_eq_getElem hlt
              generalize hyy : (ch x.1)[x.2]'hlt = y at hy
              obtain ⟨y1, y2, y3⟩ := r2 x.2 y hy (by omega)
              have hgy : gd y := hchg y (List.mem_of_getElem? hy)
              have hy126 := (hgd y hgy).1
              have s34 : (aU 34 rest.length (nI (x.2 + 1)) s72).2 25 x.2 = nI (y / 21) := by rw [aU_2, if_neg (by omega)]; exact y1
              have s35 : (aU 34 rest.length (nI (x.2 + 1)) s72).2 26 x.2 = nI (y % 21) := by rw [aU_2, if_neg (by omega)]; exact y2
              have s36 : (aU 34 rest.length (nI (x.2 + 1)) s72).2 27 x.2 = m y := by rw [aU_2, if_neg (by omega)]; exact y3
              refine EW.aload_n dX9_grow_102 rfl rfl ?_
              refine EM.get f_X9_84 dX9_grow_103 rfl ?_
              refine EW.iload dX9_grow_106 rfl ?_
              refine EW.dup2 dX9_grow_108 rfl rfl ?_
              refine EM.ialdN (rest.length) dX9_grow_109 rfl rfl (by simp only [mLen]; omega) ?_
              refine EW.top g3b ?_
              refine EW.ic 1 dX9_grow_110 ?_
              refine EW.iadd dX9_grow_111 ?_
              refine EW.top (nI_add _ _) ?_
              refine EM.iastN (rest.length) dX9_grow_112 rfl rfl (by simp only [mLen]; omega) ?_
              refine EW.iinc dX9_grow_113 rfl (nI_inc _) (by decide) ?_
              refine EW.aload_n dX9_grow_116 rfl rfl ?_
              refine EW.aload_n dX9_grow_117 rfl rfl ?_
              refine EM.get f_X9_60 dX9_grow_118 rfl ?_
              refine EW.iload dX9_grow_121 rfl ?_
              refine EM.ialdN (x.2) dX9_grow_123 rfl rfl (by simp only [mLen]; omega) ?_
              refine EW.top s34 ?_
              refine EW.aload_n dX9_grow_124 rfl rfl ?_
              refine EM.get f_X9_63 dX9_grow_125 rfl ?_
              refine EW.iload dX9_grow_128 rfl ?_
              refine EM.ialdN (x.2) dX9_grow_130 rfl rfl (by simp only [mLen]; omega) ?_
              refine EW.top s35 ?_
              refine EW.aload_n dX9_grow_131 rfl rfl ?_
              refine EM.get f_X9_66 dX9_grow_132 rfl ?_
              refine EW.iload dX9_grow_135 rfl ?_
              refine EM.ialdN (x.2) dX9_grow_137 rfl rfl (by simp only [mLen]; omega) ?_
              refine EW.iload dX9_grow_138 rfl ?_
              refine EM.callV (M_keep hl 0 (aU 34 rest.length (nI (x.2 + 1)) s72) V.length (rest.length + 1) (nI (y / 21)) (nI (y % 21)) _ t1b h60 (by omega)) mfX9_keep l_X9_249 mvX9_keep (by omega) dX9_grow_140 rfl rfl rfl rfl (Nat.le_of_ble_eq_true rfl) (fun _ _ q => nomatch q.1) (fun v140 s140 q140 => ?_)
              obtain ⟨e140, h140⟩ := q140; cases e140; replace h140 := h140.symm; subst h140
              refine EW.goto 149 dX9_grow_143 (by decide) ?_
              refine EW.goto 16 dX9_grow_149 (by decide) ?_
              refine EW.eqs (s' := kpS V.length (rest.length + 1) (nI (y / 21)) (nI (y % 21)) (m y) (aU 34 rest.length (nI (x.2 + 1)) s72)) (by rw [← s36]; rfl) ?_
              have FA : frG s72 (aU 34 rest.length (nI (x.2 + 1)) s72) := ⟨fun _ _ => rfl, fun k j h => by rw [aU_2, if_neg (by omega)]⟩
              have FK := kpS_fr (m := V.length) (lv := rest.length + 1) (r := nI (y / 21)) (f := nI (y % 21)) (t := m y) (s := aU 34 rest.length (nI (x.2 + 1)) s72)
              have hTA : TRM (aU 34 rest.length (nI (x.2 + 1)) s72) m V := ⟨t1b, t2, fun i z hz => by obtain ⟨c1, c2, c3, c4, c5⟩ := hT2.2.2 i z hz; exact ⟨c1, by rw [aU_2, if_neg (by omega)]; exact c2, by rw [aU_2, if_neg (by omega)]; exact c3, by rw [aU_2, if_neg (by omega)]; exact c4, by rw [aU_2, if_neg (by omega)]; exact c5⟩⟩
              have hTK := hTA.kp (y := y) (lv := rest.length + 1) h60 hy126
              generalize hs5 : kpS V.length (rest.length + 1) (nI (y / 21)) (nI (y % 21)) (m y) (aU 34 rest.length (nI (x.2 + 1)) s72) = s5 at *
              have eV : (V ++ [(y, rest.length + 1)]).length = V.length + 1 := by rw [List.length_append]; rfl
              have hVi : ∀ i z, V[i]? = some z → (V ++ [(y, rest.length + 1)])[i]? = some z := fun i z h => by
                have hi : i < V.length := by
                  rcases Nat.lt_or_ge i V.length with h2 | h2
                  · exact h2
                  · rw [List.getElem?_eq_none h2] at h; cases h
                rw [List.getElem?_append_left hi]; exact h
              have p33 : ∀ j, j ≠ rest.length + 1 → s5.2 33 j = s72.2 33 j := fun j hj => by rw [← hs5]; unfold kpS; simp [fU_2, aU_2, hj]
              have p34 : ∀ j, j ≠ rest.length + 1 → j ≠ rest.length → s5.2 34 j = s72.2 34 j := fun j hj h2 => by rw [← hs5]; unfold kpS; simp [fU_2, aU_2, hj, h2]
              have hS5 : STK s5 (V ++ [(y, rest.length + 1)]) ((y, 0) :: (x.1, x.2 + 1) :: rest) := by
                refine ⟨⟨V.length, rest.length + 1, ?_, ?_⟩, ?_, Nat.zero_le _, ⟨ix, lvx, hVi ix _ g1, ?_⟩, ?_, by rw [eV]; omega, STK.fr hVi (by omega) rest (fun j hj => ⟨p33 j (by omega), p34 j (by omega) (by omega)⟩) hS2⟩
                · rw [List.getElem?_append_right (Nat.le_refl _), Nat.sub_self]; rfl
                · show s5.2 33 (rest.length + 1) = _; rw [← hs5]; unfold kpS; simp [fU_2, aU_2]
                · show s5.2 34 (rest.length + 1) = _; rw [← hs5]; unfold kpS; simp [fU_2, aU_2]
                · rw [p33 _ (by omega)]; exact (q33 33 _ (by decide)).trans g2
                · show s5.2 34 rest.length = _; rw [← hs5]; unfold kpS; simp [fU_2, aU_2]
              have hIK : GI s5 := hGI _ _ (hGI _ _ r3 FA) FK
              have eD : dfs ch (f + 1) V (x :: rest) = dfs ch f (V ++ [(y, rest.length + 1)]) ((y, 0) :: (x.1, x.2 + 1) :: rest) := by
                rw [dfs, if_pos h60, hy]
              rw [eD] at K
              refine EW.loc (lv' := [(0, .ref (ad 43)), (4, .int (nI ((y, 0) :: (x.1, x.2 + 1) :: rest).length + Int32.ofInt (-1)))]) ⟨rfl, ?_, trivial⟩ ?_
              · have e : ((y, 0) :: (x.1, x.2 + 1) :: rest).length = rest.length + 1 + 1 := rfl
                rw [e, nI_dk]; rfl
              have e : ((y, 0) :: (x.1, x.2 + 1) :: rest).length = rest.length + 2 := rfl
              refine G_loop hl dd hdd GI gd ch m zs hR hGI hz hgd Q f (V ++ [(y, rest.length + 1)]) ((y, 0) :: (x.1, x.2 + 1) :: rest) s5 (by rw [eV, e]; omega) hIK hTK hS5 (by rw [eV, e]; omega) ?_ (fun s9 h1 h2 h3 => K s9 h1 h2 (r4.W.tr (FA.W.tr (FK.W.tr h3))))
              intro z hz
              rcases List.mem_cons.mp hz with rfl | hz
              · exact hgy
              · rcases List.mem_cons.mp hz with rfl | hz
                · exact hgx
                · exact hgs z (List.mem_cons_of_mem _ hz)
    · refine EW.iload dX9_grow_16 rfl ?_
      refine EW.if_lt 152 dX9_grow_18 (by decide) (fun c18 => ?_) (fun c18 => ?_)
      · exact absurd c18 (nI_pos (by omega))
      · refine EW.aload_n dX9_grow_21 rfl rfl ?_
        refine EM.get f_X9_246 dX9_grow_22 rfl ?_
        refine EW.top t1 ?_
        refine EW.bp 60 dX9_grow_25 ?_
        refine EW.icmp_ge 152 dX9_grow_27 (by decide) (fun c27 => ?_) (fun c27 => ?_)
        · have c27 : 60 ≤ V.length := (nI_leI (by omega) (by omega)).mp c27
          have eD : dfs ch (f + 1) V (x :: rest) = V := by rw [dfs, if_neg h60]
          rw [eD] at K
          exact EW.loc (lv' := [(0, .ref (ad 43))]) ⟨rfl, trivial⟩ (K s hI hT frW.rf)
        · have c27 : ¬ (60 ≤ V.length) := fun h => c27 ((nI_leI (by omega) (by omega)).mpr h); omega
set_option maxHeartbeats 4000000 in
theorem G_beg (hl : l.stackTraces = false) (dd : Nat) (hdd : 1 ≤ dd) (s : MSt) (r p : Nat) (t : Int32) (Q : Oc → MSt → Prop) (h28 : s.1 28 = nI 0) (K : EW (IM cy ad hp0) l D cy base mX9_grow (dd + 1) 0 0 16 [(0, .ref (ad 43)), (4, .int (nI 0))] [] (kpS 0 0 (nI r) (nI p) t (fU 23 (vp_nar .boolean (nI 1)) s)) Q) : MtW (IM cy ad hp0) l D cy base mX9_grow (dd + 1) 0 0 [.ref (ad 43), .int (nI r), .int (nI p), .int t] s Q := by
  refine MtW.of hl mfX9_grow rfl (Nat.le_of_ble_eq_true rfl) ?_
  refine EW.aload_n dX9_grow_0 rfl rfl ?_
  refine EW.ic 1 dX9_grow_1 ?_
  refine EM.putz f_X9_217 dX9_grow_2 rfl (by decide) ?_
  refine EW.aload_n dX9_grow_5 rfl rfl ?_
  refine EW.iload_n dX9_grow_6 rfl rfl ?_
  refine EW.iload_n dX9_grow_7 rfl rfl ?_
  refine EW.iload_n dX9_grow_8 rfl rfl ?_
  refine EW.ic 0 dX9_grow_9 ?_
  refine EM.callV (M_keep hl 0 (fU 23 (vp_nar .boolean (nI 1)) s) 0 0 (nI r) (nI p) t h28 (by decide) (by decide)) mfX9_keep l_X9_249 mvX9_keep (by omega) dX9_grow_10 rfl rfl rfl rfl (Nat.le_of_ble_eq_true rfl) (fun _ _ q => nomatch q.1) (fun v10 s10 q10 => ?_)
  obtain ⟨e10, h10⟩ := q10; cases e10; replace h10 := h10.symm; subst h10
  refine EW.ic 0 dX9_grow_13 ?_
  refine EW.istore dX9_grow_14 (by decide) ?_
  refine EW.eqs (s' := kpS 0 0 (nI r) (nI p) t (fU 23 (vp_nar .boolean (nI 1)) s)) rfl ?_
  exact EW.loc (lv' := [(0, .ref (ad 43)), (4, .int (nI 0))]) ⟨rfl, rfl, trivial⟩ K
theorem M_grow (hl : l.stackTraces = false) (dd : Nat) (hdd : 1 ≤ dd) (GI : MSt → Prop) (gd : Nat → Prop) (ch : Nat → List Nat) (m : Nat → Int32) (zs : Nat → Nat) (hR : GRUN cy ad hp0 l D base dd GI gd ch m zs) (hGI : ∀ s s2, GI s → frG s s2 → GI s2) (hz : ∀ s c, GI s → gd c → s.2 10 (c / 21) = nI (zs (c / 21)) ∧ 1 ≤ zs (c / 21) ∧ zs (c / 21) < 64) (hgd : ∀ c, gd c → c < 126 ∧ (ch c).length < 2 ^ 30 ∧ ∀ y ∈ ch c, gd y) (s : MSt) (c : Nat) (hc : gd c) (h28 : s.1 28 = nI 0) (hI : GI (kpS 0 0 (nI (c / 21)) (nI (c % 21)) (m c) (fU 23 (vp_nar .boolean (nI 1)) s))) : MtW (IM cy ad hp0) l D cy base mX9_grow (dd + 1) 0 0 [.ref (ad 43), .int (nI (c / 21)), .int (nI (c % 21)), .int (m c)] s (fun o s2 => o = .inl none ∧ ∃ s9, GI s9 ∧ TRM s9 m (dfs ch 122 [(c, 0)] [(c, 0)]) ∧ s2 = fU 23 (vp_nar .boolean (nI 0)) s9 ∧ frW (fU 23 (vp_nar .boolean (nI 1)) s) s9) := by
  refine G_beg hl dd hdd s (c / 21) (c % 21) (m c) _ h28 ?_
  have hT0 : TRM (fU 23 (vp_nar .boolean (nI 1)) s) m [] := ⟨by rw [fU_1, if_neg (by decide)]; exact h28, Nat.zero_le _, fun i x h => by cases h⟩
  have hT1 := hT0.kp (y := c) (lv := 0) (by decide) (hgd c hc).1
  have FK := kpS_fr (m := 0) (lv := 0) (r := nI (c / 21)) (f := nI (c % 21)) (t := m c) (s := fU 23 (vp_nar .boolean (nI 1)) s)
  have hS : STK (kpS 0 0 (nI (c / 21)) (nI (c % 21)) (m c) (fU 23 (vp_nar .boolean (nI 1)) s)) [(c, 0)] [(c, 0)] := by
    refine ⟨⟨0, 0, rfl, ?_⟩, ?_, Nat.zero_le _, trivial⟩
    · show (kpS 0 0 _ _ _ _).2 33 0 = _
      unfold kpS; simp [fU_2, aU_2]
    · show (kpS 0 0 _ _ _ _).2 34 0 = _
      unfold kpS; simp [fU_2, aU_2]
  have e : nI 0 = nI (0 + 1) + Int32.ofInt (-1) := by decide +kernel
  refine EW.loc (lv' := [(0, .ref (ad 43)), (4, .int (nI ([(c, 0)] : List (Nat × Nat)).length + Int32.ofInt (-1)))]) ⟨rfl, ?_, trivial⟩ ?_
  · show some (Value.int (nI 0)) = some (Value.int (nI (0 + 1) + Int32.ofInt (-1)))
    rw [← e]
  exact G_loop hl dd hdd GI gd ch m zs hR hGI hz hgd _ 122 [(c, 0)] [(c, 0)] _ (show 2 * (60 - 1) + 1 < 122 by decide) hI hT1 hS (Nat.le_refl _) (fun x hx => by rw [List.mem_singleton.mp hx]; exact hc) (fun s9 h1 h2 h3 => G_end dd s9 _ ⟨rfl, s9, h1, h2, rfl, FK.W.tr h3⟩)
end M24
