/-! The call rule. -/
theorem pRead_none {n : Nat} {tx : Nat → Nat} (hn : n ≤ 24) (hz : ∀ j, n ≤ j → tx j = 0) {f : Nat} (h : pRead tx n = (none, f)) : f < 1000 := by
  unfold pRead at h
  split at h
  · cases h; decide
  · rename_i h0
    split at h
    · cases h; decide
    · rename_i h1
      have h1 : tx 1 = 61 := Classical.not_not.mp h1
      have k1 := tx_lt hz h1 (by decide)
      have hb := pG_b hz 4 2 (by omega)
      cases hr : pG tx 4 2 with
      | mk x b2 =>
        rw [hr] at h hb
        have hb2 : b2 ≤ n := hb.2.1
        cases x with
        | none => cases h; omega
        | some x =>
          dsimp only at h
          split at h
          · cases h; omega
          · cases h
theorem reQ_f {TX : Nat} {s sR : CSt} {r : Pr} {o : Oc} (h : reQ TX s r o sR) : (∀ k, k ≠ 2 → k ≠ 3 → sR.1 k = s.1 k) ∧ sR.2.1 = s.2.1 ∧ sR.2.2.2.1 = s.2.2.2.1 ∧ (∀ a n, s.2.2.2.2.1 a = some n → sR.2.2.2.2.1 a = some n) ∧ ∀ y e, s.2.2.2.2.2 y = some e → sR.2.2.2.2.2 y = some e := by
  obtain ⟨x, v, qs, n1, n2, ⟨f1, f2, f3, f4, f5, f6, f7, f8, f9, f10⟩, -⟩ := h
  refine ⟨fun k h2 h3 => ?_, f2, f4, fun a n ha => ?_, fun y e hy => ?_⟩
  · rw [f1, va_up_ne _ _ h2]
    show va_up s.1 3 v k = _
    rw [va_up_ne _ _ h3]
  · have hq : a ∉ qs := fun hq => by
      have : s.2.2.2.2.1 a = none := f7 a hq
      rw [this] at ha
      cases ha
    exact (f10 a (fun c => by cases c) hq).trans ha
  · have hyx : y ≠ x := fun e1 => by rw [e1, n2] at hy; cases hy
    rw [f5 y hyx]
    show va_up s.2.2.2.2.2 x (some (none, none)) y = _
    rw [va_up_ne _ _ hyx]
    exact hy
theorem reQ_s {TX : Nat} {s sR : CSt} {t : Ex} {b x : Nat} (h : reQ TX s (some t, b) (.inl (some (.ref x))) sR) : s.2.2.2.2.2 x = none ∧ ∃ qs p np, chn sR x qs ∧ qs.Nodup ∧ (∀ q ∈ qs, s.2.2.2.2.1 q = none) ∧ layE sR.2.2.2.2.1 t qs p ∧ sR.2.2.2.2.1 p = some np := by
  obtain ⟨x', v, qs, n1, n2, ⟨f1, f2, f3, f4, f5, f6, f7, f8, f9, f10⟩, e, -, p, np, g1, g2, g3⟩ := h
  cases e
  exact ⟨n2, qs, p, np, f6, f8, f7, g1, g2⟩
section OPS5
variable {cy : Nat → ClassId} {ax ad : Nat → Nat} {l : Launch} {D : va_G} {base : Nat} {c : CSt} {m : MSt}
/-- what the class's grammar is once the rule r is t -/
def NEWR (r : Nat) (t : Ex) (rl : Nat → Option Ex) (sE : CSt) (v : Int32) (nd' : Nat → Option ND) : Prop := ∃ (rt : Nat → Nat) (ps : Nat → List Nat) (tt : Nat → Ex), GP sE rt ps ∧ LYC sE.2.2.2.1 rt ps tt sE.2.2.2.2.1 ∧ (∀ r q, r < 6 → q < 6 → sE.2.2.2.1 r ≠ none → sE.2.2.2.1 q ≠ none → r ≠ q → ∀ x ∈ ps r, x ∉ ps q) ∧ (∀ q, q < 6 → (if q = r then some t else rl q) = (sE.2.2.2.1 q).map (fun _ => tt q)) ∧ skE sE.2.2.2.2.1 nd' ∧ VDT (fun q => if q = r then some t else rl q) v ∧ (isM (MIS (fun q => if q = r then some t else rl q)) none → (∃ q, q < 6 ∧ (if q = r then some t else rl q) ≠ none) → ∃ O, LSO (fun q => if q = r then some t else rl q) O ∧ ∀ q u, q < 6 → (if q = r then some t else rl q) = some u → ndO nd' (rt q) = O q)
theorem newr (hl : l.stackTraces = false) {TX r : Nat} (hr : r < 6) {sR : CSt} {t : Ex} {b x : Nat} (wt : wf t) (h63 : sz t ≤ 63) {rl : Nat → Option Ex} {rt : Nat → Nat} {ps : Nat → List Nat} {tt : Nat → Ex} {zs : Nat → Nat} (hJ : JR c m rl rt ps tt zs) (h : reQ TX c (some t, b) (.inl (some (.ref x))) sR) : ∃ v nd', (∀ hp0 : Hp, MtW (IC cy ax hp0) l D cy base mX2_examine (0 + 5) 0 0 [.ref (ax 6)] (va_up sR.1 0 0, sR.2.1, sR.2.2.1, va_up sR.2.2.2.1 r (some x), sR.2.2.2.2) (fun o s2 => o = .inl (some (.int v)) ∧ s2 = ndP (va_up sR.1 0 0, sR.2.1, sR.2.2.1, va_up sR.2.2.2.1 r (some x), sR.2.2.2.2) nd')) ∧ NEWR r t rl (va_up sR.1 0 0, sR.2.1, sR.2.2.1, va_up sR.2.2.2.1 r (some x), sR.2.2.2.2) v nd' := by
  obtain ⟨-, f2, f4, f9, f5⟩ := reQ_f h
  obtain ⟨n2, qs, p, np, ⟨e9, q1, q2, q3⟩, q4, q5, q6, q7⟩ := reQ_s h
  obtain ⟨g0, g1, g2, g3, g4, g5, g6⟩ := hJ
  obtain ⟨sE, hsE⟩ : ∃ sE : CSt, sE = (va_up sR.1 0 0, sR.2.1, sR.2.2.1, va_up sR.2.2.2.1 r (some x), sR.2.2.2.2) := ⟨_, rfl⟩
  rw [← hsE]
  have eE : ∀ q, sE.2.2.2.1 q = if q = r then some x else c.2.2.2.1 q := fun q => by
    rw [hsE]
    show va_up sR.2.2.2.1 r (some x) q = _
    by_cases e : q = r
    · subst e; rw [va_up_self, if_pos rfl]
    · rw [va_up_ne _ _ e, if_neg e, f4]
  have eD : sE.2.2.2.2.1 = sR.2.2.2.2.1 ∧ sE.2.2.2.2.2 = sR.2.2.2.2.2 := by rw [hsE]; exact ⟨rfl, rfl⟩
  obtain ⟨qz, hqz⟩ := layE_last t wt qs p q6
  have G1 : GP sE (fun q => if q = r then p else rt q) (fun q => if q = r then qs else ps q) := fun q hq y hy => by
    rw [eE] at hy
    rw [eD.1, eD.2]
    dsimp only
    by_cases e : q = r
    · rw [if_pos e] at hy
      cases hy
      rw [if_pos e, if_pos e]
      refine ⟨e9, np, q1, ?_, q7, q2⟩
      rw [q3, hqz]
      exact List.getLast?_concat
    · rw [if_neg e] at hy
      rw [if_neg e, if_neg e]
      obtain ⟨e8, m9, k1, k2, k3, k4⟩ := g1 q hq y hy
      exact ⟨e8, m9, f5 y e8 k1, k2, f9 _ _ k3, lnk_ext f9 _ _ k4⟩
  have hL2 := LYC.ext g2 f9
  have G2 : LYC sE.2.2.2.1 (fun q => if q = r then p else rt q) (fun q => if q = r then qs else ps q) (fun q => if q = r then t else tt q) sE.2.2.2.2.1 := fun q hq hy => by
    rw [eE] at hy
    rw [eD.1]
    dsimp only
    by_cases e : q = r
    · rw [if_pos e, if_pos e, if_pos e]
      exact ⟨q6, wt, h63, q4⟩
    · rw [if_neg e] at hy
      rw [if_neg e, if_neg e, if_neg e]
      exact hL2 q hq hy
  have hnew : ∀ q, q < 6 → c.2.2.2.1 q ≠ none → ∀ a ∈ ps q, a ∉ qs := fun q hq he a ha hx => by
    obtain ⟨u1, u2, -⟩ := g2 q hq he
    obtain ⟨nn, hnn⟩ := lay_ex u2 u1 a ha
    rw [q5 a hx] at hnn
    cases hnn
  have G3 : ∀ r1 q, r1 < 6 → q < 6 → sE.2.2.2.1 r1 ≠ none → sE.2.2.2.1 q ≠ none → r1 ≠ q → ∀ y ∈ (if r1 = r then qs else ps r1), y ∉ (if q = r then qs else ps q) := fun r1 q hr1 hq h1 h2 hne y hy => by
    rw [eE] at h1 h2
    by_cases e : r1 = r
    · rw [if_pos e] at hy
      rw [if_neg (fun e2 => hne (by rw [e, e2]))]
      rw [if_neg (fun e2 => hne (by rw [e, e2]))] at h2
      exact fun hc => hnew q hq h2 y hc hy
    · rw [if_neg e] at hy h1
      by_cases e2 : q = r
      · rw [if_pos e2]
        exact hnew r1 hr1 h1 y hy
      · rw [if_neg e2] at h2 ⊢
        exact g3 r1 q hr1 hq h1 h2 hne y hy
  have G4 : ∀ q, q < 6 → (if q = r then some t else rl q) = (sE.2.2.2.1 q).map (fun _ => if q = r then t else tt q) := fun q hq => by
    rw [eE]
    by_cases e : q = r
    · rw [if_pos e, if_pos e, if_pos e]; rfl
    · rw [if_neg e, if_neg e, if_neg e]; exact g4 q hq
  obtain ⟨v, nd', hE, hsk, hV, hO⟩ := C_exam (cy := cy) (ax := ax) (D := D) (base := base) (rl := fun q => if q = r then some t else rl q) hl sE G1 G2 G3 G4
  exact ⟨v, nd', hE, _, _, _, G1, G2, G3, G4, hsk, hV, hO⟩
set_option maxHeartbeats 1000000 in
theorem O_rule (hl : l.stackTraces = false) (hJ : J c m) : ∃ P Q, BC cy ax l D base mX8_rule [.ref (ax 0)] c P ∧ BM cy ad l D base mX9_rule [.ref (ad 43)] m Q ∧ (∀ o c', P o c' → SH [] o) ∧ ∀ o c' o' m', P o c' → Q o' m' → EQV o o' ∧ J c' m' := by
  obtain ⟨N, tx, n, w, rl, rt, ps, tt, zs, h1, h2, h3, h4, h5, h6, h7, h8⟩ := hJ
  have hN := h1.2.1
  have hzz := h1.2.2.2.2
  cases hP : pRead tx N with
  | mk e b =>
    cases e with
    | none =>
      have hf := pRead_none hN hzz hP
      refine ⟨_, _, ⟨50, 400, by decide, by decide, fun hp0 => C_ruleF (n := N) (tx := tx) hl 1799 (by decide) c h1 b hf hP⟩, (fun hp0 => M_ruleF hl 1800 N tx m (by decide) h2 b 0 hf hP), (by intro o c' h; first | exact Or.inl ⟨_, h.1⟩ | exact Or.inr ⟨0, _, rfl, h.1⟩ | exact Or.inr ⟨1, _, rfl, h.1⟩ | exact Or.inr ⟨2, _, rfl, h.1⟩ | exact ⟨_, h.1⟩ | (obtain ⟨f, h1, h2⟩ := h; exact Or.inl ⟨_, h1⟩) | (rcases h with ⟨-, -, h, -⟩ | ⟨-, h, -⟩ <;> exact Or.inl ⟨_, h⟩)), fun o c' o' m' ⟨a1, sR, a2, a3⟩ ⟨b1, s1, b2, b3⟩ => ?_⟩
      obtain ⟨f1, f2, f4, f9, f5⟩ := reQ_f a2
      obtain ⟨g0, g1, g2, g3, g4, g5, g6⟩ := h4
      have c1 : ∀ k, k ≠ 0 → k ≠ 2 → k ≠ 3 → c'.1 k = c.1 k := fun k h0 h2 h3 => by rw [a3]; show va_up sR.1 0 0 k = _; rw [va_up_ne _ _ h0]; exact f1 k h2 h3
      have c0 : c'.1 0 = nI 0 := by rw [a3]; show va_up sR.1 0 0 0 = _; rw [va_up_self]; decide +kernel
      have c2 : c'.2 = sR.2 := by rw [a3]
      have m1 : ∀ k, k ≠ 0 → k ≠ 1 → k ≠ 35 → k ≠ 36 → k ≠ 38 → m'.1 k = m.1 k := fun k k0 k1 k2 k3 k4 => by rw [b3, fU_1, if_neg k1, b2.1 k k2 k3 k4, fU_1, if_neg k0]
      have m11 : m'.1 1 = nI 0 := by rw [b3, fU_1, if_pos rfl]
      have m2 : ∀ k x, ¬ (pk k ∧ 384 ≤ x) → ¬ (k = 10 ∧ x = 6) → k < 37 → m'.2 k x = m.2 k x := fun k x k1 k2 k3 => by rw [b3]; exact b2.2 k x k1 k2 (by omega) (by omega) (by omega)
      clear a3 b3
      refine ⟨⟨_, a1, b1⟩, 0, (fun _ => 0), n, w, rl, rt, ps, tt, zs, ⟨c0, by decide, fun j hj => by omega, fun _ => Nat.zero_lt_succ 127, fun _ _ => rfl⟩, ⟨m11, by decide, fun j hj => by omega, fun _ => Nat.zero_lt_succ 127, fun _ _ => rfl⟩, h3.cg (c1 1 (by decide) (by decide) (by decide)) (by rw [c2, f2]) (m1 3 (by decide) (by decide) (by decide) (by decide) (by decide)) (fun x => m2 4 x (fun q => by unfold pk at q; omega) (by omega) (by decide)), ⟨g0, ?_, ?_, ?_, ?_, ?_, g6⟩, ⟨?_, ?_⟩, h6.cg (by rw [c2, f2]) (by rw [c2, f2]) (by rw [c2, f2]) (c1 5 (by decide) (by decide) (by decide)) (c1 6 (by decide) (by decide) (by decide)) (fun k _ => m2 13 k (fun q => by unfold pk at q; omega) (by omega) (by decide)) (m1 14 (by decide) (by decide) (by decide) (by decide) (by decide)) (m1 15 (by decide) (by decide) (by decide) (by decide) (by decide)), h7.cg (c1 7 (by decide) (by decide) (by decide)) (fun k _ _ => by rw [c2, f2]) (m1 28 (by decide) (by decide) (by decide) (by decide) (by decide)) (fun k x a b => m2 k x (fun q => by unfold pk at q; omega) (by omega) (by omega)), ?_, ?_⟩
      · intro q hq y hy
        rw [c2] at hy ⊢
        rw [f4] at hy
        obtain ⟨e8, m9, k1, k2, k3, k4⟩ := g1 q hq y hy
        exact ⟨e8, m9, f5 y e8 k1, k2, f9 _ _ k3, lnk_ext f9 _ _ k4⟩
      · rw [c2, f4]; exact g2.ext f9
      · rw [c2, f4]; exact g3
      · rw [c2, f4]; exact g4
      · exact g5.cg (fun k x a b hx => m2 k x (fun q => by omega) (by omega) (by omega)) (fun x hx => m2 10 x (fun q => by unfold pk at q; omega) (by omega) (by decide))
      · rw [c1 4 (by decide) (by decide) (by decide)]; exact h5.1
      · intro q1 q2
        obtain ⟨O, o1, o2⟩ := h5.2 q1 q2
        refine ⟨O, o1, fun r t hr ht => ?_⟩
        have he : c.2.2.2.1 r ≠ none := fun hc => by rw [g4 r hr, hc] at ht; cases ht
        cases hy : c.2.2.2.1 r with
        | none => exact absurd hy he
        | some y =>
          obtain ⟨e8, m9, k1, k2, k3, k4⟩ := g1 r hr y hy
          rw [← o2 r t hr ht, c2]
          unfold ndO
          rw [f9 _ _ k3, k3]
      · rw [m1 23 (by decide) (by decide) (by decide) (by decide) (by decide)]; exact h8.1
      · rw [m2 8 447 (fun q => by unfold pk at q; omega) (by omega) (by decide)]; exact h8.2
    | some t =>
      obtain ⟨p1, p2, p3, p4, p5, p6⟩ := pRead_all hN hzz hP
      have hr6 : tx 0 - 65 < 6 := by have := p1.2; omega
      refine ⟨_, _, ⟨50, 400, by decide, by decide, fun hp0 => C_ruleS (n := N) (tx := tx) hl 1799 (by decide) c h1 t b p1 hP (fun sR x v s1 => reQ (tx 0) c (some t, b) (.inl (some (.ref x))) sR ∧ ∃ nd', s1 = ndP (va_up sR.1 0 0, sR.2.1, sR.2.2.1, va_up sR.2.2.2.1 (tx 0 - 65) (some x), sR.2.2.2.2) nd' ∧ NEWR (tx 0 - 65) t rl (va_up sR.1 0 0, sR.2.1, sR.2.2.1, va_up sR.2.2.2.1 (tx 0 - 65) (some x), sR.2.2.2.2) v nd') (fun sR x e9 hh => by
        obtain ⟨v, nd', u1, u2⟩ := newr (cy := cy) (ax := ax) (D := D) (base := base) hl hr6 p3 p5 h4 hh.1
        exact ⟨v, _, u1 hp0, hh.1, nd', rfl, u2⟩)⟩, (fun hp0 => M_ruleS hl 1800 N tx m (by decide) h2 t b hP p1 p2 p5), (by intro o c' h; first | exact Or.inl ⟨_, h.1⟩ | exact Or.inr ⟨0, _, rfl, h.1⟩ | exact Or.inr ⟨1, _, rfl, h.1⟩ | exact Or.inr ⟨2, _, rfl, h.1⟩ | exact ⟨_, h.1⟩ | (obtain ⟨f, h1, h2⟩ := h; exact Or.inl ⟨_, h1⟩) | (rcases h with ⟨-, -, h, -⟩ | ⟨-, h, -⟩ <;> exact Or.inl ⟨_, h⟩)), fun o c' o' m' ⟨a1, sR, x, v, s1, f, ⟨a2, nd', a3, rt', ps', tt', G1, G2, G3, G4, G5, G6, G7⟩, a4, a5⟩ ⟨b1, b2, b3, b4, b5⟩ => ?_⟩
      obtain ⟨f1, f2, f4, f9, f5⟩ := reQ_f a2
      obtain ⟨g0, g1, g2, g3, g4, g5, g6⟩ := h4
      obtain ⟨d1, d2, d3, d4⟩ := b5
      have c1 : ∀ k, k ≠ 0 → k ≠ 2 → k ≠ 3 → k ≠ 4 → c'.1 k = c.1 k := fun k h0 h2 h3 h4 => by rw [a4, a3]; show va_up (va_up sR.1 0 0) 4 v k = _; rw [va_up_ne _ _ h4, va_up_ne _ _ h0]; exact f1 k h2 h3
      have c0 : c'.1 0 = nI 0 := by rw [a4, a3]; show va_up (va_up sR.1 0 0) 4 v 0 = _; rw [va_up_ne _ _ (by decide), va_up_self]; decide +kernel
      have c4 : c'.1 4 = v := by rw [a4, a3]; show va_up (va_up sR.1 0 0) 4 v 4 = _; rw [va_up_self]
      have c2 : ∀ k, k ≠ 9 → c'.2.1 k = c.2.1 k := fun k hk => by rw [a4, a3]; show va_up sR.2.1 9 f k = _; rw [va_up_ne _ _ hk, f2]
      have c9 : c'.2.1 9 = f := by rw [a4, a3]; show va_up sR.2.1 9 f 9 = _; rw [va_up_self]
      have c3 : c'.2.2.2 = (ndP (va_up sR.1 0 0, sR.2.1, sR.2.2.1, va_up sR.2.2.2.1 (tx 0 - 65) (some x), sR.2.2.2.2) nd').2.2.2 := by rw [a4, a3]
      clear a4 a3
      have hbb : ∀ r u, (if r = tx 0 - 65 then some t else rl r) = some u → ht u ≤ 24 ∧ cR u ≤ 2 ^ 28 := fun r u hu => by
        by_cases e : r = tx 0 - 65
        · rw [if_pos e] at hu; cases hu; exact ⟨p4, p6⟩
        · rw [if_neg e] at hu; exact g6 r u hu
      have hk : ∀ k x, k < 37 → ¬ (pk k ∧ 384 ≤ x) → ¬ (5 ≤ k ∧ k ≤ 9 ∧ 64 * (tx 0 - 65) ≤ x ∧ x < 64 * (tx 0 - 65) + 64) → ¬ (k = 10 ∧ (x = 6 ∨ x = tx 0 - 65)) → k ≠ 13 → m'.2 k x = m.2 k x := fun k x k0 k1 k2 k3 k4 => d4 k x k1 k2 k3 k4 (by omega)
      refine ⟨⟨_, a1, b1⟩, 0, (fun _ => 0), n, w, (fun q => if q = tx 0 - 65 then some t else rl q), rt', ps', tt', (fun q => if q = tx 0 - 65 then sz t else zs q), ⟨c0, by decide, fun j hj => by omega, fun _ => Nat.zero_lt_succ 127, fun _ _ => rfl⟩, ⟨d3, by decide, fun j hj => by omega, fun _ => Nat.zero_lt_succ 127, fun _ _ => rfl⟩, h3.cg (c1 1 (by decide) (by decide) (by decide) (by decide)) (c2 4 (by decide)) (d1 3 (by decide) (by decide) (by decide) (by decide) (by decide)) (fun y => hk 4 y (by decide) (fun q => by unfold pk at q; omega) (by omega) (by omega) (by decide)), JR.mk9 (fun r h => by rw [if_neg (by omega)]; exact g0 r h) G1 G2 G3 G4 G5 c3 (fun q hq => ?_) hbb, ⟨by rw [c4]; exact G6, fun q1 q2 => by rw [c3]; exact G7 q1 q2⟩, JM.emp n w _ (fun j hj => by rw [c9]; exact a5 j hj) b4 (by rw [c1 5 (by decide) (by decide) (by decide) (by decide), d1 14 (by decide) (by decide) (by decide) (by decide) (by decide)]; exact h6.2.1) (by rw [c1 6 (by decide) (by decide) (by decide) (by decide), d1 15 (by decide) (by decide) (by decide) (by decide) (by decide)]; exact h6.2.2.1) h3.2.1, h7.cg (c1 7 (by decide) (by decide) (by decide) (by decide)) (fun k a b => c2 k (by omega)) (d1 28 (by decide) (by decide) (by decide) (by decide) (by decide)) (fun k y a b => hk k y (by omega) (fun q => by unfold pk at q; omega) (by omega) (by omega) (by omega)), by rw [d1 23 (by decide) (by decide) (by decide) (by decide) (by decide)]; exact h8.1, by rw [hk 8 447 (by decide) (fun q => by unfold pk at q; omega) (by omega) (by omega) (by decide)]; exact h8.2⟩
      by_cases e : q = tx 0 - 65
      · rw [if_pos e, if_pos e, e]
        exact ⟨b3, p3, rfl, p5, b2⟩
      · rw [if_neg e, if_neg e]
        refine ⟨(hk 10 q (by decide) (fun z => by unfold pk at z; omega) (by omega) (by omega) (by decide)).trans (g5 q hq).1, ?_⟩
        have h2 := (g5 q hq).2
        cases hy : rl q with
        | none => rw [hy] at h2; exact h2
        | some u =>
          rw [hy] at h2
          obtain ⟨x1, x2, x3, x4⟩ := h2
          exact ⟨x1, x2, x3, enc_fr2 u x1 0 0 (fun j y j5 j8 _ hy => hk j _ (by omega) (fun z => by omega) (by omega) (by omega) (by omega)) x4⟩
end OPS5
