/-! The call match. -/
def frE (s s2 : CSt) : Prop := s2.2.2 = s.2.2 ∧ (∀ k, k ≠ 5 → k ≠ 6 → s2.1 k = s.1 k) ∧ ∀ k, k ≠ 9 → k ≠ 10 → k ≠ 11 → s2.2.1 k = s.2.1 k
theorem frE.rf {s : CSt} : frE s s := ⟨rfl, fun _ _ _ => rfl, fun _ _ _ _ => rfl⟩
theorem frE.tr {a b c : CSt} (h : frE a b) (g : frE b c) : frE a c := ⟨g.1.trans h.1, fun k h1 h2 => (g.2.1 k h1 h2).trans (h.2.1 k h1 h2), fun k h1 h2 h3 => (g.2.2 k h1 h2 h3).trans (h.2.2 k h1 h2 h3)⟩
theorem frE.cut {c : Option Nat} {z : Int32} {s : CSt} : frE s (cut c z s) := by
  cases c with
  | none => exact frE.rf
  | some c => exact ⟨rfl, fun _ _ _ => rfl, fun k _ h _ => (show va_up s.2.1 10 (upd (s.2.1 10) c z) k = s.2.1 k from va_up_ne _ _ h)⟩
theorem frE.adb {c : Option Nat} {q : Nat} {s : CSt} : frE s (adb c q s) := by
  cases c with
  | none => exact frE.rf
  | some c =>
    refine ⟨rfl, fun _ _ _ => rfl, fun k _ h1 h2 => ?_⟩
    show va_up (if 0 ≤ s.2.1 10 c ∧ s.2.1 10 c < nI 60 then va_up s.2.1 11 (upd (s.2.1 11) (c * 60 + (s.2.1 10 c).toNatClampNeg) (nI q)) else s.2.1) 10 (upd (s.2.1 10) c (s.2.1 10 c + nI 1)) k = s.2.1 k
    rw [va_up_ne _ _ h1]
    split
    · exact va_up_ne _ _ h2
    · rfl
theorem frE.kept {c : Nat} {v : Int32} {s : CSt} : frE s (kept c v s) := ⟨rfl, fun _ _ _ => rfl, fun k h _ _ => (show va_up s.2.1 9 (upd (s.2.1 9) c v) k = s.2.1 k from va_up_ne _ _ h)⟩
theorem frE.cnt {i : Nat} {v : Int32} {s : CSt} (h : i = 5 ∨ i = 6) : frE s (va_up s.1 i v, s.2) := ⟨rfl, fun k h1 h2 => (show va_up s.1 i v k = s.1 k from va_up_ne _ _ (by omega)), fun _ _ _ _ => rfl⟩
theorem frE.bnd {s : CSt} {R : Rs} {f : Nat → CSt → Rs} {g : CSt → Rs} (h : frE s R.2) (hf : ∀ q, frE R.2 (f q R.2).2) (hg : frE R.2 (g R.2).2) : frE s (bnd R f g).2 := by
  cases hR : R.1 with
  | none => rw [bnd_none hR]; exact h
  | some v => cases v with
    | none => rw [bnd_fail hR]; exact h.tr hg
    | some q => rw [bnd_some hR]; exact h.tr (hf q)
theorem evRep_fe {f : Nat → CSt → Rs} {c : Option Nat} (hf : ∀ p s, frE s (f p s).2) : ∀ (k : Nat) (a9 : Option Nat) (p : Nat) (s : CSt), frE s (evRep f c k a9 p s).2
  | 0, _, _, _ => frE.rf
  | k + 1, a9, p, s => by
    unfold evRep
    exact (hf p s).bnd (fun q => evRep_fe hf k (some q) q _) frE.cut
theorem evA_fe {n : Nat} {w : Nat → Nat} {call : Nat → Nat → Nat → CSt → Rs} (hc : ∀ r p d s, frE s (call r p d s).2) : ∀ t, wf t → ∀ p d c s, frE s (evA n w call t p d c s).2 := by
  refine ast_ind (fun lo hi _ _ p d c s => frE.rf) (fun r hr p d c s => ?_) (fun m a b _ _ _ _ ha hb p d c s => ?_) (fun k e _ _ _ he p d c s => ?_)
  · simp only [evA]
    exact (hc r p _ s).bnd (fun q => frE.adb) frE.rf
  · simp only [evA]
    split
    · exact (ha p (d + 1) c s).bnd (fun q => hb q _ c _) frE.rf
    · refine (ha p (d + 1) c s).bnd (fun q => frE.rf) (frE.tr frE.cut ((hb p _ c _).bnd (fun q => frE.rf) ?_))
      split
      · exact frE.rf
      · exact frE.cut
  · simp only [evA]
    split
    · exact (he p (d + 1) none s).bnd (fun q => frE.rf) frE.rf
    · split
      · exact (he p (d + 1) none s).bnd (fun q => frE.rf) frE.rf
      · exact evRep_fe (fun p s => he p (d + 1) c s) _ _ _ _
theorem evR_fe {n : Nat} {w : Nat → Nat} {rl : Nat → Option Ex} (hw : ∀ r t, rl r = some t → wf t) : ∀ f r p d s, frE s (evR n w rl f r p d s).2
  | 0, r, p, d, s => by
    unfold evR
    split
    · exact frE.rf
    · exact frE.cnt (by decide)
  | f + 1, r, p, d, s => by
    unfold evR
    split
    · split
      · exact frE.rf
      · have F : frE s (cut (some (r * 21 + p)) (nI 0) (va_up s.1 5 (s.1 5 + nI 1), s.2)) := frE.tr (frE.cnt (by decide)) frE.cut
        cases hx : rl r with
        | none => exact F.tr frE.kept
        | some t => exact F.tr ((evA_fe (fun r p d s => evR_fe hw f r p d s) t (hw r t hx) p d _ _).bnd (fun q => frE.kept) frE.kept)
    · exact frE.cnt (by decide)
/-- what a match leaves of the class and of the reference -/
def CE (c c' : CSt) : Prop := c'.2.2 = c.2.2 ∧ (∀ k, k ≠ 5 → k ≠ 6 → k ≠ 7 → c'.1 k = c.1 k) ∧ ∀ k, k < 15 → k ≠ 9 → k ≠ 10 → k ≠ 11 → c'.2.1 k = c.2.1 k
def MA (k : Nat) : Prop := k = 11 ∨ k = 12 ∨ k = 13 ∨ (17 ≤ k ∧ k ≤ 21) ∨ (25 ≤ k ∧ k ≤ 34)
def ME (m m' : MSt) : Prop := (∀ k, k ≠ 0 → k ≠ 14 → k ≠ 15 → k ≠ 16 → k ≠ 22 → k ≠ 23 → k ≠ 24 → k ≠ 28 → m'.1 k = m.1 k) ∧ m'.1 23 = nI 0 ∧ ∀ k x, ¬ MA k → ¬ ((k = 5 ∨ k = 6) ∧ x = 447) → m'.2 k x = m.2 k x
theorem J_mat {c c' : CSt} {m m' : MSt} {N : Nat} {tx : Nat → Nat} {n : Nat} {w : Nat → Nat} {rl : Nat → Option Ex} {rt : Nat → Nat} {ps : Nat → List Nat} {tt : Nat → Ex} {zs : Nat → Nat} (h1 : TXT c N tx) (h2 : TXM m N tx) (h3 : JI c m n w) (h4 : JR c m rl rt ps tt zs) (h5 : JV c rl rt) (h8 : JX m) (e : CE c c') (f : ME m m') (h6 : JM c' m' n w rl) (h7 : JTr c' m') : J c' m' := by
  have e3 : c'.2.2.2 = c.2.2.2 := by rw [e.1]
  have f2 : ∀ k x, ¬ MA k → ¬ ((k = 5 ∨ k = 6) ∧ x = 447) → m'.2 k x = m.2 k x := f.2.2
  refine ⟨N, tx, n, w, rl, rt, ps, tt, zs, h1.cg (e.2.1 0 (by decide) (by decide) (by decide)) (e.2.2 2 (by decide) (by decide) (by decide) (by decide)), h2.cg (f.1 1 (by decide) (by decide) (by decide) (by decide) (by decide) (by decide) (by decide) (by decide)) (fun x => f2 2 x (by unfold MA; omega) (by omega)), h3.cg (e.2.1 1 (by decide) (by decide) (by decide)) (e.2.2 4 (by decide) (by decide) (by decide) (by decide)) (f.1 3 (by decide) (by decide) (by decide) (by decide) (by decide) (by decide) (by decide) (by decide)) (fun x => f2 4 x (by unfold MA; omega) (by omega)), (h4.cgc e3).cgm (fun k x a b hx => f2 k x (by unfold MA; omega) (by omega)) (fun x _ => f2 10 x (by unfold MA; omega) (by omega)), h5.cg (e.2.1 4 (by decide) (by decide) (by decide)) e3, h6, h7, f.2.1, ?_⟩
  rw [f2 8 447 (by unfold MA; omega) (by omega)]
  exact h8.2
theorem CE.sz (c : CSt) : CE c (szP (nI 0) c) := ⟨rfl, fun k _ _ h => (show va_up c.1 7 (nI 0) k = c.1 k from va_up_ne _ _ h), fun _ _ _ _ _ => rfl⟩
theorem JM.sz {c : CSt} {m m' : MSt} {n : Nat} {w : Nat → Nat} {rl : Nat → Option Ex} (h : JM c m n w rl) (e13 : ∀ k, k < 126 → m'.2 13 k = m.2 13 k) (e14 : m'.1 14 = m.1 14) (e15 : m'.1 15 = m.1 15) : JM (szP (nI 0) c) m' n w rl := h.cg rfl rfl rfl (show va_up c.1 7 (nI 0) 5 = c.1 5 from va_up_ne _ _ (by decide)) (show va_up c.1 7 (nI 0) 6 = c.1 6 from va_up_ne _ _ (by decide)) e13 e14 e15
theorem szP_7 (c : CSt) : (szP (nI 0) c).1 7 = nI 0 := (show va_up c.1 7 (nI 0) 7 = nI 0 from va_up_self _ _ _)
/-- a match that is refused -/
theorem J_ref {c : CSt} {m m' s1 : MSt} {v : Int32} (hJ : J c m) (hs : FS3 (fU 28 (nI 0) m) s1) (e : m' = fU 0 v s1) : J (szP (nI 0) c) m' ∧ m'.1 0 = v := by
  obtain ⟨N, tx, n, w, rl, rt, ps, tt, zs, h1, h2, h3, h4, h5, h6, h7, h8⟩ := hJ
  subst e
  have a1 : ∀ k, k ≠ 0 → k ≠ 28 → (fU 0 v s1).1 k = m.1 k := fun k k0 k1 => by rw [fU_1, if_neg k0, hs.1, fU_1, if_neg k1]
  have a28 : (fU 0 v s1).1 28 = nI 0 := by rw [fU_1, if_neg (by decide), hs.1, fU_1, if_pos rfl]
  have a2 : ∀ k x, k ≠ 11 → k ≠ 12 → (fU 0 v s1).2 k x = m.2 k x := fun k x q1 q2 => hs.2 k x q1 q2
  refine ⟨J_mat h1 h2 h3 h4 h5 h8 (CE.sz c) ⟨fun k k0 _ _ _ _ _ _ k7 => a1 k k0 k7, (a1 23 (by decide) (by decide)).trans h8.1, fun k x q _ => a2 k x (fun e => q (Or.inl e)) (fun e => q (Or.inr (Or.inl e)))⟩ (h6.sz (fun k _ => a2 13 k (by decide) (by decide)) (a1 14 (by decide) (by decide)) (a1 15 (by decide) (by decide))) (JTr.nil (szP_7 c) a28), by rw [fU_1, if_pos rfl]⟩
section OPS6
variable {cy : Nat → ClassId} {ax ad : Nat → Nat} {l : Launch} {D : va_G} {base : Nat} {c : CSt} {m : MSt}
def xMat : List String := [yCls, "java/lang/IllegalArgumentException", "java/lang/IllegalStateException"]
set_option maxHeartbeats 2000000 in
theorem O_matS (hl : l.stackTraces = false) {N : Nat} {tx : Nat → Nat} {n : Nat} {w : Nat → Nat} {rl : Nat → Option Ex} {rt : Nat → Nat} {ps : Nat → List Nat} {tt : Nat → Ex} {zs : Nat → Nat} (h1 : TXT c N tx) (h2 : TXM m N tx) (h3 : JI c m n w) (h4 : JR c m rl rt ps tt zs) (h5 : JV c rl rt) (h6 : JM c m n w rl) (h8 : JX m) (k j : Nat) (hk : k < 6) (hj : j ≤ n) (x : Nat) (hx : c.2.2.2.1 k = some x) (hv : c.1 4 = nI 0) : ∃ P Q, BC cy ax l D base mX8_match [.ref (ax 0), .int (nI k), .int (nI j)] c P ∧ BM cy ad l D base mX9_match [.ref (ad 43), .int (nI k), .int (nI j)] m Q ∧ (∀ o c', P o c' → SH xMat o) ∧ ∀ o c' o' m', P o c' → Q o' m' → THR xMat o o' m' ∧ J c' m' := by
  have h4' := h4
  obtain ⟨g0, g1, g2, g3, g4, g5, g6⟩ := h4
  have hn := h3.2.1
  have hV : VDT rl (nI 0) := by rw [← hv]; exact h5.1
  have hlt : ∀ r t, rl r = some t → r < 6 := fun r t ht => by
    rcases Nat.lt_or_ge r 6 with g | g
    · exact g
    · rw [g0 r g] at ht; cases ht
  have hw : ∀ r t, rl r = some t → wf t := fun r t ht => (g5.at (hlt r t ht) ht).1
  have hcr : ∀ r t, r < 6 → rl r = some t → cR t ≤ 2 ^ 28 := fun r t _ ht => (g6 r t ht).2
  have ht : rl k = some (tt k) := by rw [g4 k hk, hx]; rfl
  have hOx : ∃ O, LSO rl O ∧ SND n O (c.2.1 9) ∧ INVC n w rl c := by
    obtain ⟨-, -, -, O0, o1, o2, o3⟩ := h6
    by_cases he : ∃ k, k < 126 ∧ ¬ c.2.1 9 k = -2
    · exact ⟨O0, o3 he, o1, o2⟩
    · obtain ⟨O, hO⟩ := sound_O hV
      exact ⟨O, hO, fun r p hr hp => Or.inl (Classical.byContradiction fun q => he ⟨_, by omega, q⟩), o2⟩
  obtain ⟨O, hO, hS, hI⟩ := hOx
  obtain ⟨hfp, rk, hrk⟩ := sound_all hV hw hO
  obtain ⟨s0, hs0⟩ : ∃ s0, s0 = szP (nI 0) c := ⟨_, rfl⟩
  have eA : s0.2 = c.2 := by rw [hs0]; rfl
  have e1 : ∀ k, k ≠ 7 → s0.1 k = c.1 k := fun k hk => by rw [hs0]; exact (show va_up c.1 7 (nI 0) k = c.1 k from va_up_ne _ _ hk)
  have hS0 : SND n O (s0.2.1 9) := by rw [eA]; exact hS
  have hI0 : INVC n w rl s0 := hI.cg (by rw [eA]) (by rw [eA]) (by rw [eA])
  obtain ⟨i1, i2, i3, i4, i5⟩ := CSP_evR (w := w) hn hO.1 hw hfp hrk hcr 40 k j 1 s0 hk ⟨_, ht⟩ hj hI0 hS0
  have hMG : MG n w rl s0 := by
    refine ⟨by rw [e1 1 (by decide)]; exact h3.1, hn, fun i hi => by rw [eA]; exact h3.2.2.1 i hi, fun q hq => by have := hS0.ok q hq; exact this, fun r hr => ?_⟩
    rw [eA]
    have hg := g4 r hr
    cases hy : rl r with
    | none =>
      rw [hy] at hg
      show c.2.2.2.1 r = none
      cases hz : c.2.2.2.1 r with
      | none => rfl
      | some y => rw [hz] at hg; cases hg
    | some t =>
      rw [hy] at hg
      cases hz : c.2.2.2.1 r with
      | none => rw [hz] at hg; cases hg
      | some y =>
        rw [hz] at hg
        cases hg
        obtain ⟨u1, u2, u3, u4⟩ := g2 r hr (by rw [hz]; exact fun q => by cases q)
        obtain ⟨e9, m9, k1, k2, k3, k4⟩ := g1 r hr y hz
        exact ⟨u2, (g6 r _ hy).1, y, e9, rt r, rfl, k1, k2, (lay_rep _ u2).1 _ _ u1⟩
  have fE := evR_fe (n := n) (w := w) hw 40 k j 1 s0
  have hH := fun hp0 => HRP_all (cy := cy) (ax := ax) (hp0 := hp0) (l := l) (D := D) (base := base) (n := n) (w := w) (rl := rl) hl 40 k j 1 1799 s0 _ hk hj (by decide) (by decide) hMG (by decide) rfl
  have hAV : ∀ A : AS, A.1 = c.2.1 9 → A.2.1 = c.1 5 → A.2.2.1 = c.1 6 → PR (evR n w rl 40 k j 1 s0) (avR n w rl 40 k j 1 (cutA 0 A)) := fun A a1 a2 a3 => evR_avR hw 40 k j 1 s0 (cutA 0 A) ⟨by rw [eA]; exact a1.symm, by rw [e1 5 (by decide)]; exact a2.symm, by rw [e1 6 (by decide)]; exact a3.symm⟩
  generalize hOO : evR n w rl 40 k j 1 s0 = OO at *
  -- the reference
  have hcx : ∀ hp0, MtW (IM cy ad hp0) l D cy base mX9_fault (0 + 6) 0 0 [.ref (ad 43)] (fU 28 (nI 0) m) (fun o s2 => o = .inl (some (.int 0)) ∧ FS3 (fU 28 (nI 0) m) s2) := fun hp0 => by
    have := M_faultV (cy := cy) (ad := ad) (hp0 := hp0) (D := D) (base := base) hl 0 (fU 28 (nI 0) m) (rl := rl) (zs := zs) (v := nI 0) g5 hV
    rw [nI_0v] at this
    exact this
  have hhr : ∀ hp0, MtW (IM cy ad hp0) l D cy base mX9_hasRule (0 + 1) 0 0 [.ref (ad 43), .int (nI k)] (fU 28 (nI 0) m) (fun o s2 => o = .inl (some (.int (nI 1))) ∧ s2 = (fU 28 (nI 0) m)) := fun hp0 => by
    obtain ⟨w1, w2, w3, w4⟩ := g5.at hk ht
    have hs1 := sz_pos _ w1
    have := M_hasRule1 (cy := cy) (ad := ad) (hp0 := hp0) (D := D) (base := base) hl 0 (fU 28 (nI 0) m) k (zs k) hk (g5 k hk).1 (g5.GM k hk).2.1
    rw [if_neg (by omega)] at this
    exact this
  have hpc : (0 : Int32) ≤ nI j ∧ nI j ≤ c.1 1 := ⟨nI_pos' (by omega), by rw [h3.1]; exact nI_le hj (by omega)⟩
  have hpm : nI 0 ≤ nI j ∧ nI j ≤ m.1 3 := ⟨nI_le (Nat.zero_le _) (by omega), by rw [h3.2.2.2.1]; exact nI_le hj (by omega)⟩
  obtain ⟨P2, hP2⟩ : ∃ P2 : MSt → Prop, ∀ s2, P2 s2 ↔ (∀ q, q < 126 → s2.2 13 q = OO.2.2.1 9 q) ∧ s2.1 14 = OO.2.1 5 ∧ s2.1 15 = OO.2.1 6 ∧ (∀ q, q ≠ 0 → q ≠ 14 → q ≠ 15 → q ≠ 16 → q ≠ 22 → q ≠ 24 → q ≠ 28 → s2.1 q = m.1 q) ∧ s2.1 0 = nI 0 ∧ s2.1 28 = nI 0 ∧ ∀ q y, ¬ MA q → ¬ ((q = 5 ∨ q = 6) ∧ y = 447) → s2.2 q y = m.2 q y := ⟨_, fun _ => Iff.rfl⟩
  have hRun : ∀ hp0 s1, FS3 (fU 28 (nI 0) m) s1 → MtW (IM cy ad hp0) l D cy base mX9_run (1800 - 1) 0 0 [.ref (ad 43), .int (nI 447), .int (nI j)] (aU 6 447 (nI k) (aU 5 447 (nI 1) (fU 0 (nI 0) s1))) (fun o s2 => o = .inl (some (.int (resI OO.1))) ∧ P2 s2) := fun hp0 s1 hs1 => by
    obtain ⟨sA, hsA⟩ : ∃ sA, sA = aU 6 447 (nI k) (aU 5 447 (nI 1) (fU 0 (nI 0) s1)) := ⟨_, rfl⟩
    rw [← hsA]
    have b1 : ∀ q, q ≠ 0 → q ≠ 28 → sA.1 q = m.1 q := fun q q0 q1 => by rw [hsA, aU_1, aU_1, fU_1, if_neg q0, hs1.1, fU_1, if_neg q1]
    have b0 : sA.1 0 = nI 0 := by rw [hsA, aU_1, aU_1, fU_1, if_pos rfl]
    have b28 : sA.1 28 = nI 0 := by rw [hsA, aU_1, aU_1, fU_1, if_neg (by decide), hs1.1, fU_1, if_pos rfl]
    have b2 : ∀ q y, q ≠ 11 → q ≠ 12 → ¬ ((q = 5 ∨ q = 6) ∧ y = 447) → sA.2 q y = m.2 q y := fun q y q1 q2 q3 => by
      rw [hsA, aU_2, if_neg (fun e => q3 ⟨Or.inr e.1, e.2⟩), aU_2, if_neg (fun e => q3 ⟨Or.inl e.1, e.2⟩)]
      exact hs1.2 q y q1 q2
    have b5 : sA.2 5 447 = nI 1 := by rw [hsA, aU_2, if_neg (by omega), aU_2, if_pos ⟨rfl, rfl⟩]
    have b6 : sA.2 6 447 = nI k := by rw [hsA, aU_2, if_pos ⟨rfl, rfl⟩]
    obtain ⟨x24, hx24⟩ := nI_any (sA.1 24)
    have hRS : RS sA (c.2.1 9, sA.1 14, sA.1 15, x24, sA.2 25, sA.2 26, sA.2 27) := ⟨fun q hq => by rw [b2 13 q (by decide) (by decide) (by omega)]; exact (h6.1 q hq).symm, rfl, rfl, hx24, rfl, rfl, rfl⟩
    have hCI : CI n w rl 0 sA := by
      refine ⟨by rw [b1 23 (by decide) (by decide)]; exact h8.1.trans nI_0v, by rw [b1 3 (by decide) (by decide)]; exact h3.2.2.2.1, hn, fun i hi => ⟨by rw [b2 4 i (by decide) (by decide) (by omega)]; exact h3.2.2.2.2 i hi, (h3.2.2.1 i hi).2⟩, fun r t hr hrt => ?_⟩
      have hh := (g5.cg (H' := sA.2) (fun q y a b _ => b2 q y (by omega) (by omega) (by omega)) (fun y _ => b2 10 y (by decide) (by decide) (by omega))) r hr
      rw [hrt] at hh
      obtain ⟨a0, a1, a2, a3, a4⟩ := hh
      exact ⟨a1, (g6 r t hrt).1, by omega, (g6 r t hrt).2, by rw [a0, a2], a4⟩
    refine (M_runA hl (1800 - 1) (by decide) hn hO.1 hw g0 hfp hk ht hj hCI hRS hS b5 b6 (by rw [b2 8 447 (by decide) (by decide) (by omega)]; exact h8.2)).post (fun o s2 ⟨o1, o2, o3⟩ => ?_)
    obtain ⟨r1, r2, r3, r4⟩ := hAV (c.2.1 9, sA.1 14, sA.1 15, x24, sA.2 25, sA.2 26, sA.2 27) rfl ((b1 14 (by decide) (by decide)).trans h6.2.1.symm) ((b1 15 (by decide) (by decide)).trans h6.2.2.1.symm)
    obtain ⟨u1, u2, u3, -⟩ := o2
    refine ⟨by rw [o1, r1], (hP2 s2).mpr ⟨fun q hq => by rw [u1 q hq, r2], by rw [u2, r3], by rw [u3, r4], fun q q0 q1 q2 q3 q4 q5 q6 => ?_, ?_, ?_, fun q y q1 q2 => ?_⟩⟩
    · rw [o3.1 q q1 q2 q3 q4 q5]; exact b1 q q0 q6
    · rw [o3.1 0 (by decide) (by decide) (by decide) (by decide) (by decide)]; exact b0
    · rw [o3.1 28 (by decide) (by decide) (by decide) (by decide) (by decide)]; exact b28
    · unfold MA at q1
      rw [o3.2 q y (by omega) (by omega) (by omega) (by omega) (by omega)]
      exact b2 q y (by omega) (by omega) q2
  have hME : ∀ s2, P2 s2 → ∀ v, ME m (fU 0 v s2) := fun s2 hp v => by
    obtain ⟨p1, p2, p3, p4, p5, p6, p7⟩ := (hP2 s2).mp hp
    refine ⟨fun q q0 q1 q2 q3 q4 q5 q6 q7 => by rw [fU_1, if_neg q0]; exact p4 q q0 q1 q2 q3 q4 q6 q7, by rw [fU_1, if_neg (by decide), p4 23 (by decide) (by decide) (by decide) (by decide) (by decide) (by decide) (by decide)]; exact h8.1, p7⟩
  have hJM : ∀ (c' : CSt) (m' : MSt), c'.2.1 9 = OO.2.2.1 9 → c'.2.1 10 = OO.2.2.1 10 → c'.2.1 11 = OO.2.2.1 11 → c'.1 5 = OO.2.1 5 → c'.1 6 = OO.2.1 6 → (∀ q, q < 126 → m'.2 13 q = OO.2.2.1 9 q) → m'.1 14 = OO.2.1 5 → m'.1 15 = OO.2.1 6 → JM c' m' n w rl := fun c' m' a1 a2 a3 a4 a5 a6 a7 a8 => ⟨fun q hq => by rw [a1, a6 q hq], by rw [a4, a7], by rw [a5, a8], O, by rw [a1]; exact i2, i1.cg a1 a2 a3, fun _ => hO⟩
  have fE2 : CE c OO.2 := ⟨by rw [fE.1, eA], fun q a b d => by rw [fE.2.1 q a b, e1 q d], fun q _ a b d => by rw [fE.2.2 q a b d, eA]⟩
  have z7 : OO.2.1 7 = nI 0 := by rw [fE.2.1 7 (by decide) (by decide), hs0]; exact szP_7 c
  rw [hs0] at hH
  cases hRes : OO.1 with
  | none =>
    refine ⟨_, _, BC.of1 (fun hp0 => C_mat4 hl 1799 (by decide) c k x hk hx j (by omega) hpc hv OO.2 (by
      have := hH hp0
      unfold b1 b6 pst ocR at this
      rw [hRes] at this
      exact this)), (fun hp0 => M_match4 hl 1800 (by decide) m k j hk _ P2 (hhr hp0) hpm (hcx hp0) (fun s1 hs1 => by have := hRun hp0 s1 hs1; rw [hRes] at this; exact this)), (by intro o c' h; first | exact Or.inl ⟨_, h.1⟩ | exact Or.inr ⟨0, _, rfl, h.1⟩ | exact Or.inr ⟨1, _, rfl, h.1⟩ | exact Or.inr ⟨2, _, rfl, h.1⟩ | exact ⟨_, h.1⟩ | (obtain ⟨f, h1, h2⟩ := h; exact Or.inl ⟨_, h1⟩) | (rcases h with ⟨-, -, h, -⟩ | ⟨-, h, -⟩ <;> exact Or.inl ⟨_, h⟩)), fun o c' o' m' ⟨a1, a2⟩ ⟨b1, s1, b2, b3⟩ => ?_⟩
    subst a2 b3
    obtain ⟨p1, p2, p3, p4, p5, p6, p7⟩ := (hP2 s1).mp b2
    exact ⟨⟨nI 0, 3, by decide, b1, by rw [fU_1, if_pos rfl], Or.inr ⟨_, rfl, by decide, a1⟩⟩, J_mat h1 h2 h3 h4' h5 h8 fE2 (hME s1 b2 _) (hJM _ _ rfl rfl rfl rfl rfl p1 (by rw [fU_1, if_neg (by decide)]; exact p2) (by rw [fU_1, if_neg (by decide)]; exact p3)) (JTr.nil z7 (by rw [fU_1, if_neg (by decide)]; exact p6))⟩
  | some v0 =>
    have hMR : ∀ hp0, MtW (IC cy ax hp0) l D cy base mX3_matchRule 1799 0 0 [.ref (ax 12), .int (nI k), .int (nI j), .int (nI 1)] (szP (nI 0) c) (fun o s2 => o = .inl (some (.int (onI v0))) ∧ s2 = OO.2) := fun hp0 => by
      have := hH hp0
      unfold b1 b6 pst ocR at this
      rw [hRes] at this
      exact this
    have hRR : ∀ hp0 s1, FS3 (fU 28 (nI 0) m) s1 → MtW (IM cy ad hp0) l D cy base mX9_run (1800 - 1) 0 0 [.ref (ad 43), .int (nI 447), .int (nI j)] (aU 6 447 (nI k) (aU 5 447 (nI 1) (fU 0 (nI 0) s1))) (fun o s2 => o = .inl (some (.int (onI v0))) ∧ P2 s2) := fun hp0 s1 hs1 => by have := hRun hp0 s1 hs1; rw [hRes] at this; exact this
    obtain ⟨sn, cv⟩ := i5 v0 hRes
    cases v0 with
    | none =>
      refine ⟨_, _, BC.of0 (fun hp0 => C_mat5 hl 1799 (by decide) c k x hk hx j (by omega) hpc hv OO.2 (hMR hp0)), (fun hp0 => M_match5 hl 1800 (by decide) m k j hk _ P2 (hhr hp0) hpm (hcx hp0) (hRR hp0)), (by intro o c' h; first | exact Or.inl ⟨_, h.1⟩ | exact Or.inr ⟨0, _, rfl, h.1⟩ | exact Or.inr ⟨1, _, rfl, h.1⟩ | exact Or.inr ⟨2, _, rfl, h.1⟩ | exact ⟨_, h.1⟩ | (obtain ⟨f, h1, h2⟩ := h; exact Or.inl ⟨_, h1⟩) | (rcases h with ⟨-, -, h, -⟩ | ⟨-, h, -⟩ <;> exact Or.inl ⟨_, h⟩)), fun o c' o' m' ⟨a1, a2⟩ ⟨b1, b2⟩ => ?_⟩
      subst a2
      obtain ⟨p1, p2, p3, p4, p5, p6, p7⟩ := (hP2 m').mp b2
      have hM0 := hME m' b2 (m'.1 0)
      have e0 : fU 0 (m'.1 0) m' = m' := by
        show (va_up m'.1 0 (m'.1 0), m'.2) = m'
        rw [va_same]
      rw [e0] at hM0
      exact ⟨⟨-1, 0, by decide, b1, p5, Or.inl ⟨rfl, a1⟩⟩, J_mat h1 h2 h3 h4' h5 h8 fE2 hM0 (hJM _ _ rfl rfl rfl rfl rfl p1 p2 p3) (JTr.nil z7 p6)⟩
    | some q =>
      have hq : q ≤ n := sn.2.1
      have hcell : OO.2.2.1 9 (k * 21 + j) = nI q := cv
      have hgd : gdC9 n (OO.2.2.1 9) (k * 21 + j) := ⟨by omega, q, hq, hcell⟩
      have d21 : (k * 21 + j) / 21 = k := by omega
      have r21 : (k * 21 + j) % 21 = j := by omega
      refine ⟨_, _, BC.of0 (fun hp0 => C_mat6 hl 1799 (by decide) c k x hk hx j (by omega) hpc hv OO.2 q (by omega) (hMR hp0) _ (C_grow hl 1795 (gdC9 n (OO.2.2.1 9)) (chC9 n w rl (OO.2.2.1 9)) OO.2 (k * 21 + j) hgd (CHI_of hn i2 hw hcr i1))), (fun hp0 => M_match6 hl 1800 (by decide) m k j q hk _ P2 (hhr hp0) hpm (hcx hp0) (hRR hp0) (by omega) (fun s3 => ∃ s2 s9, P2 s2 ∧ GIs n w rl (vp_nar .boolean (nI 1)) (OO.2.2.1 9) (OO.2.1 5) (OO.2.1 6) s9 ∧ TRM s9 (OO.2.2.1 9) (dfs (chC9 n w rl (OO.2.2.1 9)) 122 [(k * 21 + j, 0)] [(k * 21 + j, 0)]) ∧ s3 = fU 23 (vp_nar .boolean (nI 0)) s9 ∧ frW (fU 23 (vp_nar .boolean (nI 1)) s2) s9) (fun s2 hp2 => ?_)), (by intro o c' h; first | exact Or.inl ⟨_, h.1⟩ | exact Or.inr ⟨0, _, rfl, h.1⟩ | exact Or.inr ⟨1, _, rfl, h.1⟩ | exact Or.inr ⟨2, _, rfl, h.1⟩ | exact ⟨_, h.1⟩ | (obtain ⟨f, h1, h2⟩ := h; exact Or.inl ⟨_, h1⟩) | (rcases h with ⟨-, -, h, -⟩ | ⟨-, h, -⟩ <;> exact Or.inl ⟨_, h⟩)), fun o c' o' m' ⟨a1, a2, a3⟩ ⟨b1, s2, s9, b2, b3, b4, b5, b6⟩ => ?_⟩
      · obtain ⟨p1, p2, p3, p4, p5, p6, p7⟩ := (hP2 s2).mp hp2
        have hCI : CI n w rl 0 s2 := by
          refine ⟨by rw [p4 23 (by decide) (by decide) (by decide) (by decide) (by decide) (by decide) (by decide)]; exact h8.1.trans nI_0v, by rw [p4 3 (by decide) (by decide) (by decide) (by decide) (by decide) (by decide) (by decide)]; exact h3.2.2.2.1, hn, fun i hi => ⟨by rw [p7 4 i (by unfold MA; omega) (by omega)]; exact h3.2.2.2.2 i hi, (h3.2.2.1 i hi).2⟩, fun r t hr hrt => ?_⟩
          have hh := (g5.cg (H' := s2.2) (fun q y a b _ => p7 q y (by unfold MA; omega) (by omega)) (fun y _ => p7 10 y (by unfold MA; omega) (by omega))) r hr
          rw [hrt] at hh
          obtain ⟨a0, a1, a2, a3, a4⟩ := hh
          exact ⟨a1, (g6 r t hrt).1, by omega, (g6 r t hrt).2, by rw [a0, a2], a4⟩
        have := M_growA (cy := cy) (ad := ad) (hp0 := hp0) (D := D) (base := base) hl 1798 (by decide) hn hO.1 hw hfp i2 hcr i1 zs (fun r t hr hrt => ⟨(g5.at hr hrt).2.1, (g5.at hr hrt).2.2.1⟩) s2 (k * 21 + j) hgd p6 (OO.2.1 5) (OO.2.1 6) ⟨hCI, p1, p2, p3⟩
        rw [d21, r21, hcell] at this
        exact this.post (fun o s3 ⟨z1, s9, z2, z3, z4, z5⟩ => ⟨z1, s2, s9, hp2, z2, z3, z4, z5⟩)
      · obtain ⟨p1, p2, p3, p4, p5, p6, p7⟩ := (hP2 s2).mp b2
        have w1 : ∀ q, q ≠ 14 → q ≠ 15 → q ≠ 16 → q ≠ 22 → q ≠ 23 → q ≠ 24 → q ≠ 28 → s9.1 q = s2.1 q := fun q q0 q1 q2 q3 q4 q5 q6 => by rw [b6.1 q q0 q1 q2 q3 q5 q6, fU_1, if_neg q4]
        have w2 : ∀ q y, ¬ MA q → s9.2 q y = s2.2 q y := fun q y q0 => by
          unfold MA at q0
          exact b6.2 q y (by omega) (by omega) (by omega)
        subst b5
        have hm1 : ∀ q, q ≠ 23 → (fU 23 (vp_nar .boolean (nI 0)) s9).1 q = s9.1 q := fun q h => by rw [fU_1, if_neg h]
        obtain ⟨t1, t2, t3⟩ := a2
        rw [gro_dfs] at t1 t2 t3
        obtain ⟨v1, v2, v3⟩ := b4
        have frc : CE c c' := ⟨by rw [a3.1]; exact fE2.1, fun q x1 x2 x3 => (a3.2.1 q x3).trans (fE2.2.1 q x1 x2 x3), fun q x1 x2 x3 x4 => (a3.2.2 q x1).trans (fE2.2.2 q x1 x2 x3 x4)⟩
        refine ⟨⟨nI q, 0, by decide, b1, ?_, Or.inl ⟨rfl, a1⟩⟩, J_mat h1 h2 h3 h4' h5 h8 frc ⟨fun q q0 q1 q2 q3 q4 q5 q6 q7 => ?_, ?_, fun q y q0 q1 => ?_⟩ (hJM _ _ (a3.2.2 9 (by decide)) (a3.2.2 10 (by decide)) (a3.2.2 11 (by decide)) (a3.2.1 5 (by decide)) (a3.2.1 6 (by decide)) b3.2.1 ?_ ?_) ⟨_, t2, t1, ?_, fun i hi => ?_⟩⟩
        · rw [hm1 0 (by decide), w1 0 (by decide) (by decide) (by decide) (by decide) (by decide) (by decide) (by decide)]; exact p5
        · rw [hm1 q q5, w1 q q1 q2 q3 q4 q5 q6 q7]; exact p4 q q0 q1 q2 q3 q4 q6 q7
        · rw [fU_1, if_pos rfl]; decide +kernel
        · show s9.2 q y = _
          rw [w2 q y q0]; exact p7 q y q0 q1
        · rw [hm1 14 (by decide)]; exact b3.2.2.1
        · rw [hm1 15 (by decide)]; exact b3.2.2.2
        · rw [hm1 28 (by decide)]; exact v1
        · have hy := List.getElem?_eq_getElem hi
          obtain ⟨x1, x2, x3, x4, x5, x6⟩ := t3 i _ hy
          obtain ⟨y1, y2, y3, y4, y5⟩ := v3 i _ hy
          show _ = s9.2 29 i ∧ _ = s9.2 30 i ∧ _ = s9.2 31 i ∧ _ = s9.2 32 i
          rw [x3, x4, x5, x6, y2, y3, y4, y5, a3.2.2 9 (by decide)]
          exact ⟨rfl, rfl, rfl, rfl⟩
theorem O_match (hl : l.stackTraces = false) (hJ : J c m) (r p : Int32) : ∃ P Q, BC cy ax l D base mX8_match [.ref (ax 0), .int r, .int p] c P ∧ BM cy ad l D base mX9_match [.ref (ad 43), .int r, .int p] m Q ∧ (∀ o c', P o c' → SH xMat o) ∧ ∀ o c' o' m', P o c' → Q o' m' → THR xMat o o' m' ∧ J c' m' := by
  have hJ0 := hJ
  obtain ⟨N, tx, n, w, rl, rt, ps, tt, zs, h1, h2, h3, h4, h5, h6, h7, h8⟩ := hJ
  have hn := h3.2.1
  have f3 : FS3 (fU 28 (nI 0) m) (fU 28 (nI 0) m) := ⟨rfl, fun _ _ _ _ => rfl⟩
  by_cases hr : 0 ≤ r ∧ r < 6
  · obtain ⟨k, hk, rfl⟩ := nI_rng.2 hr
    have g4 := h4.2.2.2.2.1
    have g5 := h4.2.2.2.2.2.1
    have hrk := g4 k hk
    cases hx : c.2.2.2.1 k with
    | none =>
      rw [hx] at hrk
      have hz : (fU 28 (nI 0) m).2 10 k = nI 0 := by rw [fU_2, (g5 k hk).1, (g5.no hk).mpr hrk]
      refine ⟨_, _, BC.of1 (fun hp0 => C_mat1 hl 1791 c k p hk hx), (fun hp0 => M_match1 hl 1800 (by decide) m (nI k) p (hasRule_no hl _ k hk hz)), (by intro o c' h; first | exact Or.inl ⟨_, h.1⟩ | exact Or.inr ⟨0, _, rfl, h.1⟩ | exact Or.inr ⟨1, _, rfl, h.1⟩ | exact Or.inr ⟨2, _, rfl, h.1⟩ | exact ⟨_, h.1⟩ | (obtain ⟨f, h1, h2⟩ := h; exact Or.inl ⟨_, h1⟩) | (rcases h with ⟨-, -, h, -⟩ | ⟨-, h, -⟩ <;> exact Or.inl ⟨_, h⟩)), fun o c' o' m' ⟨a1, a2⟩ ⟨b1, b2⟩ => ?_⟩
      subst a2
      obtain ⟨z1, z2⟩ := J_ref hJ0 f3 b2
      exact ⟨⟨nI 0, 1, by decide, b1, z2, Or.inr ⟨_, rfl, by decide, a1⟩⟩, z1⟩
    | some x =>
      rw [hx] at hrk
      have ht : rl k = some (tt k) := hrk
      have hhr : ∀ hp0, MtW (IM cy ad hp0) l D cy base mX9_hasRule (0 + 1) 0 0 [.ref (ad 43), .int (nI k)] (fU 28 (nI 0) m) (fun o s2 => o = .inl (some (.int (nI 1))) ∧ s2 = (fU 28 (nI 0) m)) := fun hp0 => by
        obtain ⟨w1, w2, w3, w4⟩ := g5.at hk ht
        have hs1 := sz_pos _ w1
        have := M_hasRule1 (cy := cy) (ad := ad) (hp0 := hp0) (D := D) (base := base) hl 0 (fU 28 (nI 0) m) k (zs k) hk (g5 k hk).1 (g5.GM k hk).2.1
        rw [if_neg (by omega)] at this
        exact this
      by_cases hp : 0 ≤ p ∧ p ≤ nI n
      · have ez : (0 : Int32).toInt = 0 := by decide +kernel
        obtain ⟨j, -, hj, rfl⟩ := nI_int (a := 0) (b := n + 1) (x := p) (by have := hp.1; rw [Int32.le_iff_toInt_le] at this; omega) (by have := hp.2; rw [Int32.le_iff_toInt_le, nI_toInt (by omega)] at this; omega)
        by_cases hv : c.1 4 = 0
        · exact O_matS hl h1 h2 h3 h4 h5 h6 h8 k j hk (by omega) x hx (hv.trans nI_0v.symm)
        · refine ⟨_, _, BC.of1 (fun hp0 => C_mat3 hl 1791 c k x hk hx (nI j) (by rw [h3.1]; exact hp) hv), (fun hp0 => M_match3 hl 1800 (by decide) m (nI k) (nI j) (c.1 4) hv _ (hhr hp0) (by rw [h3.2.2.2.1]; exact hp) (M_faultV hl 0 (fU 28 (nI 0) m) (rl := rl) (zs := zs) g5 h5.1)), (by intro o c' h; first | exact Or.inl ⟨_, h.1⟩ | exact Or.inr ⟨0, _, rfl, h.1⟩ | exact Or.inr ⟨1, _, rfl, h.1⟩ | exact Or.inr ⟨2, _, rfl, h.1⟩ | exact ⟨_, h.1⟩ | (obtain ⟨f, h1, h2⟩ := h; exact Or.inl ⟨_, h1⟩) | (rcases h with ⟨-, -, h, -⟩ | ⟨-, h, -⟩ <;> exact Or.inl ⟨_, h⟩)), fun o c' o' m' ⟨a1, a2⟩ ⟨b1, s1, b2, b3⟩ => ?_⟩
          subst a2
          obtain ⟨z1, z2⟩ := J_ref hJ0 b2 b3
          exact ⟨⟨nI 0, 3, by decide, b1, z2, Or.inr ⟨_, rfl, by decide, a1⟩⟩, z1⟩
      · refine ⟨_, _, BC.of1 (fun hp0 => C_mat2 hl 1791 c k x hk hx p (by rw [h3.1]; exact hp)), (fun hp0 => M_match2 hl 1800 (by decide) m (nI k) p (hhr hp0) (by rw [h3.2.2.2.1]; exact hp)), (by intro o c' h; first | exact Or.inl ⟨_, h.1⟩ | exact Or.inr ⟨0, _, rfl, h.1⟩ | exact Or.inr ⟨1, _, rfl, h.1⟩ | exact Or.inr ⟨2, _, rfl, h.1⟩ | exact ⟨_, h.1⟩ | (obtain ⟨f, h1, h2⟩ := h; exact Or.inl ⟨_, h1⟩) | (rcases h with ⟨-, -, h, -⟩ | ⟨-, h, -⟩ <;> exact Or.inl ⟨_, h⟩)), fun o c' o' m' ⟨a1, a2⟩ ⟨b1, b2⟩ => ?_⟩
        subst a2
        obtain ⟨z1, z2⟩ := J_ref hJ0 f3 b2
        exact ⟨⟨nI 0, 2, by decide, b1, z2, Or.inr ⟨_, rfl, by decide, a1⟩⟩, z1⟩
  · refine ⟨_, _, BC.of1 (fun hp0 => C_mat0 hl 1791 c r p hr), (fun hp0 => M_match1 hl 1800 (by decide) m r p (M_hasRule0 hl 0 _ r (nI_rng.1 hr))), (by intro o c' h; first | exact Or.inl ⟨_, h.1⟩ | exact Or.inr ⟨0, _, rfl, h.1⟩ | exact Or.inr ⟨1, _, rfl, h.1⟩ | exact Or.inr ⟨2, _, rfl, h.1⟩ | exact ⟨_, h.1⟩ | (obtain ⟨f, h1, h2⟩ := h; exact Or.inl ⟨_, h1⟩) | (rcases h with ⟨-, -, h, -⟩ | ⟨-, h, -⟩ <;> exact Or.inl ⟨_, h⟩)), fun o c' o' m' ⟨a1, a2⟩ ⟨b1, b2⟩ => ?_⟩
    subst a2
    obtain ⟨z1, z2⟩ := J_ref hJ0 f3 b2
    exact ⟨⟨nI 0, 1, by decide, b1, z2, Or.inr ⟨_, rfl, by decide, a1⟩⟩, z1⟩
end OPS6
