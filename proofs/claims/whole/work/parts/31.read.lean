/-! Reading on the class's side: the state while a text is read (RJ), what a reading method leaves (rdF, rdQ). -/
def atS (s : CSt) (k : Nat) : CSt := (va_up s.1 2 (nI k), s.2)
theorem atS_2 {s : CSt} {k : Nat} : (atS s k).1 2 = nI k := (show va_up s.1 2 (nI k) 2 = nI k from va_up_self _ _ _)
theorem atS_at {s : CSt} {i k : Nat} : (va_up (atS s i).1 2 (nI k), (atS s i).2) = atS s k := by
  show (va_up (va_up s.1 2 (nI i)) 2 (nI k), s.2) = _
  rw [va_uu]
  rfl
theorem atS_atS {s : CSt} {i k : Nat} : atS (atS s i) k = atS s k := atS_at
theorem atS_id {s : CSt} {k : Nat} (h : s.1 2 = nI k) : s = atS s k := by
  show s = (va_up s.1 2 (nI k), s.2)
  rw [← h, va_same]
def chn (s : CSt) (x : Nat) (ps : List Nat) : Prop := ∃ e9, s.2.2.2.2.2 x = some e9 ∧ lnk s.2.2.2.2.1 nLater ps e9.1 ∧ e9.2 = ps.getLast?
def RJ (n : Nat) (tx : Nat → Nat) (s : CSt) (x : Nat) (ps : List Nat) : Prop := TXT s n tx ∧ s.2.2.1 = some x ∧ chn s x ps ∧ ps.Nodup
theorem RJ.at {n : Nat} {tx : Nat → Nat} {s : CSt} {x : Nat} {ps : List Nat} {k : Nat} (h : RJ n tx s x ps) : RJ n tx (atS s k) x ps := h
/-- what reading leaves: qs the new nodes, b the place -/
def rdF (s s' : CSt) (x : Nat) (ps qs : List Nat) (b : Nat) : Prop :=
  s'.1 = va_up s.1 2 (nI b) ∧ s'.2.1 = s.2.1 ∧ s'.2.2.1 = s.2.2.1 ∧ s'.2.2.2.1 = s.2.2.2.1 ∧ (∀ y, y ≠ x → s'.2.2.2.2.2 y = s.2.2.2.2.2 y) ∧ chn s' x (ps ++ qs) ∧ (∀ q ∈ qs, s.2.2.2.2.1 q = none) ∧ (ps ++ qs).Nodup ∧ (∀ a n, s.2.2.2.2.1 a = some n → ∃ n', s'.2.2.2.2.1 a = some n' ∧ nl5 n' = nl5 n) ∧ ∀ a, a ∉ ps → a ∉ qs → s'.2.2.2.2.1 a = s.2.2.2.2.1 a
theorem rdF.rf {n : Nat} {tx : Nat → Nat} {s : CSt} {x : Nat} {ps : List Nat} (h : RJ n tx s x ps) (b : Nat) : rdF s (atS s b) x ps [] b :=
  ⟨rfl, rfl, rfl, rfl, fun _ _ => rfl, by rw [List.append_nil]; exact h.2.2.1, fun _ h => (nomatch h), by rw [List.append_nil]; exact h.2.2.2, fun a n h => ⟨n, h, rfl⟩, fun _ _ _ => rfl⟩
theorem rdF.tr {s s1 s2 : CSt} {x : Nat} {ps q1 q2 : List Nat} {b1 b2 : Nat} (h : rdF s s1 x ps q1 b1) (g : rdF s1 s2 x (ps ++ q1) q2 b2) : rdF s s2 x ps (q1 ++ q2) b2 := by
  obtain ⟨h1, h2, h3, h4, h5, h6, h7, h8, h9, h10⟩ := h
  obtain ⟨g1, g2, g3, g4, g5, g6, g7, g8, g9, g10⟩ := g
  refine ⟨by rw [g1, h1, va_uu], g2.trans h2, g3.trans h3, g4.trans h4, fun y hy => (g5 y hy).trans (h5 y hy), by rw [← List.append_assoc]; exact g6, fun q hq => ?_, by rw [← List.append_assoc]; exact g8, fun a n ha => ?_, fun a ha hq => ?_⟩
  · rcases List.mem_append.mp hq with hq | hq
    · exact h7 q hq
    · cases hx : s.2.2.2.2.1 q with
      | none => rfl
      | some m =>
        obtain ⟨m', hm', -⟩ := h9 q m hx
        rw [g7 q hq] at hm'
        cases hm'
  · obtain ⟨n1, k1, k2⟩ := h9 a n ha
    obtain ⟨n2, k3, k4⟩ := g9 a n1 k1
    exact ⟨n2, k3, k4.trans k2⟩
  · have hq1 : a ∉ q1 := fun e => hq (List.mem_append_left _ e)
    have hq2 : a ∉ q2 := fun e => hq (List.mem_append_right _ e)
    exact (g10 a (fun e => (List.mem_append.mp e).elim ha hq1) hq2).trans (h10 a ha hq1)
theorem rdF.rj {n : Nat} {tx : Nat → Nat} {s s1 : CSt} {x : Nat} {ps qs : List Nat} {b : Nat} (h : RJ n tx s x ps) (g : rdF s s1 x ps qs b) : RJ n tx s1 x (ps ++ qs) := by
  obtain ⟨⟨t1, t2, t3, t4, t5⟩, h2, -, -⟩ := h
  refine ⟨⟨?_, t2, ?_, t4, t5⟩, g.2.2.1.trans h2, g.2.2.2.2.2.1, g.2.2.2.2.2.2.2.1⟩
  · rw [g.1]
    exact (show va_up s.1 2 (nI b) 0 = s.1 0 from va_up_ne _ _ (by decide)).trans t1
  · rw [g.2.1]
    exact t3
theorem rdF.at {s s1 : CSt} {x : Nat} {ps qs : List Nat} {b : Nat} (g : rdF s s1 x ps qs b) : s1 = atS s1 b := atS_id (by rw [g.1]; exact va_up_self _ _ _)
/-- the place is another -/
theorem rdF.mv {s s1 : CSt} {x : Nat} {ps qs : List Nat} {b : Nat} (g : rdF s s1 x ps qs b) (k : Nat) : rdF s (atS s1 k) x ps qs k :=
  ⟨by show va_up s1.1 2 (nI k) = _; rw [g.1, va_uu], g.2⟩
theorem lnk_get {nd : Nat → Option ND} {f : ND → Option Nat} : ∀ (ps : List Nat) (r : Option Nat), lnk nd f ps r → ∀ p ∈ ps, ∃ n, nd p = some n
  | [], _, _, p, h => nomatch h
  | q :: t, r, ⟨_, n, hn, ht⟩, p, h => (List.mem_cons.mp h).elim (fun e => by rw [e]; exact ⟨n, hn⟩) (fun h => lnk_get t _ ht p h)
theorem lnk_same {nd nd' : Nat → Option ND} {f : ND → Option Nat} : ∀ (ps : List Nat) (r : Option Nat), lnk nd f ps r → (∀ p ∈ ps, nd' p = nd p) → lnk nd' f ps r
  | [], _, h, _ => h
  | q :: t, r, ⟨h1, n, hn, ht⟩, hs => ⟨h1, n, (hs q List.mem_cons_self).trans hn, lnk_same t _ ht (fun p hp => hs p (List.mem_cons_of_mem _ hp))⟩
/-- a chain grows by one at its end -/
theorem lnk_snoc {nd nd' : Nat → Option ND} {q : Nat} {n : ND} (hq : nd' q = some n) (hl : nLater n = none) : ∀ (ps : List Nat) (p : Nat) (r : Option Nat) (pn : ND), lnk nd nLater (ps ++ [p]) r → nd p = some pn → (∀ a ∈ ps, nd' a = nd a) → nd' p = some (latN pn q) → lnk nd' nLater (ps ++ [p] ++ [q]) r
  | [], p, r, pn, h, hp, _, hp' => by
    obtain ⟨h1, -⟩ := h
    exact ⟨h1, latN pn q, hp', rfl, n, hq, hl⟩
  | a :: t, p, r, pn, h, hp, hs, hp' => by
    obtain ⟨h1, m, hm, ht⟩ := h
    exact ⟨h1, m, (hs a List.mem_cons_self).trans hm, lnk_snoc hq hl t p _ pn ht hp (fun b hb => hs b (List.mem_cons_of_mem _ hb)) hp'⟩
theorem rdF.add0 {n : Nat} {tx : Nat → Nat} {s : CSt} {x i q : Nat} {nw : ND} (h : RJ n tx s x []) (hq : s.2.2.2.2.1 q = none) (hn : nLater nw = none) : rdF s (add0 (atS s i) x q nw) x [] [q] i := by
  refine ⟨rfl, rfl, rfl, rfl, fun y hy => va_up_ne _ _ hy, ⟨(some q, some q), va_up_self _ _ _, ⟨rfl, nw, va_up_self _ _ _, hn⟩, rfl⟩, fun a ha => by rw [List.mem_singleton.mp ha]; exact hq, (List.nodup_cons.mpr ⟨fun h => (nomatch h), List.nodup_nil⟩), fun a m ha => ⟨m, ?_, rfl⟩, fun a _ ha => va_up_ne _ _ (fun e => ha (List.mem_singleton.mpr e))⟩
  have hne : a ≠ q := fun e => by rw [e, hq] at ha; cases ha
  exact (show va_up s.2.2.2.2.1 q (some nw) a = some m by rw [va_up_ne _ _ hne]; exact ha)
theorem rdF.add1 {n : Nat} {tx : Nat → Nat} {s : CSt} {x i q p : Nat} {ps : List Nat} {nw pn : ND} {e9 : Option Nat × Option Nat} (h : RJ n tx s x (ps ++ [p])) (he : s.2.2.2.2.2 x = some e9) (hp : s.2.2.2.2.1 p = some pn) (hq : s.2.2.2.2.1 q = none) (hn : nLater nw = none) : rdF s (add1 (atS s i) x q nw e9 p pn) x (ps ++ [p]) [q] i := by
  obtain ⟨-, -, ⟨e8, he8, hl, hr⟩, hnd⟩ := h
  cases he8.symm.trans he
  have hpq : p ≠ q := fun e => by rw [e, hq] at hp; cases hp
  have hne : ∀ a ∈ ps ++ [p], a ≠ q := fun a ha e => by
    obtain ⟨m, hm⟩ := lnk_get _ _ hl a ha
    rw [e, hq] at hm
    cases hm
  have hpp : ∀ a ∈ ps, a ≠ p := fun a ha => (List.nodup_append.mp hnd).2.2 a ha p (List.mem_singleton.mpr rfl)
  refine ⟨rfl, rfl, rfl, rfl, fun y hy => va_up_ne _ _ hy, ⟨(e9.1, some q), va_up_self _ _ _, ?_, ?_⟩, fun a ha => by rw [List.mem_singleton.mp ha]; exact hq, ?_, fun a m ha => ?_, fun a ha1 ha2 => ?_⟩
  · refine lnk_snoc (n := nw) (nd := s.2.2.2.2.1) ?_ hn ps p e9.1 pn hl hp (fun a ha => ?_) ?_
    · exact (show va_up (va_up s.2.2.2.2.1 q (some nw)) p (some (latN pn q)) q = some nw by rw [va_up_ne _ _ hpq.symm, va_up_self])
    · exact (show va_up (va_up s.2.2.2.2.1 q (some nw)) p (some (latN pn q)) a = s.2.2.2.2.1 a by rw [va_up_ne _ _ (hpp a ha), va_up_ne _ _ (hne a (List.mem_append_left _ ha))])
    · exact va_up_self _ _ _
  · rw [List.getLast?_append]
    rfl
  · refine List.nodup_append.mpr ⟨hnd, List.nodup_cons.mpr ⟨fun h => (nomatch h), List.nodup_nil⟩, fun a ha b hb => ?_⟩
    rw [List.mem_singleton.mp hb]
    exact hne a ha
  · by_cases hap : a = p
    · subst hap
      cases hp.symm.trans ha
      exact ⟨latN pn q, va_up_self _ _ _, rfl⟩
    · have haq : a ≠ q := fun e => by rw [e, hq] at ha; cases ha
      exact ⟨m, (show va_up (va_up s.2.2.2.2.1 q (some nw)) p (some (latN pn q)) a = some m by rw [va_up_ne _ _ hap, va_up_ne _ _ haq]; exact ha), rfl⟩
  · exact (show va_up (va_up s.2.2.2.2.1 q (some nw)) p (some (latN pn q)) a = s.2.2.2.2.1 a by rw [va_up_ne _ _ (fun e => ha1 (by rw [e]; exact List.mem_append_right _ (List.mem_singleton.mpr rfl))), va_up_ne _ _ (fun e => ha2 (List.mem_singleton.mpr e))])
section READ
variable {cy : Nat → ClassId} {ax : Nat → Nat} {hp0 : Hp} {l : Launch} {D : va_G} {base : Nat} {n : Nat} {tx : Nat → Nat}
/-- how add ends -/
def adQ (s : CSt) (x : Nat) (ps : List Nat) (i : Nat) (nw : ND) : Oc → CSt → Prop := fun o s2 => ∃ q, o = .inl (some (.ref q)) ∧ rdF s s2 x ps [q] i ∧ s2.2.2.2.2.1 q = some nw
theorem C_addN (hl : l.stackTraces = false) (d i : Nat) (s : CSt) (x : Nat) (ps : List Nat) (h : RJ n tx s x ps) (k lo hi : Int32) : MtW (IC cy ax hp0) l D cy base mX1_add (d + 2) 1 8 [.ref x, .int k, .int lo, .int hi, va_rf none] (atS s i) (adQ s x ps i (ndN k lo hi none)) := by
  obtain ⟨e9, he, hl9, hr⟩ := h.2.2.1
  rcases List.eq_nil_or_concat ps with rfl | ⟨ps', p, rfl⟩
  · refine MtW.post (fun o s2 g => ?_) (C_addN0 hl d (atS s i) x e9 he k lo hi hr)
    obtain ⟨q, g1, g2, g3, rfl⟩ := g
    exact ⟨q, g1, rdF.add0 h g2 rfl, va_up_self _ _ _⟩
  · rw [List.concat_eq_append] at *
    obtain ⟨pn, hp⟩ := lnk_get _ _ hl9 p (List.mem_append_right _ (List.mem_singleton.mpr rfl))
    have h2 : e9.2 = some p := by rw [hr, List.getLast?_append]; rfl
    refine MtW.post (fun o s2 g => ?_) (C_addN1 hl d (atS s i) x e9 he k lo hi p pn h2 hp)
    obtain ⟨q, g1, g2, g3, rfl⟩ := g
    have hpq : p ≠ q := fun e => by rw [e] at hp; cases hp.symm.trans g2
    exact ⟨q, g1, rdF.add1 h he hp g2 rfl, (show va_up (va_up s.2.2.2.2.1 q _) p _ q = _ by rw [va_up_ne _ _ hpq.symm, va_up_self])⟩
theorem C_addS (hl : l.stackTraces = false) (d i : Nat) (s : CSt) (x : Nat) (ps : List Nat) (h : RJ n tx s x ps) (k lo hi : Int32) (b : Nat) : MtW (IC cy ax hp0) l D cy base mX1_add (d + 2) 1 8 [.ref x, .int k, .int lo, .int hi, .ref b] (atS s i) (adQ s x ps i (ndN k lo hi (some b))) := by
  obtain ⟨e9, he, hl9, hr⟩ := h.2.2.1
  rcases List.eq_nil_or_concat ps with rfl | ⟨ps', p, rfl⟩
  · refine MtW.post (fun o s2 g => ?_) (C_addS0 hl d (atS s i) x e9 he k lo hi b hr)
    obtain ⟨q, g1, g2, g3, rfl⟩ := g
    exact ⟨q, g1, rdF.add0 h g2 rfl, va_up_self _ _ _⟩
  · rw [List.concat_eq_append] at *
    obtain ⟨pn, hp⟩ := lnk_get _ _ hl9 p (List.mem_append_right _ (List.mem_singleton.mpr rfl))
    have h2 : e9.2 = some p := by rw [hr, List.getLast?_append]; rfl
    refine MtW.post (fun o s2 g => ?_) (C_addS1 hl d (atS s i) x e9 he k lo hi b p pn h2 hp)
    obtain ⟨q, g1, g2, g3, rfl⟩ := g
    have hpq : p ≠ q := fun e => by rw [e] at hp; cases hp.symm.trans g2
    exact ⟨q, g1, rdF.add1 h he hp g2 rfl, (show va_up (va_up s.2.2.2.2.1 q _) p _ q = _ by rw [va_up_ne _ _ hpq.symm, va_up_self])⟩
end READ
