/-! The grammar's passes over its nodes. K p: the nodes right in p; rt r: the root of rule r. -/
section C6
def sk (n : ND) : Int32 × Int32 × Int32 × Option Nat × Option Nat × Option Nat := (n.1, n.2.1, n.2.2.1, n.2.2.2.1, n.2.2.2.2.1, n.2.2.2.2.2.1)
def skE (nd nd' : Nat → Option ND) : Prop := ∀ p, (nd p).map sk = (nd' p).map sk
theorem skE.rf {nd : Nat → Option ND} : skE nd nd := fun _ => rfl
theorem skE.tr {a b c : Nat → Option ND} (h : skE a b) (h2 : skE b c) : skE a c := fun p => (h p).trans (h2 p)
theorem skE.sym {a b : Nat → Option ND} (h : skE a b) : skE b a := fun p => (h p).symm
theorem skE.put {nd : Nat → Option ND} {p : Nat} {n n' : ND} (hn : nd p = some n) (h : sk n' = sk n) : skE nd (va_up nd p (some n')) := fun q => by
  by_cases hq : q = p
  · subst hq
    rw [va_up_self, hn]
    simp [h]
  · rw [va_up_ne _ _ hq]
theorem skE.get {nd nd' : Nat → Option ND} (h : skE nd nd') {p : Nat} {n : ND} (hn : nd p = some n) : ∃ n', nd' p = some n' ∧ sk n' = sk n := by
  have h1 := h p
  rw [hn] at h1
  cases hx : nd' p with
  | none => rw [hx] at h1; cases h1
  | some n' =>
    rw [hx] at h1
    exact ⟨n', rfl, (Option.some.inj h1).symm⟩
theorem sk_eq {n n' : ND} (h : sk n' = sk n) : n'.1 = n.1 ∧ n'.2.1 = n.2.1 ∧ n'.2.2.1 = n.2.2.1 ∧ n'.2.2.2.1 = n.2.2.2.1 ∧ nNext n' = nNext n ∧ nLater n' = nLater n := by
  unfold sk at h
  simp only [Prod.mk.injEq] at h
  exact h
theorem lnk_skL {nd nd' : Nat → Option ND} (h : skE nd nd') : ∀ (ps : List Nat) (r : Option Nat), lnk nd nLater ps r → lnk nd' nLater ps r
  | [], _, h1 => h1
  | p :: t, r, ⟨h1, n, hn, ht⟩ => by
    obtain ⟨n', hn', hs⟩ := h.get hn
    exact ⟨h1, n', hn', by rw [(sk_eq hs).2.2.2.2.2]; exact lnk_skL h t _ ht⟩
theorem lnk_skN {nd nd' : Nat → Option ND} (h : skE nd nd') : ∀ (ps : List Nat) (r : Option Nat), lnk nd nNext ps r → lnk nd' nNext ps r
  | [], _, h1 => h1
  | p :: t, r, ⟨h1, n, hn, ht⟩ => by
    obtain ⟨n', hn', hs⟩ := h.get hn
    exact ⟨h1, n', hn', by rw [(sk_eq hs).2.2.2.2.1]; exact lnk_skN h t _ ht⟩
/-- a node that the passes can read; the rules that stand in it have an expression -/
def nodeOK (s : CSt) (K : Nat → List Nat) (rt : Nat → Nat) (p : Nat) : Prop := ∃ n, s.2.2.2.2.1 p = some n ∧
  (n.1 = nI 1 ∨
   (n.1 = nI 2 ∧ ∃ r x e9 m9, r < 6 ∧ n.2.1 = nI r ∧ s.2.2.2.1 r = some x ∧ s.2.2.2.2.2 x = some e9 ∧ e9.2 = some (rt r) ∧ s.2.2.2.2.1 (rt r) = some m9) ∨
   ((n.1 = nI 3 ∨ n.1 = nI 4) ∧ ∃ f t, K p = f :: t ∧ n.2.2.2.1 = some f ∧ lnk s.2.2.2.2.1 nNext (f :: t) (some f)) ∨
   ((n.1 = nI 5 ∨ n.1 = nI 6 ∨ n.1 = nI 7 ∨ n.1 = nI 8 ∨ n.1 = nI 9) ∧ ∃ f nf t9, K p = f :: t9 ∧ n.2.2.2.1 = some f ∧ s.2.2.2.2.1 f = some nf))
theorem nodeOK.sk {s : CSt} {K : Nat → List Nat} {rt : Nat → Nat} {p : Nat} {nd' : Nat → Option ND} (h : nodeOK s K rt p) (hs : skE s.2.2.2.2.1 nd') : nodeOK (ndP s nd') K rt p := by
  obtain ⟨n, hn, h⟩ := h
  obtain ⟨n', hn', e⟩ := hs.get hn
  obtain ⟨e1, e2, -, e4, -, -⟩ := sk_eq e
  refine ⟨n', hn', ?_⟩
  rw [e1, e2, e4]
  rcases h with h | ⟨h1, r, x, e9, m9, g1, g2, g3, g4, g5, g6⟩ | ⟨h1, f, t, g1, g2, g3⟩ | ⟨h1, f, nf, t9, g1, g2, g3⟩
  · exact Or.inl h
  · obtain ⟨m', hm', -⟩ := hs.get g6
    exact Or.inr (Or.inl ⟨h1, r, x, e9, m', g1, g2, g3, g4, g5, hm'⟩)
  · exact Or.inr (Or.inr (Or.inl ⟨h1, f, t, g1, g2, lnk_skN hs _ _ g3⟩))
  · obtain ⟨m', hm', -⟩ := hs.get g3
    exact Or.inr (Or.inr (Or.inr ⟨h1, f, m', t9, g1, g2, hm'⟩))
def outV (nd : Nat → Option ND) (K : Nat → List Nat) (rt : Nat → Nat) (p : Nat) : Int32 := match nd p with
  | none => 0
  | some n => if n.1 = nI 1 then nI 6 else if n.1 = nI 2 then ndO nd (rt n.2.1.toNatClampNeg) else if n.1 = nI 3 then fldF jrI nd (K p).tail (ndO nd ((K p).headD 0)) else if n.1 = nI 4 then fldF jcI nd (K p).tail (ndO nd ((K p).headD 0)) else sgI n.1.toNatClampNeg (ndO nd ((K p).headD 0))
def godV (nd : Nat → Option ND) (K : Nat → List Nat) (rt : Nat → Nat) (p : Nat) : Int32 := match nd p with
  | none => 0
  | some n => if n.1 = nI 1 then nI 1 else if n.1 = nI 2 then (if ndG nd (rt n.2.1.toNatClampNeg) = 0 then nI 0 else nI 1) else if n.1 = nI 3 then (if gdR nd (K p) = true then nI 1 else nI 0) else if n.1 = nI 4 then (if gdC nd (K p) = true then nI 1 else nI 0) else if n.1 = nI 5 ∨ n.1 = nI 6 then (if ¬ ndG nd ((K p).headD 0) = 0 ∧ ndO nd ((K p).headD 0) &&& nI 1 = 0 then nI 1 else nI 0) else (if ndG nd ((K p).headD 0) = 0 then nI 0 else nI 1)
theorem nIn {a b : Nat} (ha : a < 100) (hb : b < 100) (h : a ≠ b) : ¬ nI a = nI b := fun e => h ((nI_eq (by omega) (by omega)).mp e)
variable {cy : Nat → ClassId} {ax : Nat → Nat} {hp0 : Hp} {l : Launch} {D : va_G} {base : Nat}
set_option maxHeartbeats 4000000 in
theorem C_outcomesOf (hl : l.stackTraces = false) (d : Nat) (s : CSt) (K : Nat → List Nat) (rt : Nat → Nat) (p : Nat) (h : nodeOK s K rt p) : MtW (IC cy ax hp0) l D cy base mX2_outcomesOf (d + 2) 0 0 [.ref (ax 6), .ref p] s (fun o s2 => o = .inl (some (.int (outV s.2.2.2.2.1 K rt p))) ∧ s2 = s) := by
  obtain ⟨n, hn, h⟩ := h
  have hu : outV s.2.2.2.2.1 K rt p = if n.1 = nI 1 then nI 6 else if n.1 = nI 2 then ndO s.2.2.2.2.1 (rt n.2.1.toNatClampNeg) else if n.1 = nI 3 then fldF jrI s.2.2.2.2.1 (K p).tail (ndO s.2.2.2.2.1 ((K p).headD 0)) else if n.1 = nI 4 then fldF jcI s.2.2.2.2.1 (K p).tail (ndO s.2.2.2.2.1 ((K p).headD 0)) else sgI n.1.toNatClampNeg (ndO s.2.2.2.2.1 ((K p).headD 0)) := by simp only [outV, hn]
  rw [hu]
  rcases h with h1 | ⟨h1, r, x, e9, m9, g1, g2, g3, g4, g5, g6⟩ | ⟨h1 | h1, f, t, g1, g2, g3⟩ | ⟨h1, f, nf, t9, g1, g2, g3⟩
  · rw [h1, if_pos rfl]
    exact C_outcomesOf1 hl d s p n hn h1
  · rw [h1, if_neg (nIn (by decide) (by decide) (by decide)), if_pos rfl, g2, nI_clamp (by omega), ndO_s g6]
    exact C_outcomesOf2 hl d s p n hn h1 r g1 g2 x (rt r) g3 e9 g4 g5 m9 g6
  · rw [h1, if_neg (nIn (by decide) (by decide) (by decide)), if_neg (nIn (by decide) (by decide) (by decide)), if_pos rfl, g1]
    exact C_outcomesOf3 hl d s p n hn h1 f g2 t g3
  · rw [h1, if_neg (nIn (by decide) (by decide) (by decide)), if_neg (nIn (by decide) (by decide) (by decide)), if_neg (nIn (by decide) (by decide) (by decide)), if_pos rfl, g1]
    exact C_outcomesOf4 hl d s p n hn h1 f g2 t g3
  · rw [g1]
    rcases h1 with h1 | h1 | h1 | h1 | h1 <;> rw [h1, if_neg (nIn (by decide) (by decide) (by decide)), if_neg (nIn (by decide) (by decide) (by decide)), if_neg (nIn (by decide) (by decide) (by decide)), if_neg (nIn (by decide) (by decide) (by decide)), nI_clamp (by decide), show (f :: t9 : List Nat).headD 0 = f from rfl, ndO_s g3]
    · exact C_outcomesOf5 hl d s p n hn h1 f g2 nf g3
    · exact C_outcomesOf6 hl d s p n hn h1 f g2 nf g3
    · exact C_outcomesOf7 hl d s p n hn h1 f g2 nf g3
    · exact C_outcomesOf8 hl d s p n hn h1 f g2 nf g3
    · exact C_outcomesOf9 hl d s p n hn h1 f g2 nf g3
set_option maxHeartbeats 4000000 in
theorem C_isGood (hl : l.stackTraces = false) (d : Nat) (s : CSt) (K : Nat → List Nat) (rt : Nat → Nat) (p : Nat) (h : nodeOK s K rt p) : MtW (IC cy ax hp0) l D cy base mX2_isGood (d + 2) 0 0 [.ref (ax 6), .ref p] s (fun o s2 => o = .inl (some (.int (godV s.2.2.2.2.1 K rt p))) ∧ s2 = s) := by
  obtain ⟨n, hn, h⟩ := h
  have hu : godV s.2.2.2.2.1 K rt p = if n.1 = nI 1 then nI 1 else if n.1 = nI 2 then (if ndG s.2.2.2.2.1 (rt n.2.1.toNatClampNeg) = 0 then nI 0 else nI 1) else if n.1 = nI 3 then (if gdR s.2.2.2.2.1 (K p) = true then nI 1 else nI 0) else if n.1 = nI 4 then (if gdC s.2.2.2.2.1 (K p) = true then nI 1 else nI 0) else if n.1 = nI 5 ∨ n.1 = nI 6 then (if ¬ ndG s.2.2.2.2.1 ((K p).headD 0) = 0 ∧ ndO s.2.2.2.2.1 ((K p).headD 0) &&& nI 1 = 0 then nI 1 else nI 0) else (if ndG s.2.2.2.2.1 ((K p).headD 0) = 0 then nI 0 else nI 1) := by simp only [godV, hn]
  rw [hu]
  rcases h with h1 | ⟨h1, r, x, e9, m9, g1, g2, g3, g4, g5, g6⟩ | ⟨h1 | h1, f, t, g1, g2, g3⟩ | ⟨h1, f, nf, t9, g1, g2, g3⟩
  · rw [h1, if_pos rfl]
    exact C_isGood1 hl d s p n hn h1
  · rw [h1, if_neg (nIn (by decide) (by decide) (by decide)), if_pos rfl, g2, nI_clamp (by omega), ndG_s g6]
    exact C_isGood2 hl d s p n hn h1 r g1 g2 x (rt r) g3 e9 g4 g5 m9 g6
  · rw [h1, if_neg (nIn (by decide) (by decide) (by decide)), if_neg (nIn (by decide) (by decide) (by decide)), if_pos rfl, g1]
    exact C_isGood3 hl d s p n hn h1 f g2 t g3
  · rw [h1, if_neg (nIn (by decide) (by decide) (by decide)), if_neg (nIn (by decide) (by decide) (by decide)), if_neg (nIn (by decide) (by decide) (by decide)), if_pos rfl, g1]
    exact C_isGood4 hl d s p n hn h1 f g2 t g3
  · rw [g1]
    rcases h1 with h1 | h1 | h1 | h1 | h1 <;> rw [h1, if_neg (nIn (by decide) (by decide) (by decide)), if_neg (nIn (by decide) (by decide) (by decide)), if_neg (nIn (by decide) (by decide) (by decide)), if_neg (nIn (by decide) (by decide) (by decide)), show (f :: t9 : List Nat).headD 0 = f from rfl, ndG_s g3]
    · rw [if_pos (Or.inl rfl), ndO_s g3]
      exact C_isGood5 hl d s p n hn h1 f g2 nf g3
    · rw [if_pos (Or.inr rfl), ndO_s g3]
      exact C_isGood6 hl d s p n hn h1 f g2 nf g3
    · rw [if_neg (fun h => h.elim (nIn (by decide) (by decide) (by decide)) (nIn (by decide) (by decide) (by decide)))]
      exact C_isGood7 hl d s p n hn h1 f g2 nf g3
    · rw [if_neg (fun h => h.elim (nIn (by decide) (by decide) (by decide)) (nIn (by decide) (by decide) (by decide)))]
      exact C_isGood8 hl d s p n hn h1 f g2 nf g3
    · rw [if_neg (fun h => h.elim (nIn (by decide) (by decide) (by decide)) (nIn (by decide) (by decide) (by decide)))]
      exact C_isGood9 hl d s p n hn h1 f g2 nf g3
def setO (nd : Nat → Option ND) (p : Nat) (v : Int32) : Nat → Option ND := va_up nd p ((nd p).map (fun n => (n.1, n.2.1, n.2.2.1, n.2.2.2.1, n.2.2.2.2.1, n.2.2.2.2.2.1, v, n.2.2.2.2.2.2.2)))
def setG (nd : Nat → Option ND) (p : Nat) (v : Int32) : Nat → Option ND := va_up nd p ((nd p).map (fun n => (n.1, n.2.1, n.2.2.1, n.2.2.2.1, n.2.2.2.2.1, n.2.2.2.2.2.1, n.2.2.2.2.2.2.1, v)))
def pasO (K : Nat → List Nat) (rt : Nat → Nat) : List Nat → (Nat → Option ND) → (Nat → Option ND)
  | [], nd => nd
  | p :: t, nd => pasO K rt t (setO nd p (outV nd K rt p))
def pasG (K : Nat → List Nat) (rt : Nat → Nat) : List Nat → (Nat → Option ND) → (Nat → Option ND)
  | [], nd => nd
  | p :: t, nd => pasG K rt t (setG nd p (godV nd K rt p))
theorem skE.setO {nd : Nat → Option ND} {p : Nat} {v : Int32} : skE nd (setO nd p v) := by
  show skE nd (va_up nd p ((nd p).map _))
  cases h : nd p with
  | none =>
    intro q
    by_cases hq : q = p
    · subst hq; rw [va_up_self, h]; rfl
    · rw [va_up_ne _ _ hq]
  | some n => exact skE.put h rfl
theorem skE.setG {nd : Nat → Option ND} {p : Nat} {v : Int32} : skE nd (setG nd p v) := by
  show skE nd (va_up nd p ((nd p).map _))
  cases h : nd p with
  | none =>
    intro q
    by_cases hq : q = p
    · subst hq; rw [va_up_self, h]; rfl
    · rw [va_up_ne _ _ hq]
  | some n => exact skE.put h rfl
theorem pasO_sk {K : Nat → List Nat} {rt : Nat → Nat} : ∀ (ps : List Nat) (nd : Nat → Option ND), skE nd (pasO K rt ps nd)
  | [], _ => skE.rf
  | _ :: t, _ => skE.tr skE.setO (pasO_sk t _)
theorem pasG_sk {K : Nat → List Nat} {rt : Nat → Nat} : ∀ (ps : List Nat) (nd : Nat → Option ND), skE nd (pasG K rt ps nd)
  | [], _ => skE.rf
  | _ :: t, _ => skE.tr skE.setG (pasG_sk t _)
set_option maxHeartbeats 4000000 in
theorem C_findOutcomesIn_loop (hl : l.stackTraces = false) (d : Nat) (K : Nat → List Nat) (rt : Nat → Nat) (x : Nat) (b : Int32) (Q : Oc → CSt → Prop) : ∀ (ps : List Nat) (r : Option Nat) (s : CSt), lnk s.2.2.2.2.1 nLater ps r → (∀ p ∈ ps, nodeOK s K rt p) →
    EW (IC cy ax hp0) l D cy base mX2_findOutcomesIn (d + 3) 0 0 31 [(0, .ref (ax 6)), (1, .ref x), (2, .int b)] [] (ndP s (pasO K rt ps s.2.2.2.2.1)) Q → EW (IC cy ax hp0) l D cy base mX2_findOutcomesIn (d + 3) 0 0 10 [(0, .ref (ax 6)), (1, .ref x), (2, .int b), (3, va_rf r)] [] s Q := by
  intro ps
  induction ps with
  | nil =>
    intro r s h hok k
    subst h
    refine EW.aloadq_n dX2_findOutcomesIn_10 rfl rfl ?_
    refine EW.ifnull (r := none) 31 dX2_findOutcomesIn_11 (by decide) (fun _ => ?_) (fun _ h => nomatch h)
    exact EW.loc (lv' := [(0, .ref (ax 6)), (1, .ref x), (2, .int b)]) ⟨rfl, rfl, rfl, trivial⟩ k
  | cons p t ih =>
    intro r s h hok k
    obtain ⟨rfl, n, hn, ht⟩ := h
    have hu : setO s.2.2.2.2.1 p (outV s.2.2.2.2.1 K rt p) = va_up s.2.2.2.2.1 p (some (n.1, n.2.1, n.2.2.1, n.2.2.2.1, n.2.2.2.2.1, n.2.2.2.2.2.1, outV s.2.2.2.2.1 K rt p, n.2.2.2.2.2.2.2)) := by
      unfold setO
      rw [hn]
      rfl
    refine EW.aload_n dX2_findOutcomesIn_10 rfl rfl ?_
    refine EW.ifnull (r := some p) 31 dX2_findOutcomesIn_11 (by decide) (fun h => nomatch h) (fun _ _ => ?_)
    refine EW.aload_n dX2_findOutcomesIn_14 rfl rfl ?_
    refine EW.aload_n dX2_findOutcomesIn_15 rfl rfl ?_
    refine EW.aload_n dX2_findOutcomesIn_16 rfl rfl ?_
    refine EC.callV (bc := 0) (bs := 0) (mc' := 0) (ms' := 0) (k := 6) (C_outcomesOf hl d s K rt p (hok p List.mem_cons_self)) mfX2_outcomesOf l_X2_66 mvX2_outcomesOf (by omega) dX2_findOutcomesIn_17 rfl rfl (by decide) rfl rfl rfl (Nat.le_of_ble_eq_true rfl) (fun v17 s17 q17 => ?_) (fun _ _ q => nomatch q.1)
    obtain ⟨e17, h17⟩ := q17
    cases e17
    replace h17 := h17.symm
    subst h17
    refine EC.ndput (n' := (n.1, n.2.1, n.2.2.1, n.2.2.2.1, n.2.2.2.2.1, n.2.2.2.2.2.1, outV s.2.2.2.2.1 K rt p, n.2.2.2.2.2.2.2)) f_X2_70 dX2_findOutcomesIn_20 hn (by decide) rfl rfl rfl ?_
    refine EW.aload_n dX2_findOutcomesIn_23 rfl rfl ?_
    refine EC.ndget f_X2_75 dX2_findOutcomesIn_24 (va_up_self _ _ _) rfl ?_
    refine EW.astoreq_n (r := nLater n) dX2_findOutcomesIn_27 rfl (by decide) ?_
    refine EW.goto 10 dX2_findOutcomesIn_28 (by decide) ?_
    refine EW.loc (lv' := [(0, .ref (ax 6)), (1, .ref x), (2, .int b), (3, va_rf (nLater n))]) ⟨rfl, rfl, rfl, rfl, trivial⟩ ?_
    have hs : skE s.2.2.2.2.1 (va_up s.2.2.2.2.1 p (some (n.1, n.2.1, n.2.2.1, n.2.2.2.1, n.2.2.2.2.1, n.2.2.2.2.2.1, outV s.2.2.2.2.1 K rt p, n.2.2.2.2.2.2.2))) := skE.put hn rfl
    refine ih (nLater n) (ndP s (va_up s.2.2.2.2.1 p (some (n.1, n.2.1, n.2.2.1, n.2.2.2.1, n.2.2.2.2.1, n.2.2.2.2.2.1, outV s.2.2.2.2.1 K rt p, n.2.2.2.2.2.2.2)))) (lnk_skL hs _ _ ht) (fun q hq => (hok q (List.mem_cons_of_mem _ hq)).sk hs) ?_
    have k' : EW (IC cy ax hp0) l D cy base mX2_findOutcomesIn (d + 3) 0 0 31 [(0, .ref (ax 6)), (1, .ref x), (2, .int b)] [] (ndP s (pasO K rt t (setO s.2.2.2.2.1 p (outV s.2.2.2.2.1 K rt p)))) Q := k
    rw [hu] at k'
    exact k'
set_option maxHeartbeats 4000000 in
theorem C_findOutcomesIn (hl : l.stackTraces = false) (d : Nat) (s : CSt) (K : Nat → List Nat) (rt : Nat → Nat) (x q : Nat) (e9 : Option Nat × Option Nat) (he : s.2.2.2.2.2 x = some e9) (hq : e9.2 = some q) (m9 : ND) (hm : s.2.2.2.2.1 q = some m9) (ps : List Nat) (hps : lnk s.2.2.2.2.1 nLater ps e9.1) (hok : ∀ p ∈ ps, nodeOK s K rt p) : MtW (IC cy ax hp0) l D cy base mX2_findOutcomesIn (d + 3) 0 0 [.ref (ax 6), .ref x] s (fun o s2 => o = .inl (some (.int (if (ndO (pasO K rt ps s.2.2.2.2.1) q) = (ndO s.2.2.2.2.1 q) then nI 0 else nI 1))) ∧ s2 = ndP s (pasO K rt ps s.2.2.2.2.1)) := by
  refine MtW.of hl mfX2_findOutcomesIn rfl (Nat.le_of_ble_eq_true rfl) ?_
  have hroot : ∀ (s1 : CSt), s1.2.2.2.2.2 = s.2.2.2.2.2 → skE s.2.2.2.2.1 s1.2.2.2.2.1 → MtW (IC cy ax hp0) l D cy base mX1_outcomesOfRoot d 0 0 [.ref x] s1 (fun o s2 => o = .inl (some (.int (ndO s1.2.2.2.2.1 q))) ∧ s2 = s1) := by
    intro s1 hx hk
    obtain ⟨m', hm', -⟩ := hk.get hm
    have hh := C_outcomesOfRoot (cy := cy) (ax := ax) (hp0 := hp0) (D := D) (base := base) hl d s1 x q e9 (by rw [hx]; exact he) hq m' hm'
    rw [ndO_s hm']
    exact hh
  refine EW.aload_n dX2_findOutcomesIn_0 rfl rfl ?_
  refine EC.callE (bc := 0) (bs := 0) (mc' := 0) (ms' := 0) (hroot s rfl skE.rf) mfX1_outcomesOfRoot l_X2_59 mvX1_outcomesOfRoot (by omega) dX2_findOutcomesIn_1 rfl rfl he rfl rfl (Nat.le_of_ble_eq_true rfl) (fun v1 s1 q1 => ?_) (fun _ _ q => nomatch q.1)
  obtain ⟨e1, h1⟩ := q1
  cases e1
  replace h1 := h1.symm
  subst h1
  refine EW.istore_n dX2_findOutcomesIn_4 rfl (by decide) ?_
  refine EW.aload_n dX2_findOutcomesIn_5 rfl rfl ?_
  refine EC.exget f_X2_62 dX2_findOutcomesIn_6 he rfl ?_
  refine EW.astoreq_n (r := e9.1) dX2_findOutcomesIn_9 rfl (by decide) ?_
  refine EW.loc (lv' := [(0, .ref (ax 6)), (1, .ref x), (2, .int (ndO s.2.2.2.2.1 q)), (3, va_rf e9.1)]) ⟨rfl, rfl, rfl, rfl, trivial⟩ ?_
  refine C_findOutcomesIn_loop hl d K rt x _ _ ps e9.1 s hps hok ?_
  refine EW.aload_n dX2_findOutcomesIn_31 rfl rfl ?_
  refine EC.callE (bc := 0) (bs := 0) (mc' := 0) (ms' := 0) (hroot (ndP s (pasO K rt ps s.2.2.2.2.1)) rfl (pasO_sk ps _)) mfX1_outcomesOfRoot l_X2_59 mvX1_outcomesOfRoot (by omega) dX2_findOutcomesIn_32 rfl rfl he rfl rfl (Nat.le_of_ble_eq_true rfl) (fun v2 s2 q2 => ?_) (fun _ _ q => nomatch q.1)
  obtain ⟨e2, h2⟩ := q2
  cases e2
  replace h2 := h2.symm
  subst h2
  refine EW.iload_n dX2_findOutcomesIn_35 rfl rfl ?_
  refine EW.icmp_eq 43 dX2_findOutcomesIn_36 (by decide) (fun c36 => ?_) (fun c36 => ?_)
  · refine EW.ic 0 dX2_findOutcomesIn_43 ?_
    refine EW.zret (ty := .boolean) rfl (by decide +kernel) dX2_findOutcomesIn_44 ?_
    have c36 : (ndO (pasO K rt ps s.2.2.2.2.1) q) = (ndO s.2.2.2.2.1 q) := c36
    exact ⟨by rw [if_pos c36], rfl⟩
  · refine EW.ic 1 dX2_findOutcomesIn_39 ?_
    refine EW.goto 44 dX2_findOutcomesIn_40 (by decide) ?_
    refine EW.zret (ty := .boolean) rfl (by decide +kernel) dX2_findOutcomesIn_44 ?_
    have c36 : ¬ (ndO (pasO K rt ps s.2.2.2.2.1) q) = (ndO s.2.2.2.2.1 q) := c36
    exact ⟨by rw [if_neg c36], rfl⟩
theorem god01 (nd : Nat → Option ND) (K : Nat → List Nat) (rt : Nat → Nat) (p : Nat) : godV nd K rt p = nI 0 ∨ godV nd K rt p = nI 1 := by
  unfold godV
  cases nd p with
  | none => exact Or.inl nI_0.symm
  | some n =>
    dsimp only
    repeat' split
    all_goals first | exact Or.inl rfl | exact Or.inr rfl
theorem god_nar (nd : Nat → Option ND) (K : Nat → List Nat) (rt : Nat → Nat) (p : Nat) : narrow .boolean (.int (godV nd K rt p)) = .int (godV nd K rt p) := by
  rcases god01 nd K rt p with h | h <;> rw [h] <;> decide +kernel
theorem god_fit (nd : Nat → Option ND) (K : Nat → List Nat) (rt : Nat → Nat) (p : Nat) : fits .boolean (.int (godV nd K rt p)) = true := by
  rcases god01 nd K rt p with h | h <;> rw [h] <;> decide +kernel
set_option maxHeartbeats 4000000 in
theorem C_findGoodIn_loop (hl : l.stackTraces = false) (d : Nat) (K : Nat → List Nat) (rt : Nat → Nat) (x : Nat) (b : Int32) (Q : Oc → CSt → Prop) : ∀ (ps : List Nat) (r : Option Nat) (s : CSt), lnk s.2.2.2.2.1 nLater ps r → (∀ p ∈ ps, nodeOK s K rt p) →
    EW (IC cy ax hp0) l D cy base mX2_findGoodIn (d + 3) 0 0 31 [(0, .ref (ax 6)), (1, .ref x), (2, .int b)] [] (ndP s (pasG K rt ps s.2.2.2.2.1)) Q → EW (IC cy ax hp0) l D cy base mX2_findGoodIn (d + 3) 0 0 10 [(0, .ref (ax 6)), (1, .ref x), (2, .int b), (3, va_rf r)] [] s Q := by
  intro ps
  induction ps with
  | nil =>
    intro r s h hok k
    subst h
    refine EW.aloadq_n dX2_findGoodIn_10 rfl rfl ?_
    refine EW.ifnull (r := none) 31 dX2_findGoodIn_11 (by decide) (fun _ => ?_) (fun _ h => nomatch h)
    exact EW.loc (lv' := [(0, .ref (ax 6)), (1, .ref x), (2, .int b)]) ⟨rfl, rfl, rfl, trivial⟩ k
  | cons p t ih =>
    intro r s h hok k
    obtain ⟨rfl, n, hn, ht⟩ := h
    have hu : setG s.2.2.2.2.1 p (godV s.2.2.2.2.1 K rt p) = va_up s.2.2.2.2.1 p (some (n.1, n.2.1, n.2.2.1, n.2.2.2.1, n.2.2.2.2.1, n.2.2.2.2.2.1, n.2.2.2.2.2.2.1, godV s.2.2.2.2.1 K rt p)) := by
      unfold setG
      rw [hn]
      rfl
    refine EW.aload_n dX2_findGoodIn_10 rfl rfl ?_
    refine EW.ifnull (r := some p) 31 dX2_findGoodIn_11 (by decide) (fun h => nomatch h) (fun _ _ => ?_)
    refine EW.aload_n dX2_findGoodIn_14 rfl rfl ?_
    refine EW.aload_n dX2_findGoodIn_15 rfl rfl ?_
    refine EW.aload_n dX2_findGoodIn_16 rfl rfl ?_
    refine EC.callV (bc := 0) (bs := 0) (mc' := 0) (ms' := 0) (k := 6) (C_isGood hl d s K rt p (hok p List.mem_cons_self)) mfX2_isGood l_X2_117 mvX2_isGood (by omega) dX2_findGoodIn_17 rfl rfl (by decide) rfl rfl rfl (Nat.le_of_ble_eq_true rfl) (fun v17 s17 q17 => ?_) (fun _ _ q => nomatch q.1)
    obtain ⟨e17, h17⟩ := q17
    cases e17
    replace h17 := h17.symm
    subst h17
    refine EC.ndput (n' := (n.1, n.2.1, n.2.2.1, n.2.2.2.1, n.2.2.2.2.1, n.2.2.2.2.2.1, n.2.2.2.2.2.2.1, godV s.2.2.2.2.1 K rt p)) f_X2_121 dX2_findGoodIn_20 hn (by decide) (god_nar _ _ _ _) (god_fit _ _ _ _) rfl ?_
    refine EW.aload_n dX2_findGoodIn_23 rfl rfl ?_
    refine EC.ndget f_X2_75 dX2_findGoodIn_24 (va_up_self _ _ _) rfl ?_
    refine EW.astoreq_n (r := nLater n) dX2_findGoodIn_27 rfl (by decide) ?_
    refine EW.goto 10 dX2_findGoodIn_28 (by decide) ?_
    refine EW.loc (lv' := [(0, .ref (ax 6)), (1, .ref x), (2, .int b), (3, va_rf (nLater n))]) ⟨rfl, rfl, rfl, rfl, trivial⟩ ?_
    have hs : skE s.2.2.2.2.1 (va_up s.2.2.2.2.1 p (some (n.1, n.2.1, n.2.2.1, n.2.2.2.1, n.2.2.2.2.1, n.2.2.2.2.2.1, n.2.2.2.2.2.2.1, godV s.2.2.2.2.1 K rt p))) := skE.put hn rfl
    refine ih (nLater n) (ndP s (va_up s.2.2.2.2.1 p (some (n.1, n.2.1, n.2.2.1, n.2.2.2.1, n.2.2.2.2.1, n.2.2.2.2.2.1, n.2.2.2.2.2.2.1, godV s.2.2.2.2.1 K rt p)))) (lnk_skL hs _ _ ht) (fun q hq => (hok q (List.mem_cons_of_mem _ hq)).sk hs) ?_
    have k' : EW (IC cy ax hp0) l D cy base mX2_findGoodIn (d + 3) 0 0 31 [(0, .ref (ax 6)), (1, .ref x), (2, .int b)] [] (ndP s (pasG K rt t (setG s.2.2.2.2.1 p (godV s.2.2.2.2.1 K rt p)))) Q := k
    rw [hu] at k'
    exact k'
set_option maxHeartbeats 4000000 in
theorem C_findGoodIn (hl : l.stackTraces = false) (d : Nat) (s : CSt) (K : Nat → List Nat) (rt : Nat → Nat) (x q : Nat) (e9 : Option Nat × Option Nat) (he : s.2.2.2.2.2 x = some e9) (hq : e9.2 = some q) (m9 : ND) (hm : s.2.2.2.2.1 q = some m9) (ps : List Nat) (hps : lnk s.2.2.2.2.1 nLater ps e9.1) (hok : ∀ p ∈ ps, nodeOK s K rt p) : MtW (IC cy ax hp0) l D cy base mX2_findGoodIn (d + 3) 0 0 [.ref (ax 6), .ref x] s (fun o s2 => o = .inl (some (.int (if (if ndG (pasG K rt ps s.2.2.2.2.1) q = 0 then nI 0 else nI 1) = (if ndG s.2.2.2.2.1 q = 0 then nI 0 else nI 1) then nI 0 else nI 1))) ∧ s2 = ndP s (pasG K rt ps s.2.2.2.2.1)) := by
  refine MtW.of hl mfX2_findGoodIn rfl (Nat.le_of_ble_eq_true rfl) ?_
  have hroot : ∀ (s1 : CSt), s1.2.2.2.2.2 = s.2.2.2.2.2 → skE s.2.2.2.2.1 s1.2.2.2.2.1 → MtW (IC cy ax hp0) l D cy base mX1_rootIsGood d 0 0 [.ref x] s1 (fun o s2 => o = .inl (some (.int (if ndG s1.2.2.2.2.1 q = 0 then nI 0 else nI 1))) ∧ s2 = s1) := by
    intro s1 hx hk
    obtain ⟨m', hm', -⟩ := hk.get hm
    have hh := C_rootIsGood (cy := cy) (ax := ax) (hp0 := hp0) (D := D) (base := base) hl d s1 x q e9 (by rw [hx]; exact he) hq m' hm'
    rw [ndG_s hm']
    exact hh
  refine EW.aload_n dX2_findGoodIn_0 rfl rfl ?_
  refine EC.callE (bc := 0) (bs := 0) (mc' := 0) (ms' := 0) (hroot s rfl skE.rf) mfX1_rootIsGood l_X2_114 mvX1_rootIsGood (by omega) dX2_findGoodIn_1 rfl rfl he rfl rfl (Nat.le_of_ble_eq_true rfl) (fun v1 s1 q1 => ?_) (fun _ _ q => nomatch q.1)
  obtain ⟨e1, h1⟩ := q1
  cases e1
  replace h1 := h1.symm
  subst h1
  refine EW.istore_n dX2_findGoodIn_4 rfl (by decide) ?_
  refine EW.aload_n dX2_findGoodIn_5 rfl rfl ?_
  refine EC.exget f_X2_62 dX2_findGoodIn_6 he rfl ?_
  refine EW.astoreq_n (r := e9.1) dX2_findGoodIn_9 rfl (by decide) ?_
  refine EW.loc (lv' := [(0, .ref (ax 6)), (1, .ref x), (2, .int (if ndG s.2.2.2.2.1 q = 0 then nI 0 else nI 1)), (3, va_rf e9.1)]) ⟨rfl, rfl, rfl, rfl, trivial⟩ ?_
  refine C_findGoodIn_loop hl d K rt x _ _ ps e9.1 s hps hok ?_
  refine EW.aload_n dX2_findGoodIn_31 rfl rfl ?_
  refine EC.callE (bc := 0) (bs := 0) (mc' := 0) (ms' := 0) (hroot (ndP s (pasG K rt ps s.2.2.2.2.1)) rfl (pasG_sk ps _)) mfX1_rootIsGood l_X2_114 mvX1_rootIsGood (by omega) dX2_findGoodIn_32 rfl rfl he rfl rfl (Nat.le_of_ble_eq_true rfl) (fun v2 s2 q2 => ?_) (fun _ _ q => nomatch q.1)
  obtain ⟨e2, h2⟩ := q2
  cases e2
  replace h2 := h2.symm
  subst h2
  refine EW.iload_n dX2_findGoodIn_35 rfl rfl ?_
  refine EW.icmp_eq 43 dX2_findGoodIn_36 (by decide) (fun c36 => ?_) (fun c36 => ?_)
  · refine EW.ic 0 dX2_findGoodIn_43 ?_
    refine EW.zret (ty := .boolean) rfl (by decide +kernel) dX2_findGoodIn_44 ?_
    have c36 : (if ndG (pasG K rt ps s.2.2.2.2.1) q = 0 then nI 0 else nI 1) = (if ndG s.2.2.2.2.1 q = 0 then nI 0 else nI 1) := c36
    exact ⟨by rw [if_pos c36], rfl⟩
  · refine EW.ic 1 dX2_findGoodIn_39 ?_
    refine EW.goto 44 dX2_findGoodIn_40 (by decide) ?_
    refine EW.zret (ty := .boolean) rfl (by decide +kernel) dX2_findGoodIn_44 ?_
    have c36 : ¬ (if ndG (pasG K rt ps s.2.2.2.2.1) q = 0 then nI 0 else nI 1) = (if ndG s.2.2.2.2.1 q = 0 then nI 0 else nI 1) := c36
    exact ⟨by rw [if_neg c36], rfl⟩
end C6
