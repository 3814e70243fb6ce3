/-! What the class's passes find along a chain of nodes. -/
def flw (nd : Nat → Option ND) : Nat → Option Nat → List Nat
  | 0, _ => []
  | _ + 1, none => []
  | f + 1, some q => q :: (match nd q with
    | none => []
    | some n => flw nd f (nNext n))
def Kf (nd : Nat → Option ND) (p : Nat) : List Nat := match nd p with
  | none => []
  | some n => flw nd 100 n.2.2.2.1
theorem flw_sk {nd nd' : Nat → Option ND} (h : skE nd nd') : ∀ f r, flw nd' f r = flw nd f r
  | 0, _ => rfl
  | f + 1, none => rfl
  | f + 1, some q => by
    unfold flw
    cases hn : nd q with
    | none =>
      have : nd' q = none := by
        have := h q
        rw [hn] at this
        cases hq : nd' q with
        | none => rfl
        | some x => rw [hq] at this; cases this
      rw [this]
    | some n =>
      obtain ⟨n', hn', e⟩ := h.get hn
      have e5 := (sk_eq e).2.2.2.2.1
      rw [hn']
      show q :: flw nd' f (nNext n') = q :: flw nd f (nNext n)
      rw [e5, flw_sk h f]
theorem Kf_sk {nd nd' : Nat → Option ND} (h : skE nd nd') (p : Nat) : Kf nd' p = Kf nd p := by
  unfold Kf
  cases hn : nd p with
  | none =>
    have : nd' p = none := by
      have := h p
      rw [hn] at this
      cases hq : nd' p with
      | none => rfl
      | some x => rw [hq] at this; cases this
    rw [this]
  | some n =>
    obtain ⟨n', hn', e⟩ := h.get hn
    rw [hn']
    show flw nd' 100 n'.2.2.2.1 = flw nd 100 n.2.2.2.1
    rw [(sk_eq e).2.2.2.1, flw_sk h]
theorem lnk_flw {nd : Nat → Option ND} : ∀ (pl : List Nat) (r : Option Nat) (f : Nat), lnk nd nNext pl r → pl.length ≤ f → flw nd f r = pl
  | [], r, 0, _, _ => rfl
  | [], r, f + 1, h, _ => by
    have h : r = none := h
    subst h
    rfl
  | q :: t, r, 0, _, hf => by cases hf
  | q :: t, r, f + 1, ⟨h1, n, h2, h3⟩, hf => by
    subst h1
    unfold flw
    rw [h2]
    show q :: flw nd f (nNext n) = _
    rw [lnk_flw t (nNext n) f h3 (Nat.le_of_succ_le_succ hf)]
/-- the parts of a row or choice -/
def prt : Ex → List Ex
  | .tag m (.append a b) => a :: (if m % 2 = 1 then prt b else [b])
  | _ => []
/-- the chain of parts of a layout -/
theorem layL_pl {nd : Nat → Option ND} : ∀ t, wf t → ∀ ql f, layL nd t ql f → ∃ pl, lnk nd nNext (f :: pl) (some f) ∧ (f :: pl).length ≤ sz t ∧ (∀ c ∈ f :: pl, c ∈ ql) := by
  refine ast_ind (fun lo hi _ _ ql f h => h.elim) (fun r _ ql f h => h.elim) (fun m a b _ _ wa wb _ hb ql f h => ?_) (fun k e _ _ _ _ ql f h => h.elim)
  obtain ⟨qa, qb, rfl, h1, nf, g, h2, h3, h4⟩ := h
  have hs : sz (xB m a b) = sz a + sz b + 1 := rfl
  have pa := sz_pos a wa
  have fa := layE_mem a wa qa f h1
  by_cases hm : m % 2 = 1
  · rw [if_pos hm] at h4
    obtain ⟨pl, l1, l2, l3⟩ := hb qb g h4
    refine ⟨g :: pl, ⟨rfl, nf, h2, by rw [h3]; exact l1⟩, by rw [hs]; simp only [List.length_cons] at l2 ⊢; omega, fun c hc => ?_⟩
    rcases List.mem_cons.mp hc with rfl | hc
    · exact List.mem_append_left _ fa
    · exact List.mem_append_right _ (l3 c hc)
  · rw [if_neg hm] at h4
    obtain ⟨h5, ng, h6, h7⟩ := h4
    have gb := layE_mem b wb qb g h5
    refine ⟨[g], ⟨rfl, nf, h2, by rw [h3]; exact ⟨rfl, ng, h6, h7⟩⟩, by rw [hs]; simp only [List.length_cons, List.length_nil]; have := sz_pos b wb; omega, fun c hc => ?_⟩
    rcases List.mem_cons.mp hc with rfl | hc
    · exact List.mem_append_left _ fa
    · rw [List.mem_singleton.mp hc]
      exact List.mem_append_right _ gb
theorem layE_K {nd : Nat → Option ND} {m : Nat} {a b : Ex} {qs : List Nat} {p : Nat} (w : wf (xB m a b)) (h64 : sz (xB m a b) ≤ 100) (h : layE nd (xB m a b) qs p) : ∃ ql n f pl, qs = ql ++ [p] ∧ nd p = some n ∧ n.1 = nI (3 + m / 2) ∧ n.2.2.2.1 = some f ∧ layL nd (xB m a b) ql f ∧ Kf nd p = f :: pl ∧ lnk nd nNext (f :: pl) (some f) ∧ ∀ c ∈ f :: pl, c ∈ ql := by
  obtain ⟨ql, n, f, e, h1, h2, h3, h4⟩ := h
  obtain ⟨pl, l1, l2, l3⟩ := layL_pl _ w ql f h4
  refine ⟨ql, n, f, pl, e, h1, h2, h3, h4, ?_, l1, l3⟩
  unfold Kf
  rw [h1]
  show flw nd 100 n.2.2.2.1 = _
  rw [h3]
  exact lnk_flw (f :: pl) (some f) 100 l1 (by omega)
theorem layS_K {nd : Nat → Option ND} {k : Nat} {e : Ex} {qs : List Nat} {p : Nat} (we : wf e) (h4 : 4 ≤ k) (h8 : k ≤ 8) (h : layE nd (xS k e) qs p) : ∃ ql n f t, qs = ql ++ [p] ∧ nd p = some n ∧ n.1 = nI (k + 1) ∧ n.2.2.2.1 = some f ∧ layE nd e ql f ∧ Kf nd p = f :: t := by
  obtain ⟨ql, n, f, e1, h1, h2, h3, h5⟩ := h
  refine ⟨ql, n, f, (match nd f with
    | none => []
    | some n => flw nd 99 (nNext n)), e1, h1, h2, h3, h5, ?_⟩
  unfold Kf
  rw [h1]
  show flw nd 100 n.2.2.2.1 = _
  rw [h3]
  rfl
/-- the nodes of a layout, in order, and what they stand for -/
def sn2 : Ex → List Ex × List Ex
  | .tag lo (.tag hi .nil) => ([.tag lo (.tag hi .nil)], [])
  | .tag r .line => ([.tag r .line], [])
  | .tag m (.append a b) => ((sn2 a).1 ++ (if m % 2 = 1 then (sn2 b).2 else (sn2 b).1) ++ [.tag m (.append a b)], (sn2 a).1 ++ (if m % 2 = 1 then (sn2 b).2 else (sn2 b).1))
  | .tag k (.nest i e) => ((sn2 e).1 ++ [.tag k (.nest i e)], [])
  | _ => ([], [])
abbrev snE (t : Ex) : List Ex := (sn2 t).1
abbrev snL (t : Ex) : List Ex := (sn2 t).2
/-- each node of the list has a layout within what comes before it -/
def NDS (nd : Nat → Option ND) : List Nat → List Ex → Prop
  | qs, es => qs.length = es.length ∧ ∀ l1 q l2, qs = l1 ++ q :: l2 → ∃ e qe, es[l1.length]? = some e ∧ wf e ∧ layE nd e (qe ++ [q]) q ∧ ∀ c ∈ qe, c ∈ l1
theorem split_app {α : Type} {a b l1 l2 : List α} {q : α} (h : a ++ b = l1 ++ q :: l2) : (∃ l3, a = l1 ++ q :: l3) ∨ ∃ l3, l1 = a ++ l3 ∧ b = l3 ++ q :: l2 := by
  rcases List.append_eq_append_iff.mp h with ⟨c, h1, h2⟩ | ⟨c, h1, h2⟩
  · exact Or.inr ⟨c, h1, h2⟩
  · cases c with
    | nil => exact Or.inr ⟨[], by rw [h1]; simp, by rw [List.nil_append] at h2; exact h2.symm⟩
    | cons x t =>
      have e := List.cons.inj h2
      refine Or.inl ⟨t, ?_⟩
      rw [h1, e.1]
theorem NDS.app {nd : Nat → Option ND} {a b : List Nat} {ea eb : List Ex} (ha : NDS nd a ea) (hb : NDS nd b eb) : NDS nd (a ++ b) (ea ++ eb) := by
  refine ⟨by rw [List.length_append, List.length_append, ha.1, hb.1], fun l1 q l2 h => ?_⟩
  rcases split_app h with ⟨l3, e⟩ | ⟨l3, e1, e2⟩
  · obtain ⟨x, qe, h1, h2, h3, h4⟩ := ha.2 l1 q l3 e
    refine ⟨x, qe, ?_, h2, h3, h4⟩
    have hlt : l1.length < ea.length := by rw [← ha.1, e]; simp
    rw [List.getElem?_append_left hlt]
    exact h1
  · obtain ⟨x, qe, h1, h2, h3, h4⟩ := hb.2 l3 q l2 e2
    refine ⟨x, qe, ?_, h2, h3, fun c hc => by rw [e1]; exact List.mem_append_right _ (h4 c hc)⟩
    have : l1.length = ea.length + l3.length := by rw [e1, List.length_append, ha.1]
    rw [List.getElem?_append_right (by omega), this, Nat.add_sub_cancel_left]
    exact h1
theorem NDS.one {nd : Nat → Option ND} {ql : List Nat} {el : List Ex} {p : Nat} {t : Ex} (h : NDS nd ql el) (wt : wf t) (hl : layE nd t (ql ++ [p]) p) : NDS nd (ql ++ [p]) (el ++ [t]) := by
  refine ⟨by rw [List.length_append, List.length_append, h.1]; rfl, fun l1 q l2 e => ?_⟩
  rcases split_app e with ⟨l3, e1⟩ | ⟨l3, e1, e2⟩
  · obtain ⟨x, qe, h1, h2, h3, h4⟩ := h.2 l1 q l3 e1
    refine ⟨x, qe, ?_, h2, h3, h4⟩
    have hlt : l1.length < el.length := by rw [← h.1, e1]; simp
    rw [List.getElem?_append_left hlt]
    exact h1
  · cases l3 with
    | nil =>
      have e3 := List.cons.inj e2
      rw [List.append_nil] at e1
      refine ⟨t, ql, ?_, wt, by rw [← e3.1]; exact hl, fun c hc => by rw [e1]; exact hc⟩
      rw [e1, h.1, List.getElem?_append_right (Nat.le_refl _), Nat.sub_self]; rfl
    | cons x t => 
      have e3 := (List.cons.inj e2).2
      cases t <;> cases e3
theorem lay_NDS {nd : Nat → Option ND} : ∀ t, wf t → (∀ qs p, layE nd t qs p → NDS nd qs (snE t)) ∧ (∀ ql f, layL nd t ql f → NDS nd ql (snL t)) := by
  have nil : NDS nd [] [] := ⟨rfl, fun l1 q l2 h => by cases l1 <;> cases h⟩
  refine ast_ind (fun lo hi h1 h2 => ⟨fun qs p h => ?_, fun ql f h => h.elim⟩) (fun r hr => ⟨fun qs p h => ?_, fun ql f h => h.elim⟩) (fun m a b h1 h2 wa wb ha hb => ?_) (fun k e h4 h8 we he => ⟨fun qs p h => ?_, fun ql f h => h.elim⟩)
  · have h' := h
    obtain ⟨rfl, -⟩ := h
    exact nil.one (t := xR lo hi) ⟨h1, h2⟩ h'
  · have h' := h
    obtain ⟨rfl, -⟩ := h
    exact nil.one (t := xC r) hr h'
  · have HL : ∀ ql f, layL nd (xB m a b) ql f → NDS nd ql (snL (xB m a b)) := by
      intro ql f h
      obtain ⟨qa, qb, rfl, g1, nf, g, g2, g3, g4⟩ := h
      show NDS nd (qa ++ qb) (snE a ++ (if m % 2 = 1 then snL b else snE b))
      by_cases hm : m % 2 = 1
      · rw [if_pos hm] at g4 ⊢
        exact (ha.1 qa f g1).app (hb.2 qb g g4)
      · rw [if_neg hm] at g4 ⊢
        exact (ha.1 qa f g1).app (hb.1 qb g g4.1)
    refine ⟨fun qs p h => ?_, HL⟩
    have h' := h
    obtain ⟨ql, n, f, rfl, g1, g2, g3, g4⟩ := h
    exact (HL ql f g4).one (t := xB m a b) ⟨h1, h2, wa, wb⟩ h'
  · have h' := h
    obtain ⟨ql, n, f, rfl, g1, g2, g3, g4⟩ := h
    exact (he.1 ql f g4).one (t := xS k e) ⟨rfl, h4, h8, we⟩ h'
/-! passes -/
theorem ndO_set {nd : Nat → Option ND} {p q : Nat} {v : Int32} {n : ND} (hn : nd p = some n) : ndO (setO nd p v) q = if q = p then v else ndO nd q := by
  unfold setO
  by_cases h : q = p
  · subst h
    rw [if_pos rfl]
    unfold ndO
    rw [va_up_self, hn]
    rfl
  · rw [if_neg h]
    unfold ndO
    rw [va_up_ne _ _ h]
theorem ndG_set {nd : Nat → Option ND} {p q : Nat} {v : Int32} {n : ND} (hn : nd p = some n) : ndG (setG nd p v) q = if q = p then v else ndG nd q := by
  unfold setG
  by_cases h : q = p
  · subst h
    rw [if_pos rfl]
    unfold ndG
    rw [va_up_self, hn]
    rfl
  · rw [if_neg h]
    unfold ndG
    rw [va_up_ne _ _ h]
theorem ndO_setG {nd : Nat → Option ND} {p q : Nat} {v : Int32} : ndO (setG nd p v) q = ndO nd q := by
  unfold setG ndO
  by_cases h : q = p
  · subst h
    rw [va_up_self]
    cases nd q <;> rfl
  · rw [va_up_ne _ _ h]
theorem pasO_out {K : Nat → List Nat} {rt : Nat → Nat} : ∀ (ps : List Nat) (nd : Nat → Option ND), (∀ p ∈ ps, ∃ n, nd p = some n) → ∀ q, q ∉ ps → ndO (pasO K rt ps nd) q = ndO nd q
  | [], nd, _, q, _ => rfl
  | p :: t, nd, hn, q, hq => by
    obtain ⟨n, hp⟩ := hn p (List.mem_cons_self)
    unfold pasO
    rw [pasO_out t _ (fun x hx => by
      obtain ⟨m, hm⟩ := hn x (List.mem_cons_of_mem _ hx)
      obtain ⟨m', hm', -⟩ := (skE.setO (nd := nd) (p := p) (v := outV nd K rt p)).get hm
      exact ⟨m', hm'⟩) q (fun h => hq (List.mem_cons_of_mem _ h)), ndO_set hp, if_neg (fun e => hq (by rw [e]; exact List.mem_cons_self))]
theorem pasG_out {K : Nat → List Nat} {rt : Nat → Nat} : ∀ (ps : List Nat) (nd : Nat → Option ND), (∀ p ∈ ps, ∃ n, nd p = some n) → ∀ q, (q ∉ ps → ndG (pasG K rt ps nd) q = ndG nd q) ∧ ndO (pasG K rt ps nd) q = ndO nd q
  | [], nd, _, q => ⟨fun _ => rfl, rfl⟩
  | p :: t, nd, hn, q => by
    obtain ⟨n, hp⟩ := hn p (List.mem_cons_self)
    obtain ⟨h1, h2⟩ := pasG_out (K := K) (rt := rt) t (setG nd p (godV nd K rt p)) (fun x hx => by
      obtain ⟨m, hm⟩ := hn x (List.mem_cons_of_mem _ hx)
      obtain ⟨m', hm', -⟩ := (skE.setG (nd := nd) (p := p) (v := godV nd K rt p)).get hm
      exact ⟨m', hm'⟩) q
    unfold pasG
    refine ⟨fun hq => ?_, by rw [h2, ndO_setG]⟩
    rw [h1 (fun h => hq (List.mem_cons_of_mem _ h)), ndG_set hp, if_neg (fun e => hq (by rw [e]; exact List.mem_cons_self))]
theorem pasO_app {K : Nat → List Nat} {rt : Nat → Nat} : ∀ (a b : List Nat) (nd : Nat → Option ND), pasO K rt (a ++ b) nd = pasO K rt b (pasO K rt a nd)
  | [], b, nd => rfl
  | p :: t, b, nd => pasO_app t b _
theorem pasG_app {K : Nat → List Nat} {rt : Nat → Nat} : ∀ (a b : List Nat) (nd : Nat → Option ND), pasG K rt (a ++ b) nd = pasG K rt b (pasG K rt a nd)
  | [], b, nd => rfl
  | p :: t, b, nd => pasG_app t b _
theorem pasO_at {K : Nat → List Nat} {rt : Nat → Nat} {l1 l2 : List Nat} {q : Nat} {nd : Nat → Option ND} (hn : ∀ p ∈ l1 ++ q :: l2, ∃ n, nd p = some n) (hd : (l1 ++ q :: l2).Nodup) : ndO (pasO K rt (l1 ++ q :: l2) nd) q = outV (pasO K rt l1 nd) K rt q ∧ (∀ c ∈ l1, ndO (pasO K rt (l1 ++ q :: l2) nd) c = ndO (pasO K rt l1 nd) c) ∧ ∀ c, c ∉ l1 → ndO (pasO K rt l1 nd) c = ndO nd c := by
  have hd2 := List.nodup_append.mp hd
  have hqn := List.nodup_cons.mp hd2.2.1
  have sk1 := pasO_sk (K := K) (rt := rt) l1 nd
  have ex : ∀ p ∈ l1 ++ q :: l2, ∃ n, pasO K rt l1 nd p = some n := fun p hp => by
    obtain ⟨n, h⟩ := hn p hp
    obtain ⟨n', h', -⟩ := sk1.get h
    exact ⟨n', h'⟩
  obtain ⟨nq, hq⟩ := ex q (List.mem_append_right _ List.mem_cons_self)
  have ex2 : ∀ p ∈ l2, ∃ n, setO (pasO K rt l1 nd) q (outV (pasO K rt l1 nd) K rt q) p = some n := fun p hp => by
    obtain ⟨n, h⟩ := ex p (List.mem_append_right _ (List.mem_cons_of_mem _ hp))
    obtain ⟨n', h', -⟩ := (skE.setO (nd := pasO K rt l1 nd) (p := q) (v := outV (pasO K rt l1 nd) K rt q)).get h
    exact ⟨n', h'⟩
  rw [pasO_app]
  show ndO (pasO K rt l2 (setO (pasO K rt l1 nd) q (outV (pasO K rt l1 nd) K rt q))) q = _ ∧ (∀ c ∈ l1, ndO (pasO K rt l2 (setO (pasO K rt l1 nd) q (outV (pasO K rt l1 nd) K rt q))) c = _) ∧ _
  refine ⟨by rw [pasO_out l2 _ ex2 q hqn.1, ndO_set hq, if_pos rfl], fun c hc => ?_, fun c hc => pasO_out l1 nd (fun p hp => hn p (List.mem_append_left _ hp)) c hc⟩
  have hcq : c ≠ q := hd2.2.2 c hc q List.mem_cons_self
  rw [pasO_out l2 _ ex2 c (fun h => hd2.2.2 c hc c (List.mem_cons_of_mem _ h) rfl), ndO_set hq, if_neg hcq]
theorem pasG_at {K : Nat → List Nat} {rt : Nat → Nat} {l1 l2 : List Nat} {q : Nat} {nd : Nat → Option ND} (hn : ∀ p ∈ l1 ++ q :: l2, ∃ n, nd p = some n) (hd : (l1 ++ q :: l2).Nodup) : ndG (pasG K rt (l1 ++ q :: l2) nd) q = godV (pasG K rt l1 nd) K rt q ∧ (∀ c ∈ l1, ndG (pasG K rt (l1 ++ q :: l2) nd) c = ndG (pasG K rt l1 nd) c) ∧ (∀ c, c ∉ l1 → ndG (pasG K rt l1 nd) c = ndG nd c) ∧ ∀ c, ndO (pasG K rt l1 nd) c = ndO nd c := by
  have hd2 := List.nodup_append.mp hd
  have hqn := List.nodup_cons.mp hd2.2.1
  have sk1 := pasG_sk (K := K) (rt := rt) l1 nd
  have ex : ∀ p ∈ l1 ++ q :: l2, ∃ n, pasG K rt l1 nd p = some n := fun p hp => by
    obtain ⟨n, h⟩ := hn p hp
    obtain ⟨n', h', -⟩ := sk1.get h
    exact ⟨n', h'⟩
  obtain ⟨nq, hq⟩ := ex q (List.mem_append_right _ List.mem_cons_self)
  have ex2 : ∀ p ∈ l2, ∃ n, setG (pasG K rt l1 nd) q (godV (pasG K rt l1 nd) K rt q) p = some n := fun p hp => by
    obtain ⟨n, h⟩ := ex p (List.mem_append_right _ (List.mem_cons_of_mem _ hp))
    obtain ⟨n', h', -⟩ := (skE.setG (nd := pasG K rt l1 nd) (p := q) (v := godV (pasG K rt l1 nd) K rt q)).get h
    exact ⟨n', h'⟩
  have hl1 : ∀ p ∈ l1, ∃ n, nd p = some n := fun p hp => hn p (List.mem_append_left _ hp)
  rw [pasG_app]
  show ndG (pasG K rt l2 (setG (pasG K rt l1 nd) q (godV (pasG K rt l1 nd) K rt q))) q = _ ∧ (∀ c ∈ l1, ndG (pasG K rt l2 (setG (pasG K rt l1 nd) q (godV (pasG K rt l1 nd) K rt q))) c = _) ∧ _
  refine ⟨by rw [(pasG_out l2 _ ex2 q).1 hqn.1, ndG_set hq, if_pos rfl], fun c hc => ?_, fun c hc => (pasG_out l1 nd hl1 c).1 hc, fun c => (pasG_out l1 nd hl1 c).2⟩
  have hcq : c ≠ q := hd2.2.2 c hc q List.mem_cons_self
  rw [(pasG_out l2 _ ex2 c).1 (fun h => hd2.2.2 c hc c (List.mem_cons_of_mem _ h) rfl), ndG_set hq, if_neg hcq]
