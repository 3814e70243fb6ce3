/-! The class's passes over all rules come to the least solution. -/
/-- all rules in an expression are such -/
def RP (P : Nat → Prop) : Ex → Prop
  | .tag _ (.tag _ .nil) => True
  | .tag r .line => P r
  | .tag _ (.append a b) => RP P a ∧ RP P b
  | .tag _ (.nest _ e) => RP P e
  | _ => True
theorem RP.mono {P Q : Nat → Prop} (h : ∀ r, r < 6 → P r → Q r) : ∀ t, wf t → RP P t → RP Q t :=
  ast_ind (fun _ _ _ _ _ => trivial) (fun r hr g => h r hr g) (fun _ _ _ _ _ _ _ ha hb g => ⟨ha g.1, hb g.2⟩) (fun _ _ _ _ _ he g => he g)
theorem oE_cg {O O' : Nat → Int32} : ∀ t, wf t → RP (fun r => O r = O' r) t → oE O t = oE O' t :=
  ast_ind (fun _ _ _ _ _ => rfl) (fun r _ h => h) (fun m a b _ _ _ _ ha hb h => by
    show (if m < 2 then mrI (oE O a) (oE O b) else mcI (oE O a) (oE O b)) = if m < 2 then mrI (oE O' a) (oE O' b) else mcI (oE O' a) (oE O' b)
    rw [ha h.1, hb h.2]) (fun k e _ _ _ he h => by show msI k (oE O e) = msI k (oE O' e); rw [he h])
theorem gE_cg {O O' : Nat → Int32} {G G' : Nat → Bool} : ∀ t, wf t → RP (fun r => O r = O' r ∧ G r = G' r) t → gE O G t = gE O' G' t :=
  ast_ind (fun _ _ _ _ _ => rfl) (fun r _ h => h.2) (fun m a b _ _ wa wb ha hb h => by
    show (if m < 2 then gE O G a && (oE O a &&& nI 1 == 0 || gE O G b) else gE O G a && gE O G b) = if m < 2 then gE O' G' a && (oE O' a &&& nI 1 == 0 || gE O' G' b) else gE O' G' a && gE O' G' b
    rw [ha h.1, hb h.2, oE_cg a wa (h.1.mono (fun _ _ h => h.1) a wa)]) (fun k e _ _ we he h => by
    show (if k = 4 ∨ k = 5 then gE O G e && (oE O e &&& nI 1 == 0) else gE O G e) = if k = 4 ∨ k = 5 then gE O' G' e && (oE O' e &&& nI 1 == 0) else gE O' G' e
    rw [he h, oE_cg e we (RP.mono (fun _ _ h => h.1) e we h)])
theorem oE_mono {P : Nat → Prop} {O O' : Nat → Int32} (hO : ∀ r, r < 6 → sm8 (O r)) (hO' : ∀ r, r < 6 → sm8 (O' r)) (h : ∀ r, r < 6 → P r → le8 (O r) (O' r)) : ∀ t, wf t → RP P t → le8 (oE O t) (oE O' t) :=
  ast_ind (fun _ _ _ _ _ => le8.rf ⟨6, rfl⟩) (fun r hr g => h r hr g) (fun m a b _ _ wa wb ha hb g => by
    obtain ⟨i, hi⟩ := oE_sm hO a wa
    obtain ⟨j, hj⟩ := oE_sm hO b wb
    obtain ⟨i2, hi2⟩ := oE_sm hO' a wa
    obtain ⟨j2, hj2⟩ := oE_sm hO' b wb
    have m1 := ha g.1
    have m2 := hb g.2
    rw [hi, hi2] at m1
    rw [hj, hj2] at m2
    show le8 (if m < 2 then mrI (oE O a) (oE O b) else mcI (oE O a) (oE O b)) (if m < 2 then mrI (oE O' a) (oE O' b) else mcI (oE O' a) (oE O' b))
    rw [hi, hj, hi2, hj2]
    split
    · exact mr_mono i j i2 j2 m1 m2
    · exact mc_mono i j i2 j2 m1 m2) (fun k e h4 h8 we he g => by
    obtain ⟨i, hi⟩ := oE_sm hO e we
    obtain ⟨i2, hi2⟩ := oE_sm hO' e we
    have m1 := he g
    rw [hi, hi2] at m1
    show le8 (msI k (oE O e)) (msI k (oE O' e))
    rw [hi, hi2]
    exact msI_mono h4 h8 m1)
theorem gE_mono {P : Nat → Prop} {O : Nat → Int32} {G G' : Nat → Bool} (h : ∀ r, r < 6 → P r → G r = true → G' r = true) : ∀ t, wf t → RP P t → gE O G t = true → gE O G' t = true :=
  ast_ind (fun _ _ _ _ _ _ => rfl) (fun r hr g e => h r hr g e) (fun m a b _ _ wa wb ha hb g => by
    show (if m < 2 then gE O G a && (oE O a &&& nI 1 == 0 || gE O G b) else gE O G a && gE O G b) = true → (if m < 2 then gE O G' a && (oE O a &&& nI 1 == 0 || gE O G' b) else gE O G' a && gE O G' b) = true
    split
    · intro e
      rw [Bool.and_eq_true, Bool.or_eq_true] at e ⊢
      exact ⟨ha g.1 e.1, e.2.imp_right (hb g.2)⟩
    · intro e
      rw [Bool.and_eq_true] at e ⊢
      exact ⟨ha g.1 e.1, hb g.2 e.2⟩) (fun k e _ _ we he g => by
    show (if k = 4 ∨ k = 5 then gE O G e && (oE O e &&& nI 1 == 0) else gE O G e) = true → (if k = 4 ∨ k = 5 then gE O G' e && (oE O e &&& nI 1 == 0) else gE O G' e) = true
    split
    · intro q
      rw [Bool.and_eq_true] at q ⊢
      exact ⟨he g q.1, q.2⟩
    · exact he g)
theorem layE_sk {nd nd' : Nat → Option ND} (h : skE nd nd') (t : Ex) (wt : wf t) (qs : List Nat) (p : Nat) (hd : qs.Nodup) (hl : layE nd t qs p) : layE nd' t qs p := by
  have e5 : ∀ {n n' : ND}, sk n' = sk n → nl5 n' = nl5 n := fun e => by
    obtain ⟨e1, e2, e3, e4, e5, e6⟩ := sk_eq e
    unfold nl5
    rw [e1, e2, e3, e4]
    exact congrArg (fun z => (_, _, _, _, z)) e5
  have e4 : ∀ {n n' : ND}, sk n' = sk n → nl4 n' = nl4 n := fun e => by
    obtain ⟨e1, e2, e3, e4, e5, e6⟩ := sk_eq e
    unfold nl4
    rw [e1, e2, e3, e4]
  exact (lay_fr t wt).1 qs p hd hl (fun q _ _ n hn => by obtain ⟨n', h1, h2⟩ := h.get hn; exact ⟨n', h1, e5 h2⟩) (fun n hn => by obtain ⟨n', h1, h2⟩ := h.get hn; exact ⟨n', h1, e4 h2⟩)
theorem lay_ex {nd : Nat → Option ND} {t : Ex} (wt : wf t) {qs : List Nat} {p : Nat} (h : layE nd t qs p) : ∀ q ∈ qs, ∃ n, nd q = some n := by
  intro q hq
  obtain ⟨l1, l2, e⟩ := List.append_of_mem hq
  obtain ⟨x, qz, -, h2, h3, -⟩ := ((lay_NDS t wt).1 qs p h).2 l1 q l2 e
  revert h3
  exact ast_ind (P := fun x => layE nd x (qz ++ [q]) q → ∃ n, nd q = some n) (fun _ _ _ _ h => by obtain ⟨-, n, h, -⟩ := h; exact ⟨n, h⟩) (fun _ _ h => by obtain ⟨-, n, h, -⟩ := h; exact ⟨n, h⟩) (fun _ _ _ _ _ _ _ _ _ h => by obtain ⟨_, n, _, _, h, -⟩ := h; exact ⟨n, h⟩) (fun _ _ _ _ _ _ h => by obtain ⟨_, n, _, _, h, -⟩ := h; exact ⟨n, h⟩) x h2
theorem layE_last {nd : Nat → Option ND} : ∀ t, wf t → ∀ qs p, layE nd t qs p → ∃ qz, qs = qz ++ [p] :=
  ast_ind (fun _ _ _ _ qs p h => ⟨[], h.1⟩) (fun _ _ qs p h => ⟨[], h.1⟩) (fun _ _ _ _ _ _ _ _ _ qs p h => by obtain ⟨ql, _, _, e, -⟩ := h; exact ⟨ql, e⟩) (fun _ _ _ _ _ _ qs p h => by obtain ⟨ql, _, _, e, -⟩ := h; exact ⟨ql, e⟩)
theorem snE_sz : ∀ t, wf t → (∀ e ∈ snE t, sz e ≤ sz t) ∧ (∀ e ∈ snL t, sz e ≤ sz t) := by
  refine ast_ind (fun lo hi _ _ => ⟨fun e he => by rw [List.mem_singleton.mp he]; exact Nat.le_refl _, fun e he => by cases he⟩) (fun r _ => ⟨fun e he => by rw [List.mem_singleton.mp he]; exact Nat.le_refl _, fun e he => by cases he⟩) (fun m a b _ _ _ _ ha hb => ?_) (fun k e _ _ _ he => ⟨fun x hx => ?_, fun e he => by cases he⟩)
  · have hs : sz (xB m a b) = sz a + sz b + 1 := rfl
    have HL : ∀ e ∈ snL (xB m a b), sz e ≤ sz (xB m a b) := fun e he => by
      rw [hs]
      have he : e ∈ snE a ++ (if m % 2 = 1 then snL b else snE b) := he
      rcases List.mem_append.mp he with h | h
      · have := ha.1 e h; omega
      · split at h
        · have := hb.2 e h; omega
        · have := hb.1 e h; omega
    refine ⟨fun e he => ?_, HL⟩
    have he : e ∈ snL (xB m a b) ++ [xB m a b] := he
    rcases List.mem_append.mp he with h | h
    · exact HL e h
    · rw [List.mem_singleton.mp h]; exact Nat.le_refl _
  · have hs : sz (xS k e) = sz e + 1 := rfl
    have hx : x ∈ snE e ++ [xS k e] := hx
    rcases List.mem_append.mp hx with h | h
    · have := he.1 x h; omega
    · rw [List.mem_singleton.mp h]; exact Nat.le_refl _
/-- the class's grammar: the expressions tt of the rules that are there, their nodes, and their roots -/
def CLY (es : Nat → Option Nat) (rt : Nat → Nat) (ps : Nat → List Nat) (tt : Nat → Ex) (nd : Nat → Option ND) : Prop := (∀ r, r < 6 → es r ≠ none → layE nd (tt r) (ps r) (rt r) ∧ wf (tt r) ∧ sz (tt r) ≤ 63 ∧ (ps r).Nodup ∧ RP (fun q => es q ≠ none) (tt r)) ∧ (∀ r q, r < 6 → q < 6 → es r ≠ none → es q ≠ none → r ≠ q → ∀ c ∈ ps r, c ∉ ps q) ∧ ∀ r, r < 6 → ∃ q, q < 6 ∧ es q ≠ none ∧ rt r = rt q
theorem CLY.sk {es : Nat → Option Nat} {rt : Nat → Nat} {ps : Nat → List Nat} {tt : Nat → Ex} {nd nd' : Nat → Option ND} (h : CLY es rt ps tt nd) (hs : skE nd nd') : CLY es rt ps tt nd' :=
  ⟨fun r hr he => by obtain ⟨a, b, c, d, e⟩ := h.1 r hr he; exact ⟨layE_sk hs _ b _ _ d a, b, c, d, e⟩, h.2⟩
theorem CLY.rt {es : Nat → Option Nat} {rt : Nat → Nat} {ps : Nat → List Nat} {tt : Nat → Ex} {nd : Nat → Option ND} (h : CLY es rt ps tt nd) {r : Nat} (hr : r < 6) (he : es r ≠ none) : (∀ q, q < 6 → es q ≠ none → q ≠ r → rt q ∉ ps r) ∧ (∀ l1 x l2, ps r = l1 ++ x :: l2 → ∀ q, q < 6 → rt q ∉ l1) ∧ rt r ∈ ps r := by
  obtain ⟨h1, h2, h3⟩ := h
  have mem : ∀ q, q < 6 → es q ≠ none → rt q ∈ ps q := fun q hq hx => by
    obtain ⟨a, b, c, d, e⟩ := h1 q hq hx
    exact layE_mem _ b _ _ a
  have ne : ∀ q, q < 6 → es q ≠ none → q ≠ r → rt q ∉ ps r := fun q hq hx hqr hc => h2 q r hq hr hx he hqr _ (mem q hq hx) hc
  refine ⟨ne, fun l1 x l2 e q hq hc => ?_, mem r hr he⟩
  obtain ⟨q', hq', hx', e'⟩ := h3 q hq
  rw [e'] at hc
  have hin : rt q' ∈ ps r := by rw [e]; exact List.mem_append_left _ hc
  by_cases hqr : q' = r
  · subst hqr
    obtain ⟨a, b, c, d, e9⟩ := h1 q' hq' hx'
    obtain ⟨qz, e2⟩ := layE_last _ b _ _ a
    rw [e2] at e d
    have hdd := List.nodup_append.mp d
    rcases split_app e with ⟨l3, e3⟩ | ⟨l3, e3, e4⟩
    · exact hdd.2.2 (rt q') (by rw [e3]; exact List.mem_append_left _ hc) (rt q') (List.mem_singleton.mpr rfl) rfl
    · cases l3 with
      | nil =>
        rw [List.append_nil] at e3
        rw [e3] at hc
        exact hdd.2.2 (rt q') hc (rt q') (List.mem_singleton.mpr rfl) rfl
      | cons y t =>
        have := (List.cons.inj e4).2
        cases t <;> cases this
  · exact ne q' hq' hx' hqr hin
