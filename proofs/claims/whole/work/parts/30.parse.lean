/-! What a text is read as: pG j reads a choice that may have j groups more inside one another; its answer is the expression and the place behind it, or none and the place of the fault. -/
abbrev Pr : Type := Option Ex × Nat
def pRange (tx : Nat → Nat) (a : Nat) : Pr :=
  if ¬ isL (tx (a + 1)) then (none, a + 1) else if ¬ tx (a + 2) = 45 then (none, a + 2) else if ¬ (isL (tx (a + 3)) ∧ tx (a + 1) ≤ tx (a + 3)) then (none, a + 3) else if ¬ tx (a + 4) = 93 then (none, a + 4) else (some (xR (tx (a + 1) - 97) (tx (a + 3) - 97)), a + 5)
def pUnit (tx : Nat → Nat) (D : Option (Nat → Pr)) (a : Nat) : Pr :=
  if tx a = 91 then pRange tx a
  else if tx a = 40 then (match D with
    | none => (none, a)
    | some g => match g (a + 1) with
      | (none, b) => (none, b)
      | (some e, b) => if tx b = 41 then (some e, b + 1) else (none, b))
  else if tx a = 46 then (some (xR 0 8), a + 1)
  else if isL (tx a) then (some (xR (tx a - 97) (tx a - 97)), a + 1)
  else if isR (tx a) then (some (xC (tx a - 65)), a + 1)
  else (none, a)
def sgn (k : Nat) (e : Ex) : Ex := if k = 0 then e else xS (k - 1) e
def pPart (tx : Nat → Nat) (D : Option (Nat → Pr)) (a : Nat) : Pr := match pUnit tx D (if sB (tx a) = 0 then a else a + 1) with
  | (none, b) => (none, b)
  | (some e, b) => (some (sgn (sB (tx a)) (sgn (sE (tx b)) e)), if sE (tx b) = 0 then b else b + 1)
def pRowL (tx : Nat → Nat) (P : Nat → Pr) : Nat → Nat → Option (List Ex) × Nat
  | 0, a => (some [], a)
  | f + 1, a => if bgP (tx a) then (match P a with
      | (none, b) => (none, b)
      | (some e, b) => match pRowL tx P f b with
        | (none, c) => (none, c)
        | (some t, c) => (some (e :: t), c)) else (some [], a)
def pChL (tx : Nat → Nat) (P : Nat → Pr) : Nat → Nat → Option (List Ex) × Nat
  | 0, a => (some [], a)
  | f + 1, a => if tx a = 47 then (match P (a + 1) with
      | (none, b) => (none, b)
      | (some e, b) => match pChL tx P f b with
        | (none, c) => (none, c)
        | (some t, c) => (some (e :: t), c)) else (some [], a)
/-- several in a row (m 0) or in a choice (m 2) -/
def mkB (m : Nat) : Ex → List Ex → Ex
  | e, [] => e
  | e, [x] => xB m e x
  | e, x :: y :: t => xB (m + 1) e (mkB m x (y :: t))
def pRow (tx : Nat → Nat) (P : Nat → Pr) (a : Nat) : Pr := match P a with
  | (none, b) => (none, b)
  | (some e, b) => match pRowL tx P 24 b with
    | (none, c) => (none, c)
    | (some t, c) => (some (mkB 0 e t), c)
def pChoice (tx : Nat → Nat) (P : Nat → Pr) (a : Nat) : Pr := match P a with
  | (none, b) => (none, b)
  | (some e, b) => match pChL tx P 24 b with
    | (none, c) => (none, c)
    | (some t, c) => (some (mkB 2 e t), c)
def pG (tx : Nat → Nat) : Nat → Nat → Pr
  | 0 => pChoice tx (pRow tx (pPart tx none))
  | j + 1 => pChoice tx (pRow tx (pPart tx (some (pG tx j))))
/-- the parsers of a depth -/
def pD (tx : Nat → Nat) : Nat → Option (Nat → Pr)
  | 0 => none
  | j + 1 => some (pG tx j)
theorem pG_eq (tx : Nat → Nat) (j : Nat) : pG tx j = pChoice tx (pRow tx (pPart tx (pD tx j))) := by cases j <;> rfl
/-! how the class's nodes stand for an expression: qs the nodes in the order in which they were made, p the root -/
def nl5 (n : ND) : Int32 × Int32 × Int32 × Option Nat × Option Nat := (n.1, n.2.1, n.2.2.1, n.2.2.2.1, n.2.2.2.2.1)
def nl4 (n : ND) : Int32 × Int32 × Int32 × Option Nat := (n.1, n.2.1, n.2.2.1, n.2.2.2.1)
def lay2 (nd : Nat → Option ND) : Ex → (List Nat → Nat → Prop) × (List Nat → Nat → Prop)
  | .tag lo (.tag hi .nil) => (fun qs p => qs = [p] ∧ ∃ n, nd p = some n ∧ n.1 = nI 1 ∧ n.2.1 = nI (97 + lo) ∧ n.2.2.1 = nI (97 + hi), fun _ _ => False)
  | .tag r .line => (fun qs p => qs = [p] ∧ ∃ n, nd p = some n ∧ n.1 = nI 2 ∧ n.2.1 = nI r, fun _ _ => False)
  | .tag m (.append a b) =>
    (fun qs p => ∃ ql n f, qs = ql ++ [p] ∧ nd p = some n ∧ n.1 = nI (3 + m / 2) ∧ n.2.2.2.1 = some f ∧ ∃ qa qb, ql = qa ++ qb ∧ (lay2 nd a).1 qa f ∧ ∃ nf g, nd f = some nf ∧ nNext nf = some g ∧ (if m % 2 = 1 then (lay2 nd b).2 qb g else (lay2 nd b).1 qb g ∧ ∃ ng, nd g = some ng ∧ nNext ng = none),
     fun ql f => ∃ qa qb, ql = qa ++ qb ∧ (lay2 nd a).1 qa f ∧ ∃ nf g, nd f = some nf ∧ nNext nf = some g ∧ (if m % 2 = 1 then (lay2 nd b).2 qb g else (lay2 nd b).1 qb g ∧ ∃ ng, nd g = some ng ∧ nNext ng = none))
  | .tag k (.nest _ e) => (fun qs p => ∃ qe n f, qs = qe ++ [p] ∧ nd p = some n ∧ n.1 = nI (k + 1) ∧ n.2.2.2.1 = some f ∧ (lay2 nd e).1 qe f, fun _ _ => False)
  | _ => (fun _ _ => False, fun _ _ => False)
abbrev layE (nd : Nat → Option ND) (t : Ex) (qs : List Nat) (p : Nat) : Prop := (lay2 nd t).1 qs p
abbrev layL (nd : Nat → Option ND) (t : Ex) (qs : List Nat) (f : Nat) : Prop := (lay2 nd t).2 qs f
theorem layE_mem {nd : Nat → Option ND} : ∀ t, wf t → ∀ qs p, layE nd t qs p → p ∈ qs := by
  refine ast_ind (fun lo hi _ _ qs p h => ?_) (fun r _ qs p h => ?_) (fun m a b _ _ _ _ _ _ qs p h => ?_) (fun k e _ _ _ _ qs p h => ?_)
  · obtain ⟨rfl, -⟩ := h
    exact List.mem_singleton.mpr rfl
  · obtain ⟨rfl, -⟩ := h
    exact List.mem_singleton.mpr rfl
  · obtain ⟨ql, n, f, rfl, -⟩ := h
    exact List.mem_append_right _ (List.mem_singleton.mpr rfl)
  · obtain ⟨ql, n, f, rfl, -⟩ := h
    exact List.mem_append_right _ (List.mem_singleton.mpr rfl)
theorem lay_fr {nd nd' : Nat → Option ND} : ∀ t, wf t → (∀ qs p, qs.Nodup → layE nd t qs p → (∀ q ∈ qs, q ≠ p → ∀ n, nd q = some n → ∃ n', nd' q = some n' ∧ nl5 n' = nl5 n) → (∀ n, nd p = some n → ∃ n', nd' p = some n' ∧ nl4 n' = nl4 n) → layE nd' t qs p) ∧ (∀ ql f, ql.Nodup → layL nd t ql f → (∀ q ∈ ql, ∀ n, nd q = some n → ∃ n', nd' q = some n' ∧ nl5 n' = nl5 n) → layL nd' t ql f) := by
  have l45 : ∀ {n n' : ND}, nl5 n' = nl5 n → nl4 n' = nl4 n := fun h => by
    simp only [nl5, nl4, Prod.mk.injEq] at h ⊢
    exact ⟨h.1, h.2.1, h.2.2.1, h.2.2.2.1⟩
  refine ast_ind (fun lo hi _ _ => ⟨fun qs p _ h _ hp => ?_, fun ql f _ h _ => h.elim⟩) (fun r _ => ⟨fun qs p _ h _ hp => ?_, fun ql f _ h _ => h.elim⟩) (fun m a b hm _ wa wb ha hb => ?_) (fun k e _ _ we he => ⟨fun qs p hnd h hq hp => ?_, fun ql f _ h _ => h.elim⟩)
  · obtain ⟨e, n, hn, h1, h2, h3⟩ := h
    obtain ⟨n', hn', h4⟩ := hp n hn
    simp only [nl4, Prod.mk.injEq] at h4
    exact ⟨e, n', hn', by rw [h4.1]; exact h1, by rw [h4.2.1]; exact h2, by rw [h4.2.2.1]; exact h3⟩
  · obtain ⟨e, n, hn, h1, h2⟩ := h
    obtain ⟨n', hn', h4⟩ := hp n hn
    simp only [nl4, Prod.mk.injEq] at h4
    exact ⟨e, n', hn', by rw [h4.1]; exact h1, by rw [h4.2.1]; exact h2⟩
  · have hL : ∀ ql f, ql.Nodup → layL nd (xB m a b) ql f → (∀ q ∈ ql, ∀ n, nd q = some n → ∃ n', nd' q = some n' ∧ nl5 n' = nl5 n) → layL nd' (xB m a b) ql f := by
      intro ql f hnd h hq
      obtain ⟨qa, qb, rfl, h1, nf, g, h2, h3, h4⟩ := h
      have hna := (List.nodup_append.mp hnd).1
      have hnb := (List.nodup_append.mp hnd).2.1
      have fa := layE_mem a wa qa f h1
      obtain ⟨nf', hnf', e5⟩ := hq f (List.mem_append_left _ fa) nf h2
      have A := ha.1 qa f hna h1 (fun q hq1 _ n hn => hq q (List.mem_append_left _ hq1) n hn) (fun n hn => by
        obtain ⟨n', g1, g2⟩ := hq f (List.mem_append_left _ fa) n hn
        exact ⟨n', g1, l45 g2⟩)
      have e6 : nNext nf' = some g := by
        simp only [nl5, Prod.mk.injEq] at e5
        exact e5.2.2.2.2.trans h3
      refine ⟨qa, qb, rfl, A, nf', g, hnf', e6, ?_⟩
      by_cases hm2 : m % 2 = 1
      · rw [if_pos hm2] at h4 ⊢
        exact hb.2 qb g hnb h4 (fun q hq1 n hn => hq q (List.mem_append_right _ hq1) n hn)
      · rw [if_neg hm2] at h4 ⊢
        obtain ⟨h5, ng, h6, h7⟩ := h4
        have gb := layE_mem b wb qb g h5
        obtain ⟨ng', k1, k2⟩ := hq g (List.mem_append_right _ gb) ng h6
        refine ⟨hb.1 qb g hnb h5 (fun q hq1 _ n hn => hq q (List.mem_append_right _ hq1) n hn) (fun n hn => ?_), ng', k1, ?_⟩
        · obtain ⟨n', g1, g2⟩ := hq g (List.mem_append_right _ gb) n hn
          exact ⟨n', g1, l45 g2⟩
        · simp only [nl5, Prod.mk.injEq] at k2
          exact k2.2.2.2.2.trans h7
    refine ⟨fun qs p hnd h hq hp => ?_, hL⟩
    obtain ⟨ql, n, f, rfl, h1, h2, h3, h4⟩ := h
    have hnl := (List.nodup_append.mp hnd).1
    have hpl : ∀ q ∈ ql, q ≠ p := fun q hq1 => (List.nodup_append.mp hnd).2.2 q hq1 p (List.mem_singleton.mpr rfl)
    obtain ⟨n', hn', e4⟩ := hp n h1
    simp only [nl4, Prod.mk.injEq] at e4
    exact ⟨ql, n', f, rfl, hn', by rw [e4.1]; exact h2, by rw [e4.2.2.2]; exact h3, hL ql f hnl h4 (fun q hq1 n hn => hq q (List.mem_append_left _ hq1) (hpl q hq1) n hn)⟩
  · obtain ⟨ql, n, f, rfl, h1, h2, h3, h4⟩ := h
    have hnl := (List.nodup_append.mp hnd).1
    have hpl : ∀ q ∈ ql, q ≠ p := fun q hq1 => (List.nodup_append.mp hnd).2.2 q hq1 p (List.mem_singleton.mpr rfl)
    obtain ⟨n', hn', e4⟩ := hp n h1
    simp only [nl4, Prod.mk.injEq] at e4
    refine ⟨ql, n', f, rfl, hn', by rw [e4.1]; exact h2, by rw [e4.2.2.2]; exact h3, he.1 ql f hnl h4 (fun q hq1 _ n hn => hq q (List.mem_append_left _ hq1) (hpl q hq1) n hn) (fun n hn => ?_)⟩
    have fm := layE_mem e we ql f h4
    obtain ⟨n', g1, g2⟩ := hq f (List.mem_append_left _ fm) (hpl f fm) n hn
    exact ⟨n', g1, l45 g2⟩
theorem lay_rep {nd : Nat → Option ND} : ∀ t, wf t → (∀ qs p, layE nd t qs p → rep nd t p) ∧ (∀ ql f, layL nd t ql f → repL nd t f) := by
  refine ast_ind (fun lo hi _ _ => ⟨fun qs p h => h.2, fun ql f h => h.elim⟩) (fun r _ => ⟨fun qs p h => h.2, fun ql f h => h.elim⟩) (fun m a b hm _ wa wb ha hb => ?_) (fun k e _ _ we he => ⟨fun qs p h => ?_, fun ql f h => h.elim⟩)
  · have hL : ∀ ql f, layL nd (xB m a b) ql f → repL nd (xB m a b) f := by
      intro ql f h
      obtain ⟨qa, qb, -, h1, nf, g, h2, h3, h4⟩ := h
      refine ⟨ha.1 qa f h1, nf, g, h2, h3, ?_⟩
      by_cases hm2 : m % 2 = 1
      · rw [if_pos hm2] at h4 ⊢
        exact hb.2 qb g h4
      · rw [if_neg hm2] at h4 ⊢
        exact ⟨hb.1 qb g h4.1, h4.2⟩
    refine ⟨fun qs p h => ?_, hL⟩
    obtain ⟨ql, n, f, -, h1, h2, h3, h4⟩ := h
    exact ⟨n, f, h1, h2, h3, hL ql f h4⟩
  · obtain ⟨ql, n, f, -, h1, h2, h3, h4⟩ := h
    exact ⟨n, f, h1, h2, h3, he.1 ql f h4⟩
