/-! A match told again from the memory, with the list of the cells that stand right below. -/
abbrev Rp : Type := Option (Option Nat × List Nat)
def bnP (R : Rp) (f : Nat → List Nat → Rp) (g : Rp) : Rp := match R with
  | none => none
  | some (none, _) => g
  | some (some q, X) => f q X
theorem bnP_f {X : List Nat} {f : Nat → List Nat → Rp} {g : Rp} : bnP (some (none, X)) f g = g := rfl
theorem bnP_s {q : Nat} {X : List Nat} {f : Nat → List Nat → Rp} {g : Rp} : bnP (some (some q, X)) f g = f q X := rfl
def rpRep (f : Nat → Rp) : Nat → Option Nat → Nat → List Nat → Rp
  | 0, a9, _, L => some (a9, L)
  | k + 1, a9, p, L => bnP (f p) (fun q X => rpRep f k (some q) q (L ++ X)) (some (a9, L))
def rp (n : Nat) (w : Nat → Nat) (cl : Nat → Nat → Option (Option Nat)) : Ex → Nat → Rp
  | .tag lo (.tag hi .nil), p => some (if p < n ∧ lo ≤ w p ∧ w p ≤ hi then some (p + 1) else none, [])
  | .tag r .line, p => (cl r p).map (fun v => (v, match v with
    | none => []
    | some _ => [r * 21 + p]))
  | .tag m (.append a b), p =>
    if m < 2 then bnP (rp n w cl a p) (fun q X => bnP (rp n w cl b q) (fun q2 Y => some (some q2, X ++ Y)) (some (none, []))) (some (none, []))
    else bnP (rp n w cl a p) (fun q X => some (some q, X)) (rp n w cl b p)
  | .tag k (.nest _ e), p =>
    if k = 7 then bnP (rp n w cl e p) (fun _ _ => some (some p, [])) (some (none, []))
    else if k = 8 then bnP (rp n w cl e p) (fun _ _ => some (none, [])) (some (some p, []))
    else rpRep (fun q => rp n w cl e q) (if k = 6 then 1 else 21) (if k = 5 then none else some p) p []
  | _, _ => none
theorem bnP_ex {R : Rp} {f : Nat → List Nat → Rp} {g : Rp} {v : Option Nat × List Nat} (h : bnP R f g = some v) : (∃ X, R = some (none, X) ∧ g = some v) ∨ ∃ q X, R = some (some q, X) ∧ f q X = some v := by
  cases R with
  | none => cases h
  | some y =>
    obtain ⟨y1, y2⟩ := y
    cases y1 with
    | none => exact Or.inl ⟨y2, rfl, h⟩
    | some q => exact Or.inr ⟨q, y2, rfl, h⟩
/-- results keep within the input -/
def CLO (n : Nat) (cl : Nat → Nat → Option (Option Nat)) : Prop := ∀ r p q, r < 6 → p ≤ n → cl r p = some (some q) → q ≤ n
/-- what a telling gives: the place it goes to, how long the list is, and what is in it -/
def RPO (n : Nat) (cl : Nat → Nat → Option (Option Nat)) (c : Nat) (R : Option Nat × List Nat) : Prop := (∀ q, R.1 = some q → q ≤ n) ∧ R.2.length ≤ c ∧ ∀ y ∈ R.2, ∃ r p q, y = r * 21 + p ∧ r < 6 ∧ p ≤ n ∧ cl r p = some (some q)
theorem RPO.nil {n : Nat} {cl : Nat → Nat → Option (Option Nat)} {c : Nat} {v : Option Nat} (h : ∀ q, v = some q → q ≤ n) : RPO n cl c (v, []) := ⟨h, Nat.zero_le _, fun y hy => by cases hy⟩
theorem RPO.mo {n : Nat} {cl : Nat → Nat → Option (Option Nat)} {c c' : Nat} {R : Option Nat × List Nat} (h : RPO n cl c R) (hc : c ≤ c') : RPO n cl c' R := ⟨h.1, Nat.le_trans h.2.1 hc, h.2.2⟩
theorem rpRep_ok {n : Nat} {cl : Nat → Nat → Option (Option Nat)} {f : Nat → Rp} {c : Nat} (hf : ∀ p R, p ≤ n → f p = some R → RPO n cl c R) : ∀ (k : Nat) (a9 : Option Nat) (p : Nat) (L : List Nat) (c0 : Nat) (R : Option Nat × List Nat), p ≤ n → RPO n cl c0 (a9, L) → rpRep f k a9 p L = some R → RPO n cl (c0 + k * c) R
  | 0, a9, p, L, c0, R, _, h, e => by cases e; exact h.mo (by omega)
  | k + 1, a9, p, L, c0, R, hp, h, e => by
    unfold rpRep at e
    rw [Nat.add_mul, Nat.one_mul]
    rcases bnP_ex e with ⟨X, e1, e2⟩ | ⟨q, X, e1, e2⟩
    · cases e2; exact h.mo (by omega)
    · obtain ⟨h1, h2, h3⟩ := hf p _ hp e1
      have hq := h1 q rfl
      refine (rpRep_ok hf k (some q) q (L ++ X) (c0 + c) R hq ⟨fun q' e => by cases e; exact hq, ?_, fun y hy => ?_⟩ e2).mo (by omega)
      · have := h.2.1
        have h2 : X.length ≤ c := h2
        show (L ++ X).length ≤ _
        rw [List.length_append]
        have : L.length ≤ c0 := this
        omega
      · rcases List.mem_append.mp hy with g | g
        · exact h.2.2 y g
        · exact h3 y g
theorem rp_ok {n : Nat} {w : Nat → Nat} {cl : Nat → Nat → Option (Option Nat)} (hc : CLO n cl) : ∀ t, wf t → ∀ p R, p ≤ n → rp n w cl t p = some R → RPO n cl (cR t) R := by
  refine ast_ind (fun lo hi _ _ p R hp e => ?_) (fun r hr p R hp e => ?_) (fun m a b _ _ _ _ ha hb p R hp e => ?_) (fun k x h4 h8 _ hx p R hp e => ?_)
  · simp only [rp] at e
    cases e
    refine RPO.nil (fun q e => ?_)
    split at e
    · cases e; omega
    · cases e
  · simp only [rp] at e
    cases hv : cl r p with
    | none => rw [hv] at e; cases e
    | some v =>
      rw [hv] at e
      cases v with
      | none => cases e; exact RPO.nil (fun q e => by cases e)
      | some q =>
        cases e
        refine ⟨fun q' e => by cases e; exact hc r p q hr hp hv, Nat.le_refl _, fun y hy => ⟨r, p, q, List.mem_singleton.mp hy, hr, hp, hv⟩⟩
  · simp only [rp] at e
    show RPO n cl (cR a + cR b) R
    split at e
    · rcases bnP_ex e with ⟨X, e1, e2⟩ | ⟨q, X, e1, e2⟩
      · cases e2; exact RPO.nil (fun q e => by cases e)
      · obtain ⟨h1, h2, h3⟩ := ha p _ hp e1
        rcases bnP_ex e2 with ⟨Y, e3, e4⟩ | ⟨q2, Y, e3, e4⟩
        · cases e4; exact RPO.nil (fun q e => by cases e)
        · obtain ⟨g1, g2, g3⟩ := hb q _ (h1 q rfl) e3
          cases e4
          refine ⟨g1, ?_, fun y hy => (List.mem_append.mp hy).elim (h3 y) (g3 y)⟩
          show (X ++ Y).length ≤ _
          rw [List.length_append]
          exact Nat.add_le_add h2 g2
    · rcases bnP_ex e with ⟨X, e1, e2⟩ | ⟨q, X, e1, e2⟩
      · exact (hb p R hp e2).mo (by omega)
      · cases e2; exact (ha p _ hp e1).mo (by omega)
  · simp only [rp] at e
    show RPO n cl (if k = 4 ∨ k = 5 then 21 * cR x else cR x) R
    split at e
    · rcases bnP_ex e with ⟨X, e1, e2⟩ | ⟨q, X, e1, e2⟩
      · cases e2; exact RPO.nil (fun q e => by cases e)
      · cases e2; exact RPO.nil (fun q e => by cases e; exact hp)
    · split at e
      · rcases bnP_ex e with ⟨X, e1, e2⟩ | ⟨q, X, e1, e2⟩
        · cases e2; exact RPO.nil (fun q e => by cases e; exact hp)
        · cases e2; exact RPO.nil (fun q e => by cases e)
      · refine (rpRep_ok (c := cR x) (fun p R hp e => hx p R hp e) _ _ p [] 0 R hp (RPO.nil (fun q e => ?_)) e).mo ?_
        · split at e <;> cases e; exact hp
        · by_cases hk6 : k = 6
          · rw [if_pos hk6, if_neg (by omega)]; omega
          · rw [if_neg hk6, if_pos (by omega)]; omega
/-- more in the memory changes nothing of what could be told -/
def CLE (n : Nat) (cl cl' : Nat → Nat → Option (Option Nat)) : Prop := ∀ r p v, r < 6 → p ≤ n → cl r p = some v → cl' r p = some v
theorem rpRep_mo {n : Nat} {f f' : Nat → Rp} (hf : ∀ p R, p ≤ n → f p = some R → f' p = some R ∧ ∀ q, R.1 = some q → q ≤ n) : ∀ (k : Nat) (a9 : Option Nat) (p : Nat) (L : List Nat) (R : Option Nat × List Nat), p ≤ n → rpRep f k a9 p L = some R → rpRep f' k a9 p L = some R
  | 0, a9, p, L, R, _, e => e
  | k + 1, a9, p, L, R, hp, e => by
    unfold rpRep at e ⊢
    rcases bnP_ex e with ⟨X, e1, e2⟩ | ⟨q, X, e1, e2⟩
    · rw [(hf p _ hp e1).1]; exact e2
    · rw [(hf p _ hp e1).1]
      exact rpRep_mo hf k (some q) q (L ++ X) R ((hf p _ hp e1).2 q rfl) e2
theorem rp_mo {n : Nat} {w : Nat → Nat} {cl cl' : Nat → Nat → Option (Option Nat)} (hc : CLO n cl) (hm : CLE n cl cl') : ∀ t, wf t → ∀ p R, p ≤ n → rp n w cl t p = some R → rp n w cl' t p = some R := by
  refine ast_ind (fun lo hi _ _ p R hp e => e) (fun r hr p R hp e => ?_) (fun m a b _ _ wa wb ha hb p R hp e => ?_) (fun k x h4 h8 wx hx p R hp e => ?_)
  · simp only [rp] at e ⊢
    cases hv : cl r p with
    | none => rw [hv] at e; cases e
    | some v => rw [hm r p v hr hp hv]; rw [hv] at e; exact e
  · simp only [rp] at e ⊢
    split at e
    · rename_i hm2
      rw [if_pos hm2]
      rcases bnP_ex e with ⟨X, e1, e2⟩ | ⟨q, X, e1, e2⟩
      · rw [ha p _ hp e1]; exact e2
      · rw [ha p _ hp e1, bnP_s]
        have hq := (rp_ok hc a wa p _ hp e1).1 q rfl
        rcases bnP_ex e2 with ⟨Y, e3, e4⟩ | ⟨q2, Y, e3, e4⟩
        · rw [hb q _ hq e3]; exact e4
        · rw [hb q _ hq e3]; exact e4
    · rename_i hm2
      rw [if_neg hm2]
      rcases bnP_ex e with ⟨X, e1, e2⟩ | ⟨q, X, e1, e2⟩
      · rw [ha p _ hp e1]; exact hb p R hp e2
      · rw [ha p _ hp e1]; exact e2
  · simp only [rp] at e ⊢
    split at e
    · rename_i h7
      rw [if_pos h7]
      rcases bnP_ex e with ⟨X, e1, e2⟩ | ⟨q, X, e1, e2⟩
      · rw [hx p _ hp e1]; exact e2
      · rw [hx p _ hp e1]; exact e2
    · rename_i h7
      rw [if_neg h7]
      split at e
      · rename_i h8
        rw [if_pos h8]
        rcases bnP_ex e with ⟨X, e1, e2⟩ | ⟨q, X, e1, e2⟩
        · rw [hx p _ hp e1]; exact e2
        · rw [hx p _ hp e1]; exact e2
      · rename_i h8
        rw [if_neg h8]
        exact rpRep_mo (fun p R hp e => ⟨hx p R hp e, (rp_ok hc x wx p R hp e).1⟩) _ _ p [] R hp e
/-- what the memory says of a rule at a place -/
def lkm (m : Nat → Int32) (r p : Nat) : Option (Option Nat) := if m (r * 21 + p) = -2 then none else some (vO (m (r * 21 + p)))
theorem lkm_v {m : Nat → Int32} {r p : Nat} {v : Option Nat} (h : m (r * 21 + p) = onI v) (h20 : ∀ q, v = some q → q ≤ 20) : lkm m r p = some v := by
  unfold lkm
  rw [h, if_neg (on_vO h20).2, (on_vO h20).1]
theorem lkm_CLO {n : Nat} {O m : Nat → Int32} (hn : n ≤ 20) (h : SND n O m) : CLO n (lkm m) := fun r p q hr hp e => by
  unfold lkm at e
  split at e
  · cases e
  · rename_i h2
    have := (h.get hn hr (by omega) h2).1
    rw [Option.some.inj e] at this
    exact this.2.1
def EXT (m m' : Nat → Int32) : Prop := ∀ c, c < 126 → ¬ m c = -2 → m' c = m c
theorem EXT.rf {m : Nat → Int32} : EXT m m := fun _ _ _ => rfl
theorem EXT.tr {a b c : Nat → Int32} (h : EXT a b) (g : EXT b c) : EXT a c := fun x hx hn => by rw [g x hx (by rw [h x hx hn]; exact hn), h x hx hn]
theorem EXT.cl {n : Nat} {m m' : Nat → Int32} (hn : n ≤ 20) (h : EXT m m') : CLE n (lkm m) (lkm m') := fun r p v hr hp e => by
  unfold lkm at e ⊢
  split at e
  · cases e
  · rename_i h2
    rw [h _ (by omega) h2, if_neg h2]
    exact e
