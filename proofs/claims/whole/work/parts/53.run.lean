/-! The reference's run: a loop over a stack of its own; it gives what avA gives. -/
theorem fU_1 {k j : Nat} {v : Int32} {s : MSt} : (fU k v s).1 j = if j = k then v else s.1 j := by
  by_cases h : j = k
  · subst h
    rw [if_pos rfl]
    exact va_up_self _ _ _
  · rw [if_neg h]
    exact va_up_ne _ _ h
theorem fU_2 {k : Nat} {v : Int32} {s : MSt} : (fU k v s).2 = s.2 := rfl
theorem aU_1 {k i : Nat} {v : Int32} {s : MSt} : (aU k i v s).1 = s.1 := rfl
theorem aU_2 {k i j x : Nat} {v : Int32} {s : MSt} : (aU k i v s).2 j x = if j = k ∧ x = i then v else s.2 j x := by
  show va_up s.2 k (upd (s.2 k) i v) j x = _
  by_cases h : j = k
  · subst h
    rw [va_up_self]
    by_cases hx : x = i
    · subst hx
      rw [pk_us, if_pos ⟨rfl, rfl⟩]
    · rw [pk_un hx, if_neg (fun c => hx c.2)]
  · rw [va_up_ne _ _ h, if_neg (fun c => h c.1)]
/-- how an expression stands in a block of the reference: from offset o of the block at B on, in post-order; dp how deep -/
def enc (H : Nat → Nat → Int32) (B : Nat) : Ex → Nat → Nat → Prop
  | .tag lo (.tag hi .nil), o, _ => H 5 (B + o) = nI 0 ∧ H 6 (B + o) = nI lo ∧ H 7 (B + o) = nI hi
  | .tag r .line, o, dp => H 5 (B + o) = nI 1 ∧ H 6 (B + o) = nI r ∧ H 8 (B + o) = nI dp
  | .tag m (.append a b), o, dp => enc H B a o (dp + 1) ∧ enc H B b (o + sz a) (if m % 2 = 1 then dp else dp + 1) ∧ H 5 (B + (o + sz a + sz b)) = nI (2 + m / 2) ∧ H 6 (B + (o + sz a + sz b)) = nI (o + sz a - 1) ∧ H 7 (B + (o + sz a + sz b)) = nI (o + sz a + sz b - 1)
  | .tag k (.nest _ e), o, dp => enc H B e o (dp + 1) ∧ H 5 (B + (o + sz e)) = nI k ∧ H 6 (B + (o + sz e)) = nI (o + sz e - 1) ∧ H 7 (B + (o + sz e)) = nI 0
  | _, _, _ => False
theorem enc_fr {H H' : Nat → Nat → Int32} {B : Nat} (hH : ∀ k x, 5 ≤ k → k ≤ 8 → H' k x = H k x) : ∀ t, wf t → ∀ o dp, enc H B t o dp → enc H' B t o dp := by
  refine ast_ind (fun lo hi _ _ o dp h => ?_) (fun r _ o dp h => ?_) (fun m a b _ _ _ _ ha hb o dp h => ?_) (fun k e _ _ _ he o dp h => ?_)
  · obtain ⟨h1, h2, h3⟩ := h
    exact ⟨by rw [hH _ _ (by decide) (by decide)]; exact h1, by rw [hH _ _ (by decide) (by decide)]; exact h2, by rw [hH _ _ (by decide) (by decide)]; exact h3⟩
  · obtain ⟨h1, h2, h3⟩ := h
    exact ⟨by rw [hH _ _ (by decide) (by decide)]; exact h1, by rw [hH _ _ (by decide) (by decide)]; exact h2, by rw [hH _ _ (by decide) (by decide)]; exact h3⟩
  · obtain ⟨ga, gb, h1, h2, h3⟩ := h
    exact ⟨ha _ _ ga, hb _ _ gb, by rw [hH _ _ (by decide) (by decide)]; exact h1, by rw [hH _ _ (by decide) (by decide)]; exact h2, by rw [hH _ _ (by decide) (by decide)]; exact h3⟩
  · obtain ⟨ge, h1, h2, h3⟩ := h
    exact ⟨he _ _ ge, by rw [hH _ _ (by decide) (by decide)]; exact h1, by rw [hH _ _ (by decide) (by decide)]; exact h2, by rw [hH _ _ (by decide) (by decide)]; exact h3⟩
/-- how many records a match can leave -/
def cR : Ex → Nat
  | .tag _ (.tag _ .nil) => 0
  | .tag _ .line => 1
  | .tag _ (.append a b) => cR a + cR b
  | .tag k (.nest _ e) => if k = 4 ∨ k = 5 then 21 * cR e else cR e
  | _ => 0
theorem sz_pos : ∀ t, wf t → 1 ≤ sz t := ast_ind (fun _ _ _ _ => Nat.le_refl _) (fun _ _ => Nat.le_refl _) (fun m a b _ _ _ _ _ _ => by show 1 ≤ sz a + sz b + 1; omega) (fun k e _ _ _ _ => by show 1 ≤ sz e + 1; omega)
theorem bnA_x {R : Ra} {f : Nat → AS → Ra} {g : AS → Ra} {x y : Nat} (h : R.2.2.2.2.1 ≤ x) (hf : ∀ q A, A.2.2.2.1 ≤ x → (f q A).2.2.2.2.1 ≤ y) (hg : ∀ A, A.2.2.2.1 ≤ x → (g A).2.2.2.2.1 ≤ y) (hxy : x ≤ y) : (bnA R f g).2.2.2.2.1 ≤ y := by
  unfold bnA
  split
  · exact Nat.le_trans h hxy
  · exact hg _ h
  · exact hf _ _ h
theorem avRep_x {f : Nat → AS → Ra} {c : Nat} (hf : ∀ p A, (f p A).2.2.2.2.1 ≤ A.2.2.2.1 + c) : ∀ (k : Nat) (a9 : Option Nat) (p : Nat) (A : AS), (avRep f k a9 p A).2.2.2.2.1 ≤ A.2.2.2.1 + k * c
  | 0, a9, p, A => by show A.2.2.2.1 ≤ _; omega
  | k + 1, a9, p, A => by
    unfold avRep
    refine bnA_x (hf p A) (fun q A1 h1 => ?_) (fun A1 h1 => ?_) ?_
    · refine Nat.le_trans (avRep_x hf k (some q) q A1) ?_
      rw [Nat.succ_mul]
      omega
    · show A.2.2.2.1 ≤ _
      omega
    · rw [Nat.succ_mul]
      omega
theorem avA_x {n : Nat} {w : Nat → Nat} {call : Nat → Nat → Nat → AS → Ra} (hc : ∀ r p d A, (call r p d A).2.2.2.2.1 ≤ A.2.2.2.1 + 1) : ∀ t, wf t → ∀ p d A, (avA n w call t p d A).2.2.2.2.1 ≤ A.2.2.2.1 + cR t := by
  refine ast_ind (fun lo hi _ _ p d A => Nat.le_refl _) (fun r _ p d A => hc r p (d + 2) A) (fun m a b _ _ _ _ ha hb p d A => ?_) (fun k e _ _ _ he p d A => ?_)
  · simp only [avA]
    have e9 : cR (xB m a b) = cR a + cR b := rfl
    rw [e9]
    split
    · refine bnA_x (ha p (d + 1) A) (fun q A1 h1 => ?_) (fun A1 h1 => ?_) (by omega)
      · have := hb q (if m % 2 = 1 then d else d + 1) A1
        omega
      · show A1.2.2.2.1 ≤ _
        omega
    · refine bnA_x (ha p (d + 1) A) (fun q A1 h1 => ?_) (fun A1 h1 => ?_) (by omega)
      · show A1.2.2.2.1 ≤ _
        omega
      · have := hb p (if m % 2 = 1 then d else d + 1) (cutA A.2.2.2.1 A1)
        have e2 : (cutA A.2.2.2.1 A1).2.2.2.1 = A.2.2.2.1 := rfl
        omega
  · simp only [avA]
    have e9 : cR (xS k e) = if k = 4 ∨ k = 5 then 21 * cR e else cR e := rfl
    rw [e9]
    split
    · rename_i hk
      rw [if_neg (by omega)]
      exact bnA_x (he p (d + 1) A) (fun q A1 h1 => Nat.le_add_right _ _) (fun A1 h1 => Nat.le_add_right _ _) (Nat.le_refl _)
    · split
      · rename_i hk
        rw [if_neg (by omega)]
        exact bnA_x (he p (d + 1) A) (fun q A1 h1 => Nat.le_add_right _ _) (fun A1 h1 => Nat.le_add_right _ _) (Nat.le_refl _)
      · refine Nat.le_trans (avRep_x (c := cR e) (fun p A => he p (d + 1) A) _ _ _ _) ?_
        by_cases h6 : k = 6
        · rw [if_pos h6, if_neg (by omega)]
          omega
        · rw [if_neg h6, if_pos (by omega)]
          exact Nat.le_refl _
/-- the reference's state and the short one -/
def RS (s : MSt) (A : AS) : Prop := (∀ c, c < 126 → s.2 13 c = A.1 c) ∧ s.1 14 = A.2.1 ∧ s.1 15 = A.2.2.1 ∧ s.1 24 = nI A.2.2.2.1 ∧ s.2 25 = A.2.2.2.2.1 ∧ s.2 26 = A.2.2.2.2.2.1 ∧ s.2 27 = A.2.2.2.2.2.2
/-- what a run leaves as it was: the stack below h, and all that is no memory, count or record -/
def frR (h : Nat) (s s2 : MSt) : Prop := (∀ k, k ≠ 14 → k ≠ 15 → k ≠ 16 → k ≠ 24 → s2.1 k = s.1 k) ∧ (∀ k x, k ≠ 13 → k ≠ 25 → k ≠ 26 → k ≠ 27 → (17 ≤ k → k ≤ 21 → x < h) → s2.2 k x = s.2 k x)
def frD (s s2 : MSt) : Prop := (∀ k, k ≠ 14 → k ≠ 15 → k ≠ 16 → k ≠ 22 → k ≠ 24 → s2.1 k = s.1 k) ∧ (∀ k x, k ≠ 13 → k ≠ 25 → k ≠ 26 → k ≠ 27 → ¬ (17 ≤ k ∧ k ≤ 21) → s2.2 k x = s.2 k x)
theorem frR.rf {h : Nat} {s : MSt} : frR h s s := ⟨fun _ _ _ _ _ => rfl, fun _ _ _ _ _ _ _ => rfl⟩
theorem frD.rf {s : MSt} : frD s s := ⟨fun _ _ _ _ _ _ => rfl, fun _ _ _ _ _ _ _ => rfl⟩
theorem frR.tr {h : Nat} {a b c : MSt} (f : frR h a b) (g : frR h b c) : frR h a c := ⟨fun k h1 h2 h3 h4 => (g.1 k h1 h2 h3 h4).trans (f.1 k h1 h2 h3 h4), fun k x h1 h2 h3 h4 h5 => (g.2 k x h1 h2 h3 h4 h5).trans (f.2 k x h1 h2 h3 h4 h5)⟩
theorem frD.tr {a b c : MSt} (f : frD a b) (g : frD b c) : frD a c := ⟨fun k h1 h2 h3 h4 h5 => (g.1 k h1 h2 h3 h4 h5).trans (f.1 k h1 h2 h3 h4 h5), fun k x h1 h2 h3 h4 h5 => (g.2 k x h1 h2 h3 h4 h5).trans (f.2 k x h1 h2 h3 h4 h5)⟩
theorem frR.mo {h h' : Nat} {s s2 : MSt} (hh : h ≤ h') (f : frR h' s s2) : frR h s s2 := ⟨f.1, fun k x h1 h2 h3 h4 h5 => f.2 k x h1 h2 h3 h4 (fun a b => Nat.lt_of_lt_of_le (h5 a b) hh)⟩
theorem frR.D {h : Nat} {s s2 : MSt} (f : frR h s s2) : frD s s2 := ⟨fun k h1 h2 h3 _ h4 => f.1 k h1 h2 h3 h4, fun k x h1 h2 h3 h4 h5 => f.2 k x h1 h2 h3 h4 (fun a b => absurd ⟨a, b⟩ h5)⟩
theorem frR.f {h k : Nat} {v : Int32} {s : MSt} (hk : k = 14 ∨ k = 15 ∨ k = 16 ∨ k = 24) : frR h s (fU k v s) := ⟨fun j h1 h2 h3 h4 => by rw [fU_1, if_neg (by omega)], fun _ _ _ _ _ _ _ => rfl⟩
theorem frR.a {h k i : Nat} {v : Int32} {s : MSt} (hk : k = 13 ∨ k = 25 ∨ k = 26 ∨ k = 27 ∨ (17 ≤ k ∧ k ≤ 21 ∧ h ≤ i)) : frR h s (aU k i v s) := ⟨fun _ _ _ _ _ => rfl, fun j x h1 h2 h3 h4 h5 => by
  rw [aU_2, if_neg]
  intro ⟨e1, e2⟩
  subst e1 e2
  rcases hk with hk | hk | hk | hk | ⟨a, b, c⟩
  · exact h1 hk
  · exact h2 hk
  · exact h3 hk
  · exact h4 hk
  · exact absurd (h5 a b) (by omega)⟩
/-- the state after a push -/
def PU (h k p : Nat) (s : MSt) : MSt := fU 16 (nI (h + 1)) (aU 20 h (vp_nar .boolean (nI 0)) (aU 19 h (s.1 24) (aU 18 h (nI p) (aU 17 h (nI k) s))))
theorem PU.fr {h k p : Nat} {s : MSt} : frR h s (PU h k p s) := (((((frR.a (by omega)).tr (frR.a (by omega))).tr (frR.a (by omega))).tr (frR.a (by omega)))).tr (frR.f (by omega))
theorem RS.PU {h k p : Nat} {s : MSt} {A : AS} (hs : RS s A) : RS (PU h k p s) A := by
  obtain ⟨h1, h2, h3, h4, h5, h6, h7⟩ := hs
  refine ⟨fun c hc => ?_, ?_, ?_, ?_, ?_, ?_, ?_⟩
  · simpa [_root_.Jvm.Pilot.CChoiceParserLaw_law_r3167_6716c9.PU, fU_2, aU_2] using h1 c hc
  · simpa [_root_.Jvm.Pilot.CChoiceParserLaw_law_r3167_6716c9.PU, fU_1, aU_1] using h2
  · simpa [_root_.Jvm.Pilot.CChoiceParserLaw_law_r3167_6716c9.PU, fU_1, aU_1] using h3
  · simpa [_root_.Jvm.Pilot.CChoiceParserLaw_law_r3167_6716c9.PU, fU_1, aU_1] using h4
  · refine Eq.trans (funext fun x => ?_) h5
    simp [_root_.Jvm.Pilot.CChoiceParserLaw_law_r3167_6716c9.PU, fU_2, aU_2]
  · refine Eq.trans (funext fun x => ?_) h6
    simp [_root_.Jvm.Pilot.CChoiceParserLaw_law_r3167_6716c9.PU, fU_2, aU_2]
  · refine Eq.trans (funext fun x => ?_) h7
    simp [_root_.Jvm.Pilot.CChoiceParserLaw_law_r3167_6716c9.PU, fU_2, aU_2]
def resI (v : Option (Option Nat)) : Int32 := match v with
  | none => -3
  | some v => onI v
/-- the grammar and the input stand in the reference's state; rv: whether it records -/
def CI (n : Nat) (w : Nat → Nat) (rl : Nat → Option Ex) (rv : Int32) (s : MSt) : Prop := s.1 23 = rv ∧ s.1 3 = nI n ∧ n ≤ 20 ∧ (∀ j, j < n → s.2 4 j = nI (w j) ∧ w j ≤ 8) ∧ ∀ r t, r < 6 → rl r = some t → wf t ∧ ht t ≤ 24 ∧ sz t ≤ 64 ∧ cR t ≤ 2 ^ 28 ∧ s.2 10 r = nI (sz t) ∧ enc s.2 (64 * r) t 0 0
theorem CI.fr {n : Nat} {w : Nat → Nat} {rl : Nat → Option Ex} {rv : Int32} {s s2 : MSt} (h : CI n w rl rv s) (f : frD s s2) : CI n w rl rv s2 := by
  obtain ⟨h1, h2, h3, h4, h5⟩ := h
  refine ⟨(f.1 23 (by decide) (by decide) (by decide) (by decide) (by decide)).trans h1, (f.1 3 (by decide) (by decide) (by decide) (by decide) (by decide)).trans h2, h3, fun j hj => ⟨(f.2 4 j (by decide) (by decide) (by decide) (by decide) (by omega)).trans (h4 j hj).1, (h4 j hj).2⟩, fun r t hr ht => ?_⟩
  obtain ⟨g1, g2, g3, g4, g5, g6⟩ := h5 r t hr ht
  exact ⟨g1, g2, g3, g4, (f.2 10 r (by decide) (by decide) (by decide) (by decide) (by omega)).trans g5, enc_fr (fun k x a b => f.2 k x (by omega) (by omega) (by omega) (by omega) (by omega)) t g1 _ _ g6⟩
