/-! Where reading ends, and how large what it reads is. -/
section BOUNDS
variable {n : Nat} {tx : Nat → Nat}
def PB (n : Nat) (P : Nat → Pr) : Prop := ∀ a, a ≤ n → a ≤ (P a).2 ∧ (P a).2 ≤ n ∧ ∀ t, (P a).1 = some t → a < (P a).2 ∧ wf t ∧ ht t ≤ (P a).2 - a ∧ sz t + 1 ≤ 2 * ((P a).2 - a)
theorem PB.mk {P : Nat → Pr} (h : ∀ a r, P a = r → a ≤ n → a ≤ r.2 ∧ r.2 ≤ n ∧ ∀ t, r.1 = some t → a < r.2 ∧ wf t ∧ ht t ≤ r.2 - a ∧ sz t + 1 ≤ 2 * (r.2 - a)) : PB n P := fun a ha => h a (P a) rfl ha
theorem tx_lt (hz : ∀ j, n ≤ j → tx j = 0) {a c : Nat} (h : tx a = c) (hc : c ≠ 0) : a < n := Nat.not_le.mp fun q => hc (h.symm.trans (hz a q))
theorem pRange_b (hz : ∀ j, n ≤ j → tx j = 0) {a : Nat} (h0 : tx a = 91) : a ≤ (pRange tx a).2 ∧ (pRange tx a).2 ≤ n ∧ ∀ t, (pRange tx a).1 = some t → a < (pRange tx a).2 ∧ wf t ∧ ht t ≤ (pRange tx a).2 - a ∧ sz t + 1 ≤ 2 * ((pRange tx a).2 - a) := by
  have k0 := tx_lt hz h0 (by decide)
  unfold pRange
  by_cases h1 : isL (tx (a + 1))
  · have k1 : a + 1 < n := tx_lt hz rfl (by have := h1.1; omega)
    rw [if_neg (fun q => q h1)]
    by_cases h2 : tx (a + 2) = 45
    · have k2 := tx_lt hz h2 (by decide)
      rw [if_neg (fun q => q h2)]
      by_cases h3 : isL (tx (a + 3)) ∧ tx (a + 1) ≤ tx (a + 3)
      · have k3 : a + 3 < n := tx_lt hz rfl (by have := h3.1.1; omega)
        rw [if_neg (fun q => q h3)]
        by_cases h4 : tx (a + 4) = 93
        · have k4 := tx_lt hz h4 (by decide)
          rw [if_neg (fun q => q h4)]
          refine ⟨by show a ≤ a + 5; omega, by show a + 5 ≤ n; omega, fun t e => ?_⟩
          cases e
          exact ⟨by show a < a + 5; omega, ⟨by have := h1.2; omega, by have := h3.1.2; omega⟩, by show 1 ≤ a + 5 - a; omega, by show 1 + 1 ≤ 2 * (a + 5 - a); omega⟩
        · rw [if_pos h4]
          exact ⟨by show a ≤ a + 4; omega, by show a + 4 ≤ n; omega, fun t e => by cases e⟩
      · rw [if_pos h3]
        exact ⟨by show a ≤ a + 3; omega, by show a + 3 ≤ n; omega, fun t e => by cases e⟩
    · rw [if_pos h2]
      exact ⟨by show a ≤ a + 2; omega, by show a + 2 ≤ n; omega, fun t e => by cases e⟩
  · rw [if_pos h1]
    exact ⟨by show a ≤ a + 1; omega, by show a + 1 ≤ n; omega, fun t e => by cases e⟩
theorem pUnit_b (hz : ∀ j, n ≤ j → tx j = 0) {Dp : Option (Nat → Pr)} (hD : ∀ g, Dp = some g → PB n g) : PB n (pUnit tx Dp) := by
  intro a ha
  unfold pUnit
  by_cases h1 : tx a = 91
  · rw [if_pos h1]
    exact pRange_b hz h1
  · rw [if_neg h1]
    by_cases h2 : tx a = 40
    · have k := tx_lt hz h2 (by decide)
      rw [if_pos h2]
      cases hd : Dp with
      | none => exact ⟨Nat.le_refl a, ha, fun t e => by cases e⟩
      | some g =>
        have hg := hD g hd (a + 1) (by omega)
        cases hr : g (a + 1) with
        | mk e b =>
          rw [hr] at hg
          obtain ⟨g1, g2, g3⟩ := hg
          have g1 : a + 1 ≤ b := g1
          have g2 : b ≤ n := g2
          cases e with
          | none => 
            dsimp only
            rw [hr]
            exact ⟨by show a ≤ b; omega, g2, fun t e => by cases e⟩
          | some e =>
            obtain ⟨g4, g5, g6, g7⟩ := g3 e rfl
            dsimp only
            rw [hr]
            dsimp only
            by_cases h3 : tx b = 41
            · have k3 := tx_lt hz h3 (by decide)
              rw [if_pos h3]
              refine ⟨by show a ≤ b + 1; omega, by show b + 1 ≤ n; omega, fun t e => ?_⟩
              cases e
              exact ⟨by show a < b + 1; omega, g5, by show ht _ ≤ b + 1 - a; have : ht _ ≤ b - (a + 1) := g6; omega, by show sz _ + 1 ≤ 2 * (b + 1 - a); have : sz _ + 1 ≤ 2 * (b - (a + 1)) := g7; omega⟩
            · rw [if_neg h3]
              exact ⟨by show a ≤ b; omega, g2, fun t e => by cases e⟩
    · rw [if_neg h2]
      by_cases h3 : tx a = 46
      · have k := tx_lt hz h3 (by decide)
        rw [if_pos h3]
        refine ⟨by show a ≤ a + 1; omega, by show a + 1 ≤ n; omega, fun t e => ?_⟩
        cases e
        exact ⟨by show a < a + 1; omega, ⟨by omega, by omega⟩, by show 1 ≤ a + 1 - a; omega, by show 1 + 1 ≤ 2 * (a + 1 - a); omega⟩
      · rw [if_neg h3]
        by_cases h4 : isL (tx a)
        · have k : a < n := tx_lt hz rfl (by have := h4.1; omega)
          rw [if_pos h4]
          refine ⟨by show a ≤ a + 1; omega, by show a + 1 ≤ n; omega, fun t e => ?_⟩
          cases e
          exact ⟨by show a < a + 1; omega, ⟨by have := h4.2; omega, by have := h4.2; omega⟩, by show 1 ≤ a + 1 - a; omega, by show 1 + 1 ≤ 2 * (a + 1 - a); omega⟩
        · rw [if_neg h4]
          by_cases h5 : isR (tx a)
          · have k : a < n := tx_lt hz rfl (by have := h5.1; omega)
            rw [if_pos h5]
            refine ⟨by show a ≤ a + 1; omega, by show a + 1 ≤ n; omega, fun t e => ?_⟩
            cases e
            exact ⟨by show a < a + 1; omega, (show tx a - 65 < 6 by have := h5.2; omega), by show 1 ≤ a + 1 - a; omega, by show 1 + 1 ≤ 2 * (a + 1 - a); omega⟩
          · rw [if_neg h5]
            exact ⟨Nat.le_refl a, ha, fun t e => by cases e⟩
theorem sB_nz {c : Nat} (h : ¬ sB c = 0) : c ≠ 0 ∧ 4 ≤ sB c - 1 ∧ sB c - 1 ≤ 8 := by
  unfold sB at h ⊢
  by_cases h1 : c = 38
  · rw [if_pos h1]; exact ⟨by omega, by decide, by decide⟩
  · rw [if_neg h1] at h ⊢
    by_cases h2 : c = 33
    · rw [if_pos h2]; exact ⟨by omega, by decide, by decide⟩
    · rw [if_neg h2] at h; exact absurd rfl h
theorem sE_nz {c : Nat} (h : ¬ sE c = 0) : c ≠ 0 ∧ 4 ≤ sE c - 1 ∧ sE c - 1 ≤ 8 := by
  unfold sE at h ⊢
  by_cases h1 : c = 42
  · rw [if_pos h1]; exact ⟨by omega, by decide, by decide⟩
  · rw [if_neg h1] at h ⊢
    by_cases h2 : c = 43
    · rw [if_pos h2]; exact ⟨by omega, by decide, by decide⟩
    · rw [if_neg h2] at h ⊢
      by_cases h3 : c = 63
      · rw [if_pos h3]; exact ⟨by omega, by decide, by decide⟩
      · rw [if_neg h3] at h; exact absurd rfl h
theorem sgn_b {k : Nat} {e : Ex} {c : Nat} (hk : ¬ k = 0 → 4 ≤ k - 1 ∧ k - 1 ≤ 8) (we : wf e) (h1 : ht e ≤ c) (h2 : sz e + 1 ≤ 2 * c) : wf (sgn k e) ∧ ht (sgn k e) ≤ c + (if k = 0 then 0 else 1) ∧ sz (sgn k e) + 1 ≤ 2 * (c + (if k = 0 then 0 else 1)) := by
  unfold sgn
  by_cases h : k = 0
  · rw [if_pos h, if_pos h]
    exact ⟨we, h1, h2⟩
  · rw [if_neg h, if_neg h]
    exact ⟨⟨rfl, (hk h).1, (hk h).2, we⟩, by show ht e + 1 ≤ c + 1; omega, by show sz e + 1 + 1 ≤ 2 * (c + 1); omega⟩
theorem pPart_b (hz : ∀ j, n ≤ j → tx j = 0) {Dp : Option (Nat → Pr)} (hD : ∀ g, Dp = some g → PB n g) : PB n (pPart tx Dp) := by
  intro a ha
  have k0 : ¬ sB (tx a) = 0 → a < n := fun h => tx_lt hz rfl (sB_nz h).1
  obtain ⟨a1, ha1⟩ : ∃ a1, (if sB (tx a) = 0 then a else a + 1) = a1 := ⟨_, rfl⟩
  have q1 : a1 = a + (if sB (tx a) = 0 then 0 else 1) := by rw [← ha1]; split <;> rfl
  have q2 : a1 ≤ n := by
    rw [← ha1]
    split
    · exact ha
    · have := k0 (by assumption); omega
  unfold pPart
  rw [ha1]
  have hu := pUnit_b hz hD a1 q2
  cases hr : pUnit tx Dp a1 with
  | mk e b =>
    rw [hr] at hu
    obtain ⟨g1, g2, g3⟩ := hu
    have g1 : a1 ≤ b := g1
    have g2 : b ≤ n := g2
    cases e with
    | none => exact ⟨by show a ≤ b; omega, g2, fun t e => by cases e⟩
    | some e =>
      obtain ⟨g4, g5, g6, g7⟩ := g3 e rfl
      have g4 : a1 < b := g4
      have g6 : ht e ≤ b - a1 := g6
      have g7 : sz e + 1 ≤ 2 * (b - a1) := g7
      have k1 : ¬ sE (tx b) = 0 → b < n := fun h => tx_lt hz rfl (sE_nz h).1
      obtain ⟨s1, s2, s3⟩ := sgn_b (k := sE (tx b)) (fun h => (sE_nz h).2) g5 g6 g7
      obtain ⟨s4, s5, s6⟩ := sgn_b (k := sB (tx a)) (fun h => (sB_nz h).2) s1 s2 s3
      have q3 : (if sE (tx b) = 0 then b else b + 1) = b + (if sE (tx b) = 0 then 0 else 1) := by split <;> rfl
      have q4 : b + (if sE (tx b) = 0 then 0 else 1) ≤ n := by
        split
        · exact g2
        · have := k1 (by assumption); omega
      dsimp only
      rw [q3]
      refine ⟨by show a ≤ b + _; omega, q4, fun t e => ?_⟩
      cases e
      exact ⟨by show a < b + _; omega, s4, by omega, by omega⟩
/-- the parts of a row, the rows of a choice: how much of the text each is -/
def LB : List Ex → Nat → Prop
  | [], _ => True
  | e :: t, c => ∃ c0, 1 ≤ c0 ∧ c0 ≤ c ∧ wf e ∧ ht e ≤ c0 ∧ sz e + 1 ≤ 2 * c0 ∧ LB t (c - c0)
theorem LB.le : ∀ {t : List Ex} {c c' : Nat}, LB t c → c ≤ c' → LB t c'
  | [], _, _, _, _ => trivial
  | e :: t, c, c', ⟨c0, h1, h2, h3, h4, h5, h6⟩, h => ⟨c0, h1, by omega, h3, h4, h5, h6.le (by omega)⟩
theorem mkB_isB {m : Nat} (hm : m % 2 = 0) : ∀ (e x : Ex) (t : List Ex), isB (m / 2) (mkB m e (x :: t))
  | _, _, [] => rfl
  | _, _, _ :: _ => (show (m + 1) / 2 = m / 2 by omega)
theorem mkB_b {m : Nat} (hm : m = 0 ∨ m = 2) : ∀ (t : List Ex) (e : Ex) (c : Nat), LB (e :: t) c → wf (mkB m e t) ∧ ht (mkB m e t) ≤ c ∧ sz (mkB m e t) + 1 ≤ 2 * c
  | [], e, c, ⟨c0, h1, h2, h3, h4, h5, _⟩ => ⟨h3, Nat.le_trans h4 h2, by show sz e + 1 ≤ 2 * c; omega⟩
  | [x], e, c, ⟨c0, h1, h2, h3, h4, h5, c1, k1, k2, k3, k4, k5, _⟩ => by
    refine ⟨⟨by omega, fun h => by omega, h3, k3⟩, ?_, ?_⟩
    · show (if m % 2 = 1 then max (ht e + 1) (ht x) else max (ht e + 1) (ht x + 1)) ≤ c
      rw [if_neg (by omega)]
      omega
    · show sz e + sz x + 1 + 1 ≤ 2 * c
      omega
  | x :: y :: t, e, c, ⟨c0, h1, h2, h3, h4, h5, h6⟩ => by
    obtain ⟨r1, r2, r3⟩ := mkB_b hm (y :: t) x (c - c0) h6
    obtain ⟨c1, k1, k2, -⟩ := h6
    refine ⟨⟨by omega, fun h => ?_, h3, r1⟩, ?_, ?_⟩
    · rw [show (m + 1) / 2 = m / 2 by omega]
      exact mkB_isB (by omega) x y t
    · show (if (m + 1) % 2 = 1 then max (ht e + 1) (ht (mkB m x (y :: t))) else _) ≤ c
      rw [if_pos (by omega)]
      omega
    · show sz e + sz (mkB m x (y :: t)) + 1 + 1 ≤ 2 * c
      omega
theorem pRowL_b {P : Nat → Pr} (hP : PB n P) : ∀ f a, a ≤ n → a ≤ (pRowL tx P f a).2 ∧ (pRowL tx P f a).2 ≤ n ∧ ∀ t, (pRowL tx P f a).1 = some t → LB t ((pRowL tx P f a).2 - a)
  | 0, a, ha => ⟨Nat.le_refl a, ha, fun t e => by cases e; trivial⟩
  | f + 1, a, ha => by
    unfold pRowL
    split
    · have hp := hP a ha
      cases hr : P a with
      | mk e b =>
        rw [hr] at hp
        obtain ⟨g1, g2, g3⟩ := hp
        have g1 : a ≤ b := g1
        have g2 : b ≤ n := g2
        cases e with
        | none => exact ⟨g1, g2, fun t e => by cases e⟩
        | some e =>
          obtain ⟨g4, g5, g6, g7⟩ := g3 e rfl
          have g4 : a < b := g4
          obtain ⟨i1, i2, i3⟩ := pRowL_b hP f b g2
          dsimp only
          cases hq : pRowL tx P f b with
          | mk t c =>
            rw [hq] at i1 i2 i3
            have i1 : b ≤ c := i1
            have i2 : c ≤ n := i2
            cases t with
            | none => exact ⟨by show a ≤ c; omega, i2, fun t e => by cases e⟩
            | some t =>
              refine ⟨by show a ≤ c; omega, i2, fun t' e' => ?_⟩
              cases e'
              exact ⟨b - a, by omega, by show b - a ≤ c - a; omega, g5, g6, g7, (i3 t rfl).le (by show c - b ≤ c - a - (b - a); omega)⟩
    · exact ⟨Nat.le_refl a, ha, fun t e => by cases e; trivial⟩
theorem pChL_b (hz : ∀ j, n ≤ j → tx j = 0) {P : Nat → Pr} (hP : PB n P) : ∀ f a, a ≤ n → a ≤ (pChL tx P f a).2 ∧ (pChL tx P f a).2 ≤ n ∧ ∀ t, (pChL tx P f a).1 = some t → LB t ((pChL tx P f a).2 - a)
  | 0, a, ha => ⟨Nat.le_refl a, ha, fun t e => by cases e; trivial⟩
  | f + 1, a, ha => by
    unfold pChL
    split
    · rename_i h47
      have k := tx_lt hz h47 (by decide)
      have hp := hP (a + 1) (by omega)
      cases hr : P (a + 1) with
      | mk e b =>
        rw [hr] at hp
        obtain ⟨g1, g2, g3⟩ := hp
        have g1 : a + 1 ≤ b := g1
        have g2 : b ≤ n := g2
        cases e with
        | none => exact ⟨by show a ≤ b; omega, g2, fun t e => by cases e⟩
        | some e =>
          obtain ⟨g4, g5, g6, g7⟩ := g3 e rfl
          have g4 : a + 1 < b := g4
          have g6 : ht e ≤ b - (a + 1) := g6
          have g7 : sz e + 1 ≤ 2 * (b - (a + 1)) := g7
          obtain ⟨i1, i2, i3⟩ := pChL_b hz hP f b g2
          dsimp only
          cases hq : pChL tx P f b with
          | mk t c =>
            rw [hq] at i1 i2 i3
            have i1 : b ≤ c := i1
            have i2 : c ≤ n := i2
            cases t with
            | none => exact ⟨by show a ≤ c; omega, i2, fun t e => by cases e⟩
            | some t =>
              refine ⟨by show a ≤ c; omega, i2, fun t' e' => ?_⟩
              cases e'
              exact ⟨b - a, by omega, by show b - a ≤ c - a; omega, g5, by omega, by omega, (i3 t rfl).le (by show c - b ≤ c - a - (b - a); omega)⟩
    · exact ⟨Nat.le_refl a, ha, fun t e => by cases e; trivial⟩
theorem pRow_b {P : Nat → Pr} (hP : PB n P) : PB n (pRow tx P) := by
  intro a ha
  unfold pRow
  have hp := hP a ha
  cases hr : P a with
  | mk e b =>
    rw [hr] at hp
    obtain ⟨g1, g2, g3⟩ := hp
    have g1 : a ≤ b := g1
    have g2 : b ≤ n := g2
    cases e with
    | none => exact ⟨g1, g2, fun t e => by cases e⟩
    | some e =>
      obtain ⟨g4, g5, g6, g7⟩ := g3 e rfl
      have g4 : a < b := g4
      obtain ⟨i1, i2, i3⟩ := pRowL_b (tx := tx) hP 24 b g2
      dsimp only
      cases hq : pRowL tx P 24 b with
      | mk t c =>
        rw [hq] at i1 i2 i3
        have i1 : b ≤ c := i1
        have i2 : c ≤ n := i2
        cases t with
        | none => exact ⟨by show a ≤ c; omega, i2, fun t e => by cases e⟩
        | some t =>
          refine ⟨by show a ≤ c; omega, i2, fun t' e' => ?_⟩
          cases e'
          have hLB : LB (e :: t) (c - a) := ⟨b - a, by omega, by omega, g5, g6, g7, (i3 t rfl).le (by show c - b ≤ c - a - (b - a); omega)⟩
          exact ⟨by show a < c; omega, mkB_b (Or.inl rfl) t e (c - a) hLB⟩
theorem pChoice_b (hz : ∀ j, n ≤ j → tx j = 0) {P : Nat → Pr} (hP : PB n P) : PB n (pChoice tx P) := by
  intro a ha
  unfold pChoice
  have hp := hP a ha
  cases hr : P a with
  | mk e b =>
    rw [hr] at hp
    obtain ⟨g1, g2, g3⟩ := hp
    have g1 : a ≤ b := g1
    have g2 : b ≤ n := g2
    cases e with
    | none => exact ⟨g1, g2, fun t e => by cases e⟩
    | some e =>
      obtain ⟨g4, g5, g6, g7⟩ := g3 e rfl
      have g4 : a < b := g4
      obtain ⟨i1, i2, i3⟩ := pChL_b hz hP 24 b g2
      dsimp only
      cases hq : pChL tx P 24 b with
      | mk t c =>
        rw [hq] at i1 i2 i3
        have i1 : b ≤ c := i1
        have i2 : c ≤ n := i2
        cases t with
        | none => exact ⟨by show a ≤ c; omega, i2, fun t e => by cases e⟩
        | some t =>
          refine ⟨by show a ≤ c; omega, i2, fun t' e' => ?_⟩
          cases e'
          have hLB : LB (e :: t) (c - a) := ⟨b - a, by omega, by omega, g5, g6, g7, (i3 t rfl).le (by show c - b ≤ c - a - (b - a); omega)⟩
          exact ⟨by show a < c; omega, mkB_b (Or.inr rfl) t e (c - a) hLB⟩
theorem pG_b (hz : ∀ j, n ≤ j → tx j = 0) : ∀ j, PB n (pG tx j)
  | 0 => pChoice_b hz (pRow_b (pPart_b hz (fun g e => by cases e)))
  | j + 1 => pChoice_b hz (pRow_b (pPart_b hz (fun g e => by cases e; exact pG_b hz j)))
theorem pD_b (hz : ∀ j, n ≤ j → tx j = 0) (j : Nat) : ∀ g, pD tx j = some g → PB n g := by
  cases j with
  | zero => intro g e; cases e
  | succ j => intro g e; cases e; exact pG_b hz j
end BOUNDS
