/-! How many calls an expression that is read can have below. -/
section CRB
variable {n : Nat} {tx : Nat → Nat}
def KB (n K : Nat) (P : Nat → Pr) : Prop := ∀ a t b, a ≤ n → P a = (some t, b) → cR t ≤ K * (b - a)
def sumR : List Ex → Nat
  | [] => 0
  | e :: t => cR e + sumR t
theorem kadd {K a b c x y : Nat} (h1 : x ≤ K * (b - a)) (h2 : y ≤ K * (c - b)) (hab : a ≤ b) (hbc : b ≤ c) : x + y ≤ K * (c - a) := by
  have e : K * (b - a) + K * (c - b) = K * (c - a) := by rw [← Nat.mul_add]; congr 1; omega
  omega
theorem kmo {K a b c x : Nat} (h1 : x ≤ K * (b - c)) (h : b - c ≤ a) : x ≤ K * a := Nat.le_trans h1 (Nat.mul_le_mul_left K h)
theorem mkB_R {m : Nat} : ∀ (t : List Ex) (e : Ex), cR (mkB m e t) = cR e + sumR t
  | [], e => rfl
  | [x], e => by show cR e + cR x = cR e + (cR x + 0); omega
  | x :: y :: t, e => by
    show cR e + cR (mkB m x (y :: t)) = cR e + (cR x + sumR (y :: t))
    rw [mkB_R (y :: t) x]
theorem pRowL_K {P : Nat → Pr} {K : Nat} (hP : PB n P) (hK : KB n K P) : ∀ f a t c, a ≤ n → pRowL tx P f a = (some t, c) → sumR t ≤ K * (c - a) ∧ a ≤ c ∧ c ≤ n
  | 0, a, t, c, ha, e => by
    cases e
    exact ⟨Nat.zero_le _, Nat.le_refl _, ha⟩
  | f + 1, a, t, c, ha, e => by
    unfold pRowL at e
    split at e
    · have hp := hP a ha
      have hk := hK a
      cases hr : P a with
      | mk x b =>
        rw [hr] at hp e hk
        obtain ⟨g1, g2, g3⟩ := hp
        have g1 : a ≤ b := g1
        have g2 : b ≤ n := g2
        cases x with
        | none => cases e
        | some x =>
          dsimp only at e
          cases hq : pRowL tx P f b with
          | mk t2 c2 =>
            rw [hq] at e
            cases t2 with
            | none => cases e
            | some t2 =>
              cases e
              obtain ⟨i1, i2, i3⟩ := pRowL_K hP hK f b t2 c g2 hq
              exact ⟨kadd (hk x b ha rfl) i1 g1 i2, by omega, i3⟩
    · cases e
      exact ⟨Nat.zero_le _, Nat.le_refl _, ha⟩
theorem pChL_K (hz : ∀ j, n ≤ j → tx j = 0) {P : Nat → Pr} {K : Nat} (hP : PB n P) (hK : KB n K P) : ∀ f a t c, a ≤ n → pChL tx P f a = (some t, c) → sumR t ≤ K * (c - a) ∧ a ≤ c ∧ c ≤ n
  | 0, a, t, c, ha, e => by
    cases e
    exact ⟨Nat.zero_le _, Nat.le_refl _, ha⟩
  | f + 1, a, t, c, ha, e => by
    unfold pChL at e
    split at e
    · rename_i h47
      have k := tx_lt hz h47 (by decide)
      have hp := hP (a + 1) (by omega)
      have hk := hK (a + 1)
      cases hr : P (a + 1) with
      | mk x b =>
        rw [hr] at hp e hk
        obtain ⟨g1, g2, g3⟩ := hp
        have g1 : a + 1 ≤ b := g1
        have g2 : b ≤ n := g2
        cases x with
        | none => cases e
        | some x =>
          dsimp only at e
          cases hq : pChL tx P f b with
          | mk t2 c2 =>
            rw [hq] at e
            cases t2 with
            | none => cases e
            | some t2 =>
              cases e
              obtain ⟨i1, i2, i3⟩ := pChL_K hz hP hK f b t2 c g2 hq
              refine ⟨kadd (kmo (hk x b (by omega) rfl) (by omega)) i1 (by omega) i2, by omega, i3⟩
    · cases e
      exact ⟨Nat.zero_le _, Nat.le_refl _, ha⟩
theorem pRow_K {P : Nat → Pr} {K : Nat} (hP : PB n P) (hK : KB n K P) : KB n K (pRow tx P) := fun a t b ha e => by
  unfold pRow at e
  have hp := hP a ha
  have hk := hK a
  cases hr : P a with
  | mk x b2 =>
    rw [hr] at hp e hk
    obtain ⟨g1, g2, g3⟩ := hp
    have g1 : a ≤ b2 := g1
    have g2 : b2 ≤ n := g2
    cases x with
    | none => cases e
    | some x =>
      dsimp only at e
      cases hq : pRowL tx P 24 b2 with
      | mk t2 c2 =>
        rw [hq] at e
        cases t2 with
        | none => cases e
        | some t2 =>
          cases e
          obtain ⟨i1, i2, i3⟩ := pRowL_K hP hK 24 b2 t2 b g2 hq
          rw [mkB_R]
          exact kadd (hk x b2 ha rfl) i1 g1 i2
theorem pChoice_K (hz : ∀ j, n ≤ j → tx j = 0) {P : Nat → Pr} {K : Nat} (hP : PB n P) (hK : KB n K P) : KB n K (pChoice tx P) := fun a t b ha e => by
  unfold pChoice at e
  have hp := hP a ha
  have hk := hK a
  cases hr : P a with
  | mk x b2 =>
    rw [hr] at hp e hk
    obtain ⟨g1, g2, g3⟩ := hp
    have g1 : a ≤ b2 := g1
    have g2 : b2 ≤ n := g2
    cases x with
    | none => cases e
    | some x =>
      dsimp only at e
      cases hq : pChL tx P 24 b2 with
      | mk t2 c2 =>
        rw [hq] at e
        cases t2 with
        | none => cases e
        | some t2 =>
          cases e
          obtain ⟨i1, i2, i3⟩ := pChL_K hz hP hK 24 b2 t2 b g2 hq
          rw [mkB_R]
          exact kadd (hk x b2 ha rfl) i1 g1 i2
theorem pUnit_K {Dp : Option (Nat → Pr)} {K : Nat} (hK1 : 1 ≤ K) (hz : ∀ j, n ≤ j → tx j = 0) (hK : ∀ g, Dp = some g → KB n K g) (hB : ∀ g, Dp = some g → PB n g) : KB n K (pUnit tx Dp) := fun a t b ha e => by
  unfold pUnit at e
  split at e
  · unfold pRange at e
    split at e
    · cases e
    · split at e
      · cases e
      · split at e
        · cases e
        · split at e
          · cases e
          · cases e
            exact Nat.zero_le _
  · split at e
    · rename_i h40
      have k := tx_lt hz h40 (by decide)
      cases hd : Dp with
      | none => rw [hd] at e; cases e
      | some g =>
        rw [hd] at e
        dsimp only at e
        have hk := hK g hd (a + 1)
        have hb := hB g hd (a + 1) (by omega)
        cases hr : g (a + 1) with
        | mk x b2 =>
          rw [hr] at e hk hb
          cases x with
          | none => cases e
          | some x =>
            dsimp only at e
            split at e
            · cases e
              have hb1 : a + 1 ≤ b2 := hb.1
              exact kmo (hk _ b2 (by omega) rfl) (by omega)
            · cases e
    · split at e
      · cases e
        exact Nat.zero_le _
      · split at e
        · cases e
          exact Nat.zero_le _
        · split at e
          · cases e
            show 1 ≤ K * (a + 1 - a)
            rw [show a + 1 - a = 1 by omega]
            omega
          · cases e
theorem sB_78 (c : Nat) : sB c = 0 ∨ sB c = 8 ∨ sB c = 9 := by
  unfold sB
  split
  · exact Or.inr (Or.inl rfl)
  · split
    · exact Or.inr (Or.inr rfl)
    · exact Or.inl rfl
theorem pPart_K {Dp : Option (Nat → Pr)} {K : Nat} (hK1 : 1 ≤ K) (hz : ∀ j, n ≤ j → tx j = 0) (hK : ∀ g, Dp = some g → KB n K g) (hB : ∀ g, Dp = some g → PB n g) : KB n (21 * K) (pPart tx Dp) := fun a t b ha e => by
  unfold pPart at e
  have ha1 : a ≤ (if sB (tx a) = 0 then a else a + 1) ∧ (if sB (tx a) = 0 then a else a + 1) ≤ n := by
    split
    · exact ⟨Nat.le_refl _, ha⟩
    · rename_i h
      have := tx_lt hz (a := a) rfl (sB_nz h).1
      omega
  generalize (if sB (tx a) = 0 then a else a + 1) = a1 at e ha1
  have hk := pUnit_K hK1 hz hK hB a1
  have hu := pUnit_b hz hB a1 ha1.2
  cases hr : pUnit tx Dp a1 with
  | mk x b2 =>
    rw [hr] at e hk hu
    cases x with
    | none => cases e
    | some x =>
      dsimp only at e
      cases e
      have h1 := hk x b2 ha1.2 rfl
      have hu1 : a1 ≤ b2 := hu.1
      have h2 : ∀ k : Nat, cR (sgn k x) ≤ 21 * cR x := fun k => by
        unfold sgn
        split
        · omega
        · show (if k - 1 = 4 ∨ k - 1 = 5 then 21 * cR x else cR x) ≤ _
          split <;> omega
      have h3 : ∀ y, cR (sgn (sB (tx a)) y) = cR y := fun y => by
        unfold sgn
        rcases sB_78 (tx a) with h | h | h
        · rw [h, if_pos rfl]
        · rw [h, if_neg (by decide)]
          rfl
        · rw [h, if_neg (by decide)]
          rfl
      rw [h3]
      refine Nat.le_trans (h2 _) ?_
      rw [Nat.mul_assoc]
      refine Nat.mul_le_mul_left 21 (kmo h1 ?_)
      split <;> omega
theorem pG_K (hz : ∀ j, n ≤ j → tx j = 0) : ∀ j, KB n (21 ^ (j + 1)) (pG tx j)
  | 0 => pChoice_K hz (pRow_b (pPart_b hz (fun g e => by cases e))) (pRow_K (pPart_b hz (fun g e => by cases e)) (pPart_K (K := 1) (Nat.le_refl _) hz (fun g e => by cases e) (fun g e => by cases e)))
  | j + 1 => by
    have hB : ∀ g, some (pG tx j) = some g → PB n g := fun g e => by cases e; exact pG_b hz j
    have h := pPart_K (K := 21 ^ (j + 1)) (Nat.one_le_pow _ _ (by decide)) hz (fun g e => by cases e; exact pG_K hz j) hB
    rw [show 21 * 21 ^ (j + 1) = 21 ^ (j + 1 + 1) by rw [Nat.pow_succ 21 (j + 1), Nat.mul_comm]] at h
    exact pChoice_K hz (pRow_b (pPart_b hz hB)) (pRow_K (pPart_b hz hB) h)
/-- what a text that is read gives -/
theorem pRead_all (hn : n ≤ 24) (hz : ∀ j, n ≤ j → tx j = 0) {t : Ex} {b : Nat} (h : pRead tx n = (some t, b)) : isR (tx 0) ∧ 0 < n ∧ wf t ∧ ht t ≤ 24 ∧ sz t ≤ 63 ∧ cR t ≤ 2 ^ 28 := by
  unfold pRead at h
  split at h
  · cases h
  · rename_i h0
    have h0 : isR (tx 0) := Classical.not_not.mp h0
    have k0 : 0 < n := tx_lt hz rfl (by have := h0.1; omega)
    split at h
    · cases h
    · rename_i h1
      have h1 : tx 1 = 61 := Classical.not_not.mp h1
      have k1 := tx_lt hz h1 (by decide)
      have hb := pG_b hz 4 2 (by omega)
      have hk := pG_K hz 4 2
      cases hr : pG tx 4 2 with
      | mk x b2 =>
        rw [hr] at h hb hk
        cases x with
        | none => cases h
        | some x =>
          dsimp only at h
          split at h
          · cases h
          · cases h
            obtain ⟨g1, g2, g3⟩ := hb
            obtain ⟨g4, g5, g6, g7⟩ := g3 t rfl
            have g2 : b ≤ n := g2
            have g6 : ht t ≤ b - 2 := g6
            have g7 : sz t + 1 ≤ 2 * (b - 2) := g7
            have hk := hk t b (by omega) rfl
            refine ⟨h0, k0, g5, by omega, by omega, Nat.le_trans (kmo hk (show b - 2 ≤ 22 by omega)) (by decide)⟩
end CRB
