/-! The class's world. Cells by number: 0 the object; 1 pad, 2 its row; 3 input, 4 its row; 5 reader; 6 grammar, 7 its expressions; 8 memory, 9 gave, 10 belowSizes, 11 below; 12 matcher; 13 tree, 14 its rows, 15 to 18 each of them. Ints: 0 pad's size, 1 input's size, 2 at, 3 ruleRead, 4 verdict, 5 begun, 6 remembered, 7 the tree's size. -/
abbrev ND : Type := Int32 × Int32 × Int32 × Option Nat × Option Nat × Option Nat × Int32 × Int32
abbrev CSt : Type := (Nat → Int32) × (Nat → Nat → Int32) × Option Nat × (Nat → Option Nat) × (Nat → Option ND) × (Nat → Option (Option Nat × Option Nat))
def ndF (n : ND) : List Value := [.int n.1, .int n.2.1, .int n.2.2.1, va_rf n.2.2.2.1, va_rf n.2.2.2.2.1, va_rf n.2.2.2.2.2.1, .int n.2.2.2.2.2.2.1, .int n.2.2.2.2.2.2.2]
def cCell (cy : Nat → ClassId) (ax : Nat → Nat) (s : CSt) (k : Nat) : va_E := match k with
  | 0 => .inr (8, [.ref (ax 1), .ref (ax 3), .ref (ax 5), .ref (ax 6), .ref (ax 8), .ref (ax 12), .ref (ax 13)])
  | 1 => .inr (0, [.ref (ax 2), .int (s.1 0)])
  | 2 => .inl (cy 1, 24, .inl (s.2.1 2))
  | 3 => .inr (0, [.ref (ax 4), .int (s.1 1)])
  | 4 => .inl (cy 1, 20, .inl (s.2.1 4))
  | 5 => .inr (6, [.ref (ax 1), va_rf s.2.2.1, .int (s.1 2), .int (s.1 3)])
  | 6 => .inr (2, [.ref (ax 7), .int (s.1 4)])
  | 7 => .inl (cy 5, 6, .inr (.inr (.inr (.inr s.2.2.2.1))))
  | 8 => .inr (4, [.ref (ax 9), .ref (ax 10), .ref (ax 11)])
  | 9 => .inl (cy 2, 126, .inl (s.2.1 9))
  | 10 => .inl (cy 2, 126, .inl (s.2.1 10))
  | 11 => .inl (cy 0, 7560, .inl (s.2.1 11))
  | 12 => .inr (3, [.ref (ax 6), .ref (ax 3), .ref (ax 8), .int (s.1 5), .int (s.1 6)])
  | 13 => .inr (7, [.ref (ax 14), .int (s.1 7)])
  | 14 => .inl (cy 6, 4, .inr (.inr (.inr (.inr (fun i => if i < 4 then some (ax (15 + i)) else none)))))
  | 15 => .inl (cy 2, 60, .inl (s.2.1 15))
  | 16 => .inl (cy 2, 60, .inl (s.2.1 16))
  | 17 => .inl (cy 2, 60, .inl (s.2.1 17))
  | _ => .inl (cy 2, 60, .inl (s.2.1 18))
def IC (cy : Nat → ClassId) (ax : Nat → Nat) (hp0 : Hp) (s : CSt) (hp : Hp) : Prop :=
  (∀ k, k < 19 → hp (ax k) = some (cCell cy ax s k)) ∧ (∀ i j, i < 19 → j < 19 → ax i = ax j → i = j) ∧ (∀ a n, s.2.2.2.2.1 a = some n → hp a = some (.inr (5, ndF n))) ∧ (∀ a e, s.2.2.2.2.2 a = some e → hp a = some (.inr (1, [va_rf e.1, va_rf e.2]))) ∧ (∀ a, (∀ k, k < 19 → a ≠ ax k) → s.2.2.2.2.1 a = none → s.2.2.2.2.2 a = none → hp a = hp0 a) ∧ ∀ a, hp0 a ≠ none → s.2.2.2.2.1 a = none ∧ s.2.2.2.2.2 a = none
theorem cCell_no5 {cy : Nat → ClassId} {ax : Nat → Nat} {s : CSt} {k : Nat} (hk : k < 19) (f : List Value) : cCell cy ax s k ≠ .inr (5, f) ∧ cCell cy ax s k ≠ .inr (1, f) := by
  have : k = 0 ∨ k = 1 ∨ k = 2 ∨ k = 3 ∨ k = 4 ∨ k = 5 ∨ k = 6 ∨ k = 7 ∨ k = 8 ∨ k = 9 ∨ k = 10 ∨ k = 11 ∨ k = 12 ∨ k = 13 ∨ k = 14 ∨ k = 15 ∨ k = 16 ∨ k = 17 ∨ k = 18 := by omega
  rcases this with rfl | rfl | rfl | rfl | rfl | rfl | rfl | rfl | rfl | rfl | rfl | rfl | rfl | rfl | rfl | rfl | rfl | rfl | rfl <;> exact ⟨fun h => by simp [cCell] at h, fun h => by simp [cCell] at h⟩
theorem IC.ndne {cy : Nat → ClassId} {ax : Nat → Nat} {hp0 hp : Hp} {s : CSt} (h : IC cy ax hp0 s hp) {a : Nat} {n : ND} (hn : s.2.2.2.2.1 a = some n) : ∀ k, k < 19 → a ≠ ax k := fun k hk e => by
  have h1 := h.2.2.1 a n hn
  rw [e, h.1 k hk] at h1
  exact (cCell_no5 hk _).1 (Option.some.inj h1)
theorem IC.exne {cy : Nat → ClassId} {ax : Nat → Nat} {hp0 hp : Hp} {s : CSt} (h : IC cy ax hp0 s hp) {a : Nat} {n : Option Nat × Option Nat} (hn : s.2.2.2.2.2 a = some n) : ∀ k, k < 19 → a ≠ ax k := fun k hk e => by
  have h1 := h.2.2.2.1 a n hn
  rw [e, h.1 k hk] at h1
  exact (cCell_no5 hk _).2 (Option.some.inj h1)
theorem IC.apart {cy : Nat → ClassId} {ax : Nat → Nat} {hp0 hp : Hp} {s : CSt} (h : IC cy ax hp0 s hp) {a b : Nat} {n : ND} {e : Option Nat × Option Nat} (hn : s.2.2.2.2.1 a = some n) (he : s.2.2.2.2.2 b = some e) : a ≠ b := fun q => by
  subst q
  have h1 := (h.2.2.1 a n hn).symm.trans (h.2.2.2.1 a e he)
  simp at h1
/-- one fixed cell changes -/
theorem IC.cell {cy : Nat → ClassId} {ax : Nat → Nat} {hp0 hp : Hp} {s s' : CSt} (h : IC cy ax hp0 s hp) {k : Nat} {c : va_E} (hk : k < 19) (hc : cCell cy ax s' k = c) (ho : ∀ j, j < 19 → j ≠ k → cCell cy ax s' j = cCell cy ax s j) (hn : s'.2.2.2.2 = s.2.2.2.2) : IC cy ax hp0 s' (va_up hp (ax k) (some c)) := by
  obtain ⟨h1, h2, h3, h4, h5, h6⟩ := id h
  refine ⟨fun j hj => ?_, h2, fun a n ha => ?_, fun a e ha => ?_, fun a ha g1 g2 => ?_, fun a ha => by rw [hn]; exact h6 a ha⟩
  · by_cases hjk : j = k
    · subst hjk
      rw [va_up_self, hc]
    · rw [va_up_ne _ _ (fun e => hjk (h2 j k hj hk e)), h1 j hj, ho j hj hjk]
  · rw [hn] at ha
    rw [va_up_ne _ _ (h.ndne ha k hk)]
    exact h3 a n ha
  · rw [hn] at ha
    rw [va_up_ne _ _ (h.exne ha k hk)]
    exact h4 a e ha
  · rw [hn] at g1 g2
    rw [va_up_ne _ _ (ha k hk)]
    exact h5 a ha g1 g2
def ndP (s : CSt) (f : Nat → Option ND) : CSt := (s.1, s.2.1, s.2.2.1, s.2.2.2.1, f, s.2.2.2.2.2)
def exP (s : CSt) (f : Nat → Option (Option Nat × Option Nat)) : CSt := (s.1, s.2.1, s.2.2.1, s.2.2.2.1, s.2.2.2.2.1, f)
/-- a node changes, or comes -/
theorem IC.nd {cy : Nat → ClassId} {ax : Nat → Nat} {hp0 hp : Hp} {s : CSt} (h : IC cy ax hp0 s hp) {a : Nat} (n : ND) (ha : (∃ n0, s.2.2.2.2.1 a = some n0) ∨ hp a = none) : IC cy ax hp0 (ndP s (va_up s.2.2.2.2.1 a (some n))) (va_up hp a (some (.inr (5, ndF n)))) := by
  obtain ⟨h1, h2, h3, h4, h5, h6⟩ := id h
  have hx : ∀ k, k < 19 → a ≠ ax k := by
    rcases ha with ⟨n0, ha⟩ | ha
    · exact h.ndne ha
    · intro k hk e
      rw [e, h1 k hk] at ha
      cases ha
  have hy : ∀ b e, s.2.2.2.2.2 b = some e → b ≠ a := by
    intro b e hb q
    rcases ha with ⟨n0, ha⟩ | ha
    · exact h.apart ha hb q.symm
    · rw [← q, h4 b e hb] at ha
      cases ha
  have h7 : ∀ b, hp0 b ≠ none → va_up s.2.2.2.2.1 a (some n) b = none ∧ s.2.2.2.2.2 b = none := fun b hb => by
    have hb2 := h6 b hb
    by_cases hba : b = a
    · subst hba
      exfalso
      rcases ha with ⟨n0, ha⟩ | ha
      · rw [hb2.1] at ha
        cases ha
      · exact hb (by rw [← h5 b hx hb2.1 hb2.2]; exact ha)
    · rw [va_up_ne _ _ hba]
      exact hb2
  refine ⟨fun j hj => ?_, h2, fun b m hb => ?_, fun b e hb => ?_, fun b hb g1 g2 => ?_, h7⟩
  · rw [va_up_ne _ _ (fun e => hx j hj e.symm)]
    exact h1 j hj
  · by_cases hba : b = a
    · subst hba
      have hb : va_up s.2.2.2.2.1 b (some n) b = some m := hb
      rw [va_up_self] at hb ⊢
      rw [Option.some.inj hb]
    · have hb : va_up s.2.2.2.2.1 a (some n) b = some m := hb
      rw [va_up_ne _ _ hba] at hb ⊢
      exact h3 b m hb
  · rw [va_up_ne _ _ (hy b e hb)]
    exact h4 b e hb
  · have g1 : va_up s.2.2.2.2.1 a (some n) b = none := g1
    by_cases hba : b = a
    · subst hba
      rw [va_up_self] at g1
      cases g1
    · rw [va_up_ne _ _ hba] at g1 ⊢
      exact h5 b hb g1 g2
/-- an expression changes, or comes -/
theorem IC.ex {cy : Nat → ClassId} {ax : Nat → Nat} {hp0 hp : Hp} {s : CSt} (h : IC cy ax hp0 s hp) {a : Nat} (n : Option Nat × Option Nat) (ha : (∃ n0, s.2.2.2.2.2 a = some n0) ∨ hp a = none) : IC cy ax hp0 (exP s (va_up s.2.2.2.2.2 a (some n))) (va_up hp a (some (.inr (1, [va_rf n.1, va_rf n.2])))) := by
  obtain ⟨h1, h2, h3, h4, h5, h6⟩ := id h
  have hx : ∀ k, k < 19 → a ≠ ax k := by
    rcases ha with ⟨n0, ha⟩ | ha
    · exact h.exne ha
    · intro k hk e
      rw [e, h1 k hk] at ha
      cases ha
  have hy : ∀ b e, s.2.2.2.2.1 b = some e → b ≠ a := by
    intro b e hb q
    rcases ha with ⟨n0, ha⟩ | ha
    · exact h.apart hb ha q
    · rw [← q, h3 b e hb] at ha
      cases ha
  have h7 : ∀ b, hp0 b ≠ none → s.2.2.2.2.1 b = none ∧ va_up s.2.2.2.2.2 a (some n) b = none := fun b hb => by
    have hb2 := h6 b hb
    by_cases hba : b = a
    · subst hba
      exfalso
      rcases ha with ⟨n0, ha⟩ | ha
      · rw [hb2.2] at ha
        cases ha
      · exact hb (by rw [← h5 b hx hb2.1 hb2.2]; exact ha)
    · rw [va_up_ne _ _ hba]
      exact hb2
  refine ⟨fun j hj => ?_, h2, fun b m hb => ?_, fun b e hb => ?_, fun b hb g1 g2 => ?_, h7⟩
  · rw [va_up_ne _ _ (fun e => hx j hj e.symm)]
    exact h1 j hj
  · rw [va_up_ne _ _ (hy b m hb)]
    exact h3 b m hb
  · by_cases hba : b = a
    · subst hba
      have hb : va_up s.2.2.2.2.2 b (some n) b = some e := hb
      rw [va_up_self] at hb ⊢
      rw [Option.some.inj hb]
    · have hb : va_up s.2.2.2.2.2 a (some n) b = some e := hb
      rw [va_up_ne _ _ hba] at hb ⊢
      exact h4 b e hb
  · have g2 : va_up s.2.2.2.2.2 a (some n) b = none := g2
    by_cases hba : b = a
    · subst hba
      rw [va_up_self] at g2
      cases g2
    · rw [va_up_ne _ _ hba] at g2 ⊢
      exact h5 b hb g1 g2
theorem k19 {P : Nat → Prop} (h : P 0 ∧ P 1 ∧ P 2 ∧ P 3 ∧ P 4 ∧ P 5 ∧ P 6 ∧ P 7 ∧ P 8 ∧ P 9 ∧ P 10 ∧ P 11 ∧ P 12 ∧ P 13 ∧ P 14 ∧ P 15 ∧ P 16 ∧ P 17 ∧ P 18) : ∀ k, k < 19 → P k := by
  intro k hk
  have : k = 0 ∨ k = 1 ∨ k = 2 ∨ k = 3 ∨ k = 4 ∨ k = 5 ∨ k = 6 ∨ k = 7 ∨ k = 8 ∨ k = 9 ∨ k = 10 ∨ k = 11 ∨ k = 12 ∨ k = 13 ∨ k = 14 ∨ k = 15 ∨ k = 16 ∨ k = 17 ∨ k = 18 := by omega
  obtain ⟨h0, h1, h2, h3, h4, h5, h6, h7, h8, h9, h10, h11, h12, h13, h14, h15, h16, h17, h18⟩ := h
  rcases this with rfl | rfl | rfl | rfl | rfl | rfl | rfl | rfl | rfl | rfl | rfl | rfl | rfl | rfl | rfl | rfl | rfl | rfl | rfl <;> assumption
/-- which cell an int or an array belongs to -/
def cI (i : Nat) : Nat × Nat := match i with
  | 0 => (1, 1)
  | 1 => (3, 1)
  | 2 => (5, 2)
  | 3 => (5, 3)
  | 4 => (6, 1)
  | 5 => (12, 3)
  | 6 => (12, 4)
  | _ => (13, 1)
section KLASS
variable {cy : Nat → ClassId} {ax : Nat → Nat} {hp0 : Hp} {l : Launch} {D : va_G} {base : Nat} {M : Mth} {d bc bs pc : Nat} {lv : List (Nat × Value)} {st : List Value} {s : CSt} {Q : Oc → CSt → Prop}
theorem EC.get {idx ci k j : Nat} {ty : FieldType} {fin : Bool} {fs : List Value} {v : Value} (hf : FLD M.1 idx ci j ty fin) (hdg : decode M.2.1 pc = .ok (.getfield idx, 3)) (hk : k < 19) (hc : cCell cy ax s k = .inr (ci, fs)) (hv9 : fs[j]? = some v) (kk : EW (IC cy ax hp0) l D cy base M d bc bs (pc + 3) lv (v :: st) s Q) : EW (IC cy ax hp0) l D cy base M d bc bs pc lv (.ref (ax k) :: st) s Q :=
  fun hp h => E.get hf hdg (by rw [h.1 k hk, hc]) hv9 (kk hp h)
theorem EC.ndget {idx j a : Nat} {ty : FieldType} {fin : Bool} {n : ND} {v : Value} (hf : FLD M.1 idx 5 j ty fin) (hdg : decode M.2.1 pc = .ok (.getfield idx, 3)) (hn : s.2.2.2.2.1 a = some n) (hv9 : (ndF n)[j]? = some v) (kk : EW (IC cy ax hp0) l D cy base M d bc bs (pc + 3) lv (v :: st) s Q) : EW (IC cy ax hp0) l D cy base M d bc bs pc lv (.ref a :: st) s Q :=
  fun hp h => E.get hf hdg (h.2.2.1 a n hn) hv9 (kk hp h)
theorem EC.exget {idx j a : Nat} {ty : FieldType} {fin : Bool} {n : Option Nat × Option Nat} {v : Value} (hf : FLD M.1 idx 1 j ty fin) (hdg : decode M.2.1 pc = .ok (.getfield idx, 3)) (hn : s.2.2.2.2.2 a = some n) (hv9 : ([va_rf n.1, va_rf n.2] : List Value)[j]? = some v) (kk : EW (IC cy ax hp0) l D cy base M d bc bs (pc + 3) lv (v :: st) s Q) : EW (IC cy ax hp0) l D cy base M d bc bs pc lv (.ref a :: st) s Q :=
  fun hp h => E.get hf hdg (h.2.2.2.1 a n hn) hv9 (kk hp h)
theorem EC.put0 {idx : Nat} {v : Int32} (hf : FLD M.1 idx 0 1 .int false) (hdg : decode M.2.1 pc = .ok (.putfield idx, 3)) (kk : EW (IC cy ax hp0) l D cy base M d bc bs (pc + 3) lv st (va_up s.1 0 v, s.2) Q) : EW (IC cy ax hp0) l D cy base M d bc bs pc lv (.int v :: .ref (ax 1) :: st) s Q :=
  fun hp h => E.put hf hdg (h.1 1 (by decide)) (Nat.le_of_ble_eq_true rfl) rfl rfl (kk _ (h.cell (s' := (va_up s.1 0 v, s.2)) (by decide) rfl (k19 ⟨fun _ => rfl, fun h => absurd rfl h, fun _ => rfl, fun _ => rfl, fun _ => rfl, fun _ => rfl, fun _ => rfl, fun _ => rfl, fun _ => rfl, fun _ => rfl, fun _ => rfl, fun _ => rfl, fun _ => rfl, fun _ => rfl, fun _ => rfl, fun _ => rfl, fun _ => rfl, fun _ => rfl, fun _ => rfl⟩) rfl))
theorem EC.put1 {idx : Nat} {v : Int32} (hf : FLD M.1 idx 0 1 .int false) (hdg : decode M.2.1 pc = .ok (.putfield idx, 3)) (kk : EW (IC cy ax hp0) l D cy base M d bc bs (pc + 3) lv st (va_up s.1 1 v, s.2) Q) : EW (IC cy ax hp0) l D cy base M d bc bs pc lv (.int v :: .ref (ax 3) :: st) s Q :=
  fun hp h => E.put hf hdg (h.1 3 (by decide)) (Nat.le_of_ble_eq_true rfl) rfl rfl (kk _ (h.cell (s' := (va_up s.1 1 v, s.2)) (by decide) rfl (k19 ⟨fun _ => rfl, fun _ => rfl, fun _ => rfl, fun h => absurd rfl h, fun _ => rfl, fun _ => rfl, fun _ => rfl, fun _ => rfl, fun _ => rfl, fun _ => rfl, fun _ => rfl, fun _ => rfl, fun _ => rfl, fun _ => rfl, fun _ => rfl, fun _ => rfl, fun _ => rfl, fun _ => rfl, fun _ => rfl⟩) rfl))
theorem EC.put2 {idx : Nat} {v : Int32} (hf : FLD M.1 idx 6 2 .int false) (hdg : decode M.2.1 pc = .ok (.putfield idx, 3)) (kk : EW (IC cy ax hp0) l D cy base M d bc bs (pc + 3) lv st (va_up s.1 2 v, s.2) Q) : EW (IC cy ax hp0) l D cy base M d bc bs pc lv (.int v :: .ref (ax 5) :: st) s Q :=
  fun hp h => E.put hf hdg (h.1 5 (by decide)) (Nat.le_of_ble_eq_true rfl) rfl rfl (kk _ (h.cell (s' := (va_up s.1 2 v, s.2)) (by decide) rfl (k19 ⟨fun _ => rfl, fun _ => rfl, fun _ => rfl, fun _ => rfl, fun _ => rfl, fun h => absurd rfl h, fun _ => rfl, fun _ => rfl, fun _ => rfl, fun _ => rfl, fun _ => rfl, fun _ => rfl, fun _ => rfl, fun _ => rfl, fun _ => rfl, fun _ => rfl, fun _ => rfl, fun _ => rfl, fun _ => rfl⟩) rfl))
theorem EC.put3 {idx : Nat} {v : Int32} (hf : FLD M.1 idx 6 3 .int false) (hdg : decode M.2.1 pc = .ok (.putfield idx, 3)) (kk : EW (IC cy ax hp0) l D cy base M d bc bs (pc + 3) lv st (va_up s.1 3 v, s.2) Q) : EW (IC cy ax hp0) l D cy base M d bc bs pc lv (.int v :: .ref (ax 5) :: st) s Q :=
  fun hp h => E.put hf hdg (h.1 5 (by decide)) (Nat.le_of_ble_eq_true rfl) rfl rfl (kk _ (h.cell (s' := (va_up s.1 3 v, s.2)) (by decide) rfl (k19 ⟨fun _ => rfl, fun _ => rfl, fun _ => rfl, fun _ => rfl, fun _ => rfl, fun h => absurd rfl h, fun _ => rfl, fun _ => rfl, fun _ => rfl, fun _ => rfl, fun _ => rfl, fun _ => rfl, fun _ => rfl, fun _ => rfl, fun _ => rfl, fun _ => rfl, fun _ => rfl, fun _ => rfl, fun _ => rfl⟩) rfl))
theorem EC.put4 {idx : Nat} {v : Int32} (hf : FLD M.1 idx 2 1 .int false) (hdg : decode M.2.1 pc = .ok (.putfield idx, 3)) (kk : EW (IC cy ax hp0) l D cy base M d bc bs (pc + 3) lv st (va_up s.1 4 v, s.2) Q) : EW (IC cy ax hp0) l D cy base M d bc bs pc lv (.int v :: .ref (ax 6) :: st) s Q :=
  fun hp h => E.put hf hdg (h.1 6 (by decide)) (Nat.le_of_ble_eq_true rfl) rfl rfl (kk _ (h.cell (s' := (va_up s.1 4 v, s.2)) (by decide) rfl (k19 ⟨fun _ => rfl, fun _ => rfl, fun _ => rfl, fun _ => rfl, fun _ => rfl, fun _ => rfl, fun h => absurd rfl h, fun _ => rfl, fun _ => rfl, fun _ => rfl, fun _ => rfl, fun _ => rfl, fun _ => rfl, fun _ => rfl, fun _ => rfl, fun _ => rfl, fun _ => rfl, fun _ => rfl, fun _ => rfl⟩) rfl))
theorem EC.put5 {idx : Nat} {v : Int32} (hf : FLD M.1 idx 3 3 .int false) (hdg : decode M.2.1 pc = .ok (.putfield idx, 3)) (kk : EW (IC cy ax hp0) l D cy base M d bc bs (pc + 3) lv st (va_up s.1 5 v, s.2) Q) : EW (IC cy ax hp0) l D cy base M d bc bs pc lv (.int v :: .ref (ax 12) :: st) s Q :=
  fun hp h => E.put hf hdg (h.1 12 (by decide)) (Nat.le_of_ble_eq_true rfl) rfl rfl (kk _ (h.cell (s' := (va_up s.1 5 v, s.2)) (by decide) rfl (k19 ⟨fun _ => rfl, fun _ => rfl, fun _ => rfl, fun _ => rfl, fun _ => rfl, fun _ => rfl, fun _ => rfl, fun _ => rfl, fun _ => rfl, fun _ => rfl, fun _ => rfl, fun _ => rfl, fun h => absurd rfl h, fun _ => rfl, fun _ => rfl, fun _ => rfl, fun _ => rfl, fun _ => rfl, fun _ => rfl⟩) rfl))
theorem EC.put6 {idx : Nat} {v : Int32} (hf : FLD M.1 idx 3 4 .int false) (hdg : decode M.2.1 pc = .ok (.putfield idx, 3)) (kk : EW (IC cy ax hp0) l D cy base M d bc bs (pc + 3) lv st (va_up s.1 6 v, s.2) Q) : EW (IC cy ax hp0) l D cy base M d bc bs pc lv (.int v :: .ref (ax 12) :: st) s Q :=
  fun hp h => E.put hf hdg (h.1 12 (by decide)) (Nat.le_of_ble_eq_true rfl) rfl rfl (kk _ (h.cell (s' := (va_up s.1 6 v, s.2)) (by decide) rfl (k19 ⟨fun _ => rfl, fun _ => rfl, fun _ => rfl, fun _ => rfl, fun _ => rfl, fun _ => rfl, fun _ => rfl, fun _ => rfl, fun _ => rfl, fun _ => rfl, fun _ => rfl, fun _ => rfl, fun h => absurd rfl h, fun _ => rfl, fun _ => rfl, fun _ => rfl, fun _ => rfl, fun _ => rfl, fun _ => rfl⟩) rfl))
theorem EC.put7 {idx : Nat} {v : Int32} (hf : FLD M.1 idx 7 1 .int false) (hdg : decode M.2.1 pc = .ok (.putfield idx, 3)) (kk : EW (IC cy ax hp0) l D cy base M d bc bs (pc + 3) lv st (va_up s.1 7 v, s.2) Q) : EW (IC cy ax hp0) l D cy base M d bc bs pc lv (.int v :: .ref (ax 13) :: st) s Q :=
  fun hp h => E.put hf hdg (h.1 13 (by decide)) (Nat.le_of_ble_eq_true rfl) rfl rfl (kk _ (h.cell (s' := (va_up s.1 7 v, s.2)) (by decide) rfl (k19 ⟨fun _ => rfl, fun _ => rfl, fun _ => rfl, fun _ => rfl, fun _ => rfl, fun _ => rfl, fun _ => rfl, fun _ => rfl, fun _ => rfl, fun _ => rfl, fun _ => rfl, fun _ => rfl, fun _ => rfl, fun h => absurd rfl h, fun _ => rfl, fun _ => rfl, fun _ => rfl, fun _ => rfl, fun _ => rfl⟩) rfl))
theorem EC.putX {idx : Nat} {r : Option Nat} {nm : String} (hf : FLD M.1 idx 6 1 (.object nm) false) (hdg : decode M.2.1 pc = .ok (.putfield idx, 3)) (kk : EW (IC cy ax hp0) l D cy base M d bc bs (pc + 3) lv st (s.1, s.2.1, r, s.2.2.2) Q) : EW (IC cy ax hp0) l D cy base M d bc bs pc lv (va_rf r :: .ref (ax 5) :: st) s Q :=
  fun hp h => E.put hf hdg (h.1 5 (by decide)) (Nat.le_of_ble_eq_true rfl) (by cases r <;> rfl) (by cases r <;> rfl) (kk _ (h.cell (s' := (s.1, s.2.1, r, s.2.2.2)) (by decide) rfl (k19 ⟨fun _ => rfl, fun _ => rfl, fun _ => rfl, fun _ => rfl, fun _ => rfl, fun h => absurd rfl h, fun _ => rfl, fun _ => rfl, fun _ => rfl, fun _ => rfl, fun _ => rfl, fun _ => rfl, fun _ => rfl, fun _ => rfl, fun _ => rfl, fun _ => rfl, fun _ => rfl, fun _ => rfl, fun _ => rfl⟩) rfl))
theorem EC.ald2 (i : Nat) (hdg : decode M.2.1 pc = .ok (.caload, 1)) (hin : i < 24) (kk : EW (IC cy ax hp0) l D cy base M d bc bs (pc + 1) lv (.int (s.2.1 2 i) :: st) s Q) : EW (IC cy ax hp0) l D cy base M d bc bs pc lv (.int (nI i) :: .ref (ax 2) :: st) s Q :=
  fun hp h => E.cald hdg (h.1 2 (by decide)) (vp_in_nI hin (by decide)) (by rw [nI_clamp (by omega)]; exact kk hp h)
theorem EC.ast2 {x : Int32} (i : Nat) (hdg : decode M.2.1 pc = .ok (.castore, 1)) (hin : i < 24) (kk : EW (IC cy ax hp0) l D cy base M d bc bs (pc + 1) lv st (s.1, va_up s.2.1 2 (upd (s.2.1 2) i (vp_nar .char x)), s.2.2) Q) : EW (IC cy ax hp0) l D cy base M d bc bs pc lv (.int x :: .int (nI i) :: .ref (ax 2) :: st) s Q :=
  fun hp h => E.cast hdg (h.1 2 (by decide)) (vp_in_nI hin (by decide)) (by rw [nI_clamp (by omega)]; exact kk _ (h.cell (s' := (s.1, va_up s.2.1 2 (upd (s.2.1 2) i (vp_nar .char x)), s.2.2)) (by decide) rfl (k19 ⟨fun _ => rfl, fun _ => rfl, fun h => absurd rfl h, fun _ => rfl, fun _ => rfl, fun _ => rfl, fun _ => rfl, fun _ => rfl, fun _ => rfl, fun _ => rfl, fun _ => rfl, fun _ => rfl, fun _ => rfl, fun _ => rfl, fun _ => rfl, fun _ => rfl, fun _ => rfl, fun _ => rfl, fun _ => rfl⟩) rfl))
theorem EC.len2 (hdg : decode M.2.1 pc = .ok (.arraylength, 1)) (kk : EW (IC cy ax hp0) l D cy base M d bc bs (pc + 1) lv (.int (nI 24) :: st) s Q) : EW (IC cy ax hp0) l D cy base M d bc bs pc lv (.ref (ax 2) :: st) s Q :=
  fun hp h => E.alen (t0 := 1) rfl hdg (h.1 2 (by decide)) rfl (kk hp h)
theorem EC.ald4 (i : Nat) (hdg : decode M.2.1 pc = .ok (.caload, 1)) (hin : i < 20) (kk : EW (IC cy ax hp0) l D cy base M d bc bs (pc + 1) lv (.int (s.2.1 4 i) :: st) s Q) : EW (IC cy ax hp0) l D cy base M d bc bs pc lv (.int (nI i) :: .ref (ax 4) :: st) s Q :=
  fun hp h => E.cald hdg (h.1 4 (by decide)) (vp_in_nI hin (by decide)) (by rw [nI_clamp (by omega)]; exact kk hp h)
theorem EC.ast4 {x : Int32} (i : Nat) (hdg : decode M.2.1 pc = .ok (.castore, 1)) (hin : i < 20) (kk : EW (IC cy ax hp0) l D cy base M d bc bs (pc + 1) lv st (s.1, va_up s.2.1 4 (upd (s.2.1 4) i (vp_nar .char x)), s.2.2) Q) : EW (IC cy ax hp0) l D cy base M d bc bs pc lv (.int x :: .int (nI i) :: .ref (ax 4) :: st) s Q :=
  fun hp h => E.cast hdg (h.1 4 (by decide)) (vp_in_nI hin (by decide)) (by rw [nI_clamp (by omega)]; exact kk _ (h.cell (s' := (s.1, va_up s.2.1 4 (upd (s.2.1 4) i (vp_nar .char x)), s.2.2)) (by decide) rfl (k19 ⟨fun _ => rfl, fun _ => rfl, fun _ => rfl, fun _ => rfl, fun h => absurd rfl h, fun _ => rfl, fun _ => rfl, fun _ => rfl, fun _ => rfl, fun _ => rfl, fun _ => rfl, fun _ => rfl, fun _ => rfl, fun _ => rfl, fun _ => rfl, fun _ => rfl, fun _ => rfl, fun _ => rfl, fun _ => rfl⟩) rfl))
theorem EC.len4 (hdg : decode M.2.1 pc = .ok (.arraylength, 1)) (kk : EW (IC cy ax hp0) l D cy base M d bc bs (pc + 1) lv (.int (nI 20) :: st) s Q) : EW (IC cy ax hp0) l D cy base M d bc bs pc lv (.ref (ax 4) :: st) s Q :=
  fun hp h => E.alen (t0 := 1) rfl hdg (h.1 4 (by decide)) rfl (kk hp h)
theorem EC.ald9 (i : Nat) (hdg : decode M.2.1 pc = .ok (.iaload, 1)) (hin : i < 126) (kk : EW (IC cy ax hp0) l D cy base M d bc bs (pc + 1) lv (.int (s.2.1 9 i) :: st) s Q) : EW (IC cy ax hp0) l D cy base M d bc bs pc lv (.int (nI i) :: .ref (ax 9) :: st) s Q :=
  fun hp h => E.iald hdg (h.1 9 (by decide)) (vp_in_nI hin (by decide)) (by rw [nI_clamp (by omega)]; exact kk hp h)
theorem EC.ast9 {x : Int32} (i : Nat) (hdg : decode M.2.1 pc = .ok (.iastore, 1)) (hin : i < 126) (kk : EW (IC cy ax hp0) l D cy base M d bc bs (pc + 1) lv st (s.1, va_up s.2.1 9 (upd (s.2.1 9) i x), s.2.2) Q) : EW (IC cy ax hp0) l D cy base M d bc bs pc lv (.int x :: .int (nI i) :: .ref (ax 9) :: st) s Q :=
  fun hp h => E.iast hdg (h.1 9 (by decide)) (vp_in_nI hin (by decide)) (by rw [nI_clamp (by omega)]; exact kk _ (h.cell (s' := (s.1, va_up s.2.1 9 (upd (s.2.1 9) i x), s.2.2)) (by decide) rfl (k19 ⟨fun _ => rfl, fun _ => rfl, fun _ => rfl, fun _ => rfl, fun _ => rfl, fun _ => rfl, fun _ => rfl, fun _ => rfl, fun _ => rfl, fun h => absurd rfl h, fun _ => rfl, fun _ => rfl, fun _ => rfl, fun _ => rfl, fun _ => rfl, fun _ => rfl, fun _ => rfl, fun _ => rfl, fun _ => rfl⟩) rfl))
theorem EC.len9 (hdg : decode M.2.1 pc = .ok (.arraylength, 1)) (kk : EW (IC cy ax hp0) l D cy base M d bc bs (pc + 1) lv (.int (nI 126) :: st) s Q) : EW (IC cy ax hp0) l D cy base M d bc bs pc lv (.ref (ax 9) :: st) s Q :=
  fun hp h => E.alen (t0 := 2) rfl hdg (h.1 9 (by decide)) rfl (kk hp h)
theorem EC.ald10 (i : Nat) (hdg : decode M.2.1 pc = .ok (.iaload, 1)) (hin : i < 126) (kk : EW (IC cy ax hp0) l D cy base M d bc bs (pc + 1) lv (.int (s.2.1 10 i) :: st) s Q) : EW (IC cy ax hp0) l D cy base M d bc bs pc lv (.int (nI i) :: .ref (ax 10) :: st) s Q :=
  fun hp h => E.iald hdg (h.1 10 (by decide)) (vp_in_nI hin (by decide)) (by rw [nI_clamp (by omega)]; exact kk hp h)
theorem EC.ast10 {x : Int32} (i : Nat) (hdg : decode M.2.1 pc = .ok (.iastore, 1)) (hin : i < 126) (kk : EW (IC cy ax hp0) l D cy base M d bc bs (pc + 1) lv st (s.1, va_up s.2.1 10 (upd (s.2.1 10) i x), s.2.2) Q) : EW (IC cy ax hp0) l D cy base M d bc bs pc lv (.int x :: .int (nI i) :: .ref (ax 10) :: st) s Q :=
  fun hp h => E.iast hdg (h.1 10 (by decide)) (vp_in_nI hin (by decide)) (by rw [nI_clamp (by omega)]; exact kk _ (h.cell (s' := (s.1, va_up s.2.1 10 (upd (s.2.1 10) i x), s.2.2)) (by decide) rfl (k19 ⟨fun _ => rfl, fun _ => rfl, fun _ => rfl, fun _ => rfl, fun _ => rfl, fun _ => rfl, fun _ => rfl, fun _ => rfl, fun _ => rfl, fun _ => rfl, fun h => absurd rfl h, fun _ => rfl, fun _ => rfl, fun _ => rfl, fun _ => rfl, fun _ => rfl, fun _ => rfl, fun _ => rfl, fun _ => rfl⟩) rfl))
theorem EC.len10 (hdg : decode M.2.1 pc = .ok (.arraylength, 1)) (kk : EW (IC cy ax hp0) l D cy base M d bc bs (pc + 1) lv (.int (nI 126) :: st) s Q) : EW (IC cy ax hp0) l D cy base M d bc bs pc lv (.ref (ax 10) :: st) s Q :=
  fun hp h => E.alen (t0 := 2) rfl hdg (h.1 10 (by decide)) rfl (kk hp h)
theorem EC.ald11 (i : Nat) (hdg : decode M.2.1 pc = .ok (.baload, 1)) (hin : i < 7560) (kk : EW (IC cy ax hp0) l D cy base M d bc bs (pc + 1) lv (.int (s.2.1 11 i) :: st) s Q) : EW (IC cy ax hp0) l D cy base M d bc bs pc lv (.int (nI i) :: .ref (ax 11) :: st) s Q :=
  fun hp h => E.bald hdg (h.1 11 (by decide)) (vp_in_nI hin (by decide)) (by rw [nI_clamp (by omega)]; exact kk hp h)
theorem EC.ast11 {x : Int32} (i : Nat) (hdg : decode M.2.1 pc = .ok (.bastore, 1)) (hin : i < 7560) (kk : EW (IC cy ax hp0) l D cy base M d bc bs (pc + 1) lv st (s.1, va_up s.2.1 11 (upd (s.2.1 11) i (vp_nar .byte x)), s.2.2) Q) : EW (IC cy ax hp0) l D cy base M d bc bs pc lv (.int x :: .int (nI i) :: .ref (ax 11) :: st) s Q :=
  fun hp h => E.bast hdg (h.1 11 (by decide)) (vp_in_nI hin (by decide)) (by rw [nI_clamp (by omega)]; exact kk _ (h.cell (s' := (s.1, va_up s.2.1 11 (upd (s.2.1 11) i (vp_nar .byte x)), s.2.2)) (by decide) rfl (k19 ⟨fun _ => rfl, fun _ => rfl, fun _ => rfl, fun _ => rfl, fun _ => rfl, fun _ => rfl, fun _ => rfl, fun _ => rfl, fun _ => rfl, fun _ => rfl, fun _ => rfl, fun h => absurd rfl h, fun _ => rfl, fun _ => rfl, fun _ => rfl, fun _ => rfl, fun _ => rfl, fun _ => rfl, fun _ => rfl⟩) rfl))
theorem EC.len11 (hdg : decode M.2.1 pc = .ok (.arraylength, 1)) (kk : EW (IC cy ax hp0) l D cy base M d bc bs (pc + 1) lv (.int (nI 7560) :: st) s Q) : EW (IC cy ax hp0) l D cy base M d bc bs pc lv (.ref (ax 11) :: st) s Q :=
  fun hp h => E.alen (t0 := 0) rfl hdg (h.1 11 (by decide)) rfl (kk hp h)
theorem EC.ald15 (i : Nat) (hdg : decode M.2.1 pc = .ok (.iaload, 1)) (hin : i < 60) (kk : EW (IC cy ax hp0) l D cy base M d bc bs (pc + 1) lv (.int (s.2.1 15 i) :: st) s Q) : EW (IC cy ax hp0) l D cy base M d bc bs pc lv (.int (nI i) :: .ref (ax 15) :: st) s Q :=
  fun hp h => E.iald hdg (h.1 15 (by decide)) (vp_in_nI hin (by decide)) (by rw [nI_clamp (by omega)]; exact kk hp h)
theorem EC.ast15 {x : Int32} (i : Nat) (hdg : decode M.2.1 pc = .ok (.iastore, 1)) (hin : i < 60) (kk : EW (IC cy ax hp0) l D cy base M d bc bs (pc + 1) lv st (s.1, va_up s.2.1 15 (upd (s.2.1 15) i x), s.2.2) Q) : EW (IC cy ax hp0) l D cy base M d bc bs pc lv (.int x :: .int (nI i) :: .ref (ax 15) :: st) s Q :=
  fun hp h => E.iast hdg (h.1 15 (by decide)) (vp_in_nI hin (by decide)) (by rw [nI_clamp (by omega)]; exact kk _ (h.cell (s' := (s.1, va_up s.2.1 15 (upd (s.2.1 15) i x), s.2.2)) (by decide) rfl (k19 ⟨fun _ => rfl, fun _ => rfl, fun _ => rfl, fun _ => rfl, fun _ => rfl, fun _ => rfl, fun _ => rfl, fun _ => rfl, fun _ => rfl, fun _ => rfl, fun _ => rfl, fun _ => rfl, fun _ => rfl, fun _ => rfl, fun _ => rfl, fun h => absurd rfl h, fun _ => rfl, fun _ => rfl, fun _ => rfl⟩) rfl))
theorem EC.len15 (hdg : decode M.2.1 pc = .ok (.arraylength, 1)) (kk : EW (IC cy ax hp0) l D cy base M d bc bs (pc + 1) lv (.int (nI 60) :: st) s Q) : EW (IC cy ax hp0) l D cy base M d bc bs pc lv (.ref (ax 15) :: st) s Q :=
  fun hp h => E.alen (t0 := 2) rfl hdg (h.1 15 (by decide)) rfl (kk hp h)
theorem EC.ald16 (i : Nat) (hdg : decode M.2.1 pc = .ok (.iaload, 1)) (hin : i < 60) (kk : EW (IC cy ax hp0) l D cy base M d bc bs (pc + 1) lv (.int (s.2.1 16 i) :: st) s Q) : EW (IC cy ax hp0) l D cy base M d bc bs pc lv (.int (nI i) :: .ref (ax 16) :: st) s Q :=
  fun hp h => E.iald hdg (h.1 16 (by decide)) (vp_in_nI hin (by decide)) (by rw [nI_clamp (by omega)]; exact kk hp h)
theorem EC.ast16 {x : Int32} (i : Nat) (hdg : decode M.2.1 pc = .ok (.iastore, 1)) (hin : i < 60) (kk : EW (IC cy ax hp0) l D cy base M d bc bs (pc + 1) lv st (s.1, va_up s.2.1 16 (upd (s.2.1 16) i x), s.2.2) Q) : EW (IC cy ax hp0) l D cy base M d bc bs pc lv (.int x :: .int (nI i) :: .ref (ax 16) :: st) s Q :=
  fun hp h => E.iast hdg (h.1 16 (by decide)) (vp_in_nI hin (by decide)) (by rw [nI_clamp (by omega)]; exact kk _ (h.cell (s' := (s.1, va_up s.2.1 16 (upd (s.2.1 16) i x), s.2.2)) (by decide) rfl (k19 ⟨fun _ => rfl, fun _ => rfl, fun _ => rfl, fun _ => rfl, fun _ => rfl, fun _ => rfl, fun _ => rfl, fun _ => rfl, fun _ => rfl, fun _ => rfl, fun _ => rfl, fun _ => rfl, fun _ => rfl, fun _ => rfl, fun _ => rfl, fun _ => rfl, fun h => absurd rfl h, fun _ => rfl, fun _ => rfl⟩) rfl))
theorem EC.len16 (hdg : decode M.2.1 pc = .ok (.arraylength, 1)) (kk : EW (IC cy ax hp0) l D cy base M d bc bs (pc + 1) lv (.int (nI 60) :: st) s Q) : EW (IC cy ax hp0) l D cy base M d bc bs pc lv (.ref (ax 16) :: st) s Q :=
  fun hp h => E.alen (t0 := 2) rfl hdg (h.1 16 (by decide)) rfl (kk hp h)
theorem EC.ald17 (i : Nat) (hdg : decode M.2.1 pc = .ok (.iaload, 1)) (hin : i < 60) (kk : EW (IC cy ax hp0) l D cy base M d bc bs (pc + 1) lv (.int (s.2.1 17 i) :: st) s Q) : EW (IC cy ax hp0) l D cy base M d bc bs pc lv (.int (nI i) :: .ref (ax 17) :: st) s Q :=
  fun hp h => E.iald hdg (h.1 17 (by decide)) (vp_in_nI hin (by decide)) (by rw [nI_clamp (by omega)]; exact kk hp h)
theorem EC.ast17 {x : Int32} (i : Nat) (hdg : decode M.2.1 pc = .ok (.iastore, 1)) (hin : i < 60) (kk : EW (IC cy ax hp0) l D cy base M d bc bs (pc + 1) lv st (s.1, va_up s.2.1 17 (upd (s.2.1 17) i x), s.2.2) Q) : EW (IC cy ax hp0) l D cy base M d bc bs pc lv (.int x :: .int (nI i) :: .ref (ax 17) :: st) s Q :=
  fun hp h => E.iast hdg (h.1 17 (by decide)) (vp_in_nI hin (by decide)) (by rw [nI_clamp (by omega)]; exact kk _ (h.cell (s' := (s.1, va_up s.2.1 17 (upd (s.2.1 17) i x), s.2.2)) (by decide) rfl (k19 ⟨fun _ => rfl, fun _ => rfl, fun _ => rfl, fun _ => rfl, fun _ => rfl, fun _ => rfl, fun _ => rfl, fun _ => rfl, fun _ => rfl, fun _ => rfl, fun _ => rfl, fun _ => rfl, fun _ => rfl, fun _ => rfl, fun _ => rfl, fun _ => rfl, fun _ => rfl, fun h => absurd rfl h, fun _ => rfl⟩) rfl))
theorem EC.len17 (hdg : decode M.2.1 pc = .ok (.arraylength, 1)) (kk : EW (IC cy ax hp0) l D cy base M d bc bs (pc + 1) lv (.int (nI 60) :: st) s Q) : EW (IC cy ax hp0) l D cy base M d bc bs pc lv (.ref (ax 17) :: st) s Q :=
  fun hp h => E.alen (t0 := 2) rfl hdg (h.1 17 (by decide)) rfl (kk hp h)
theorem EC.ald18 (i : Nat) (hdg : decode M.2.1 pc = .ok (.iaload, 1)) (hin : i < 60) (kk : EW (IC cy ax hp0) l D cy base M d bc bs (pc + 1) lv (.int (s.2.1 18 i) :: st) s Q) : EW (IC cy ax hp0) l D cy base M d bc bs pc lv (.int (nI i) :: .ref (ax 18) :: st) s Q :=
  fun hp h => E.iald hdg (h.1 18 (by decide)) (vp_in_nI hin (by decide)) (by rw [nI_clamp (by omega)]; exact kk hp h)
theorem EC.ast18 {x : Int32} (i : Nat) (hdg : decode M.2.1 pc = .ok (.iastore, 1)) (hin : i < 60) (kk : EW (IC cy ax hp0) l D cy base M d bc bs (pc + 1) lv st (s.1, va_up s.2.1 18 (upd (s.2.1 18) i x), s.2.2) Q) : EW (IC cy ax hp0) l D cy base M d bc bs pc lv (.int x :: .int (nI i) :: .ref (ax 18) :: st) s Q :=
  fun hp h => E.iast hdg (h.1 18 (by decide)) (vp_in_nI hin (by decide)) (by rw [nI_clamp (by omega)]; exact kk _ (h.cell (s' := (s.1, va_up s.2.1 18 (upd (s.2.1 18) i x), s.2.2)) (by decide) rfl (k19 ⟨fun _ => rfl, fun _ => rfl, fun _ => rfl, fun _ => rfl, fun _ => rfl, fun _ => rfl, fun _ => rfl, fun _ => rfl, fun _ => rfl, fun _ => rfl, fun _ => rfl, fun _ => rfl, fun _ => rfl, fun _ => rfl, fun _ => rfl, fun _ => rfl, fun _ => rfl, fun _ => rfl, fun h => absurd rfl h⟩) rfl))
theorem EC.len18 (hdg : decode M.2.1 pc = .ok (.arraylength, 1)) (kk : EW (IC cy ax hp0) l D cy base M d bc bs (pc + 1) lv (.int (nI 60) :: st) s Q) : EW (IC cy ax hp0) l D cy base M d bc bs pc lv (.ref (ax 18) :: st) s Q :=
  fun hp h => E.alen (t0 := 2) rfl hdg (h.1 18 (by decide)) rfl (kk hp h)
theorem EC.len7 (hdg : decode M.2.1 pc = .ok (.arraylength, 1)) (kk : EW (IC cy ax hp0) l D cy base M d bc bs (pc + 1) lv (.int (nI 6) :: st) s Q) : EW (IC cy ax hp0) l D cy base M d bc bs pc lv (.ref (ax 7) :: st) s Q :=
  fun hp h => E.alen (t0 := 5) rfl hdg (h.1 7 (by decide)) rfl (kk hp h)
theorem EC.ald7 (i : Nat) (hdg : decode M.2.1 pc = .ok (.aaload, 1)) (hin : i < 6) (kk : EW (IC cy ax hp0) l D cy base M d bc bs (pc + 1) lv (va_rf (s.2.2.2.1 i) :: st) s Q) : EW (IC cy ax hp0) l D cy base M d bc bs pc lv (.int (nI i) :: .ref (ax 7) :: st) s Q :=
  fun hp h => E.aldE hdg (h.1 7 (by decide)) (vp_in_nI hin (by decide)) (by rw [nI_clamp (by omega)]; exact kk hp h)
theorem EC.ast7 {r : Option Nat} (i : Nat) (hdg : decode M.2.1 pc = .ok (.aastore, 1)) (hin : i < 6) (hr : ∀ b, r = some b → ∃ e, s.2.2.2.2.2 b = some e) (kk : EW (IC cy ax hp0) l D cy base M d bc bs (pc + 1) lv st (s.1, s.2.1, s.2.2.1, va_up s.2.2.2.1 i r, s.2.2.2.2) Q) : EW (IC cy ax hp0) l D cy base M d bc bs pc lv (va_rf r :: .int (nI i) :: .ref (ax 7) :: st) s Q :=
  fun hp h => E.astE hdg (h.1 7 (by decide)) (fun b hb => (hr b hb).elim (fun e he => ⟨_, h.2.2.2.1 b e he⟩)) (vp_in_nI hin (by decide)) (by rw [nI_clamp (by omega)]; exact kk _ (h.cell (s' := (s.1, s.2.1, s.2.2.1, va_up s.2.2.2.1 i r, s.2.2.2.2)) (by decide) rfl (k19 ⟨fun _ => rfl, fun _ => rfl, fun _ => rfl, fun _ => rfl, fun _ => rfl, fun _ => rfl, fun _ => rfl, fun h => absurd rfl h, fun _ => rfl, fun _ => rfl, fun _ => rfl, fun _ => rfl, fun _ => rfl, fun _ => rfl, fun _ => rfl, fun _ => rfl, fun _ => rfl, fun _ => rfl, fun _ => rfl⟩) rfl))
theorem EC.ald14 (i : Nat) (hdg : decode M.2.1 pc = .ok (.aaload, 1)) (hin : i < 4) (kk : EW (IC cy ax hp0) l D cy base M d bc bs (pc + 1) lv (.ref (ax (15 + i)) :: st) s Q) : EW (IC cy ax hp0) l D cy base M d bc bs pc lv (.int (nI i) :: .ref (ax 14) :: st) s Q :=
  fun hp h => E.aldI hdg (h.1 14 (by decide)) (vp_in_nI hin (by decide)) (by rw [nI_clamp (by omega), if_pos hin]; exact kk hp h)
theorem EC.ndput {idx j a : Nat} {ty : FieldType} {n n' : ND} {v : Value} (hf : FLD M.1 idx 5 j ty false) (hdg : decode M.2.1 pc = .ok (.putfield idx, 3)) (hn : s.2.2.2.2.1 a = some n) (hj : j < 8) (hna : narrow ty v = v) (hfi : fits ty v = true) (he : (ndF n).set j v = ndF n') (kk : EW (IC cy ax hp0) l D cy base M d bc bs (pc + 3) lv st (ndP s (va_up s.2.2.2.2.1 a (some n'))) Q) : EW (IC cy ax hp0) l D cy base M d bc bs pc lv (v :: .ref a :: st) s Q :=
  fun hp h => E.put hf hdg (h.2.2.1 a n hn) hj hna hfi (by rw [he]; exact kk _ (h.nd n' (Or.inl ⟨n, hn⟩)))
theorem EC.exput {idx j a : Nat} {ty : FieldType} {n n' : Option Nat × Option Nat} {v : Value} (hf : FLD M.1 idx 1 j ty false) (hdg : decode M.2.1 pc = .ok (.putfield idx, 3)) (hn : s.2.2.2.2.2 a = some n) (hj : j < 2) (hna : narrow ty v = v) (hfi : fits ty v = true) (he : ([va_rf n.1, va_rf n.2] : List Value).set j v = [va_rf n'.1, va_rf n'.2]) (kk : EW (IC cy ax hp0) l D cy base M d bc bs (pc + 3) lv st (exP s (va_up s.2.2.2.2.2 a (some n'))) Q) : EW (IC cy ax hp0) l D cy base M d bc bs pc lv (v :: .ref a :: st) s Q :=
  fun hp h => E.put hf hdg (h.2.2.2.1 a n hn) hj hna hfi (by rw [he]; exact kk _ (h.ex n' (Or.inl ⟨n, hn⟩)))
theorem EC.newNode {idx : Nat} (hw : Cond.classLink M.1 idx RX5 ∈ gw ∧ Cond.instantiable RX5 8 ∈ gw ∧ Cond.initialized RX5 ∈ gw) (hdg : decode M.2.1 pc = .ok (.new idx, 3)) (kk : ∀ q, s.2.2.2.2.1 q = none → s.2.2.2.2.2 q = none → EW (IC cy ax hp0) l D cy base M d bc bs (pc + 3) lv (.ref q :: st) (ndP s (va_up s.2.2.2.2.1 q (some (0, 0, 0, none, none, none, 0, 0)))) Q) : EW (IC cy ax hp0) l D cy base M d (bc + 1) (bs + 8) pc lv st s Q :=
  fun hp h => E.new cf5 hw hdg (fs := ndF (0, 0, 0, none, none, none, 0, 0)) (fun j hj => by rcases (show j = 0 ∨ j = 1 ∨ j = 2 ∨ j = 3 ∨ j = 4 ∨ j = 5 ∨ j = 6 ∨ j = 7 by omega) with rfl | rfl | rfl | rfl | rfl | rfl | rfl | rfl <;> rfl) (fun q hq => kk q (by cases hx : s.2.2.2.2.1 q with | none => rfl | some n => rw [h.2.2.1 q n hx] at hq; cases hq) (by cases hx : s.2.2.2.2.2 q with | none => rfl | some n => rw [h.2.2.2.1 q n hx] at hq; cases hq) _ (h.nd _ (Or.inr hq)))
theorem EC.newExpr {idx : Nat} (hw : Cond.classLink M.1 idx RX1 ∈ gw ∧ Cond.instantiable RX1 2 ∈ gw ∧ Cond.initialized RX1 ∈ gw) (hdg : decode M.2.1 pc = .ok (.new idx, 3)) (kk : ∀ q, s.2.2.2.2.1 q = none → s.2.2.2.2.2 q = none → EW (IC cy ax hp0) l D cy base M d bc bs (pc + 3) lv (.ref q :: st) (exP s (va_up s.2.2.2.2.2 q (some (none, none)))) Q) : EW (IC cy ax hp0) l D cy base M d (bc + 1) (bs + 2) pc lv st s Q :=
  fun hp h => E.new cf1 hw hdg (fs := [va_rf none, va_rf none]) (fun j hj => by rcases (show j = 0 ∨ j = 1 by omega) with rfl | rfl <;> rfl) (fun q hq => kk q (by cases hx : s.2.2.2.2.1 q with | none => rfl | some n => rw [h.2.2.1 q n hx] at hq; cases hq) (by cases hx : s.2.2.2.2.2 q with | none => rfl | some n => rw [h.2.2.2.1 q n hx] at hq; cases hq) _ (h.ex (none, none) (Or.inr hq)))
/-- a call on a fixed object -/
theorem EC.callV {M' : Mth} {idx d' mc' ms' n k ci : Nat} {As rest fs : List Value} {Q' : Oc → CSt → Prop} (hM : MtW (IC cy ax hp0) l D cy base M' d' mc' ms' (.ref (ax k) :: As) s Q') (mf : MF M') (ml : ML M.1 idx M') (mv : MV M' n) (hd : d' < d) (hdg : decode M.2.1 pc = .ok (.invokevirtual idx, 3)) (hst : st = As.reverse ++ .ref (ax k) :: rest) (hn : As.length = n) (hk : k < 19) (hcc : cCell cy ax s k = .inr (ci, fs)) (hc : clx[ci]?.map (fun q => q.1) = some M'.2.2.1.cls) (h0 : M'.2.2.2.2.2 = []) (hw : (rest.map fun v => v.category).sum ≤ 8)
    (kk : ∀ v s', Q' (.inl v) s' → EW (IC cy ax hp0) l D cy base M d bc bs (pc + 3) lv (v.toList ++ rest) s' Q) (kx : ∀ X s', Q' (.inr X) s' → EWX (IC cy ax hp0) l D cy base M d bc bs pc lv X s' Q) : EW (IC cy ax hp0) l D cy base M d (bc + mc') (bs + ms') pc lv st s Q :=
  EW.callV (ci := ci) hM mf h0 ml mv hd hdg hst hn (fun hp h => ⟨fs, by rw [h.1 k hk, hcc]⟩) hc hw kk kx
/-- a call on an expression -/
theorem EC.callE {M' : Mth} {idx d' mc' ms' n b : Nat} {As rest : List Value} {e9 : Option Nat × Option Nat} {Q' : Oc → CSt → Prop} (hM : MtW (IC cy ax hp0) l D cy base M' d' mc' ms' (.ref b :: As) s Q') (mf : MF M') (ml : ML M.1 idx M') (mv : MV M' n) (hd : d' < d) (hdg : decode M.2.1 pc = .ok (.invokevirtual idx, 3)) (hst : st = As.reverse ++ .ref b :: rest) (hn : As.length = n) (he : s.2.2.2.2.2 b = some e9) (hc : RX1 = M'.2.2.1.cls) (h0 : M'.2.2.2.2.2 = []) (hw : (rest.map fun v => v.category).sum ≤ 8)
    (kk : ∀ v s', Q' (.inl v) s' → EW (IC cy ax hp0) l D cy base M d bc bs (pc + 3) lv (v.toList ++ rest) s' Q) (kx : ∀ X s', Q' (.inr X) s' → EWX (IC cy ax hp0) l D cy base M d bc bs pc lv X s' Q) : EW (IC cy ax hp0) l D cy base M d (bc + mc') (bs + ms') pc lv st s Q :=
  EW.callV (ci := 1) hM mf h0 ml mv hd hdg hst hn (fun hp h => ⟨_, h.2.2.2.1 b e9 he⟩) (by rw [← hc]; rfl) hw kk kx
end KLASS
