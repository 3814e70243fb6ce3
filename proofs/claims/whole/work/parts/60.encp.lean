/-! How the reference's reading lays expressions: as enc, but with no depths, and with what goes on (array 9). -/
def encP (H : Nat → Nat → Int32) (B : Nat) : Ex → Nat → Prop
  | .tag lo (.tag hi .nil), o => H 5 (B + o) = nI 0 ∧ H 6 (B + o) = nI lo ∧ H 7 (B + o) = nI hi
  | .tag r .line, o => H 5 (B + o) = nI 1 ∧ H 6 (B + o) = nI r
  | .tag m (.append a b), o => encP H B a o ∧ encP H B b (o + sz a) ∧ H 5 (B + (o + sz a + sz b)) = nI (2 + m / 2) ∧ H 6 (B + (o + sz a + sz b)) = nI (o + sz a - 1) ∧ H 7 (B + (o + sz a + sz b)) = nI (o + sz a + sz b - 1) ∧ H 9 (B + (o + sz a + sz b)) = nI (m % 2)
  | .tag k (.nest _ e), o => encP H B e o ∧ H 5 (B + (o + sz e)) = nI k ∧ H 6 (B + (o + sz e)) = nI (o + sz e - 1) ∧ H 7 (B + (o + sz e)) = nI 0
  | _, _ => False
def pk (k : Nat) : Prop := k = 5 ∨ k = 6 ∨ k = 7 ∨ k = 9
theorem encP_fr {H H' : Nat → Nat → Int32} {B : Nat} : ∀ t, wf t → ∀ o, (∀ k x, pk k → o ≤ x → x < o + sz t → H' k (B + x) = H k (B + x)) → encP H B t o → encP H' B t o := by
  refine ast_ind (fun lo hi _ _ o hH h => ?_) (fun r _ o hH h => ?_) (fun m a b _ _ wa wb ha hb o hH h => ?_) (fun k e _ _ we he o hH h => ?_)
  · have hs : sz (xR lo hi) = 1 := rfl
    rw [hs] at hH
    have q := fun k hk => hH k o hk (Nat.le_refl _) (by omega)
    obtain ⟨h1, h2, h3⟩ := h
    exact ⟨(q 5 (Or.inl rfl)).trans h1, (q 6 (Or.inr (Or.inl rfl))).trans h2, (q 7 (Or.inr (Or.inr (Or.inl rfl)))).trans h3⟩
  · have hs : sz (xC r) = 1 := rfl
    rw [hs] at hH
    have q := fun k hk => hH k o hk (Nat.le_refl _) (by omega)
    obtain ⟨h1, h2⟩ := h
    exact ⟨(q 5 (Or.inl rfl)).trans h1, (q 6 (Or.inr (Or.inl rfl))).trans h2⟩
  · have hs : sz (xB m a b) = sz a + sz b + 1 := rfl
    rw [hs] at hH
    have q := fun k hk => hH k (o + sz a + sz b) hk (by omega) (by omega)
    obtain ⟨ga, gb, h1, h2, h3, h4⟩ := h
    exact ⟨ha o (fun k x hk h5 h6 => hH k x hk h5 (by omega)) ga, hb _ (fun k x hk h5 h6 => hH k x hk (by omega) (by omega)) gb, (q 5 (Or.inl rfl)).trans h1, (q 6 (Or.inr (Or.inl rfl))).trans h2, (q 7 (Or.inr (Or.inr (Or.inl rfl)))).trans h3, (q 9 (Or.inr (Or.inr (Or.inr rfl)))).trans h4⟩
  · have hs : sz (xS k e) = sz e + 1 := rfl
    rw [hs] at hH
    have q := fun k hk => hH k (o + sz e) hk (by omega) (by omega)
    obtain ⟨ge, h1, h2, h3⟩ := h
    exact ⟨he o (fun k x hk h5 h6 => hH k x hk h5 (by omega)) ge, (q 5 (Or.inl rfl)).trans h1, (q 6 (Or.inr (Or.inl rfl))).trans h2, (q 7 (Or.inr (Or.inr (Or.inl rfl)))).trans h3⟩
/-- several, one behind the other -/
def layP (H : Nat → Nat → Int32) : Nat → List Ex → Prop
  | _, [] => True
  | o, e :: t => wf e ∧ encP H 384 e o ∧ layP H (o + sz e) t
def szL : List Ex → Nat
  | [] => 0
  | e :: t => sz e + szL t
/-- their roots on a stack -/
def stkL (A : Nat → Int32) : Nat → Nat → List Ex → Prop
  | _, _, [] => True
  | b, o, e :: t => A b = nI (o + sz e - 1) ∧ stkL A (b + 1) (o + sz e) t
theorem szL_app (a b : List Ex) : szL (a ++ b) = szL a + szL b := by
  induction a with
  | nil => show szL b = 0 + szL b; omega
  | cons e t ih => show sz e + szL (t ++ b) = sz e + szL t + szL b; rw [ih]; omega
theorem layP_app {H : Nat → Nat → Int32} : ∀ (a b : List Ex) (o : Nat), layP H o (a ++ b) ↔ layP H o a ∧ layP H (o + szL a) b
  | [], b, o => ⟨fun h => ⟨trivial, h⟩, fun h => h.2⟩
  | e :: t, b, o => by
    have ih := layP_app (H := H) t b (o + sz e)
    have e1 : o + szL (e :: t) = o + sz e + szL t := by show o + (sz e + szL t) = _; omega
    rw [e1]
    exact ⟨fun ⟨h1, h2, h3⟩ => ⟨⟨h1, h2, (ih.mp h3).1⟩, (ih.mp h3).2⟩, fun ⟨⟨h1, h2, h3⟩, h4⟩ => ⟨h1, h2, ih.mpr ⟨h3, h4⟩⟩⟩
theorem stkL_app {A : Nat → Int32} : ∀ (a b : List Ex) (p o : Nat), stkL A p o (a ++ b) ↔ stkL A p o a ∧ stkL A (p + a.length) (o + szL a) b
  | [], b, p, o => ⟨fun h => ⟨trivial, h⟩, fun h => h.2⟩
  | e :: t, b, p, o => by
    have ih := stkL_app (A := A) t b (p + 1) (o + sz e)
    have e1 : o + szL (e :: t) = o + sz e + szL t := by show o + (sz e + szL t) = _; omega
    have e2 : p + (e :: t).length = p + 1 + t.length := by show p + (t.length + 1) = _; omega
    rw [e1, e2]
    exact ⟨fun ⟨h1, h3⟩ => ⟨⟨h1, (ih.mp h3).1⟩, (ih.mp h3).2⟩, fun ⟨⟨h1, h3⟩, h4⟩ => ⟨h1, ih.mpr ⟨h3, h4⟩⟩⟩
theorem layP_fr {H H' : Nat → Nat → Int32} : ∀ (t : List Ex) (o : Nat), (∀ k x, pk k → o ≤ x → x < o + szL t → H' k (384 + x) = H k (384 + x)) → layP H o t → layP H' o t
  | [], _, _, _ => trivial
  | e :: t, o, hH, ⟨h1, h2, h3⟩ => by
    have e1 : szL (e :: t) = sz e + szL t := rfl
    rw [e1] at hH
    exact ⟨h1, encP_fr e h1 o (fun k x hk a b => hH k x hk a (by omega)) h2, layP_fr t _ (fun k x hk a b => hH k x hk (by omega) (by omega)) h3⟩
theorem stkL_fr {A A' : Nat → Int32} : ∀ (t : List Ex) (p o : Nat), (∀ x, p ≤ x → x < p + t.length → A' x = A x) → stkL A p o t → stkL A' p o t
  | [], _, _, _, _ => trivial
  | e :: t, p, o, hH, ⟨h1, h3⟩ => by
    have e1 : (e :: t).length = t.length + 1 := rfl
    rw [e1] at hH
    exact ⟨(hH p (Nat.le_refl _) (by omega)).trans h1, stkL_fr t _ _ (fun x a b => hH x (by omega) (by omega)) h3⟩
/-- the state after 'made' -/
def mdS (z k : Nat) (a b : Int32) (s : MSt) : MSt := aU 10 6 (nI (z + 1)) (aU 9 (384 + z) (vp_nar .boolean (nI 0)) (aU 7 (384 + z) b (aU 6 (384 + z) a (aU 5 (384 + z) (nI k) s))))
theorem mdS_1 {z k : Nat} {a b : Int32} {s : MSt} : (mdS z k a b s).1 = s.1 := rfl
theorem mdS_5 {z k : Nat} {a b : Int32} {s : MSt} : (mdS z k a b s).2 5 (384 + z) = nI k := by simp [mdS, aU_2]
theorem mdS_6 {z k : Nat} {a b : Int32} {s : MSt} : (mdS z k a b s).2 6 (384 + z) = a := by simp [mdS, aU_2]
theorem mdS_7 {z k : Nat} {a b : Int32} {s : MSt} : (mdS z k a b s).2 7 (384 + z) = b := by simp [mdS, aU_2]
theorem mdS_9 {z k : Nat} {a b : Int32} {s : MSt} : (mdS z k a b s).2 9 (384 + z) = nI 0 := by
  simp [mdS, aU_2]
  decide +kernel
theorem mdS_10 {z k : Nat} {a b : Int32} {s : MSt} : (mdS z k a b s).2 10 6 = nI (z + 1) := by simp [mdS, aU_2]
theorem mdS_o {z k j x : Nat} {a b : Int32} {s : MSt} (h : ¬ (pk j ∧ x = 384 + z)) (h2 : ¬ (j = 10 ∧ x = 6)) : (mdS z k a b s).2 j x = s.2 j x := by
  unfold mdS
  rw [aU_2, if_neg h2, aU_2, if_neg (fun c => h ⟨Or.inr (Or.inr (Or.inr c.1)), c.2⟩), aU_2, if_neg (fun c => h ⟨Or.inr (Or.inr (Or.inl c.1)), c.2⟩), aU_2, if_neg (fun c => h ⟨Or.inr (Or.inl c.1), c.2⟩), aU_2, if_neg (fun c => h ⟨Or.inl c.1, c.2⟩)]
