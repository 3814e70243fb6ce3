/-! What holds between the class's state and the reference's after each call. -/
def JI (c : CSt) (m : MSt) (n : Nat) (w : Nat → Nat) : Prop := c.1 1 = nI n ∧ n ≤ 20 ∧ (∀ j, j < n → c.2.1 4 j = nI (97 + w j) ∧ w j ≤ 8) ∧ m.1 3 = nI n ∧ ∀ j, j < n → m.2 4 j = nI (w j)
def JR (c : CSt) (m : MSt) (rl : Nat → Option Ex) (rt : Nat → Nat) (ps : Nat → List Nat) (tt : Nat → Ex) (zs : Nat → Nat) : Prop := (∀ r, 6 ≤ r → rl r = none) ∧ GP c rt ps ∧ LYC c.2.2.2.1 rt ps tt c.2.2.2.2.1 ∧ (∀ r q, r < 6 → q < 6 → c.2.2.2.1 r ≠ none → c.2.2.2.1 q ≠ none → r ≠ q → ∀ x ∈ ps r, x ∉ ps q) ∧ (∀ r, r < 6 → rl r = (c.2.2.2.1 r).map (fun _ => tt r)) ∧ RFL rl zs m.2 ∧ ∀ r t, rl r = some t → ht t ≤ 24 ∧ cR t ≤ 2 ^ 28
def JV (c : CSt) (rl : Nat → Option Ex) (rt : Nat → Nat) : Prop := VDT rl (c.1 4) ∧ (isM (MIS rl) none → (∃ r, r < 6 ∧ rl r ≠ none) → ∃ O, LSO rl O ∧ ∀ r t, r < 6 → rl r = some t → ndO c.2.2.2.2.1 (rt r) = O r)
def JM (c : CSt) (m : MSt) (n : Nat) (w : Nat → Nat) (rl : Nat → Option Ex) : Prop := (∀ k, k < 126 → c.2.1 9 k = m.2 13 k) ∧ c.1 5 = m.1 14 ∧ c.1 6 = m.1 15 ∧ ∃ O, SND n O (c.2.1 9) ∧ INVC n w rl c ∧ ((∃ k, k < 126 ∧ ¬ c.2.1 9 k = -2) → LSO rl O)
def JTr (c : CSt) (m : MSt) : Prop := ∃ k, k ≤ 60 ∧ c.1 7 = nI k ∧ m.1 28 = nI k ∧ ∀ i, i < k → c.2.1 15 i = m.2 29 i ∧ c.2.1 16 i = m.2 30 i ∧ c.2.1 17 i = m.2 31 i ∧ c.2.1 18 i = m.2 32 i
def JX (m : MSt) : Prop := m.1 23 = nI 0 ∧ m.2 8 447 = nI 0
def J (c : CSt) (m : MSt) : Prop := ∃ (N : Nat) (tx : Nat → Nat) (n : Nat) (w : Nat → Nat) (rl : Nat → Option Ex) (rt : Nat → Nat) (ps : Nat → List Nat) (tt : Nat → Ex) (zs : Nat → Nat), TXT c N tx ∧ TXM m N tx ∧ JI c m n w ∧ JR c m rl rt ps tt zs ∧ JV c rl rt ∧ JM c m n w rl ∧ JTr c m ∧ JX m
/-! what each part rests on -/
theorem TXT.cg {c c' : CSt} {N : Nat} {tx : Nat → Nat} (h : TXT c N tx) (e1 : c'.1 0 = c.1 0) (e2 : c'.2.1 2 = c.2.1 2) : TXT c' N tx := ⟨e1.trans h.1, h.2.1, fun j hj => by rw [e2]; exact h.2.2.1 j hj, h.2.2.2⟩
theorem TXM.cg {m m' : MSt} {N : Nat} {tx : Nat → Nat} (h : TXM m N tx) (e1 : m'.1 1 = m.1 1) (e2 : ∀ x, m'.2 2 x = m.2 2 x) : TXM m' N tx := ⟨e1.trans h.1, h.2.1, fun j hj => by rw [e2]; exact h.2.2.1 j hj, h.2.2.2⟩
theorem JI.cg {c c' : CSt} {m m' : MSt} {n : Nat} {w : Nat → Nat} (h : JI c m n w) (e1 : c'.1 1 = c.1 1) (e2 : c'.2.1 4 = c.2.1 4) (e3 : m'.1 3 = m.1 3) (e4 : ∀ x, m'.2 4 x = m.2 4 x) : JI c' m' n w := ⟨e1.trans h.1, h.2.1, fun j hj => by rw [e2]; exact h.2.2.1 j hj, e3.trans h.2.2.2.1, fun j hj => by rw [e4]; exact h.2.2.2.2 j hj⟩
theorem RFL.cg {rl : Nat → Option Ex} {zs : Nat → Nat} {H H' : Nat → Nat → Int32} (h : RFL rl zs H) (e1 : ∀ k x, 5 ≤ k → k ≤ 8 → x < 384 → H' k x = H k x) (e2 : ∀ x, x < 6 → H' 10 x = H 10 x) : RFL rl zs H' := fun r hr => by
  have h1 := h r hr
  refine ⟨(e2 r hr).trans h1.1, ?_⟩
  cases ht : rl r with
  | none => rw [ht] at h1; exact h1.2
  | some t =>
    rw [ht] at h1
    obtain ⟨a, b, c, d⟩ := h1.2
    exact ⟨a, b, c, enc_fr2 t a 0 0 (fun k x h5 h8 _ hx => e1 k _ h5 h8 (by omega)) d⟩
theorem JR.cgm {c : CSt} {m m' : MSt} {rl : Nat → Option Ex} {rt : Nat → Nat} {ps : Nat → List Nat} {tt : Nat → Ex} {zs : Nat → Nat} (h : JR c m rl rt ps tt zs) (e1 : ∀ k x, 5 ≤ k → k ≤ 8 → x < 384 → m'.2 k x = m.2 k x) (e2 : ∀ x, x < 6 → m'.2 10 x = m.2 10 x) : JR c m' rl rt ps tt zs := ⟨h.1, h.2.1, h.2.2.1, h.2.2.2.1, h.2.2.2.2.1, h.2.2.2.2.2.1.cg e1 e2, h.2.2.2.2.2.2⟩
theorem JR.cgc {c c' : CSt} {m : MSt} {rl : Nat → Option Ex} {rt : Nat → Nat} {ps : Nat → List Nat} {tt : Nat → Ex} {zs : Nat → Nat} (h : JR c m rl rt ps tt zs) (e : c'.2.2.2 = c.2.2.2) : JR c' m rl rt ps tt zs := by
  unfold JR GP at *
  rw [e]
  exact h
theorem JV.cg {c c' : CSt} {rl : Nat → Option Ex} {rt : Nat → Nat} (h : JV c rl rt) (e : c'.1 4 = c.1 4) (e2 : c'.2.2.2 = c.2.2.2) : JV c' rl rt := by
  unfold JV at *
  rw [e, e2]
  exact h
theorem INVC.cg {n : Nat} {w : Nat → Nat} {rl : Nat → Option Ex} {c c' : CSt} (h : INVC n w rl c) (e9 : c'.2.1 9 = c.2.1 9) (e10 : c'.2.1 10 = c.2.1 10) (e11 : c'.2.1 11 = c.2.1 11) : INVC n w rl c' := fun k q h1 h2 h3 => by
  rw [e9] at h3
  obtain ⟨t, L, g1, g2, g3, g4⟩ := h k q h1 h2 h3
  exact ⟨t, L, g1, by rw [e9]; exact g2, by rw [e10]; exact g3, fun a b ha hb => by rw [e11]; exact g4 a b ha hb⟩
theorem JM.cg {c c' : CSt} {m m' : MSt} {n : Nat} {w : Nat → Nat} {rl : Nat → Option Ex} (h : JM c m n w rl) (e9 : c'.2.1 9 = c.2.1 9) (e10 : c'.2.1 10 = c.2.1 10) (e11 : c'.2.1 11 = c.2.1 11) (e5 : c'.1 5 = c.1 5) (e6 : c'.1 6 = c.1 6) (e13 : ∀ k, k < 126 → m'.2 13 k = m.2 13 k) (e14 : m'.1 14 = m.1 14) (e15 : m'.1 15 = m.1 15) : JM c' m' n w rl := by
  obtain ⟨h1, h2, h3, O, h4, h5, h6⟩ := h
  refine ⟨fun k hk => by rw [e9, e13 k hk]; exact h1 k hk, by rw [e5, e14]; exact h2, by rw [e6, e15]; exact h3, O, by rw [e9]; exact h4, h5.cg e9 e10 e11, fun hx => h6 ?_⟩
  rw [e9] at hx
  exact hx
/-- a memory that is empty -/
theorem JM.emp {c : CSt} {m : MSt} (n : Nat) (w : Nat → Nat) (rl : Nat → Option Ex) (hc : ∀ j, j < 126 → c.2.1 9 j = -2) (hm : ∀ j, j < 126 → m.2 13 j = -2) (e5 : c.1 5 = m.1 14) (e6 : c.1 6 = m.1 15) (hn : n ≤ 20) : JM c m n w rl :=
  ⟨fun k hk => (hc k hk).trans (hm k hk).symm, e5, e6, fun _ => nI 0, fun r p hr hp => Or.inl (hc _ (by omega)), fun k q h1 h2 h3 => absurd ((hc k h1).symm.trans h3).symm (nI_ne2 (by omega)), fun ⟨k, hk, h⟩ => absurd (hc k hk) h⟩
theorem JTr.cg {c c' : CSt} {m m' : MSt} (h : JTr c m) (e7 : c'.1 7 = c.1 7) (ec : ∀ k, 15 ≤ k → k ≤ 18 → c'.2.1 k = c.2.1 k) (e28 : m'.1 28 = m.1 28) (em : ∀ k x, 29 ≤ k → k ≤ 32 → m'.2 k x = m.2 k x) : JTr c' m' := by
  obtain ⟨k, h1, h2, h3, h4⟩ := h
  refine ⟨k, h1, e7.trans h2, e28.trans h3, fun i hi => ?_⟩
  rw [ec 15 (by decide) (by decide), ec 16 (by decide) (by decide), ec 17 (by decide) (by decide), ec 18 (by decide) (by decide), em 29 i (by decide) (by decide), em 30 i (by decide) (by decide), em 31 i (by decide) (by decide), em 32 i (by decide) (by decide)]
  exact h4 i hi
theorem JTr.nil {c : CSt} {m : MSt} (e7 : c.1 7 = nI 0) (e28 : m.1 28 = nI 0) : JTr c m := ⟨0, by decide, e7, e28, fun i hi => by omega⟩
/-- the reference's answer alone changes, and its findings -/
def FM0 (m m' : MSt) : Prop := (∀ k, k ≠ 0 → m'.1 k = m.1 k) ∧ ∀ k x, k ≠ 11 → k ≠ 12 → m'.2 k x = m.2 k x
theorem FM0.f (m : MSt) (v : Int32) : FM0 m (fU 0 v m) := ⟨fun k hk => by rw [fU_1, if_neg hk], fun _ _ _ _ => rfl⟩
theorem FM0.ff (m : MSt) (v v' : Int32) : FM0 m (fU 0 v (fU 0 v' m)) := ⟨fun k hk => by rw [fU_1, if_neg hk, fU_1, if_neg hk], fun _ _ _ _ => rfl⟩
theorem FM0.fs {m m' : MSt} {v : Int32} (h : FS3 (fU 0 v m) m') : FM0 m m' := ⟨fun k hk => by rw [h.1, fU_1, if_neg hk], fun k x h1 h2 => h.2 k x h1 h2⟩
theorem J.fm0 {c : CSt} {m m' : MSt} (h : J c m) (f : FM0 m m') : J c m' := by
  obtain ⟨N, tx, n, w, rl, rt, ps, tt, zs, h1, h2, h3, h4, h5, h6, h7, h8⟩ := h
  refine ⟨N, tx, n, w, rl, rt, ps, tt, zs, h1, h2.cg (f.1 1 (by decide)) (fun x => f.2 2 x (by decide) (by decide)), h3.cg rfl rfl (f.1 3 (by decide)) (fun x => f.2 4 x (by decide) (by decide)), h4.cgm (fun k x a b _ => f.2 k x (by omega) (by omega)) (fun x _ => f.2 10 x (by decide) (by decide)), h5, h6.cg rfl rfl rfl rfl rfl (fun k _ => f.2 13 k (by decide) (by decide)) (f.1 14 (by decide)) (f.1 15 (by decide)), h7.cg rfl (fun _ _ _ => rfl) (f.1 28 (by decide)) (fun k x a b => f.2 k x (by omega) (by omega)), (f.1 23 (by decide)).trans h8.1, (f.2 8 447 (by decide) (by decide)).trans h8.2⟩
/-! both calls of a kind -/
def BC (cy : Nat → ClassId) (ax : Nat → Nat) (l : Launch) (D : va_G) (base : Nat) (M : Mth) (As : List Value) (c : CSt) (P : Oc → CSt → Prop) : Prop := ∃ mc ms, mc ≤ 50 ∧ ms ≤ 400 ∧ ∀ hp0, MtW (IC cy ax hp0) l D cy base M 1800 mc ms As c P
def BM (cy : Nat → ClassId) (ad : Nat → Nat) (l : Launch) (D : va_G) (base : Nat) (M : Mth) (Bs : List Value) (m : MSt) (Q : Oc → MSt → Prop) : Prop := ∀ hp0, MtW (IM cy ad hp0) l D cy base M 1800 0 0 Bs m Q
def EQV (o o' : Oc) : Prop := ∃ a : Int32, o = .inl (some (.int a)) ∧ o' = .inl (some (.int a))
def THR (xs : List String) (o o' : Oc) (m' : MSt) : Prop := ∃ (b : Int32) (k : Nat), k ≤ 3 ∧ o' = .inl (some (.int b)) ∧ m'.1 0 = nI k ∧ ((k = 0 ∧ o = .inl (some (.int b))) ∨ ∃ X, xs[k - 1]? = some X ∧ 0 < k ∧ o = .inr X)
/-- a class's call ends with an int, or throws what xs has -/
def SH (xs : List String) (o : Oc) : Prop := (∃ a : Int32, o = .inl (some (.int a))) ∨ ∃ (i : Nat) (X : String), xs[i]? = some X ∧ o = .inr X
theorem BC.of0 {cy : Nat → ClassId} {ax : Nat → Nat} {l : Launch} {D : va_G} {base : Nat} {M : Mth} {As : List Value} {c : CSt} {P : Oc → CSt → Prop} (h : ∀ hp0, MtW (IC cy ax hp0) l D cy base M 1800 0 0 As c P) : BC cy ax l D base M As c P := ⟨0, 0, by decide, by decide, h⟩
theorem BC.of1 {cy : Nat → ClassId} {ax : Nat → Nat} {l : Launch} {D : va_G} {base : Nat} {M : Mth} {As : List Value} {c : CSt} {P : Oc → CSt → Prop} (h : ∀ hp0, MtW (IC cy ax hp0) l D cy base M 1800 1 6 As c P) : BC cy ax l D base M As c P := ⟨1, 6, by decide, by decide, h⟩
section OPS
variable {cy : Nat → ClassId} {ax ad : Nat → Nat} {l : Launch} {D : va_G} {base : Nat} {c : CSt} {m : MSt}
theorem nar_c128 : ∀ k : Fin 128, vp_nar .char (nI k.val) = nI k.val := by decide +kernel
theorem nar_char {k : Nat} (h : k < 128) : vp_nar .char (nI k) = nI k := nar_c128 ⟨k, h⟩
theorem isT_128 {k : Nat} (h : isT k) : k < 128 := by
  unfold isT isL isR at h
  omega
theorem O_type (hl : l.stackTraces = false) (hJ : J c m) (k : Nat) (hk : k < 65536) : ∃ P Q, BC cy ax l D base mX8_type [.ref (ax 0), .int (nI k)] c P ∧ BM cy ad l D base mX9_type [.ref (ad 43), .int (nI k)] m Q ∧ (∀ o c', P o c' → SH [] o) ∧ ∀ o c' o' m', P o c' → Q o' m' → EQV o o' ∧ J c' m' := by
  have hJ0 := hJ
  obtain ⟨N, tx, n, w, rl, rt, ps, tt, zs, h1, h2, h3, h4, h5, h6, h7, h8⟩ := hJ
  refine ⟨_, _, BC.of0 (fun hp0 => C_type hl 1795 c k N hk h1.1 h1.2.1), (fun hp0 => M_type hl 1799 m k N hk h2.1 h2.2.1), (by intro o c' h; first | exact Or.inl ⟨_, h.1⟩ | exact Or.inr ⟨0, _, rfl, h.1⟩ | exact Or.inr ⟨1, _, rfl, h.1⟩ | exact Or.inr ⟨2, _, rfl, h.1⟩ | exact ⟨_, h.1⟩ | (obtain ⟨f, h1, h2⟩ := h; exact Or.inl ⟨_, h1⟩) | (rcases h with ⟨-, -, h, -⟩ | ⟨-, h, -⟩ <;> exact Or.inl ⟨_, h⟩)), fun o c' o' m' hP hQ => ?_⟩
  rcases hP with ⟨a1, a2, rfl, rfl⟩ | ⟨a1, rfl, rfl⟩
  · rcases hQ with ⟨-, -, rfl, rfl⟩ | ⟨b1, -⟩
    · refine ⟨⟨_, rfl, rfl⟩, N + 1, (fun j => if j = N then k else tx j), n, w, rl, rt, ps, tt, zs, ⟨?_, by omega, fun j hj => ?_, fun j => ?_, fun j hj => ?_⟩, ⟨?_, by omega, fun j hj => ?_, fun j => ?_, fun j hj => ?_⟩, h3.cg rfl ?_ ?_ ?_, (h4.cgc rfl).cgm ?_ ?_, h5.cg rfl rfl, h6.cg ?_ ?_ ?_ rfl rfl ?_ ?_ ?_, h7.cg rfl ?_ ?_ ?_, ?_, ?_⟩
      · dsimp only; exact va_up_self _ _ _
      · show va_up c.2.1 2 (upd (c.2.1 2) N (vp_nar .char (nI k))) 2 j = _
        rw [va_up_self, nar_char (isT_128 a1)]
        by_cases e : j = N
        · subst e; rw [pk_us]; exact (congrArg nI (if_pos rfl)).symm
        · rw [pk_un e]; exact (h1.2.2.1 j (by omega)).trans (congrArg nI (if_neg e)).symm
      · dsimp only
        split
        · exact isT_128 a1
        · exact h1.2.2.2.1 j
      · dsimp only; rw [if_neg (by omega)]; exact h1.2.2.2.2 j (by omega)
      · rw [fU_1, if_pos rfl]
      · rw [fU_2, aU_2, nar_char (isT_128 a1)]
        by_cases e : j = N
        · dsimp only; rw [if_pos ⟨rfl, e⟩, if_pos e]
        · dsimp only; rw [if_neg (fun q => e q.2), if_neg e]; exact h2.2.2.1 j (by omega)
      · dsimp only
        split
        · exact isT_128 a1
        · exact h1.2.2.2.1 j
      · dsimp only; rw [if_neg (by omega)]; exact h1.2.2.2.2 j (by omega)
      · dsimp only; exact va_up_ne _ _ (by decide)
      · rw [fU_1, if_neg (by decide)]; show (fU 0 (nI 0) m).1 3 = _; rw [fU_1, if_neg (by decide)]
      · intro x; rw [fU_2, aU_2, if_neg (by omega)]; rfl
      · intro k' x a b _; rw [fU_2, aU_2, if_neg (by omega)]; rfl
      · intro x _; rw [fU_2, aU_2, if_neg (by omega)]; rfl
      · dsimp only; exact va_up_ne _ _ (by decide)
      · dsimp only; exact va_up_ne _ _ (by decide)
      · dsimp only; exact va_up_ne _ _ (by decide)
      · intro k' _; rw [fU_2, aU_2, if_neg (by omega)]; rfl
      · rw [fU_1, if_neg (by decide)]; show (fU 0 (nI 0) m).1 14 = _; rw [fU_1, if_neg (by decide)]
      · rw [fU_1, if_neg (by decide)]; show (fU 0 (nI 0) m).1 15 = _; rw [fU_1, if_neg (by decide)]
      · intro k' a b; dsimp only; exact va_up_ne _ _ (by omega)
      · rw [fU_1, if_neg (by decide)]; show (fU 0 (nI 0) m).1 28 = _; rw [fU_1, if_neg (by decide)]
      · intro k' x a b; rw [fU_2, aU_2, if_neg (by omega)]; rfl
      · rw [fU_1, if_neg (by decide)]; show (fU 0 (nI 0) m).1 23 = _; rw [fU_1, if_neg (by decide)]; exact h8.1
      · rw [fU_2, aU_2, if_neg (by omega)]; exact h8.2
    · exact absurd ⟨a1, a2⟩ b1
  · rcases hQ with ⟨b1, b2, -⟩ | ⟨-, rfl, rfl⟩
    · exact absurd ⟨b1, b2⟩ a1
    · exact ⟨⟨_, rfl, rfl⟩, hJ0.fm0 (FM0.f m _)⟩
theorem J_in {c : CSt} {m : MSt} (h : J c m) : ∃ n, n ≤ 20 ∧ c.1 1 = nI n ∧ m.1 3 = nI n := by
  obtain ⟨N, tx, n, w, rl, rt, ps, tt, zs, h1, h2, h3, -⟩ := h
  exact ⟨n, h3.2.1, h3.1, h3.2.2.2.1⟩
theorem nI_rng {r : Int32} : (¬ (0 ≤ r ∧ r < 6) → ¬ (nI 0 ≤ r ∧ r ≤ nI 5)) ∧ ((0 ≤ r ∧ r < 6) → ∃ k, k < 6 ∧ r = nI k) := by
  have e5 : (nI 5).toInt = 5 := by decide +kernel
  have e0 : (nI 0).toInt = 0 := by decide +kernel
  have e6 : (6 : Int32).toInt = 6 := by decide +kernel
  have ez : (0 : Int32).toInt = 0 := by decide +kernel
  refine ⟨fun h q => h ⟨?_, ?_⟩, fun h => ?_⟩
  · rw [Int32.le_iff_toInt_le] at q ⊢
    omega
  · have := q.2
    rw [Int32.le_iff_toInt_le] at this
    rw [Int32.lt_iff_toInt_lt]
    omega
  · have h0 : ¬ r < 0 := by
      have := h.1
      rw [Int32.le_iff_toInt_le] at this
      rw [Int32.lt_iff_toInt_lt]
      omega
    obtain ⟨j, hj, e⟩ := nI_of h0
    refine ⟨j, ?_, e⟩
    have h6 := h.2
    rw [e] at h6
    have := (nI_ltI hj (by decide : 6 < 2 ^ 31)).mp (by rw [nI_6v]; exact h6)
    exact this
theorem FM0.THR0 (m : MSt) (b : Int32) {xs : List String} (o : Oc) (ho : o = .inl (some (.int b))) : THR xs o (.inl (some (.int b))) (fU 0 (nI 0) m) := ⟨b, 0, by decide, rfl, by rw [fU_1, if_pos rfl], Or.inl ⟨rfl, ho⟩⟩
theorem O_memory (hl : l.stackTraces = false) (hJ : J c m) (r p : Int32) : ∃ P Q, BC cy ax l D base mX8_memory [.ref (ax 0), .int r, .int p] c P ∧ BM cy ad l D base mX9_memory [.ref (ad 43), .int r, .int p] m Q ∧ (∀ o c', P o c' → SH ["java/lang/IndexOutOfBoundsException"] o) ∧ ∀ o c' o' m', P o c' → Q o' m' → THR ["java/lang/IndexOutOfBoundsException"] o o' m' ∧ J c' m' := by
  obtain ⟨n, hn, e1, e3⟩ := J_in hJ
  have hM : ∀ k, k < 126 → c.2.1 9 k = m.2 13 k := by
    obtain ⟨N, tx, n, w, rl, rt, ps, tt, zs, h1, h2, h3, h4, h5, h6, h7, h8⟩ := hJ
    exact h6.1
  by_cases hr : 0 ≤ r ∧ r < 6
  · obtain ⟨k, hk, rfl⟩ := nI_rng.2 hr
    by_cases hp : 0 ≤ p ∧ p ≤ nI n
    · have h0 : ¬ p < 0 := by
        have := hp.1
        rw [Int32.le_iff_toInt_le] at this
        rw [Int32.lt_iff_toInt_lt]
        have ez : (0 : Int32).toInt = 0 := by decide +kernel
        omega
      obtain ⟨j, hj, rfl⟩ := nI_of h0
      have hjn : j ≤ n := (nI_leI hj (by omega)).mp hp.2
      refine ⟨_, _, BC.of0 (fun hp0 => C_memory1 hl 1791 k j n c hk e1 hn hjn), (fun hp0 => M_memory2 hl 1798 m k j n hk e3 hn hjn), (by intro o c' h; first | exact Or.inl ⟨_, h.1⟩ | exact Or.inr ⟨0, _, rfl, h.1⟩ | exact Or.inr ⟨1, _, rfl, h.1⟩ | exact Or.inr ⟨2, _, rfl, h.1⟩ | exact ⟨_, h.1⟩ | (obtain ⟨f, h1, h2⟩ := h; exact Or.inl ⟨_, h1⟩) | (rcases h with ⟨-, -, h, -⟩ | ⟨-, h, -⟩ <;> exact Or.inl ⟨_, h⟩)), fun o c' o' m' ⟨a1, a2⟩ ⟨b1, b2⟩ => ?_⟩
      subst a2 b2
      refine ⟨⟨m.2 13 (21 * k + j), 0, by decide, b1, by rw [fU_1, if_pos rfl], Or.inl ⟨rfl, ?_⟩⟩, hJ.fm0 (FM0.f m _)⟩
      rw [a1, hM _ (by omega), Nat.mul_comm 21 k]
    · refine ⟨_, _, BC.of1 (fun hp0 => C_memory3 hl 1791 (nI k) p c hr (by rw [e1]; exact hp)), (fun hp0 => M_memory1 hl 1798 m (nI k) p ⟨nI_le (Nat.zero_le _) (by omega), nI_le (by omega) (by decide)⟩ (by rw [e3]; exact hp)), (by intro o c' h; first | exact Or.inl ⟨_, h.1⟩ | exact Or.inr ⟨0, _, rfl, h.1⟩ | exact Or.inr ⟨1, _, rfl, h.1⟩ | exact Or.inr ⟨2, _, rfl, h.1⟩ | exact ⟨_, h.1⟩ | (obtain ⟨f, h1, h2⟩ := h; exact Or.inl ⟨_, h1⟩) | (rcases h with ⟨-, -, h, -⟩ | ⟨-, h, -⟩ <;> exact Or.inl ⟨_, h⟩)), fun o c' o' m' ⟨a1, a2⟩ ⟨b1, b2⟩ => ?_⟩
      subst a2 b2
      exact ⟨⟨nI 0, 1, by decide, b1, by rw [fU_1, if_pos rfl], Or.inr ⟨_, rfl, by decide, a1⟩⟩, hJ.fm0 (FM0.f m _)⟩
  · refine ⟨_, _, BC.of1 (fun hp0 => C_memory2 hl 1791 r p c hr), (fun hp0 => M_memory0 hl 1798 m r p (nI_rng.1 hr)), (by intro o c' h; first | exact Or.inl ⟨_, h.1⟩ | exact Or.inr ⟨0, _, rfl, h.1⟩ | exact Or.inr ⟨1, _, rfl, h.1⟩ | exact Or.inr ⟨2, _, rfl, h.1⟩ | exact ⟨_, h.1⟩ | (obtain ⟨f, h1, h2⟩ := h; exact Or.inl ⟨_, h1⟩) | (rcases h with ⟨-, -, h, -⟩ | ⟨-, h, -⟩ <;> exact Or.inl ⟨_, h⟩)), fun o c' o' m' ⟨a1, a2⟩ ⟨b1, b2⟩ => ?_⟩
    subst a2 b2
    exact ⟨⟨nI 0, 1, by decide, b1, by rw [fU_1, if_pos rfl], Or.inr ⟨_, rfl, by decide, a1⟩⟩, hJ.fm0 (FM0.f m _)⟩
theorem O_check (hl : l.stackTraces = false) (hJ : J c m) : ∃ P Q, BC cy ax l D base mX8_check [.ref (ax 0)] c P ∧ BM cy ad l D base mX9_check [.ref (ad 43)] m Q ∧ (∀ o c', P o c' → SH [] o) ∧ ∀ o c' o' m', P o c' → Q o' m' → EQV o o' ∧ J c' m' := by
  have hJ0 := hJ
  obtain ⟨N, tx, n, w, rl, rt, ps, tt, zs, h1, h2, h3, h4, h5, h6, h7, h8⟩ := hJ
  refine ⟨_, _, BC.of0 (fun hp0 => C_check hl 1799 c), (fun hp0 => M_check hl 1793 m _ (M_faultV hl 1793 (fU 0 (nI 0) m) (rl := rl) (zs := zs) (v := c.1 4) h4.2.2.2.2.2.1 h5.1) (fun o s2 h => ⟨_, h.1⟩)), (by intro o c' h; first | exact Or.inl ⟨_, h.1⟩ | exact Or.inr ⟨0, _, rfl, h.1⟩ | exact Or.inr ⟨1, _, rfl, h.1⟩ | exact Or.inr ⟨2, _, rfl, h.1⟩ | exact ⟨_, h.1⟩ | (obtain ⟨f, h1, h2⟩ := h; exact Or.inl ⟨_, h1⟩) | (rcases h with ⟨-, -, h, -⟩ | ⟨-, h, -⟩ <;> exact Or.inl ⟨_, h⟩)), fun o c' o' m' ⟨a1, a2⟩ ⟨b1, b2⟩ => ?_⟩
  subst a2
  exact ⟨⟨_, a1, b1⟩, hJ0.fm0 (FM0.fs b2)⟩
end OPS
