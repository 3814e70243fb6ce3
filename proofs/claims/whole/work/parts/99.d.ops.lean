/-! The calls node, count, full. -/
section OPS3
variable {cy : Nat → ClassId} {ax ad : Nat → Nat} {l : Launch} {D : va_G} {base : Nat} {c : CSt} {m : MSt}
theorem sub1_60 : ∀ k : Fin 61, (nI k.val - nI 1).toInt = (k.val : Int) - 1 := by decide +kernel
theorem nI_int {x : Int32} {a b : Nat} (h0 : (a : Int) ≤ x.toInt) (h1 : x.toInt < (b : Int)) : ∃ j, a ≤ j ∧ j < b ∧ x = nI j := by
  have hx : ¬ x < 0 := by
    rw [Int32.lt_iff_toInt_lt]
    have ez : (0 : Int32).toInt = 0 := by decide +kernel
    omega
  obtain ⟨j, hj, e⟩ := nI_of hx
  have := nI_toInt hj
  rw [← e] at this
  exact ⟨j, by omega, by omega, e⟩
theorem O_node (hl : l.stackTraces = false) (hJ : J c m) (i j : Int32) : ∃ P Q, BC cy ax l D base mX8_node [.ref (ax 0), .int i, .int j] c P ∧ BM cy ad l D base mX9_node [.ref (ad 43), .int i, .int j] m Q ∧ (∀ o c', P o c' → SH ["java/lang/IndexOutOfBoundsException"] o) ∧ ∀ o c' o' m', P o c' → Q o' m' → THR ["java/lang/IndexOutOfBoundsException"] o o' m' ∧ J c' m' := by
  have hT : JTr c m := by
    obtain ⟨N, tx, n, w, rl, rt, ps, tt, zs, h1, h2, h3, h4, h5, h6, h7, h8⟩ := hJ
    exact h7
  obtain ⟨k, k1, k2, k3, k4⟩ := hT
  have e0 : (nI 0).toInt = 0 := by decide +kernel
  have e3 : (nI 3).toInt = 3 := by decide +kernel
  have ez : (0 : Int32).toInt = 0 := by decide +kernel
  have e4 : (4 : Int32).toInt = 4 := by decide +kernel
  have ek : (nI k).toInt = (k : Int) := nI_toInt (by omega)
  have es := sub1_60 ⟨k, by omega⟩
  dsimp only at es
  have cin : (nI 0 ≤ i ∧ i ≤ m.1 28 - nI 1) ↔ (0 ≤ i.toInt ∧ i.toInt < k) := by
    rw [k3, Int32.le_iff_toInt_le, Int32.le_iff_toInt_le, e0, es]
    omega
  have cj : (nI 0 ≤ j ∧ j ≤ nI 3) ↔ (0 ≤ j.toInt ∧ j.toInt < 4) := by
    rw [Int32.le_iff_toInt_le, Int32.le_iff_toInt_le, e0, e3]
    omega
  have cc : (0 ≤ i ∧ i < c.1 7 ∧ 0 ≤ j ∧ j < 4) ↔ (0 ≤ i.toInt ∧ i.toInt < k) ∧ (0 ≤ j.toInt ∧ j.toInt < 4) := by
    rw [k2, Int32.le_iff_toInt_le, Int32.lt_iff_toInt_lt, Int32.le_iff_toInt_le, Int32.lt_iff_toInt_lt, ez, e4, ek]
    omega
  by_cases hi : 0 ≤ i.toInt ∧ i.toInt < k
  · by_cases hj : 0 ≤ j.toInt ∧ j.toInt < 4
    · obtain ⟨a, -, a2, rfl⟩ := nI_int (a := 0) (b := k) hi.1 hi.2
      obtain ⟨b, -, b2, rfl⟩ := nI_int (a := 0) (b := 4) hj.1 hj.2
      have h60 : a < 60 := by omega
      obtain ⟨q1, q2, q3, q4⟩ := k4 a a2
      have hb : b = 0 ∨ b = 1 ∨ b = 2 ∨ b = 3 := by omega
      rcases hb with rfl | rfl | rfl | rfl
      · refine ⟨_, _, BC.of0 (fun hp0 => C_node0k hl 1791 a k c k2 a2 k1), (fun hp0 => M_node20 hl 1799 m a 0 (cin.mpr hi) h60), (by intro o c' h; first | exact Or.inl ⟨_, h.1⟩ | exact Or.inr ⟨0, _, rfl, h.1⟩ | exact Or.inr ⟨1, _, rfl, h.1⟩ | exact Or.inr ⟨2, _, rfl, h.1⟩ | exact ⟨_, h.1⟩ | (obtain ⟨f, h1, h2⟩ := h; exact Or.inl ⟨_, h1⟩) | (rcases h with ⟨-, -, h, -⟩ | ⟨-, h, -⟩ <;> exact Or.inl ⟨_, h⟩)), fun o c' o' m' ⟨a1, a2⟩ ⟨b1, b2⟩ => ?_⟩
        subst a2 b2
        exact ⟨⟨_, 0, by decide, b1, by rw [fU_1, if_pos rfl], Or.inl ⟨rfl, by rw [a1, q1]⟩⟩, hJ.fm0 (FM0.f m _)⟩
      · refine ⟨_, _, BC.of0 (fun hp0 => C_node1k hl 1791 a k c k2 a2 k1), (fun hp0 => M_node21 hl 1799 m a 0 (cin.mpr hi) h60), (by intro o c' h; first | exact Or.inl ⟨_, h.1⟩ | exact Or.inr ⟨0, _, rfl, h.1⟩ | exact Or.inr ⟨1, _, rfl, h.1⟩ | exact Or.inr ⟨2, _, rfl, h.1⟩ | exact ⟨_, h.1⟩ | (obtain ⟨f, h1, h2⟩ := h; exact Or.inl ⟨_, h1⟩) | (rcases h with ⟨-, -, h, -⟩ | ⟨-, h, -⟩ <;> exact Or.inl ⟨_, h⟩)), fun o c' o' m' ⟨a1, a2⟩ ⟨b1, b2⟩ => ?_⟩
        subst a2 b2
        exact ⟨⟨_, 0, by decide, b1, by rw [fU_1, if_pos rfl], Or.inl ⟨rfl, by rw [a1, q2]⟩⟩, hJ.fm0 (FM0.f m _)⟩
      · refine ⟨_, _, BC.of0 (fun hp0 => C_node2k hl 1791 a k c k2 a2 k1), (fun hp0 => M_node22 hl 1799 m a 0 (cin.mpr hi) h60), (by intro o c' h; first | exact Or.inl ⟨_, h.1⟩ | exact Or.inr ⟨0, _, rfl, h.1⟩ | exact Or.inr ⟨1, _, rfl, h.1⟩ | exact Or.inr ⟨2, _, rfl, h.1⟩ | exact ⟨_, h.1⟩ | (obtain ⟨f, h1, h2⟩ := h; exact Or.inl ⟨_, h1⟩) | (rcases h with ⟨-, -, h, -⟩ | ⟨-, h, -⟩ <;> exact Or.inl ⟨_, h⟩)), fun o c' o' m' ⟨a1, a2⟩ ⟨b1, b2⟩ => ?_⟩
        subst a2 b2
        exact ⟨⟨_, 0, by decide, b1, by rw [fU_1, if_pos rfl], Or.inl ⟨rfl, by rw [a1, q3]⟩⟩, hJ.fm0 (FM0.f m _)⟩
      · refine ⟨_, _, BC.of0 (fun hp0 => C_node3k hl 1791 a k c k2 a2 k1), (fun hp0 => M_node23 hl 1799 m a 0 (cin.mpr hi) h60), (by intro o c' h; first | exact Or.inl ⟨_, h.1⟩ | exact Or.inr ⟨0, _, rfl, h.1⟩ | exact Or.inr ⟨1, _, rfl, h.1⟩ | exact Or.inr ⟨2, _, rfl, h.1⟩ | exact ⟨_, h.1⟩ | (obtain ⟨f, h1, h2⟩ := h; exact Or.inl ⟨_, h1⟩) | (rcases h with ⟨-, -, h, -⟩ | ⟨-, h, -⟩ <;> exact Or.inl ⟨_, h⟩)), fun o c' o' m' ⟨a1, a2⟩ ⟨b1, b2⟩ => ?_⟩
        subst a2 b2
        exact ⟨⟨_, 0, by decide, b1, by rw [fU_1, if_pos rfl], Or.inl ⟨rfl, by rw [a1, q4]⟩⟩, hJ.fm0 (FM0.f m _)⟩
    · refine ⟨_, _, BC.of1 (fun hp0 => C_nodeT hl 1791 i j c (fun q => hj (cc.mp q).2)), (fun hp0 => M_node1 hl 1799 m i j (cin.mpr hi) (fun q => hj (cj.mp q))), (by intro o c' h; first | exact Or.inl ⟨_, h.1⟩ | exact Or.inr ⟨0, _, rfl, h.1⟩ | exact Or.inr ⟨1, _, rfl, h.1⟩ | exact Or.inr ⟨2, _, rfl, h.1⟩ | exact ⟨_, h.1⟩ | (obtain ⟨f, h1, h2⟩ := h; exact Or.inl ⟨_, h1⟩) | (rcases h with ⟨-, -, h, -⟩ | ⟨-, h, -⟩ <;> exact Or.inl ⟨_, h⟩)), fun o c' o' m' ⟨a1, a2⟩ ⟨b1, b2⟩ => ?_⟩
      subst a2 b2
      exact ⟨⟨nI 0, 1, by decide, b1, by rw [fU_1, if_pos rfl], Or.inr ⟨_, rfl, by decide, a1⟩⟩, hJ.fm0 (FM0.f m _)⟩
  · refine ⟨_, _, BC.of1 (fun hp0 => C_nodeT hl 1791 i j c (fun q => hi (cc.mp q).1)), (fun hp0 => M_node0 hl 1799 m i j (fun q => hi (cin.mp q))), (by intro o c' h; first | exact Or.inl ⟨_, h.1⟩ | exact Or.inr ⟨0, _, rfl, h.1⟩ | exact Or.inr ⟨1, _, rfl, h.1⟩ | exact Or.inr ⟨2, _, rfl, h.1⟩ | exact ⟨_, h.1⟩ | (obtain ⟨f, h1, h2⟩ := h; exact Or.inl ⟨_, h1⟩) | (rcases h with ⟨-, -, h, -⟩ | ⟨-, h, -⟩ <;> exact Or.inl ⟨_, h⟩)), fun o c' o' m' ⟨a1, a2⟩ ⟨b1, b2⟩ => ?_⟩
    subst a2 b2
    exact ⟨⟨nI 0, 1, by decide, b1, by rw [fU_1, if_pos rfl], Or.inr ⟨_, rfl, by decide, a1⟩⟩, hJ.fm0 (FM0.f m _)⟩
theorem J_sz {c : CSt} {m : MSt} (h : J c m) : szF c.2.2.2.1 6 0 0 = rlF (m.2 10) 6 0 0 ∧ rlF (m.2 10) 6 0 0 ≤ 6 := by
  obtain ⟨N, tx, n, w, rl, rt, ps, tt, zs, h1, h2, h3, ⟨-, g1, g2, g3, g4, g5, g6⟩, h5, h6, h7, h8⟩ := h
  have hno : ∀ r, r < 6 → (rl r = none ↔ c.2.2.2.1 r = none) := fun r hr => by
    rw [g4 r hr]
    cases c.2.2.2.1 r <;> exact ⟨fun c => by cases c <;> rfl, fun c => by cases c <;> rfl⟩
  refine ⟨sz_rl (zs := zs) (fun r hr => ⟨(g5 r hr).1, (g5.GM r hr).2.1, (g5.no hr).trans (hno r hr)⟩) 6 0 0 (by decide), ?_⟩
  have := rlF_le (f := m.2 10) 6 0 0
  omega
theorem O_count (hl : l.stackTraces = false) (hJ : J c m) (i : Int32) : ∃ P Q, BC cy ax l D base mX8_count [.ref (ax 0), .int i] c P ∧ BM cy ad l D base mX9_count [.ref (ad 43), .int i] m Q ∧ (∀ o c', P o c' → SH ["java/lang/IndexOutOfBoundsException"] o) ∧ ∀ o c' o' m', P o c' → Q o' m' → THR ["java/lang/IndexOutOfBoundsException"] o o' m' ∧ J c' m' := by
  have hz := (J_sz hJ).1
  have hJ0 := hJ
  obtain ⟨N, tx, n, w, rl, rt, ps, tt, zs, h1, h2, h3, h4, h5, h6, h7, h8⟩ := hJ
  have e0 : (nI 0).toInt = 0 := by decide +kernel
  have e5 : (nI 5).toInt = 5 := by decide +kernel
  by_cases hi : 0 ≤ i.toInt ∧ i.toInt < 6
  · obtain ⟨a, -, a2, rfl⟩ := nI_int (a := 0) (b := 6) hi.1 hi.2
    have ha : a = 0 ∨ a = 1 ∨ a = 2 ∨ a = 3 ∨ a = 4 ∨ a = 5 := by omega
    rcases ha with rfl | rfl | rfl | rfl | rfl | rfl
    · refine ⟨_, _, BC.of0 (fun hp0 => C_count0 hl 1791 c), (fun hp0 => M_count0 hl 1798 m), (by intro o c' h; first | exact Or.inl ⟨_, h.1⟩ | exact Or.inr ⟨0, _, rfl, h.1⟩ | exact Or.inr ⟨1, _, rfl, h.1⟩ | exact Or.inr ⟨2, _, rfl, h.1⟩ | exact ⟨_, h.1⟩ | (obtain ⟨f, h1, h2⟩ := h; exact Or.inl ⟨_, h1⟩) | (rcases h with ⟨-, -, h, -⟩ | ⟨-, h, -⟩ <;> exact Or.inl ⟨_, h⟩)), fun o c' o' m' ⟨a1, a2⟩ ⟨b1, b2⟩ => ?_⟩
      subst a2 b2
      exact ⟨⟨_, 0, by decide, b1, by rw [fU_1, if_pos rfl], Or.inl ⟨rfl, by rw [a1, hz]⟩⟩, hJ0.fm0 (FM0.f m _)⟩
    · refine ⟨_, _, BC.of0 (fun hp0 => C_count1 hl 1791 c), (fun hp0 => M_count1 hl 1798 m), (by intro o c' h; first | exact Or.inl ⟨_, h.1⟩ | exact Or.inr ⟨0, _, rfl, h.1⟩ | exact Or.inr ⟨1, _, rfl, h.1⟩ | exact Or.inr ⟨2, _, rfl, h.1⟩ | exact ⟨_, h.1⟩ | (obtain ⟨f, h1, h2⟩ := h; exact Or.inl ⟨_, h1⟩) | (rcases h with ⟨-, -, h, -⟩ | ⟨-, h, -⟩ <;> exact Or.inl ⟨_, h⟩)), fun o c' o' m' ⟨a1, a2⟩ ⟨b1, b2⟩ => ?_⟩
      subst a2 b2
      exact ⟨⟨_, 0, by decide, b1, by rw [fU_1, if_pos rfl], Or.inl ⟨rfl, by rw [a1, h1.1, h2.1]⟩⟩, hJ0.fm0 (FM0.f m _)⟩
    · refine ⟨_, _, BC.of0 (fun hp0 => C_count2 hl 1791 c), (fun hp0 => M_count2 hl 1798 m), (by intro o c' h; first | exact Or.inl ⟨_, h.1⟩ | exact Or.inr ⟨0, _, rfl, h.1⟩ | exact Or.inr ⟨1, _, rfl, h.1⟩ | exact Or.inr ⟨2, _, rfl, h.1⟩ | exact ⟨_, h.1⟩ | (obtain ⟨f, h1, h2⟩ := h; exact Or.inl ⟨_, h1⟩) | (rcases h with ⟨-, -, h, -⟩ | ⟨-, h, -⟩ <;> exact Or.inl ⟨_, h⟩)), fun o c' o' m' ⟨a1, a2⟩ ⟨b1, b2⟩ => ?_⟩
      subst a2 b2
      exact ⟨⟨_, 0, by decide, b1, by rw [fU_1, if_pos rfl], Or.inl ⟨rfl, by rw [a1, h3.1, h3.2.2.2.1]⟩⟩, hJ0.fm0 (FM0.f m _)⟩
    · refine ⟨_, _, BC.of0 (fun hp0 => C_count3 hl 1791 c), (fun hp0 => M_count3 hl 1798 m), (by intro o c' h; first | exact Or.inl ⟨_, h.1⟩ | exact Or.inr ⟨0, _, rfl, h.1⟩ | exact Or.inr ⟨1, _, rfl, h.1⟩ | exact Or.inr ⟨2, _, rfl, h.1⟩ | exact ⟨_, h.1⟩ | (obtain ⟨f, h1, h2⟩ := h; exact Or.inl ⟨_, h1⟩) | (rcases h with ⟨-, -, h, -⟩ | ⟨-, h, -⟩ <;> exact Or.inl ⟨_, h⟩)), fun o c' o' m' ⟨a1, a2⟩ ⟨b1, b2⟩ => ?_⟩
      subst a2 b2
      obtain ⟨k, k1, k2, k3, k4⟩ := h7
      exact ⟨⟨_, 0, by decide, b1, by rw [fU_1, if_pos rfl], Or.inl ⟨rfl, by rw [a1, k2, k3]⟩⟩, hJ0.fm0 (FM0.f m _)⟩
    · refine ⟨_, _, BC.of0 (fun hp0 => C_count4 hl 1791 c), (fun hp0 => M_count4 hl 1798 m), (by intro o c' h; first | exact Or.inl ⟨_, h.1⟩ | exact Or.inr ⟨0, _, rfl, h.1⟩ | exact Or.inr ⟨1, _, rfl, h.1⟩ | exact Or.inr ⟨2, _, rfl, h.1⟩ | exact ⟨_, h.1⟩ | (obtain ⟨f, h1, h2⟩ := h; exact Or.inl ⟨_, h1⟩) | (rcases h with ⟨-, -, h, -⟩ | ⟨-, h, -⟩ <;> exact Or.inl ⟨_, h⟩)), fun o c' o' m' ⟨a1, a2⟩ ⟨b1, b2⟩ => ?_⟩
      subst a2 b2
      exact ⟨⟨_, 0, by decide, b1, by rw [fU_1, if_pos rfl], Or.inl ⟨rfl, by rw [a1, h6.2.1]⟩⟩, hJ0.fm0 (FM0.f m _)⟩
    · refine ⟨_, _, BC.of0 (fun hp0 => C_count5 hl 1791 c), (fun hp0 => M_count5 hl 1798 m), (by intro o c' h; first | exact Or.inl ⟨_, h.1⟩ | exact Or.inr ⟨0, _, rfl, h.1⟩ | exact Or.inr ⟨1, _, rfl, h.1⟩ | exact Or.inr ⟨2, _, rfl, h.1⟩ | exact ⟨_, h.1⟩ | (obtain ⟨f, h1, h2⟩ := h; exact Or.inl ⟨_, h1⟩) | (rcases h with ⟨-, -, h, -⟩ | ⟨-, h, -⟩ <;> exact Or.inl ⟨_, h⟩)), fun o c' o' m' ⟨a1, a2⟩ ⟨b1, b2⟩ => ?_⟩
      subst a2 b2
      exact ⟨⟨_, 0, by decide, b1, by rw [fU_1, if_pos rfl], Or.inl ⟨rfl, by rw [a1, h6.2.2.1]⟩⟩, hJ0.fm0 (FM0.f m _)⟩
  · have hx : i.toInt < 0 ∨ 5 < i.toInt := by omega
    refine ⟨_, _, BC.of1 (fun hp0 => C_countT hl 1791 i c hx), (fun hp0 => M_countX hl 1798 m i (fun q => by
      rw [Int32.le_iff_toInt_le, Int32.le_iff_toInt_le, e0, e5] at q
      omega) hx), (by intro o c' h; first | exact Or.inl ⟨_, h.1⟩ | exact Or.inr ⟨0, _, rfl, h.1⟩ | exact Or.inr ⟨1, _, rfl, h.1⟩ | exact Or.inr ⟨2, _, rfl, h.1⟩ | exact ⟨_, h.1⟩ | (obtain ⟨f, h1, h2⟩ := h; exact Or.inl ⟨_, h1⟩) | (rcases h with ⟨-, -, h, -⟩ | ⟨-, h, -⟩ <;> exact Or.inl ⟨_, h⟩)), fun o c' o' m' ⟨a1, a2⟩ ⟨b1, b2⟩ => ?_⟩
    subst a2 b2
    exact ⟨⟨nI 0, 1, by decide, b1, by rw [fU_1, if_pos rfl], Or.inr ⟨_, rfl, by decide, a1⟩⟩, hJ0.fm0 (FM0.f m _)⟩
theorem mzF_cg {f g : Nat → Int32} : ∀ n i c, (∀ j, i ≤ j → j < i + n → f j = g j) → mzF f n i c = mzF g n i c
  | 0, _, _, _ => rfl
  | n + 1, i, c, h => by
    unfold mzF
    rw [h i (Nat.le_refl _) (by omega)]
    exact mzF_cg n (i + 1) _ (fun j a b => h j (by omega) (by omega))
theorem mzF_le {f : Nat → Int32} : ∀ n i c, mzF f n i c ≤ c + n
  | 0, _, _ => Nat.le_refl _
  | n + 1, i, c => by
    unfold mzF
    by_cases h : f i = -2
    · rw [if_pos h]
      have := mzF_le (f := f) n (i + 1) c
      omega
    · rw [if_neg h]
      have := mzF_le (f := f) n (i + 1) (c + 1)
      omega
theorem fd_ok : ∀ a b : Fin 127, b.val = 0 ∨ FP.fdiv (FP.i2f (nI a.val)) (FP.i2f (nI b.val)) &&& 0x7fffffff ≤ 0x7f800000 := by decide +kernel
theorem O_full (hl : l.stackTraces = false) (hJ : J c m) : ∃ P Q, BC cy ax l D base mX8_full [.ref (ax 0)] c P ∧ BM cy ad l D base mX9_full [.ref (ad 43)] m Q ∧ (∀ o c', P o c' → ∃ x : UInt32, o = .inl (some (.float x))) ∧ ∀ o c' o' m', P o c' → Q o' m' → (∃ x, vf_n32 x ∧ o = .inl (some (.float x)) ∧ o' = .inl (some (.float x))) ∧ J c' m' := by
  obtain ⟨hz, hz6⟩ := J_sz hJ
  have hJ0 := hJ
  obtain ⟨N, tx, n, w, rl, rt, ps, tt, zs, h1, h2, h3, h4, h5, h6, h7, h8⟩ := hJ
  by_cases h0 : rlF (m.2 10) 6 0 0 = 0
  · refine ⟨_, _, BC.of0 (fun hp0 => C_full0 hl 1799 c n h3.1 h3.2.1 (by rw [hz]; exact h0)), (fun hp0 => M_full0 hl 1798 m h0), (by intro o c' h; first | exact Or.inl ⟨_, h.1⟩ | exact Or.inr ⟨0, _, rfl, h.1⟩ | exact Or.inr ⟨1, _, rfl, h.1⟩ | exact Or.inr ⟨2, _, rfl, h.1⟩ | exact ⟨_, h.1⟩ | (obtain ⟨f, h1, h2⟩ := h; exact Or.inl ⟨_, h1⟩) | (rcases h with ⟨-, -, h, -⟩ | ⟨-, h, -⟩ <;> exact Or.inl ⟨_, h⟩)), fun o c' o' m' ⟨a1, a2⟩ ⟨b1, b2⟩ => ?_⟩
    subst a2 b2
    exact ⟨⟨FP.fconst0, by unfold vf_n32; decide +kernel, a1, b1⟩, hJ0.fm0 (FM0.f m _)⟩
  · have hmz : mzF (c.2.1 9) 126 0 0 = mzF (m.2 13) 126 0 0 := mzF_cg 126 0 0 (fun j _ hj => h6.1 j (by omega))
    have hle : mzF (m.2 13) 126 0 0 ≤ 126 := by have := mzF_le (f := m.2 13) 126 0 0; omega
    have hn := h3.2.1
    have hb : rlF (m.2 10) 6 0 0 * (n + 1) ≤ 126 := Nat.le_trans (Nat.mul_le_mul hz6 (show n + 1 ≤ 21 by omega)) (by decide)
    have hb1 : ¬ rlF (m.2 10) 6 0 0 * (n + 1) = 0 := by
      intro e
      rcases Nat.mul_eq_zero.mp e with q | q
      · exact h0 q
      · omega
    have hne : vf_n32 (FP.fdiv (FP.i2f (nI (mzF (m.2 13) 126 0 0))) (FP.i2f (nI (rlF (m.2 10) 6 0 0 * (n + 1))))) := (fd_ok ⟨_, Nat.lt_succ_of_le hle⟩ ⟨_, Nat.lt_succ_of_le hb⟩).resolve_left hb1
    refine ⟨_, _, BC.of0 (fun hp0 => C_full1 hl 1799 c n h3.1 h3.2.1 (by rw [hz]; exact h0) (by rw [hz, hmz]; exact hne)), (fun hp0 => M_full1 hl 1798 m n h3.2.2.2.1 h3.2.1 h0 hne), (by intro o c' h; first | exact Or.inl ⟨_, h.1⟩ | exact Or.inr ⟨0, _, rfl, h.1⟩ | exact Or.inr ⟨1, _, rfl, h.1⟩ | exact Or.inr ⟨2, _, rfl, h.1⟩ | exact ⟨_, h.1⟩ | (obtain ⟨f, h1, h2⟩ := h; exact Or.inl ⟨_, h1⟩) | (rcases h with ⟨-, -, h, -⟩ | ⟨-, h, -⟩ <;> exact Or.inl ⟨_, h⟩)), fun o c' o' m' ⟨a1, a2⟩ ⟨b1, b2⟩ => ?_⟩
    subst a2 b2
    exact ⟨⟨_, hne, by rw [a1, hz, hmz], b1⟩, hJ0.fm0 (FM0.f m _)⟩
end OPS3
