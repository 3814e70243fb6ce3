/-! More of the calls: clear, feed, outcomes, node, count. -/
section OPS2
variable {cy : Nat → ClassId} {ax ad : Nat → Nat} {l : Launch} {D : va_G} {base : Nat} {c : CSt} {m : MSt}
theorem O_clear (hl : l.stackTraces = false) (hJ : J c m) : ∃ P Q, BC cy ax l D base mX8_clear [.ref (ax 0)] c P ∧ BM cy ad l D base mX9_clear [.ref (ad 43)] m Q ∧ (∀ o c', P o c' → SH [] o) ∧ ∀ o c' o' m', P o c' → Q o' m' → EQV o o' ∧ J c' m' := by
  obtain ⟨N, tx, n, w, rl, rt, ps, tt, zs, h1, h2, h3, h4, h5, h6, h7, h8⟩ := hJ
  by_cases h0 : n = 0
  · subst h0
    refine ⟨_, _, BC.of0 (fun hp0 => C_clear0 hl 1797 c h3.1), (fun hp0 => M_clear0 hl 1798 m 0 h3.2.2.2.1 (by decide) rfl), (by intro o c' h; first | exact Or.inl ⟨_, h.1⟩ | exact Or.inr ⟨0, _, rfl, h.1⟩ | exact Or.inr ⟨1, _, rfl, h.1⟩ | exact Or.inr ⟨2, _, rfl, h.1⟩ | exact ⟨_, h.1⟩ | (obtain ⟨f, h1, h2⟩ := h; exact Or.inl ⟨_, h1⟩) | (rcases h with ⟨-, -, h, -⟩ | ⟨-, h, -⟩ <;> exact Or.inl ⟨_, h⟩)), fun o c' o' m' ⟨a1, a2⟩ ⟨b1, b2⟩ => ?_⟩
    subst a2 b2
    have e : ∀ k, k ≠ 0 → (fU 3 (nI 0) (fU 0 (nI 0) m)).1 k = m.1 k := fun k hk => by
      rw [fU_1]
      by_cases e : k = 3
      · rw [if_pos e, e]; exact h3.2.2.2.1.symm
      · rw [if_neg e, fU_1, if_neg hk]
    exact ⟨⟨_, a1, b1⟩, J.fm0 ⟨N, tx, 0, w, rl, rt, ps, tt, zs, h1, h2, h3, h4, h5, h6, h7, h8⟩ ⟨e, fun _ _ _ _ => rfl⟩⟩
  · refine ⟨_, _, BC.of0 (fun hp0 => C_clear1 hl 1797 n c h3.1 (by omega) h3.2.1), (fun hp0 => M_clear1 hl 1798 m n h3.2.2.2.1 h3.2.1 h0), (by intro o c' h; first | exact Or.inl ⟨_, h.1⟩ | exact Or.inr ⟨0, _, rfl, h.1⟩ | exact Or.inr ⟨1, _, rfl, h.1⟩ | exact Or.inr ⟨2, _, rfl, h.1⟩ | exact ⟨_, h.1⟩ | (obtain ⟨f, h1, h2⟩ := h; exact Or.inl ⟨_, h1⟩) | (rcases h with ⟨-, -, h, -⟩ | ⟨-, h, -⟩ <;> exact Or.inl ⟨_, h⟩)), fun o c' o' m' ⟨f, a1, a2, a3⟩ ⟨g, b1, b2, b3⟩ => ?_⟩
    subst a2 b2
    refine ⟨⟨_, a1, b1⟩, N, tx, 0, w, rl, rt, ps, tt, zs, h1.cg ?_ ?_, h2.cg ?_ ?_, ⟨?_, by decide, fun j hj => by omega, ?_, fun j hj => by omega⟩, (h4.cgc rfl).cgm ?_ ?_, h5.cg ?_ rfl, JM.emp 0 w rl ?_ ?_ ?_ ?_ (by decide), h7.cg ?_ ?_ ?_ ?_, ?_, ?_⟩
    · dsimp only; exact va_up_ne _ _ (by decide)
    · dsimp only; exact va_up_ne _ _ (by decide)
    · show va_up (va_up m.1 0 (nI 0)) 3 (nI 0) 1 = _
      rw [va_up_ne _ _ (by decide), va_up_ne _ _ (by decide)]
    · intro x
      show va_up m.2 13 g 2 x = _
      rw [va_up_ne _ _ (by decide)]
    · show va_up c.1 1 0 1 = _
      rw [va_up_self]
      decide +kernel
    · dsimp only; exact va_up_self _ _ _
    · intro k x a b _
      show va_up m.2 13 g k x = _
      rw [va_up_ne _ _ (by omega)]
    · intro x _
      show va_up m.2 13 g 10 x = _
      rw [va_up_ne _ _ (by decide)]
    · dsimp only; exact va_up_ne _ _ (by decide)
    · intro j hj
      show va_up c.2.1 9 f 9 j = _
      rw [va_up_self]
      exact a3 j hj
    · intro j hj
      show va_up m.2 13 g 13 j = _
      rw [va_up_self]
      exact b3 j hj
    · show va_up c.1 1 0 5 = va_up (va_up m.1 0 (nI 0)) 3 (nI 0) 14
      rw [va_up_ne _ _ (by decide), va_up_ne _ _ (by decide), va_up_ne _ _ (by decide)]
      exact h6.2.1
    · show va_up c.1 1 0 6 = va_up (va_up m.1 0 (nI 0)) 3 (nI 0) 15
      rw [va_up_ne _ _ (by decide), va_up_ne _ _ (by decide), va_up_ne _ _ (by decide)]
      exact h6.2.2.1
    · dsimp only; exact va_up_ne _ _ (by decide)
    · intro k a b
      dsimp only
      exact va_up_ne _ _ (by omega)
    · show va_up (va_up m.1 0 (nI 0)) 3 (nI 0) 28 = _
      rw [va_up_ne _ _ (by decide), va_up_ne _ _ (by decide)]
    · intro k x a b
      show va_up m.2 13 g k x = _
      rw [va_up_ne _ _ (by omega)]
    · show va_up (va_up m.1 0 (nI 0)) 3 (nI 0) 23 = _
      rw [va_up_ne _ _ (by decide), va_up_ne _ _ (by decide)]
      exact h8.1
    · show va_up m.2 13 g 8 447 = _
      rw [va_up_ne _ _ (by decide)]
      exact h8.2
theorem isL_nI {k : Nat} (hk : k < 65536) : isL k ↔ 97 ≤ nI k ∧ nI k ≤ 105 := by
  unfold isL
  have e1 : (97 : Int32) = nI 97 := by decide +kernel
  have e2 : (105 : Int32) = nI 105 := by decide +kernel
  rw [e1, e2, nI_leI (by decide) (by omega), nI_leI (by omega) (by decide)]
theorem O_feed (hl : l.stackTraces = false) (hJ : J c m) (k : Nat) (hk : k < 65536) : ∃ P Q, BC cy ax l D base mX8_feed [.ref (ax 0), .int (nI k)] c P ∧ BM cy ad l D base mX9_feed [.ref (ad 43), .int (nI k)] m Q ∧ (∀ o c', P o c' → SH ["java/lang/IllegalArgumentException", "java/lang/IllegalStateException"] o) ∧ ∀ o c' o' m', P o c' → Q o' m' → THR ["java/lang/IllegalArgumentException", "java/lang/IllegalStateException"] o o' m' ∧ J c' m' := by
  have hJ0 := hJ
  obtain ⟨N, tx, n, w, rl, rt, ps, tt, zs, h1, h2, h3, h4, h5, h6, h7, h8⟩ := hJ
  by_cases hL : isL k
  · have hL2 := (isL_nI hk).mp hL
    by_cases hn : n = 20
    · refine ⟨_, _, BC.of1 (fun hp0 => C_feed2 hl 1791 k c hk n hL h3.1 h3.2.1 (by omega)), (fun hp0 => M_feed2 hl 1798 m n h3.2.2.2.1 h3.2.1 k hk hL2 hn), (by intro o c' h; first | exact Or.inl ⟨_, h.1⟩ | exact Or.inr ⟨0, _, rfl, h.1⟩ | exact Or.inr ⟨1, _, rfl, h.1⟩ | exact Or.inr ⟨2, _, rfl, h.1⟩ | exact ⟨_, h.1⟩ | (obtain ⟨f, h1, h2⟩ := h; exact Or.inl ⟨_, h1⟩) | (rcases h with ⟨-, -, h, -⟩ | ⟨-, h, -⟩ <;> exact Or.inl ⟨_, h⟩)), fun o c' o' m' ⟨a1, a2⟩ ⟨b1, b2⟩ => ?_⟩
      subst a2 b2
      exact ⟨⟨nI 0, 2, by decide, b1, by rw [fU_1, if_pos rfl], Or.inr ⟨_, rfl, by decide, a1⟩⟩, hJ0.fm0 (FM0.ff m _ _)⟩
    · have h97 : 97 ≤ k := hL.1
      have h105 : k ≤ 105 := hL.2
      have hn20 := h3.2.1
      refine ⟨_, _, BC.of0 (fun hp0 => C_feed3 hl 1791 k c hk n hL h3.1 h3.2.1 (by omega)), (fun hp0 => M_feed3 hl 1798 m n h3.2.2.2.1 h3.2.1 k hk hL2 h97 hn), (by intro o c' h; first | exact Or.inl ⟨_, h.1⟩ | exact Or.inr ⟨0, _, rfl, h.1⟩ | exact Or.inr ⟨1, _, rfl, h.1⟩ | exact Or.inr ⟨2, _, rfl, h.1⟩ | exact ⟨_, h.1⟩ | (obtain ⟨f, h1, h2⟩ := h; exact Or.inl ⟨_, h1⟩) | (rcases h with ⟨-, -, h, -⟩ | ⟨-, h, -⟩ <;> exact Or.inl ⟨_, h⟩)), fun o c' o' m' ⟨f, a1, a2, a3⟩ ⟨g, b1, b2, b3⟩ => ?_⟩
      subst a2 b2
      refine ⟨⟨nI (n + 1), 0, by decide, b1, ?_, Or.inl ⟨rfl, a1⟩⟩, N, tx, n + 1, (fun j => if j = n then k - 97 else w j), rl, rt, ps, tt, zs, h1.cg ?_ ?_, h2.cg ?_ ?_, ⟨?_, by omega, fun j hj => ?_, ?_, fun j hj => ?_⟩, (h4.cgc rfl).cgm ?_ ?_, h5.cg ?_ rfl, JM.emp _ _ rl ?_ ?_ ?_ ?_ (by omega), h7.cg ?_ ?_ ?_ ?_, ?_, ?_⟩
      · dsimp only
        rw [va_up_ne _ _ (by decide), va_up_self]
      · dsimp only; exact va_up_ne _ _ (by decide)
      · dsimp only
        rw [va_up_ne _ _ (by decide), va_up_ne _ _ (by decide)]
      · dsimp only
        rw [va_up_ne _ _ (by decide), va_up_ne _ _ (by decide)]
      · intro x
        dsimp only
        rw [va_up_ne _ _ (by decide), va_up_ne _ _ (by decide)]
      · dsimp only; exact va_up_self _ _ _
      · show va_up (va_up c.2.1 4 (upd (c.2.1 4) n (vp_nar .char (nI k)))) 9 f 4 j = _ ∧ _
        rw [va_up_ne _ _ (by decide), va_up_self, nar_char (by omega)]
        by_cases e : j = n
        · subst e
          rw [pk_us]
          dsimp only
          rw [if_pos rfl, show 97 + (k - 97) = k by omega]
          exact ⟨rfl, by omega⟩
        · rw [pk_un e]
          dsimp only
          rw [if_neg e]
          exact h3.2.2.1 j (by omega)
      · dsimp only; exact va_up_self _ _ _
      · show va_up (va_up m.2 4 (upd (m.2 4) n (nI (k - 97)))) 13 g 4 j = _
        rw [va_up_ne _ _ (by decide), va_up_self]
        by_cases e : j = n
        · subst e
          rw [pk_us]
          dsimp only
          rw [if_pos rfl]
        · rw [pk_un e]
          dsimp only
          rw [if_neg e]
          exact h3.2.2.2.2 j (by omega)
      · intro k' x a b _
        dsimp only
        rw [va_up_ne _ _ (by omega), va_up_ne _ _ (by omega)]
      · intro x _
        dsimp only
        rw [va_up_ne _ _ (by decide), va_up_ne _ _ (by decide)]
      · dsimp only; exact va_up_ne _ _ (by decide)
      · intro j hj
        dsimp only
        rw [va_up_self]
        exact a3 j hj
      · intro j hj
        dsimp only
        rw [va_up_self]
        exact b3 j hj
      · dsimp only
        rw [va_up_ne _ _ (by decide), va_up_ne _ _ (by decide), va_up_ne _ _ (by decide)]
        exact h6.2.1
      · dsimp only
        rw [va_up_ne _ _ (by decide), va_up_ne _ _ (by decide), va_up_ne _ _ (by decide)]
        exact h6.2.2.1
      · dsimp only; exact va_up_ne _ _ (by decide)
      · intro k' a b
        dsimp only
        rw [va_up_ne _ _ (by omega), va_up_ne _ _ (by omega)]
      · dsimp only
        rw [va_up_ne _ _ (by decide), va_up_ne _ _ (by decide)]
      · intro k' x a b
        dsimp only
        rw [va_up_ne _ _ (by omega), va_up_ne _ _ (by omega)]
      · dsimp only
        rw [va_up_ne _ _ (by decide), va_up_ne _ _ (by decide)]
        exact h8.1
      · dsimp only
        rw [va_up_ne _ _ (by decide), va_up_ne _ _ (by decide)]
        exact h8.2
  · refine ⟨_, _, BC.of1 (fun hp0 => C_feed1 hl 1791 k c hk hL), (fun hp0 => M_feed1 hl 1798 m n h3.2.2.2.1 h3.2.1 k hk (fun q => hL ((isL_nI hk).mpr q))), (by intro o c' h; first | exact Or.inl ⟨_, h.1⟩ | exact Or.inr ⟨0, _, rfl, h.1⟩ | exact Or.inr ⟨1, _, rfl, h.1⟩ | exact Or.inr ⟨2, _, rfl, h.1⟩ | exact ⟨_, h.1⟩ | (obtain ⟨f, h1, h2⟩ := h; exact Or.inl ⟨_, h1⟩) | (rcases h with ⟨-, -, h, -⟩ | ⟨-, h, -⟩ <;> exact Or.inl ⟨_, h⟩)), fun o c' o' m' ⟨a1, a2⟩ ⟨b1, b2⟩ => ?_⟩
    subst a2 b2
    exact ⟨⟨nI 0, 1, by decide, b1, by rw [fU_1, if_pos rfl], Or.inr ⟨_, rfl, by decide, a1⟩⟩, hJ0.fm0 (FM0.ff m _ _)⟩
theorem hasRule_no (hl : l.stackTraces = false) {hp0 : Hp} (s : MSt) (r : Nat) (hr : r < 6) (hz : s.2 10 r = nI 0) : MtW (IM cy ad hp0) l D cy base mX9_hasRule (0 + 1) 0 0 [.ref (ad 43), .int (nI r)] s (fun o s2 => o = .inl (some (.int (nI 0))) ∧ s2 = s) := by
  have := M_hasRule1 (cy := cy) (ad := ad) (hp0 := hp0) (D := D) (base := base) hl 0 s r 0 hr hz (by decide)
  rw [if_pos rfl] at this
  exact this
theorem O_outcomes (hl : l.stackTraces = false) (hJ : J c m) (r : Int32) : ∃ P Q, BC cy ax l D base mX8_outcomes [.ref (ax 0), .int r] c P ∧ BM cy ad l D base mX9_outcomes [.ref (ad 43), .int r] m Q ∧ (∀ o c', P o c' → SH [yCls, "java/lang/IllegalStateException"] o) ∧ ∀ o c' o' m', P o c' → Q o' m' → THR [yCls, "java/lang/IllegalStateException"] o o' m' ∧ J c' m' := by
  have hJ0 := hJ
  obtain ⟨N, tx, n, w, rl, rt, ps, tt, zs, h1, h2, h3, h4, h5, h6, h7, h8⟩ := hJ
  by_cases hr : 0 ≤ r ∧ r < 6
  · obtain ⟨k, hk, rfl⟩ := nI_rng.2 hr
    obtain ⟨-, g1, g2, g3, g4, g5, g6⟩ := h4
    have hrk := g4 k hk
    cases hx : c.2.2.2.1 k with
    | none =>
      rw [hx] at hrk
      have hz : m.2 10 k = nI 0 := by rw [(g5 k hk).1, (g5.no hk).mpr hrk]
      refine ⟨_, _, BC.of1 (fun hp0 => C_outs1 hl 1791 c k hk hx), (fun hp0 => M_outs1 hl 1794 m (nI k) (hasRule_no hl m k hk hz)), (by intro o c' h; first | exact Or.inl ⟨_, h.1⟩ | exact Or.inr ⟨0, _, rfl, h.1⟩ | exact Or.inr ⟨1, _, rfl, h.1⟩ | exact Or.inr ⟨2, _, rfl, h.1⟩ | exact ⟨_, h.1⟩ | (obtain ⟨f, h1, h2⟩ := h; exact Or.inl ⟨_, h1⟩) | (rcases h with ⟨-, -, h, -⟩ | ⟨-, h, -⟩ <;> exact Or.inl ⟨_, h⟩)), fun o c' o' m' ⟨a1, a2⟩ ⟨b1, b2⟩ => ?_⟩
      subst a2 b2
      exact ⟨⟨nI 0, 1, by decide, b1, by rw [fU_1, if_pos rfl], Or.inr ⟨_, rfl, by decide, a1⟩⟩, hJ0.fm0 (FM0.f m _)⟩
    | some x =>
      rw [hx] at hrk
      have ht : rl k = some (tt k) := hrk
      obtain ⟨v, e1, e2, e3, e4⟩ := h5.1.k
      have hpr : ∃ r, r < 6 ∧ rl r ≠ none := ⟨k, hk, by rw [ht]; exact fun q => by cases q⟩
      have hm := lkR_MIS g5
      cases hlk : lkR zs m.2 6 0 none with
      | some y =>
        rw [hlk] at hm
        have hy6 : y < 6 := by
          obtain ⟨_, _, _, _, _, q, _⟩ := (hm.1 y rfl).1
          exact q
        obtain ⟨w1, w2, w3, w4⟩ := g5.at hk ht
        have hs1 := sz_pos _ w1
        refine ⟨_, _, BC.of1 (fun hp0 => C_outs2 hl 1791 c k x hk hx v e1 e2 (e3.mpr ⟨hpr, y, hm⟩)), (fun hp0 => M_outs2 hl 1794 m k hk (by
          have := M_hasRule1 (cy := cy) (ad := ad) (hp0 := hp0) (D := D) (base := base) hl 0 m k (zs k) hk (g5 k hk).1 (g5.GM k hk).2.1
          rw [if_neg (by omega)] at this
          exact this) zs g5.GM y hlk hy6), (by intro o c' h; first | exact Or.inl ⟨_, h.1⟩ | exact Or.inr ⟨0, _, rfl, h.1⟩ | exact Or.inr ⟨1, _, rfl, h.1⟩ | exact Or.inr ⟨2, _, rfl, h.1⟩ | exact ⟨_, h.1⟩ | (obtain ⟨f, h1, h2⟩ := h; exact Or.inl ⟨_, h1⟩) | (rcases h with ⟨-, -, h, -⟩ | ⟨-, h, -⟩ <;> exact Or.inl ⟨_, h⟩)), fun o c' o' m' ⟨a1, a2⟩ ⟨b1, b2⟩ => ?_⟩
        subst a2 b2
        exact ⟨⟨nI 0, 2, by decide, b1, by rw [fU_1, if_pos rfl], Or.inr ⟨_, rfl, by decide, a1⟩⟩, hJ0.fm0 (FM0.f m _)⟩
      | none =>
        rw [hlk] at hm
        obtain ⟨O, o1, o2⟩ := h5.2 hm hpr
        obtain ⟨e9, m9, k1, k2, k3, k4⟩ := g1 k hk x hx
        refine ⟨_, _, BC.of0 (fun hp0 => C_outs3 hl 1791 c k x hk hx v e1 e2 (fun q => by obtain ⟨-, y, hy⟩ := e3.mp q; cases hm.uniq hy (fun _ => Iff.rfl)) e9 k1 (rt k) k2 m9 k3), (fun hp0 => M_outsV hl 1794 m g5 hk ht hm o1), (by intro o c' h; first | exact Or.inl ⟨_, h.1⟩ | exact Or.inr ⟨0, _, rfl, h.1⟩ | exact Or.inr ⟨1, _, rfl, h.1⟩ | exact Or.inr ⟨2, _, rfl, h.1⟩ | exact ⟨_, h.1⟩ | (obtain ⟨f, h1, h2⟩ := h; exact Or.inl ⟨_, h1⟩) | (rcases h with ⟨-, -, h, -⟩ | ⟨-, h, -⟩ <;> exact Or.inl ⟨_, h⟩)), fun o c' o' m' ⟨a1, a2⟩ ⟨b1, b2⟩ => ?_⟩
        subst a2
        refine ⟨⟨O k, 0, by decide, b1, by rw [b2.1, fU_1, if_pos rfl], Or.inl ⟨rfl, ?_⟩⟩, hJ0.fm0 (FM0.fs b2)⟩
        rw [a1, ← o2 k _ hk ht]
        unfold ndO
        rw [k3]
  · refine ⟨_, _, BC.of1 (fun hp0 => C_outs0 hl 1791 c r hr), (fun hp0 => M_outs1 hl 1794 m r (M_hasRule0 hl 0 m r (nI_rng.1 hr))), (by intro o c' h; first | exact Or.inl ⟨_, h.1⟩ | exact Or.inr ⟨0, _, rfl, h.1⟩ | exact Or.inr ⟨1, _, rfl, h.1⟩ | exact Or.inr ⟨2, _, rfl, h.1⟩ | exact ⟨_, h.1⟩ | (obtain ⟨f, h1, h2⟩ := h; exact Or.inl ⟨_, h1⟩) | (rcases h with ⟨-, -, h, -⟩ | ⟨-, h, -⟩ <;> exact Or.inl ⟨_, h⟩)), fun o c' o' m' ⟨a1, a2⟩ ⟨b1, b2⟩ => ?_⟩
    subst a2 b2
    exact ⟨⟨nI 0, 1, by decide, b1, by rw [fU_1, if_pos rfl], Or.inr ⟨_, rfl, by decide, a1⟩⟩, hJ0.fm0 (FM0.f m _)⟩
end OPS2
