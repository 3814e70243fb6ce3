/-! The calls rule and drop. -/
theorem LYC.sk {es : Nat → Option Nat} {rt : Nat → Nat} {ps : Nat → List Nat} {tt : Nat → Ex} {nd nd' : Nat → Option ND} (h : LYC es rt ps tt nd) (hs : skE nd nd') : LYC es rt ps tt nd' := fun r hr he => by
  obtain ⟨a, b, c, d⟩ := h r hr he
  exact ⟨(lay_sk hs _ b).1 _ _ a, b, c, d⟩
theorem JR.mk9 {sE c' : CSt} {m' : MSt} {nd' : Nat → Option ND} {rl : Nat → Option Ex} {rt : Nat → Nat} {ps : Nat → List Nat} {tt : Nat → Ex} {zs : Nat → Nat} (h6 : ∀ r, 6 ≤ r → rl r = none) (hG : GP sE rt ps) (hL : LYC sE.2.2.2.1 rt ps tt sE.2.2.2.2.1) (hd : ∀ r q, r < 6 → q < 6 → sE.2.2.2.1 r ≠ none → sE.2.2.2.1 q ≠ none → r ≠ q → ∀ x ∈ ps r, x ∉ ps q) (hrl : ∀ r, r < 6 → rl r = (sE.2.2.2.1 r).map (fun _ => tt r)) (hs : skE sE.2.2.2.2.1 nd') (hc : c'.2.2.2 = (ndP sE nd').2.2.2) (hR : RFL rl zs m'.2) (hb : ∀ r t, rl r = some t → ht t ≤ 24 ∧ cR t ≤ 2 ^ 28) : JR c' m' rl rt ps tt zs := by
  have hG' := hG.sk hs
  unfold JR GP at *
  rw [hc]
  exact ⟨h6, hG', hL.sk hs, hd, hrl, hR, hb⟩
theorem lnk_ext {nd nd' : Nat → Option ND} {f : ND → Option Nat} (h : ∀ a n, nd a = some n → nd' a = some n) : ∀ (ps : List Nat) (r : Option Nat), lnk nd f ps r → lnk nd' f ps r
  | [], _, g => g
  | _ :: t, _, ⟨g1, n, g2, g3⟩ => ⟨g1, n, h _ _ g2, lnk_ext h t _ g3⟩
theorem LYC.ext {es : Nat → Option Nat} {rt : Nat → Nat} {ps : Nat → List Nat} {tt : Nat → Ex} {nd nd' : Nat → Option ND} (h : LYC es rt ps tt nd) (he : ∀ a n, nd a = some n → nd' a = some n) : LYC es rt ps tt nd' := fun r hr hx => by
  obtain ⟨a, b, c, d⟩ := h r hr hx
  exact ⟨(lay_fr _ b).1 _ _ d a (fun q _ _ n hn => ⟨n, he q n hn, rfl⟩) (fun n hn => ⟨n, he _ n hn, rfl⟩), b, c, d⟩
section OPS4
variable {cy : Nat → ClassId} {ax ad : Nat → Nat} {l : Launch} {D : va_G} {base : Nat} {c : CSt} {m : MSt}
set_option maxHeartbeats 1000000 in
theorem O_drop (hl : l.stackTraces = false) (hJ : J c m) (r : Int32) : ∃ P Q, BC cy ax l D base mX8_drop [.ref (ax 0), .int r] c P ∧ BM cy ad l D base mX9_drop [.ref (ad 43), .int r] m Q ∧ (∀ o c', P o c' → SH [yCls] o) ∧ ∀ o c' o' m', P o c' → Q o' m' → THR [yCls] o o' m' ∧ J c' m' := by
  have hJ0 := hJ
  obtain ⟨N, tx, n, w, rl, rt, ps, tt, zs, h1, h2, h3, h4, h5, h6, h7, h8⟩ := hJ
  by_cases hr : 0 ≤ r ∧ r < 6
  · obtain ⟨k, hk, rfl⟩ := nI_rng.2 hr
    obtain ⟨g0, g1, g2, g3, g4, g5, g6⟩ := h4
    have hrk := g4 k hk
    cases hx : c.2.2.2.1 k with
    | none =>
      rw [hx] at hrk
      have hz : m.2 10 k = nI 0 := by rw [(g5 k hk).1, (g5.no hk).mpr hrk]
      refine ⟨_, _, BC.of0 (fun hp0 => C_drop2 hl 1791 c k hk hx), (fun hp0 => M_drop1 hl 1798 m k 0 hk hz (by decide) rfl), (by intro o c' h; first | exact Or.inl ⟨_, h.1⟩ | exact Or.inr ⟨0, _, rfl, h.1⟩ | exact Or.inr ⟨1, _, rfl, h.1⟩ | exact Or.inr ⟨2, _, rfl, h.1⟩ | exact ⟨_, h.1⟩ | (obtain ⟨f, h1, h2⟩ := h; exact Or.inl ⟨_, h1⟩) | (rcases h with ⟨-, -, h, -⟩ | ⟨-, h, -⟩ <;> exact Or.inl ⟨_, h⟩)), fun o c' o' m' ⟨a1, a2⟩ ⟨b1, b2⟩ => ?_⟩
      subst a2 b2
      exact ⟨⟨nI 0, 0, by decide, b1, by rw [fU_1, if_pos rfl], Or.inl ⟨rfl, a1⟩⟩, hJ0.fm0 (FM0.f m _)⟩
    | some x =>
      rw [hx] at hrk
      have ht : rl k = some (tt k) := hrk
      obtain ⟨w1, w2, w3, w4⟩ := g5.at hk ht
      have hs1 := sz_pos _ w1
      obtain ⟨sE, hsE⟩ : ∃ sE : CSt, sE = (c.1, c.2.1, c.2.2.1, va_up c.2.2.2.1 k none, c.2.2.2.2) := ⟨_, rfl⟩
      have eE : ∀ q, sE.2.2.2.1 q = if q = k then none else c.2.2.2.1 q := fun q => by
        rw [hsE]
        show va_up c.2.2.2.1 k none q = _
        by_cases e : q = k
        · subst e; rw [va_up_self, if_pos rfl]
        · rw [va_up_ne _ _ e, if_neg e]
      have eN : ∀ q, sE.2.2.2.1 q ≠ none → q ≠ k ∧ sE.2.2.2.1 q = c.2.2.2.1 q := fun q hq => by
        rw [eE] at hq ⊢
        by_cases e : q = k
        · rw [if_pos e] at hq; exact absurd rfl hq
        · rw [if_neg e]; exact ⟨e, rfl⟩
      have eD : sE.2.2.2.2.1 = c.2.2.2.2.1 ∧ sE.2.2.2.2.2 = c.2.2.2.2.2 := by rw [hsE]; exact ⟨rfl, rfl⟩
      have G1 : GP sE rt ps := fun q hq y hy => by
        obtain ⟨e1, e2⟩ := eN q (by rw [hy]; exact fun c => by cases c)
        rw [eD.1, eD.2]
        exact g1 q hq y (e2.symm.trans hy)
      have G2 : LYC sE.2.2.2.1 rt ps tt sE.2.2.2.2.1 := fun q hq hy => by
        obtain ⟨e1, e2⟩ := eN q hy
        rw [eD.1]
        exact g2 q hq (by rw [← e2]; exact hy)
      have G3 : ∀ r q, r < 6 → q < 6 → sE.2.2.2.1 r ≠ none → sE.2.2.2.1 q ≠ none → r ≠ q → ∀ x ∈ ps r, x ∉ ps q := fun r q hr hq h1 h2 => g3 r q hr hq (by rw [← (eN r h1).2]; exact h1) (by rw [← (eN q h2).2]; exact h2)
      obtain ⟨rl', hrl'⟩ : ∃ rl' : Nat → Option Ex, ∀ q, rl' q = if q = k then none else rl q := ⟨_, fun _ => rfl⟩
      have G4 : ∀ r, r < 6 → rl' r = (sE.2.2.2.1 r).map (fun _ => tt r) := fun q hq => by
        rw [hrl', eE]
        by_cases e : q = k
        · rw [if_pos e, if_pos e]; rfl
        · rw [if_neg e, if_neg e]; exact g4 q hq
      obtain ⟨v, nd', hE, hsk, hV, hO⟩ := C_exam (cy := cy) (ax := ax) (D := D) (base := base) hl sE G1 G2 G3 G4
      refine ⟨_, _, BC.of0 (fun hp0 => C_drop3 hl 1791 c k x hk hx v (ndP sE nd') (by rw [← hsE]; exact hE hp0)), (fun hp0 => M_drop2 hl 1798 m k (zs k) hk (g5 k hk).1 (g5.GM k hk).2.1 (by omega)), (by intro o c' h; first | exact Or.inl ⟨_, h.1⟩ | exact Or.inr ⟨0, _, rfl, h.1⟩ | exact Or.inr ⟨1, _, rfl, h.1⟩ | exact Or.inr ⟨2, _, rfl, h.1⟩ | exact ⟨_, h.1⟩ | (obtain ⟨f, h1, h2⟩ := h; exact Or.inl ⟨_, h1⟩) | (rcases h with ⟨-, -, h, -⟩ | ⟨-, h, -⟩ <;> exact Or.inl ⟨_, h⟩)), fun o c' o' m' ⟨f, a1, a2, a3⟩ ⟨g, b1, b2, b3⟩ => ?_⟩
      have c1 : ∀ k, k ≠ 4 → c'.1 k = c.1 k := fun k hk => by rw [a2]; show va_up sE.1 4 v k = _; rw [va_up_ne _ _ hk, hsE]
      have c4 : c'.1 4 = v := by rw [a2]; dsimp only; exact va_up_self _ _ _
      have c2 : ∀ k, k ≠ 9 → c'.2.1 k = c.2.1 k := fun k hk => by rw [a2]; show va_up sE.2.1 9 f k = _; rw [va_up_ne _ _ hk, hsE]
      have c9 : c'.2.1 9 = f := by rw [a2]; dsimp only; exact va_up_self _ _ _
      have c3 : c'.2.2.2 = (ndP sE nd').2.2.2 := by rw [a2]
      have m1 : ∀ k, k ≠ 0 → m'.1 k = m.1 k := fun k hk => by rw [b2]; exact va_up_ne _ _ hk
      have m0 : m'.1 0 = nI 0 := by rw [b2]; dsimp only; exact va_up_self _ _ _
      have m2 : ∀ j x, j ≠ 10 → j ≠ 13 → m'.2 j x = m.2 j x := fun j x h1 h2 => by
        rw [b2]
        show va_up (va_up m.2 10 (upd (m.2 10) k (nI 0))) 13 g j x = _
        rw [va_up_ne _ _ h2, va_up_ne _ _ h1]
      have m13 : ∀ j, j < 126 → m'.2 13 j = -2 := fun j hj => by
        rw [b2]
        show va_up (va_up m.2 10 (upd (m.2 10) k (nI 0))) 13 g 13 j = _
        rw [va_up_self]
        exact b3 j hj
      have m10 : ∀ x, m'.2 10 x = if x = k then nI 0 else m.2 10 x := fun x => by
        rw [b2]
        show va_up (va_up m.2 10 (upd (m.2 10) k (nI 0))) 13 g 10 x = _
        rw [va_up_ne _ _ (by decide), va_up_self, upd_fun]
      clear a2 b2
      refine ⟨⟨nI 1, 0, by decide, b1, m0, Or.inl ⟨rfl, a1⟩⟩, N, tx, n, w, rl', rt, ps, tt, (fun q => if q = k then 0 else zs q), h1.cg (c1 0 (by decide)) (c2 2 (by decide)), h2.cg (m1 1 (by decide)) (fun x => m2 2 x (by decide) (by decide)), h3.cg (c1 1 (by decide)) (c2 4 (by decide)) (m1 3 (by decide)) (fun x => m2 4 x (by decide) (by decide)), JR.mk9 (fun r h => by rw [hrl', if_neg (by omega)]; exact g0 r h) G1 G2 G3 G4 hsk c3 (fun q hq => ?_) (fun q t h => ?_), ⟨by rw [c4]; exact hV, fun h1 h2 => ?_⟩, JM.emp n w rl' (fun j hj => by rw [c9]; exact a3 j hj) m13 (by rw [c1 5 (by decide), m1 14 (by decide)]; exact h6.2.1) (by rw [c1 6 (by decide), m1 15 (by decide)]; exact h6.2.2.1) h3.2.1, h7.cg (c1 7 (by decide)) (fun k a b => c2 k (by omega)) (m1 28 (by decide)) (fun k x a b => m2 k x (by omega) (by omega)), by rw [m1 23 (by decide)]; exact h8.1, by rw [m2 8 447 (by decide) (by decide)]; exact h8.2⟩
      · rw [m10, hrl']
        by_cases e : q = k
        · rw [if_pos e, if_pos e, if_pos e]; exact ⟨rfl, rfl⟩
        · rw [if_neg e, if_neg e, if_neg e]
          have := (g5.cg (H' := fun j x => if j = 10 then m.2 10 x else m'.2 j x) (fun j x a b _ => by rw [if_neg (by omega)]; exact m2 j x (by omega) (by omega)) (fun x _ => by rw [if_pos rfl])) q hq
          refine ⟨(g5 q hq).1, ?_⟩
          have h2 := this.2
          cases hy : rl q with
          | none => rw [hy] at h2; exact h2
          | some u =>
            rw [hy] at h2
            obtain ⟨a, b, c, d⟩ := h2
            exact ⟨a, b, c, enc_fr2 u a 0 0 (fun j x h5 h8 _ _ => by rw [if_neg (by omega)]) d⟩
      · rw [hrl'] at h
        split at h
        · cases h
        · exact g6 q t h
      · rw [c3]
        exact hO h1 h2
  · refine ⟨_, _, BC.of1 (fun hp0 => C_drop1 hl 1791 c r hr), (fun hp0 => M_drop0 hl 1798 m r (nI_rng.1 hr)), (by intro o c' h; first | exact Or.inl ⟨_, h.1⟩ | exact Or.inr ⟨0, _, rfl, h.1⟩ | exact Or.inr ⟨1, _, rfl, h.1⟩ | exact Or.inr ⟨2, _, rfl, h.1⟩ | exact ⟨_, h.1⟩ | (obtain ⟨f, h1, h2⟩ := h; exact Or.inl ⟨_, h1⟩) | (rcases h with ⟨-, -, h, -⟩ | ⟨-, h, -⟩ <;> exact Or.inl ⟨_, h⟩)), fun o c' o' m' ⟨a1, a2⟩ ⟨b1, b2⟩ => ?_⟩
    subst a2 b2
    exact ⟨⟨nI 0, 1, by decide, b1, by rw [fU_1, if_pos rfl], Or.inr ⟨_, rfl, by decide, a1⟩⟩, hJ0.fm0 (FM0.f m _)⟩
end OPS4
