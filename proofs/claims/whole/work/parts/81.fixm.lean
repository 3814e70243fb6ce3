/-! The reference's study finds the least solutions over its blocks. -/
theorem stO_fr {H H' : Nat → Nat → Int32} (e : ∀ k x, k ≤ 10 → H' k x = H k x) (B k : Nat) (O : Nat → Int32) : stO H' B k O = stO H B k O := by
  unfold stO
  rw [e 5 _ (by decide), e 6 _ (by decide), e 7 _ (by decide), e 10 _ (by decide)]
theorem stG_fr {H H' : Nat → Nat → Int32} (e : ∀ k x, k ≤ 10 → H' k x = H k x) (B k : Nat) (O G : Nat → Int32) : stG H' B k O G = stG H B k O G := by
  unfold stG
  rw [e 5 _ (by decide), e 6 _ (by decide), e 7 _ (by decide), e 10 _ (by decide)]
abbrev FO (H : Nat → Nat → Int32) (r : Nat) (f : Nat → Int32) (k : Nat) : Int32 := stO H (64 * r) k f
abbrev FG (H : Nat → Nat → Int32) (O : Nat → Int32) (r : Nat) (f : Nat → Int32) (k : Nat) : Int32 := stG H (64 * r) k O f
theorem paX_ext {F F' : (Nat → Int32) → Nat → Int32} (h : ∀ f k, F f k = F' f k) {b : Nat} : ∀ (n i : Nat) (f : Nat → Int32) (c : Int32), paX F b n i f c = paX F' b n i f c
  | 0, i, f, c => rfl
  | n + 1, i, f, c => by
    unfold paX
    rw [h, paX_ext h n]
theorem raX_ext {F F' : Nat → (Nat → Int32) → Nat → Int32} (h : ∀ r f k, F r f k = F' r f k) {zs : Nat → Nat} : ∀ (n r : Nat) (f : Nat → Int32) (c : Int32), raX F zs n r f c = raX F' zs n r f c
  | 0, r, f, c => rfl
  | n + 1, r, f, c => by
    unfold raX
    rw [paX_ext (h r), raX_ext h n]
theorem spX_ext {F F' : Nat → (Nat → Int32) → Nat → Int32} (h : ∀ r f k, F r f k = F' r f k) {zs : Nat → Nat} : ∀ (n : Nat) (f g : Nat → Int32), spX F zs n f g → spX F' zs n f g
  | 0, f, g, q => by
    unfold spX at q ⊢
    rw [raX_ext h] at q
    exact q
  | n + 1, f, g, q => by
    unfold spX at q ⊢
    rw [raX_ext h] at q
    exact ⟨q.1, spX_ext h n _ _ q.2⟩
theorem psO_pa {r : Nat} : ∀ (n i : Nat) (s : MSt) (c : Int32), psO r n i s c = ((s.1, va_up s.2 11 (paX (FO s.2 r) (64 * r) n i (s.2 11) c).1), (paX (FO s.2 r) (64 * r) n i (s.2 11) c).2)
  | 0, i, s, c => by
    show (s, c) = ((s.1, va_up s.2 11 (s.2 11)), c)
    rw [va_same]
  | n + 1, i, s, c => by
    rw [psO, psO_pa n]
    have e1 : (aU 11 (64 * r + i) (stO s.2 (64 * r) (64 * r + i) (s.2 11)) s).2 11 = upd (s.2 11) (64 * r + i) (stO s.2 (64 * r) (64 * r + i) (s.2 11)) := (show va_up s.2 11 (upd (s.2 11) (64 * r + i) (stO s.2 (64 * r) (64 * r + i) (s.2 11))) 11 = _ from va_up_self _ _ _)
    have e2 : ∀ f k, FO (aU 11 (64 * r + i) (stO s.2 (64 * r) (64 * r + i) (s.2 11)) s).2 r f k = FO s.2 r f k := fun f k => stO_fr (fun k x hk => by rw [aU_2, if_neg (by omega)]) _ _ _
    rw [e1, paX_ext e2]
    show ((s.1, va_up (va_up s.2 11 _) 11 _), _) = _
    rw [va_uu]
    rfl
theorem psG_pa {r : Nat} : ∀ (n i : Nat) (s : MSt) (c : Int32), psG r n i s c = ((s.1, va_up s.2 12 (paX (FG s.2 (s.2 11) r) (64 * r) n i (s.2 12) c).1), (paX (FG s.2 (s.2 11) r) (64 * r) n i (s.2 12) c).2)
  | 0, i, s, c => by
    show (s, c) = ((s.1, va_up s.2 12 (s.2 12)), c)
    rw [va_same]
  | n + 1, i, s, c => by
    rw [psG, psG_pa n]
    have e1 : (aU 12 (64 * r + i) (stG s.2 (64 * r) (64 * r + i) (s.2 11) (s.2 12)) s).2 12 = upd (s.2 12) (64 * r + i) (stG s.2 (64 * r) (64 * r + i) (s.2 11) (s.2 12)) := (show va_up s.2 12 (upd (s.2 12) (64 * r + i) (stG s.2 (64 * r) (64 * r + i) (s.2 11) (s.2 12))) 12 = _ from va_up_self _ _ _)
    have e0 : (aU 12 (64 * r + i) (stG s.2 (64 * r) (64 * r + i) (s.2 11) (s.2 12)) s).2 11 = s.2 11 := (show va_up s.2 12 (upd (s.2 12) (64 * r + i) (stG s.2 (64 * r) (64 * r + i) (s.2 11) (s.2 12))) 11 = _ from va_up_ne _ _ (by decide))
    have e2 : ∀ f k, FG (aU 12 (64 * r + i) (stG s.2 (64 * r) (64 * r + i) (s.2 11) (s.2 12)) s).2 (s.2 11) r f k = FG s.2 (s.2 11) r f k := fun f k => stG_fr (fun k x hk => by rw [aU_2, if_neg (by omega)]) _ _ _ _
    rw [e1, e0, paX_ext e2]
    show ((s.1, va_up (va_up s.2 12 _) 12 _), _) = _
    rw [va_uu]
    rfl
theorem rdO_ra {zs : Nat → Nat} : ∀ (n r : Nat) (s : MSt) (c : Int32), rdO zs n r s c = ((s.1, va_up s.2 11 (raX (FO s.2) zs n r (s.2 11) c).1), (raX (FO s.2) zs n r (s.2 11) c).2)
  | 0, r, s, c => by
    show (s, c) = ((s.1, va_up s.2 11 (s.2 11)), c)
    rw [va_same]
  | n + 1, r, s, c => by
    rw [rdO, rdO_ra n, psO_pa]
    have e1 : va_up s.2 11 (paX (FO s.2 r) (64 * r) (zs r) 0 (s.2 11) c).1 11 = (paX (FO s.2 r) (64 * r) (zs r) 0 (s.2 11) c).1 := va_up_self _ _ _
    have e2 : ∀ r2 f k, FO (va_up s.2 11 (paX (FO s.2 r) (64 * r) (zs r) 0 (s.2 11) c).1) r2 f k = FO s.2 r2 f k := fun r2 f k => stO_fr (fun k x hk => by rw [va_up_ne _ _ (by omega)]) _ _ _
    dsimp only
    rw [va_uu, e1, raX_ext e2]
    rfl
theorem rdG_ra {zs : Nat → Nat} : ∀ (n r : Nat) (s : MSt) (c : Int32), rdG zs n r s c = ((s.1, va_up s.2 12 (raX (FG s.2 (s.2 11)) zs n r (s.2 12) c).1), (raX (FG s.2 (s.2 11)) zs n r (s.2 12) c).2)
  | 0, r, s, c => by
    show (s, c) = ((s.1, va_up s.2 12 (s.2 12)), c)
    rw [va_same]
  | n + 1, r, s, c => by
    rw [rdG, rdG_ra n, psG_pa]
    have e1 : va_up s.2 12 (paX (FG s.2 (s.2 11) r) (64 * r) (zs r) 0 (s.2 12) c).1 12 = (paX (FG s.2 (s.2 11) r) (64 * r) (zs r) 0 (s.2 12) c).1 := va_up_self _ _ _
    have e0 : va_up s.2 12 (paX (FG s.2 (s.2 11) r) (64 * r) (zs r) 0 (s.2 12) c).1 11 = s.2 11 := va_up_ne _ _ (by decide)
    have e2 : ∀ r2 f k, FG (va_up s.2 12 (paX (FG s.2 (s.2 11) r) (64 * r) (zs r) 0 (s.2 12) c).1) (s.2 11) r2 f k = FG s.2 (s.2 11) r2 f k := fun r2 f k => stG_fr (fun k x hk => by rw [va_up_ne _ _ (by omega)]) _ _ _ _
    dsimp only
    rw [va_uu, e0, e1, raX_ext e2]
    rfl
theorem stpO_sp {zs : Nat → Nat} : ∀ (n : Nat) (s : MSt) (g : Nat → Int32), spX (FO s.2) zs n (s.2 11) g → stpO zs n s (s.1, va_up s.2 11 g)
  | 0, s, g, h => by
    unfold spX at h
    unfold stpO
    rw [rdO_ra]
    exact ⟨h.1, by rw [h.2]⟩
  | n + 1, s, g, h => by
    unfold spX at h
    unfold stpO
    rw [rdO_ra]
    refine ⟨h.1, ?_⟩
    have e1 : va_up s.2 11 (raX (FO s.2) zs 6 0 (s.2 11) (nI 0)).1 11 = (raX (FO s.2) zs 6 0 (s.2 11) (nI 0)).1 := va_up_self _ _ _
    have := stpO_sp n (s.1, va_up s.2 11 (raX (FO s.2) zs 6 0 (s.2 11) (nI 0)).1) g (by
      dsimp only
      rw [e1]
      exact spX_ext (fun r f k => (stO_fr (fun k x hk => by rw [va_up_ne _ _ (by omega)]) _ _ _).symm) n _ _ h.2)
    have e2 : va_up (va_up s.2 11 (raX (FO s.2) zs 6 0 (s.2 11) (nI 0)).1) 11 g = va_up s.2 11 g := va_uu ..
    simp only [e2] at this
    exact this
theorem stpG_sp {zs : Nat → Nat} : ∀ (n : Nat) (s : MSt) (g : Nat → Int32), spX (FG s.2 (s.2 11)) zs n (s.2 12) g → stpG zs n s (s.1, va_up s.2 12 g)
  | 0, s, g, h => by
    unfold spX at h
    unfold stpG
    rw [rdG_ra]
    exact ⟨h.1, by rw [h.2]⟩
  | n + 1, s, g, h => by
    unfold spX at h
    unfold stpG
    rw [rdG_ra]
    refine ⟨h.1, ?_⟩
    have e1 : va_up s.2 12 (raX (FG s.2 (s.2 11)) zs 6 0 (s.2 12) (nI 0)).1 12 = (raX (FG s.2 (s.2 11)) zs 6 0 (s.2 12) (nI 0)).1 := va_up_self _ _ _
    have e0 : va_up s.2 12 (raX (FG s.2 (s.2 11)) zs 6 0 (s.2 12) (nI 0)).1 11 = s.2 11 := va_up_ne _ _ (by decide)
    have := stpG_sp n (s.1, va_up s.2 12 (raX (FG s.2 (s.2 11)) zs 6 0 (s.2 12) (nI 0)).1) g (by
      dsimp only
      rw [e1, e0]
      exact spX_ext (fun r f k => (stG_fr (fun k x hk => by rw [va_up_ne _ _ (by omega)]) _ _ _ _).symm) n _ _ h.2)
    have e2 : va_up (va_up s.2 12 (raX (FG s.2 (s.2 11)) zs 6 0 (s.2 12) (nI 0)).1) 12 g = va_up s.2 12 g := va_uu ..
    simp only [e2] at this
    exact this
/-- the steps of the reference, a node at a time -/
theorem nodM_cases {zs : Nat → Nat} {H : Nat → Nat → Int32} (hG : GM zs H) {r k : Nat} (hr : r < 6) (h1 : 64 * r ≤ k) (h2 : k < 64 * r + zs r) : (H 5 k = nI 0 ∧ ∀ O, stO H (64 * r) k O = nI 6) ∨ (∃ q, q < 6 ∧ zs q < 64 ∧ zN (H 6 k) = q ∧ H 5 k = nI 1 ∧ ∀ O, stO H (64 * r) k O = if zs q = 0 then nI 0 else O (64 * q + zs q - 1)) ∨ (∃ f g, f < 64 ∧ g < 64 ∧ zN (H 6 k) = f ∧ zN (H 7 k) = g ∧ ((H 5 k = nI 2 ∧ ∀ O, stO H (64 * r) k O = mrI (O (64 * r + f)) (O (64 * r + g))) ∨ (H 5 k = nI 3 ∧ ∀ O, stO H (64 * r) k O = mcI (O (64 * r + f)) (O (64 * r + g))) ∨ ∃ kd, 4 ≤ kd ∧ kd ≤ 8 ∧ H 5 k = nI kd ∧ ∀ O, stO H (64 * r) k O = msI kd (O (64 * r + f)))) := by
  obtain ⟨i, rfl⟩ : ∃ i, k = 64 * r + i := ⟨k - 64 * r, by omega⟩
  have hz := (hG r hr).2.1
  rcases (hG r hr).2.2 i (by omega) with h | ⟨q, hq, h1, h2⟩ | ⟨kd, f, g, k2, k8, hf, hg, h5, h6, h7⟩
  · exact Or.inl ⟨h, fun O => by unfold stO; rw [if_pos h]⟩
  · obtain ⟨a1, a2, -⟩ := hG q hq
    have ez : zN (H 6 (64 * r + i)) = q := by rw [h2]; exact zN_nI (by omega)
    refine Or.inr (Or.inl ⟨q, hq, a2, ez, h1, fun O => ?_⟩)
    unfold stO
    rw [h1, if_neg (nIn (by decide) (by decide) (by decide)), if_pos rfl, ez, a1]
    by_cases hz0 : zs q = 0
    · rw [hz0, if_pos rfl, if_pos rfl]
    · rw [if_neg (nIn (by omega) (by decide) hz0), if_neg hz0, zN_nI (by omega)]
  · have e6 : zN (H 6 (64 * r + i)) = f := by rw [h6]; exact zN_nI (by omega)
    have e7 : zN (H 7 (64 * r + i)) = g := by rw [h7]; exact zN_nI (by omega)
    refine Or.inr (Or.inr ⟨f, g, hf, hg, e6, e7, ?_⟩)
    by_cases c2 : kd = 2
    · subst c2
      refine Or.inl ⟨h5, fun O => ?_⟩
      unfold stO
      rw [h5, if_neg (nIn (by decide) (by decide) (by decide)), if_neg (nIn (by decide) (by decide) (by decide)), if_pos rfl, e6, e7]
    · by_cases c3 : kd = 3
      · subst c3
        refine Or.inr (Or.inl ⟨h5, fun O => ?_⟩)
        unfold stO
        rw [h5, if_neg (nIn (by decide) (by decide) (by decide)), if_neg (nIn (by decide) (by decide) (by decide)), if_neg (nIn (by decide) (by decide) (by decide)), if_pos rfl, e6, e7]
      · refine Or.inr (Or.inr ⟨kd, by omega, k8, h5, fun O => ?_⟩)
        unfold stO
        rw [h5, if_neg (nIn (by omega) (by decide) (by omega)), if_neg (nIn (by omega) (by decide) (by omega)), if_neg (nIn (by omega) (by decide) (by omega)), if_neg (nIn (by omega) (by decide) (by omega)), e6, zN_nI (by omega)]
theorem msI_sm {k : Nat} (h4 : 4 ≤ k) (h8 : k ≤ 8) (i : Fin 8) : sm8 (msI k (nI i.val)) := by
  have hk : k = 4 ∨ k = 5 ∨ k = 6 ∨ k = 7 ∨ k = 8 := by omega
  rcases hk with rfl | rfl | rfl | rfl | rfl
  · exact (ms4_bits i).2.2.2
  · exact (ms5_bits i).2.2.2
  · exact (ms6_bits i).2.2.2
  · exact (ms7_bits i).2.2.2
  · exact (ms8_bits i).2.2.2
theorem msI_mono {k : Nat} (h4 : 4 ≤ k) (h8 : k ≤ 8) {i j : Fin 8} (h : le8 (nI i.val) (nI j.val)) : le8 (msI k (nI i.val)) (msI k (nI j.val)) := by
  have hk : k = 4 ∨ k = 5 ∨ k = 6 ∨ k = 7 ∨ k = 8 := by omega
  obtain ⟨a, b, c, d, e⟩ := ms_mono i j h
  rcases hk with rfl | rfl | rfl | rfl | rfl <;> assumption
theorem STE_O {zs : Nat → Nat} {H : Nat → Nat → Int32} (hG : GM zs H) : STE (FO H) zs := by
  refine ⟨fun r hr => by have := (hG r hr).2.1; omega, fun r f k hr h1 h2 hf => ?_, fun r f g k hr h1 h2 hf hg hfg => ?_⟩
  · show sm8 (stO H (64 * r) k f)
    rcases nodM_cases hG hr h1 h2 with ⟨-, h⟩ | ⟨q, hq, hz, -, -, h⟩ | ⟨a, b, ha, hb, -, -, ⟨-, h⟩ | ⟨-, h⟩ | ⟨kd, k4, k8, -, h⟩⟩
    · rw [h]; exact ⟨6, rfl⟩
    · rw [h]
      split
      · exact ⟨0, rfl⟩
      · exact hf _ (by omega)
    · rw [h]
      obtain ⟨i, hi⟩ := hf (64 * r + a) (by omega)
      obtain ⟨j, hj⟩ := hf (64 * r + b) (by omega)
      rw [hi, hj]
      exact (mr_bits i j).2.2.2
    · rw [h]
      obtain ⟨i, hi⟩ := hf (64 * r + a) (by omega)
      obtain ⟨j, hj⟩ := hf (64 * r + b) (by omega)
      rw [hi, hj]
      exact (mc_bits i j).2.2.2
    · rw [h]
      obtain ⟨i, hi⟩ := hf (64 * r + a) (by omega)
      rw [hi]
      exact msI_sm k4 k8 i
  · show le8 (stO H (64 * r) k f) (stO H (64 * r) k g)
    rcases nodM_cases hG hr h1 h2 with ⟨-, h⟩ | ⟨q, hq, hz, -, -, h⟩ | ⟨a, b, ha, hb, -, -, ⟨-, h⟩ | ⟨-, h⟩ | ⟨kd, k4, k8, -, h⟩⟩
    · rw [h, h]; exact le8.rf ⟨6, rfl⟩
    · rw [h, h]
      split
      · exact le8.rf ⟨0, rfl⟩
      · exact hfg _ (by omega)
    · rw [h, h]
      have m1 := hfg (64 * r + a) (by omega)
      have m2 := hfg (64 * r + b) (by omega)
      obtain ⟨i, hi⟩ := hf (64 * r + a) (by omega)
      obtain ⟨j, hj⟩ := hf (64 * r + b) (by omega)
      obtain ⟨i2, hi2⟩ := hg (64 * r + a) (by omega)
      obtain ⟨j2, hj2⟩ := hg (64 * r + b) (by omega)
      rw [hi, hi2] at m1
      rw [hj, hj2] at m2
      rw [hi, hj, hi2, hj2]
      exact mr_mono i j i2 j2 m1 m2
    · rw [h, h]
      have m1 := hfg (64 * r + a) (by omega)
      have m2 := hfg (64 * r + b) (by omega)
      obtain ⟨i, hi⟩ := hf (64 * r + a) (by omega)
      obtain ⟨j, hj⟩ := hf (64 * r + b) (by omega)
      obtain ⟨i2, hi2⟩ := hg (64 * r + a) (by omega)
      obtain ⟨j2, hj2⟩ := hg (64 * r + b) (by omega)
      rw [hi, hi2] at m1
      rw [hj, hj2] at m2
      rw [hi, hj, hi2, hj2]
      exact mc_mono i j i2 j2 m1 m2
    · rw [h, h]
      have m1 := hfg (64 * r + a) (by omega)
      obtain ⟨i, hi⟩ := hf (64 * r + a) (by omega)
      obtain ⟨i2, hi2⟩ := hg (64 * r + a) (by omega)
      rw [hi, hi2] at m1
      rw [hi, hi2]
      exact msI_mono k4 k8 m1
theorem le8_nz {a b : Int32} (ha : sm8 a) (hb : sm8 b) (h : le8 a b) (hn : ¬ a = 0) : ¬ b = 0 := by
  intro e
  obtain ⟨i, rfl⟩ := ha
  obtain ⟨j, rfl⟩ := hb
  have : ∀ i j : Fin 8, le8 (nI i.val) (nI j.val) → nI j.val = 0 → nI i.val = 0 := by unfold le8; decide +kernel
  exact hn (this i j h e)
theorem if01_mono {p q : Prop} [Decidable p] [Decidable q] (h : p → q) : le8 (if p then nI 1 else nI 0) (if q then nI 1 else nI 0) := by
  by_cases hp : p
  · rw [if_pos hp, if_pos (h hp)]; exact le8.rf ⟨1, rfl⟩
  · rw [if_neg hp]
    split
    · exact le8.z ⟨1, rfl⟩
    · exact le8.z ⟨0, rfl⟩
theorem if10_mono {a b : Int32} (h : ¬ a = 0 → ¬ b = 0) : le8 (if a = 0 then nI 0 else nI 1) (if b = 0 then nI 0 else nI 1) := by
  by_cases ha : a = 0
  · rw [if_pos ha]
    split
    · exact le8.z ⟨0, rfl⟩
    · exact le8.z ⟨1, rfl⟩
  · rw [if_neg ha, if_neg (h ha)]; exact le8.rf ⟨1, rfl⟩
theorem STE_G {zs : Nat → Nat} {H : Nat → Nat → Int32} (hG : GM zs H) (O : Nat → Int32) : STE (FG H O) zs := by
  refine ⟨fun r hr => by have := (hG r hr).2.1; omega, fun r f k hr h1 h2 hf => ?_, fun r f g k hr h1 h2 hf hg hfg => ?_⟩
  · show sm8 (stG H (64 * r) k O f)
    rcases stG_01 H (64 * r) k O f with h | h
    · rw [h]; exact ⟨0, rfl⟩
    · rw [h]; exact ⟨1, rfl⟩
  · have nz : ∀ j, j < 384 → ¬ f j = 0 → ¬ g j = 0 := fun j hj => le8_nz (hf j hj) (hg j hj) (hfg j hj)
    show le8 (stG H (64 * r) k O f) (stG H (64 * r) k O g)
    unfold stG
    have q6 : zN (H 6 k) < 64 ∨ H 5 k = nI 0 := by
      rcases nodM_cases hG hr h1 h2 with ⟨h, -⟩ | ⟨q, hq, hz, e, -⟩ | ⟨a, b, ha, hb, e, -⟩
      · exact Or.inr h
      · exact Or.inl (by omega)
      · exact Or.inl (by omega)
    have q7 : zN (H 7 k) < 64 ∨ H 5 k = nI 0 ∨ H 5 k = nI 1 := by
      rcases nodM_cases hG hr h1 h2 with ⟨h, -⟩ | ⟨q, hq, hz, e, h, -⟩ | ⟨a, b, ha, hb, e, e2, -⟩
      · exact Or.inr (Or.inl h)
      · exact Or.inr (Or.inr h)
      · exact Or.inl (by omega)
    have qr : H 5 k = nI 1 → zN (H 6 k) < 6 ∧ zN (H 10 (zN (H 6 k))) < 64 := fun h1 => by
      rcases nodM_cases hG hr (by omega) h2 with ⟨h, -⟩ | ⟨q, hq, hz, e, h, -⟩ | ⟨a, b, ha, hb, e, e2, ⟨h, -⟩ | ⟨h, -⟩ | ⟨kd, k4, k8, h, -⟩⟩
      · exact absurd (h.symm.trans h1) (nIn (by decide) (by decide) (by decide))
      · rw [e]
        refine ⟨hq, ?_⟩
        rw [(hG q hq).1, zN_nI (by omega)]
        exact hz
      · exact absurd (h.symm.trans h1) (nIn (by decide) (by decide) (by decide))
      · exact absurd (h.symm.trans h1) (nIn (by decide) (by decide) (by decide))
      · exact absurd (h.symm.trans h1) (nIn (by omega) (by decide) (by omega))
    split
    · exact le8.rf ⟨1, rfl⟩
    · rename_i c0
      split
      · rename_i c1
        obtain ⟨g1, g2⟩ := qr c1
        split
        · exact le8.rf ⟨0, rfl⟩
        · exact if10_mono (nz _ (by omega))
      · rename_i c1
        have q6' := q6.resolve_right c0
        have q7' := (q7.resolve_right (fun c => c.elim c0 c1))
        have n6 := nz (64 * r + zN (H 6 k)) (by omega)
        have n7 := nz (64 * r + zN (H 7 k)) (by omega)
        split
        · exact if01_mono (fun ⟨x, y⟩ => ⟨n6 x, y.imp_right n7⟩)
        · split
          · exact if01_mono (fun ⟨x, y⟩ => ⟨n6 x, n7 y⟩)
          · split
            · exact if01_mono (fun ⟨x, y⟩ => ⟨n6 x, y⟩)
            · exact if10_mono n6
/-- after a study -/
def STU (zs : Nat → Nat) (s s3 : MSt) : Prop := s3.1 = s.1 ∧ (∀ k x, k ≠ 11 → k ≠ 12 → s3.2 k x = s.2 k x) ∧ FXP (FO s.2) zs (s3.2 11) ∧ FXP (FG s.2 (s3.2 11)) zs (s3.2 12)
theorem study_ex {zs : Nat → Nat} {s : MSt} (hG : GM zs s.2) : ∀ s1, ZR s s1 → ∃ n s2 n2 s3, stpO zs n s1 s2 ∧ stpG zs n2 s2 s3 ∧ STU zs s s3 := by
  intro s1 ⟨z1, z2, z3⟩
  have e10 : ∀ k x, k ≤ 10 → s1.2 k x = s.2 k x := fun k x hk => z2 k x (by omega) (by omega)
  have hG1 : GM zs s1.2 := hG.fr e10
  obtain ⟨n, f, h1, h2⟩ := spX_ex (STE_O hG1) 2689 0 (s1.2 11) (Nat.zero_le _) (by omega) (IVX.zero (STE_O hG1) (fun j hj => (z3 j hj).1))
  have eF : FO s1.2 = FO s.2 := by
    funext r f k
    exact stO_fr e10 _ _ _
  rw [eF] at h2
  have a12 : va_up s1.2 11 f 12 = s1.2 12 := va_up_ne _ _ (by decide)
  have a11 : va_up s1.2 11 f 11 = f := va_up_self _ _ _
  have hG2 : GM zs (va_up s1.2 11 f) := hG1.fr fun k x hk => by rw [va_up_ne _ _ (by omega)]
  obtain ⟨n2, g, h3, h4⟩ := spX_ex (STE_G hG2 f) 2689 0 (s1.2 12) (Nat.zero_le _) (by omega) (IVX.zero (STE_G hG2 f) (fun j hj => (z3 j hj).2))
  have eG : FG (va_up s1.2 11 f) f = FG s.2 f := by
    funext r f2 k
    exact stG_fr (fun k x hk => by rw [va_up_ne _ _ (by omega)]; exact e10 k x hk) _ _ _ _
  refine ⟨n, _, n2, _, stpO_sp n s1 f h1, stpG_sp n2 (s1.1, va_up s1.2 11 f) g (by
    show spX (FG (va_up s1.2 11 f) (va_up s1.2 11 f 11)) zs n2 (va_up s1.2 11 f 12) g
    rw [a11, a12]
    exact h3), z1, fun k x k1 k2 => ?_, ?_, ?_⟩
  · show va_up (va_up s1.2 11 f) 12 g k x = _
    rw [va_up_ne _ _ k2, va_up_ne _ _ k1]
    exact z2 k x k1 k2
  · have : va_up (va_up s1.2 11 f) 12 g 11 = f := by rw [va_up_ne _ _ (by decide), a11]
    show FXP (FO s.2) zs (va_up (va_up s1.2 11 f) 12 g 11)
    rw [this]
    exact h2
  · have e1 : va_up (va_up s1.2 11 f) 12 g 11 = f := by rw [va_up_ne _ _ (by decide), a11]
    have e2 : va_up (va_up s1.2 11 f) 12 g 12 = g := va_up_self _ _ _
    show FXP (FG s.2 (va_up (va_up s1.2 11 f) 12 g 11)) zs (va_up (va_up s1.2 11 f) 12 g 12)
    rw [e1, e2, ← eG]
    exact h4
