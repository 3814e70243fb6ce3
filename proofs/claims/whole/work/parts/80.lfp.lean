/-! Outcomes and goodness as least solutions. -/
def le8 (a b : Int32) : Prop := a &&& b = a
theorem le8_dec : ∀ a b : Fin 8, (le8 (nI a.val) (nI b.val) → zN (nI a.val) ≤ zN (nI b.val)) ∧ (le8 (nI a.val) (nI b.val) → zN (nI b.val) ≤ zN (nI a.val) → a = b) ∧ zN (nI a.val) ≤ 7 ∧ (le8 (nI a.val) (nI b.val) → le8 (nI b.val) (nI a.val) → a = b) := by
  unfold le8
  decide +kernel
theorem le8_tr3 : ∀ a b c : Fin 8, le8 (nI a.val) (nI b.val) → le8 (nI b.val) (nI c.val) → le8 (nI a.val) (nI c.val) := by
  unfold le8
  decide +kernel
theorem le8_rf : ∀ a : Fin 8, le8 (nI a.val) (nI a.val) ∧ le8 (nI 0) (nI a.val) := by
  unfold le8
  decide +kernel
theorem mr_mono : ∀ a b a2 b2 : Fin 8, le8 (nI a.val) (nI a2.val) → le8 (nI b.val) (nI b2.val) → le8 (mrI (nI a.val) (nI b.val)) (mrI (nI a2.val) (nI b2.val)) := by
  unfold le8
  decide +kernel
theorem mc_mono : ∀ a b a2 b2 : Fin 8, le8 (nI a.val) (nI a2.val) → le8 (nI b.val) (nI b2.val) → le8 (mcI (nI a.val) (nI b.val)) (mcI (nI a2.val) (nI b2.val)) := by
  unfold le8
  decide +kernel
theorem ms_mono : ∀ a a2 : Fin 8, le8 (nI a.val) (nI a2.val) → le8 (msI 4 (nI a.val)) (msI 4 (nI a2.val)) ∧ le8 (msI 5 (nI a.val)) (msI 5 (nI a2.val)) ∧ le8 (msI 6 (nI a.val)) (msI 6 (nI a2.val)) ∧ le8 (msI 7 (nI a.val)) (msI 7 (nI a2.val)) ∧ le8 (msI 8 (nI a.val)) (msI 8 (nI a2.val)) := by
  unfold le8
  decide +kernel
theorem le8.tr {a b c : Int32} (ha : sm8 a) (hb : sm8 b) (hc : sm8 c) (h1 : le8 a b) (h2 : le8 b c) : le8 a c := by
  obtain ⟨i, rfl⟩ := ha
  obtain ⟨j, rfl⟩ := hb
  obtain ⟨k, rfl⟩ := hc
  exact le8_tr3 i j k h1 h2
theorem le8.rf {a : Int32} (ha : sm8 a) : le8 a a := by
  obtain ⟨i, rfl⟩ := ha
  exact (le8_rf i).1
theorem le8.z {a : Int32} (ha : sm8 a) : le8 (nI 0) a := by
  obtain ⟨i, rfl⟩ := ha
  exact (le8_rf i).2
theorem le8.anti {a b : Int32} (ha : sm8 a) (hb : sm8 b) (h1 : le8 a b) (h2 : le8 b a) : a = b := by
  obtain ⟨i, rfl⟩ := ha
  obtain ⟨j, rfl⟩ := hb
  rw [(le8_dec i j).2.2.2 h1 h2]
theorem le8.le {a b : Int32} (ha : sm8 a) (hb : sm8 b) (h1 : le8 a b) : zN a ≤ zN b := by
  obtain ⟨i, rfl⟩ := ha
  obtain ⟨j, rfl⟩ := hb
  exact (le8_dec i j).1 h1
theorem le8.lt {a b : Int32} (ha : sm8 a) (hb : sm8 b) (h1 : le8 a b) (h2 : ¬ a = b) : zN a < zN b := by
  obtain ⟨i, rfl⟩ := ha
  obtain ⟨j, rfl⟩ := hb
  rcases Nat.lt_or_ge (zN (nI i.val)) (zN (nI j.val)) with h | h
  · exact h
  · exact absurd (by rw [(le8_dec i j).2.1 h1 h]) h2
theorem sm8.le7 {a : Int32} (ha : sm8 a) : zN a ≤ 7 := by
  obtain ⟨i, rfl⟩ := ha
  exact (le8_dec i i).2.2.1
/-- how much stands in the first n of an array -/
def mu : Nat → (Nat → Int32) → Nat
  | 0, _ => 0
  | n + 1, f => mu n f + zN (f n)
theorem mu_le7 : ∀ (n : Nat) (f : Nat → Int32), (∀ k, k < n → sm8 (f k)) → mu n f ≤ 7 * n
  | 0, _, _ => Nat.le_refl _
  | n + 1, f, h => by
    have h1 := mu_le7 n f (fun k hk => h k (by omega))
    have h2 := (h n (Nat.lt_succ_self n)).le7
    show mu n f + zN (f n) ≤ _
    omega
theorem mu_mono : ∀ (n : Nat) (f g : Nat → Int32), (∀ k, k < n → zN (f k) ≤ zN (g k)) → mu n f ≤ mu n g ∧ ∀ k, k < n → zN (f k) < zN (g k) → mu n f < mu n g
  | 0, _, _, _ => ⟨Nat.le_refl _, fun k hk => by omega⟩
  | n + 1, f, g, h => by
    obtain ⟨h1, h2⟩ := mu_mono n f g (fun k hk => h k (by omega))
    have h3 := h n (Nat.lt_succ_self n)
    refine ⟨by show mu n f + zN (f n) ≤ mu n g + zN (g n); omega, fun k hk hlt => ?_⟩
    show mu n f + zN (f n) < mu n g + zN (g n)
    by_cases e : k = n
    · subst e; omega
    · have := h2 k (by omega) hlt
      omega
/-! a pass over an array: each of its places gets what the step gives -/
def paX (F : (Nat → Int32) → Nat → Int32) (b : Nat) : Nat → Nat → (Nat → Int32) → Int32 → (Nat → Int32) × Int32
  | 0, _, f, c => (f, c)
  | n + 1, i, f, c => paX F b n (i + 1) (upd f (b + i) (F f (b + i))) (cm c (F f (b + i)) (f (b + i)))
def raX (F : Nat → (Nat → Int32) → Nat → Int32) (zs : Nat → Nat) : Nat → Nat → (Nat → Int32) → Int32 → (Nat → Int32) × Int32
  | 0, _, f, c => (f, c)
  | n + 1, r, f, c => raX F zs n (r + 1) (paX (F r) (64 * r) (zs r) 0 f c).1 (paX (F r) (64 * r) (zs r) 0 f c).2
def spX (F : Nat → (Nat → Int32) → Nat → Int32) (zs : Nat → Nat) : Nat → (Nat → Int32) → (Nat → Int32) → Prop
  | 0, f, g => (raX F zs 6 0 f (nI 0)).2 = 0 ∧ g = (raX F zs 6 0 f (nI 0)).1
  | n + 1, f, g => ¬ (raX F zs 6 0 f (nI 0)).2 = 0 ∧ spX F zs n (raX F zs 6 0 f (nI 0)).1 g
/-- what a step must be: small, and monotone -/
def STE (F : Nat → (Nat → Int32) → Nat → Int32) (zs : Nat → Nat) : Prop := (∀ r, r < 6 → zs r ≤ 64) ∧ (∀ r f k, r < 6 → 64 * r ≤ k → k < 64 * r + zs r → (∀ j, j < 384 → sm8 (f j)) → sm8 (F r f k)) ∧ ∀ r f g k, r < 6 → 64 * r ≤ k → k < 64 * r + zs r → (∀ j, j < 384 → sm8 (f j)) → (∀ j, j < 384 → sm8 (g j)) → (∀ j, j < 384 → le8 (f j) (g j)) → le8 (F r f k) (F r g k)
/-- not above its step anywhere, and below each array that is above its step -/
def IVX (F : Nat → (Nat → Int32) → Nat → Int32) (zs : Nat → Nat) (f : Nat → Int32) : Prop := (∀ j, j < 384 → sm8 (f j)) ∧ (∀ r k, r < 6 → 64 * r ≤ k → k < 64 * r + zs r → le8 (f k) (F r f k)) ∧ ∀ g, (∀ j, j < 384 → sm8 (g j)) → (∀ r k, r < 6 → 64 * r ≤ k → k < 64 * r + zs r → le8 (F r g k) (g k)) → ∀ j, j < 384 → le8 (f j) (g j)
theorem IVX.step {F : Nat → (Nat → Int32) → Nat → Int32} {zs : Nat → Nat} (hS : STE F zs) {f : Nat → Int32} (h : IVX F zs f) {r k : Nat} (hr : r < 6) (h1 : 64 * r ≤ k) (h2 : k < 64 * r + zs r) : IVX F zs (upd f k (F r f k)) ∧ ∀ j, j < 384 → le8 (f j) (upd f k (F r f k) j) := by
  obtain ⟨a1, a2, a3⟩ := h
  have hz := hS.1 r hr
  have hv := hS.2.1 r f k hr h1 h2 a1
  have b1 : ∀ j, j < 384 → sm8 (upd f k (F r f k) j) := fun j hj => by
    by_cases e : j = k
    · subst e; rw [pk_us]; exact hv
    · rw [pk_un e]; exact a1 j hj
  have b2 : ∀ j, j < 384 → le8 (f j) (upd f k (F r f k) j) := fun j hj => by
    by_cases e : j = k
    · subst e; rw [pk_us]; exact a2 r j hr h1 h2
    · rw [pk_un e]; exact (a1 j hj).elim (fun i hi => by rw [hi]; exact (le8_rf i).1)
  refine ⟨⟨b1, fun r2 k2 hr2 g1 g2 => ?_, fun g hg1 hg2 j hj => ?_⟩, b2⟩
  · have hz2 := hS.1 r2 hr2
    have m := hS.2.2 r2 f (upd f k (F r f k)) k2 hr2 g1 g2 a1 b1 b2
    by_cases e : k2 = k
    · have er : r2 = r := by omega
      subst e er
      rw [pk_us]
      exact m
    · rw [pk_un e]
      exact (a2 r2 k2 hr2 g1 g2).tr (a1 _ (by omega)) (hS.2.1 r2 f k2 hr2 g1 g2 a1) (hS.2.1 r2 _ k2 hr2 g1 g2 b1) m
  · by_cases e : j = k
    · subst e
      rw [pk_us]
      exact (hS.2.2 r f g j hr h1 h2 a1 hg1 (a3 g hg1 hg2)).tr hv (hS.2.1 r g j hr h1 h2 hg1) (hg1 j hj) (hg2 r j hr h1 h2)
    · rw [pk_un e]
      exact a3 g hg1 hg2 j hj
theorem cm0 {c v o : Int32} (h : cm c v o = 0) : c = 0 ∧ v = o := by
  unfold cm at h
  by_cases h1 : c = 0
  · rw [if_pos h1] at h
    by_cases h2 : v = o
    · exact ⟨h1, h2⟩
    · rw [if_neg h2] at h
      exact absurd h (by decide +kernel)
  · rw [if_neg h1] at h
    exact absurd h (by decide +kernel)
theorem cm1 {v o : Int32} (h : ¬ cm 0 v o = 0) : ¬ v = o := fun e => by
  unfold cm at h
  rw [if_pos rfl, if_pos e] at h
  exact h (by decide +kernel)
theorem cm2 {c v o : Int32} (h : ¬ c = 0) : ¬ cm c v o = 0 := by
  unfold cm
  rw [if_neg h]
  decide +kernel
/-- what a pass does -/
def PAR (F : Nat → (Nat → Int32) → Nat → Int32) (zs : Nat → Nat) (f : Nat → Int32) (c : Int32) (R : (Nat → Int32) × Int32) (P : (Nat → Int32) → Prop) : Prop := IVX F zs R.1 ∧ mu 384 f ≤ mu 384 R.1 ∧ (R.2 = 0 → c = 0 ∧ R.1 = f ∧ P f) ∧ (¬ R.2 = 0 → ¬ c = 0 ∨ mu 384 f < mu 384 R.1)
theorem paX_ok {F : Nat → (Nat → Int32) → Nat → Int32} {zs : Nat → Nat} (hS : STE F zs) {r : Nat} (hr : r < 6) : ∀ (n i : Nat) (f : Nat → Int32) (c : Int32), i + n ≤ zs r → IVX F zs f → PAR F zs f c (paX (F r) (64 * r) n i f c) (fun f => ∀ j, i ≤ j → j < i + n → f (64 * r + j) = F r f (64 * r + j))
  | 0, i, f, c, _, h => ⟨h, Nat.le_refl _, fun h0 => ⟨h0, rfl, fun j h1 h2 => by omega⟩, fun h0 => Or.inl h0⟩
  | n + 1, i, f, c, hi, h => by
    have hz := hS.1 r hr
    obtain ⟨h1, h2⟩ := h.step hS hr (k := 64 * r + i) (by omega) (by omega)
    obtain ⟨p1, p2, p3, p4⟩ := paX_ok hS hr n (i + 1) (upd f (64 * r + i) (F r f (64 * r + i))) (cm c (F r f (64 * r + i)) (f (64 * r + i))) (by omega) h1
    have m := mu_mono 384 f (upd f (64 * r + i) (F r f (64 * r + i))) (fun k hk => (h2 k hk).le (h.1 k hk) (h1.1 k hk))
    refine ⟨p1, Nat.le_trans m.1 p2, fun h0 => ?_, fun h0 => ?_⟩
    · obtain ⟨q1, q2, q3⟩ := p3 h0
      obtain ⟨e1, e2⟩ := cm0 q1
      have eu : upd f (64 * r + i) (F r f (64 * r + i)) = f := by
        funext j
        by_cases e : j = 64 * r + i
        · subst e; rw [pk_us, e2]
        · rw [pk_un e]
      rw [eu] at q3
      refine ⟨e1, q2.trans eu, fun j g1 g2 => ?_⟩
      by_cases e : j = i
      · subst e; exact e2.symm
      · exact q3 j (by omega) (by omega)
    · by_cases hc : c = 0
      · refine Or.inr ?_
        rcases p4 h0 with g | g
        · rw [hc] at g
          have hne := cm1 g
          have hlt := m.2 (64 * r + i) (by omega) (by
            rw [pk_us]
            exact (h.2.1 r _ hr (by omega) (by omega)).lt (h.1 _ (by omega)) (hS.2.1 r f _ hr (by omega) (by omega) h.1) (fun e => hne e.symm))
          exact Nat.lt_of_lt_of_le hlt p2
        · exact Nat.lt_of_le_of_lt m.1 g
      · exact Or.inl hc
theorem raX_ok {F : Nat → (Nat → Int32) → Nat → Int32} {zs : Nat → Nat} (hS : STE F zs) : ∀ (n r : Nat) (f : Nat → Int32) (c : Int32), r + n ≤ 6 → IVX F zs f → PAR F zs f c (raX F zs n r f c) (fun f => ∀ r2 j, r ≤ r2 → r2 < r + n → j < zs r2 → f (64 * r2 + j) = F r2 f (64 * r2 + j))
  | 0, r, f, c, _, h => ⟨h, Nat.le_refl _, fun h0 => ⟨h0, rfl, fun r2 j h1 h2 => by omega⟩, fun h0 => Or.inl h0⟩
  | n + 1, r, f, c, hr, h => by
    obtain ⟨a1, a2, a3, a4⟩ := paX_ok hS (show r < 6 by omega) (zs r) 0 f c (by omega) h
    obtain ⟨p1, p2, p3, p4⟩ := raX_ok hS n (r + 1) (paX (F r) (64 * r) (zs r) 0 f c).1 (paX (F r) (64 * r) (zs r) 0 f c).2 (by omega) a1
    refine ⟨p1, Nat.le_trans a2 p2, fun h0 => ?_, fun h0 => ?_⟩
    · obtain ⟨q1, q2, q3⟩ := p3 h0
      obtain ⟨b1, b2, b3⟩ := a3 q1
      rw [b2] at q3
      refine ⟨b1, q2.trans b2, fun r2 j g1 g2 g3 => ?_⟩
      by_cases e : r2 = r
      · subst e; exact b3 j (Nat.zero_le _) (by omega)
      · exact q3 r2 j (by omega) (by omega) g3
    · by_cases hc : c = 0
      · refine Or.inr ?_
        rcases p4 h0 with g | g
        · rcases a4 g with g2 | g2
          · exact absurd hc g2
          · exact Nat.lt_of_lt_of_le g2 p2
        · exact Nat.lt_of_le_of_lt a2 g
      · exact Or.inl hc
/-- the passes come to an end, at the least solution -/
def FXP (F : Nat → (Nat → Int32) → Nat → Int32) (zs : Nat → Nat) (f : Nat → Int32) : Prop := IVX F zs f ∧ ∀ r j, r < 6 → j < zs r → f (64 * r + j) = F r f (64 * r + j)
theorem spX_ex {F : Nat → (Nat → Int32) → Nat → Int32} {zs : Nat → Nat} (hS : STE F zs) : ∀ (m x : Nat) (f : Nat → Int32), x ≤ mu 384 f → 2689 ≤ x + m → IVX F zs f → ∃ n g, spX F zs n f g ∧ FXP F zs g
  | 0, x, f, hx, hm, h => absurd (Nat.le_trans hx (mu_le7 384 f h.1)) (by omega)
  | m + 1, x, f, hx, hm, h => by
    obtain ⟨p1, p2, p3, p4⟩ := raX_ok hS 6 0 f (nI 0) (by decide) h
    by_cases h0 : (raX F zs 6 0 f (nI 0)).2 = 0
    · obtain ⟨q1, q2, q3⟩ := p3 h0
      refine ⟨0, _, ⟨h0, rfl⟩, p1, fun r j hr hj => ?_⟩
      rw [q2]
      exact q3 r j (Nat.zero_le _) (by omega) hj
    · rcases p4 h0 with g | g
      · exact absurd (by decide +kernel) g
      · obtain ⟨n, g2, e1, e2⟩ := spX_ex hS m (x + 1) _ (Nat.le_trans (Nat.succ_le_succ hx) g) (by omega) p1
        exact ⟨n + 1, g2, ⟨h0, e1⟩, e2⟩
theorem IVX.zero {F : Nat → (Nat → Int32) → Nat → Int32} {zs : Nat → Nat} (hS : STE F zs) {f : Nat → Int32} (h : ∀ j, j < 384 → f j = nI 0) : IVX F zs f := by
  have hs : ∀ j, j < 384 → sm8 (f j) := fun j hj => ⟨0, h j hj⟩
  refine ⟨hs, fun r k hr h1 h2 => ?_, fun g hg _ j hj => ?_⟩
  · have := hS.1 r hr
    rw [h k (by omega)]
    exact le8.z (hS.2.1 r f k hr h1 h2 hs)
  · rw [h j hj]
    exact le8.z (hg j hj)
