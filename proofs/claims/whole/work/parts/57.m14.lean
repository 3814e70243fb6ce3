section M14
variable {cy : Nat → ClassId} {ad : Nat → Nat} {hp0 : Hp} {l : Launch} {D : va_G} {base : Nat}
def zN (x : Int32) : Nat := x.toNatClampNeg
theorem zN_nI {n : Nat} (h : n < 2 ^ 31) : zN (nI n) = n := nI_clamp (by omega)
/-- a node of the reference's blocks -/
def nodM (H : Nat → Nat → Int32) (k : Nat) : Prop := H 5 k = nI 0 ∨ (∃ r, r < 6 ∧ H 5 k = nI 1 ∧ H 6 k = nI r) ∨ (∃ kd f g, 2 ≤ kd ∧ kd ≤ 8 ∧ f < 64 ∧ g < 64 ∧ H 5 k = nI kd ∧ H 6 k = nI f ∧ H 7 k = nI g)
def GM (zs : Nat → Nat) (H : Nat → Nat → Int32) : Prop := ∀ r, r < 6 → H 10 r = nI (zs r) ∧ zs r < 64 ∧ ∀ i, i < zs r → nodM H (64 * r + i)
def stO (H : Nat → Nat → Int32) (B k : Nat) (O : Nat → Int32) : Int32 :=
  if H 5 k = nI 0 then nI 6
  else if H 5 k = nI 1 then (if H 10 (zN (H 6 k)) = nI 0 then nI 0 else O (64 * zN (H 6 k) + zN (H 10 (zN (H 6 k))) - 1))
  else if H 5 k = nI 2 then mrI (O (B + zN (H 6 k))) (O (B + zN (H 7 k)))
  else if H 5 k = nI 3 then mcI (O (B + zN (H 6 k))) (O (B + zN (H 7 k)))
  else msI (zN (H 5 k)) (O (B + zN (H 6 k)))
def gI (c : Prop) [Decidable c] : Int32 := if c then nI 1 else nI 0
def stG (H : Nat → Nat → Int32) (B k : Nat) (O G : Nat → Int32) : Int32 :=
  if H 5 k = nI 0 then nI 1
  else if H 5 k = nI 1 then (if H 10 (zN (H 6 k)) = nI 0 then nI 0 else if G (64 * zN (H 6 k) + zN (H 10 (zN (H 6 k))) - 1) = 0 then nI 0 else nI 1)
  else if H 5 k = nI 2 then (if ¬ G (B + zN (H 6 k)) = 0 ∧ (O (B + zN (H 6 k)) &&& nI 1 = 0 ∨ ¬ G (B + zN (H 7 k)) = 0) then nI 1 else nI 0)
  else if H 5 k = nI 3 then (if ¬ G (B + zN (H 6 k)) = 0 ∧ ¬ G (B + zN (H 7 k)) = 0 then nI 1 else nI 0)
  else if H 5 k = nI 4 ∨ H 5 k = nI 5 then (if ¬ G (B + zN (H 6 k)) = 0 ∧ O (B + zN (H 6 k)) &&& nI 1 = 0 then nI 1 else nI 0)
  else if G (B + zN (H 6 k)) = 0 then nI 0 else nI 1
theorem M_outS (hl : l.stackTraces = false) (d : Nat) (s : MSt) (r i : Nat) (zs : Nat → Nat) (hG : GM zs s.2) (hr : r < 6) (hi : i < zs r) : MtW (IM cy ad hp0) l D cy base mX9_outcomeOf (d + 3) 0 0 [.ref (ad 43), .int (nI (64 * r + i)), .int (nI (64 * r))] s (fun o s2 => o = .inl (some (.int (stO s.2 (64 * r) (64 * r + i) (s.2 11)))) ∧ s2 = s) := by
  have hz := (hG r hr).2.1
  have hk : 64 * r + i < 384 := by omega
  rcases (hG r hr).2.2 i hi with h | ⟨q, hq, h1, h2⟩ | ⟨kd, f, g, k2, k8, hf, hg, h5, h6, h7⟩
  · have e : stO s.2 (64 * r) (64 * r + i) (s.2 11) = nI 6 := by unfold stO; rw [if_pos h]
    rw [e]
    exact M_out0 hl (d + 1) s _ _ hk (by omega) h
  · obtain ⟨a1, a2, -⟩ := hG q hq
    have ez : zN (s.2 6 (64 * r + i)) = q := by rw [h2]; exact zN_nI (by omega)
    by_cases hz0 : zs q = 0
    · have e : stO s.2 (64 * r) (64 * r + i) (s.2 11) = nI 0 := by
        unfold stO
        rw [h1, if_neg (nIn (by decide) (by decide) (by decide)), if_pos rfl, ez, a1, hz0, if_pos rfl]
      rw [e]
      exact M_out1z hl (d + 1) s _ _ hk (by omega) q (zs q) h1 h2 hq a1 a2 hz0
    · have e : stO s.2 (64 * r) (64 * r + i) (s.2 11) = s.2 11 (64 * q + zs q - 1) := by
        unfold stO
        rw [h1, if_neg (nIn (by decide) (by decide) (by decide)), if_pos rfl, ez, a1, if_neg (nIn (by omega) (by decide) hz0), zN_nI (by omega)]
      rw [e]
      exact M_out1 hl (d + 1) s _ _ hk (by omega) q (zs q) h1 h2 hq a1 a2 hz0
  · have e6 : zN (s.2 6 (64 * r + i)) = f := by rw [h6]; exact zN_nI (by omega)
    have e7 : zN (s.2 7 (64 * r + i)) = g := by rw [h7]; exact zN_nI (by omega)
    have hkd : kd = 2 ∨ kd = 3 ∨ kd = 4 ∨ kd = 5 ∨ kd = 6 ∨ kd = 7 ∨ kd = 8 := by omega
    rcases hkd with rfl | rfl | rfl | rfl | rfl | rfl | rfl
    · have e : stO s.2 (64 * r) (64 * r + i) (s.2 11) = mrI (s.2 11 (64 * r + f)) (s.2 11 (64 * r + g)) := by
        unfold stO
        rw [h5, if_neg (nIn (by decide) (by decide) (by decide)), if_neg (nIn (by decide) (by decide) (by decide)), if_pos rfl, e6, e7]
      rw [e]
      exact M_out2 hl d s _ _ hk (by omega) f g h6 h7 hf hg h5
    · have e : stO s.2 (64 * r) (64 * r + i) (s.2 11) = mcI (s.2 11 (64 * r + f)) (s.2 11 (64 * r + g)) := by
        unfold stO
        rw [h5, if_neg (nIn (by decide) (by decide) (by decide)), if_neg (nIn (by decide) (by decide) (by decide)), if_neg (nIn (by decide) (by decide) (by decide)), if_pos rfl, e6, e7]
      rw [e]
      exact M_out3 hl d s _ _ hk (by omega) f g h6 h7 hf hg h5
    · have e : stO s.2 (64 * r) (64 * r + i) (s.2 11) = msI 4 (s.2 11 (64 * r + f)) := by
        unfold stO
        rw [h5, if_neg (nIn (by decide) (by decide) (by decide)), if_neg (nIn (by decide) (by decide) (by decide)), if_neg (nIn (by decide) (by decide) (by decide)), if_neg (nIn (by decide) (by decide) (by decide)), zN_nI (by decide), e6]
      rw [e]
      exact M_out4 hl d s _ _ hk (by omega) f g h6 h7 hf hg h5
    · have e : stO s.2 (64 * r) (64 * r + i) (s.2 11) = msI 5 (s.2 11 (64 * r + f)) := by
        unfold stO
        rw [h5, if_neg (nIn (by decide) (by decide) (by decide)), if_neg (nIn (by decide) (by decide) (by decide)), if_neg (nIn (by decide) (by decide) (by decide)), if_neg (nIn (by decide) (by decide) (by decide)), zN_nI (by decide), e6]
      rw [e]
      exact M_out5 hl d s _ _ hk (by omega) f g h6 h7 hf hg h5
    · have e : stO s.2 (64 * r) (64 * r + i) (s.2 11) = msI 6 (s.2 11 (64 * r + f)) := by
        unfold stO
        rw [h5, if_neg (nIn (by decide) (by decide) (by decide)), if_neg (nIn (by decide) (by decide) (by decide)), if_neg (nIn (by decide) (by decide) (by decide)), if_neg (nIn (by decide) (by decide) (by decide)), zN_nI (by decide), e6]
      rw [e]
      exact M_out6 hl d s _ _ hk (by omega) f g h6 h7 hf hg h5
    · have e : stO s.2 (64 * r) (64 * r + i) (s.2 11) = msI 7 (s.2 11 (64 * r + f)) := by
        unfold stO
        rw [h5, if_neg (nIn (by decide) (by decide) (by decide)), if_neg (nIn (by decide) (by decide) (by decide)), if_neg (nIn (by decide) (by decide) (by decide)), if_neg (nIn (by decide) (by decide) (by decide)), zN_nI (by decide), e6]
      rw [e]
      exact M_out7 hl d s _ _ hk (by omega) f g h6 h7 hf hg h5
    · have e : stO s.2 (64 * r) (64 * r + i) (s.2 11) = msI 8 (s.2 11 (64 * r + f)) := by
        unfold stO
        rw [h5, if_neg (nIn (by decide) (by decide) (by decide)), if_neg (nIn (by decide) (by decide) (by decide)), if_neg (nIn (by decide) (by decide) (by decide)), if_neg (nIn (by decide) (by decide) (by decide)), zN_nI (by decide), e6]
      rw [e]
      exact M_out8 hl d s _ _ hk (by omega) f g h6 h7 hf hg h5
def g01 (H : Nat → Nat → Int32) : Prop := ∀ k, k < 384 → H 12 k = nI 0 ∨ H 12 k = nI 1
theorem g01_if {x : Int32} (h : x = nI 0 ∨ x = nI 1) : (if x = 0 then nI 0 else nI 1) = x := by
  rcases h with h | h
  · rw [h]; decide +kernel
  · rw [h]; decide +kernel
theorem M_godS (hl : l.stackTraces = false) (d : Nat) (s : MSt) (r i : Nat) (zs : Nat → Nat) (hG : GM zs s.2) (hr : r < 6) (hi : i < zs r) (h01 : g01 s.2) : MtW (IM cy ad hp0) l D cy base mX9_goodOf (d + 3) 0 0 [.ref (ad 43), .int (nI (64 * r + i)), .int (nI (64 * r))] s (fun o s2 => o = .inl (some (.int (stG s.2 (64 * r) (64 * r + i) (s.2 11) (s.2 12)))) ∧ s2 = s) := by
  have hz := (hG r hr).2.1
  have hk : 64 * r + i < 384 := by omega
  rcases (hG r hr).2.2 i hi with h | ⟨q, hq, h1, h2⟩ | ⟨kd, f, g, k2, k8, hf, hg, h5, h6, h7⟩
  · have e : stG s.2 (64 * r) (64 * r + i) (s.2 11) (s.2 12) = nI 1 := by unfold stG; rw [if_pos h]
    rw [e]
    exact M_god0 hl (d + 1) s _ _ hk (by omega) h
  · obtain ⟨a1, a2, -⟩ := hG q hq
    have ez : zN (s.2 6 (64 * r + i)) = q := by rw [h2]; exact zN_nI (by omega)
    by_cases hz0 : zs q = 0
    · have e : stG s.2 (64 * r) (64 * r + i) (s.2 11) (s.2 12) = nI 0 := by
        unfold stG
        rw [h1, if_neg (nIn (by decide) (by decide) (by decide)), if_pos rfl, ez, a1, hz0, if_pos rfl]
      rw [e]
      exact M_god1z hl (d + 1) s _ _ hk (by omega) q (zs q) h1 h2 hq a1 a2 hz0
    · have e : stG s.2 (64 * r) (64 * r + i) (s.2 11) (s.2 12) = if s.2 12 (64 * q + zs q - 1) = 0 then nI 0 else nI 1 := by
        unfold stG
        rw [h1, if_neg (nIn (by decide) (by decide) (by decide)), if_pos rfl, ez, a1, if_neg (nIn (by omega) (by decide) hz0), zN_nI (by omega)]
      rw [e]
      exact M_god1 hl (d + 1) s _ _ hk (by omega) q (zs q) h1 h2 hq a1 a2 hz0
  · have e6 : zN (s.2 6 (64 * r + i)) = f := by rw [h6]; exact zN_nI (by omega)
    have e7 : zN (s.2 7 (64 * r + i)) = g := by rw [h7]; exact zN_nI (by omega)
    have hf12 : s.2 12 (64 * r + f) = nI 0 ∨ s.2 12 (64 * r + f) = nI 1 := h01 _ (by omega)
    have hkd : kd = 2 ∨ kd = 3 ∨ kd = 4 ∨ kd = 5 ∨ kd = 6 ∨ kd = 7 ∨ kd = 8 := by omega
    rcases hkd with rfl | rfl | rfl | rfl | rfl | rfl | rfl
    · have e : stG s.2 (64 * r) (64 * r + i) (s.2 11) (s.2 12) = if ¬ s.2 12 (64 * r + f) = 0 ∧ (s.2 11 (64 * r + f) &&& nI 1 = 0 ∨ ¬ s.2 12 (64 * r + g) = 0) then nI 1 else nI 0 := by
        unfold stG
        rw [h5, if_neg (nIn (by decide) (by decide) (by decide)), if_neg (nIn (by decide) (by decide) (by decide)), if_pos rfl, e6, e7]
      rw [e]
      exact M_god2 hl d s _ _ hk (by omega) f g h6 h7 hf hg h5
    · have e : stG s.2 (64 * r) (64 * r + i) (s.2 11) (s.2 12) = if ¬ s.2 12 (64 * r + f) = 0 ∧ ¬ s.2 12 (64 * r + g) = 0 then nI 1 else nI 0 := by
        unfold stG
        rw [h5, if_neg (nIn (by decide) (by decide) (by decide)), if_neg (nIn (by decide) (by decide) (by decide)), if_neg (nIn (by decide) (by decide) (by decide)), if_pos rfl, e6, e7]
      rw [e]
      exact M_god3 hl d s _ _ hk (by omega) f g h6 h7 hf hg h5
    · have e : stG s.2 (64 * r) (64 * r + i) (s.2 11) (s.2 12) = if ¬ s.2 12 (64 * r + f) = 0 ∧ s.2 11 (64 * r + f) &&& nI 1 = 0 then nI 1 else nI 0 := by
        unfold stG
        rw [h5, if_neg (nIn (by decide) (by decide) (by decide)), if_neg (nIn (by decide) (by decide) (by decide)), if_neg (nIn (by decide) (by decide) (by decide)), if_neg (nIn (by decide) (by decide) (by decide)), if_pos (Or.inl rfl), e6]
      rw [e]
      exact M_god4 hl d s _ _ hk (by omega) f g h6 h7 hf hg h5
    · have e : stG s.2 (64 * r) (64 * r + i) (s.2 11) (s.2 12) = if ¬ s.2 12 (64 * r + f) = 0 ∧ s.2 11 (64 * r + f) &&& nI 1 = 0 then nI 1 else nI 0 := by
        unfold stG
        rw [h5, if_neg (nIn (by decide) (by decide) (by decide)), if_neg (nIn (by decide) (by decide) (by decide)), if_neg (nIn (by decide) (by decide) (by decide)), if_neg (nIn (by decide) (by decide) (by decide)), if_pos (Or.inr rfl), e6]
      rw [e]
      exact M_god5 hl d s _ _ hk (by omega) f g h6 h7 hf hg h5
    · have e : stG s.2 (64 * r) (64 * r + i) (s.2 11) (s.2 12) = s.2 12 (64 * r + f) := by
        unfold stG
        rw [h5, if_neg (nIn (by decide) (by decide) (by decide)), if_neg (nIn (by decide) (by decide) (by decide)), if_neg (nIn (by decide) (by decide) (by decide)), if_neg (nIn (by decide) (by decide) (by decide)), if_neg (fun c => c.elim (fun c => (nIn (by decide) (by decide) (by decide)) c) (fun c => (nIn (by decide) (by decide) (by decide)) c)), e6, g01_if hf12]
      rw [e]
      exact M_god6 hl d s _ _ hk (by omega) f g h6 h7 hf hg h5 (by rw [← nI_0v, ← nI_1v]; exact hf12)
    · have e : stG s.2 (64 * r) (64 * r + i) (s.2 11) (s.2 12) = s.2 12 (64 * r + f) := by
        unfold stG
        rw [h5, if_neg (nIn (by decide) (by decide) (by decide)), if_neg (nIn (by decide) (by decide) (by decide)), if_neg (nIn (by decide) (by decide) (by decide)), if_neg (nIn (by decide) (by decide) (by decide)), if_neg (fun c => c.elim (fun c => (nIn (by decide) (by decide) (by decide)) c) (fun c => (nIn (by decide) (by decide) (by decide)) c)), e6, g01_if hf12]
      rw [e]
      exact M_god7 hl d s _ _ hk (by omega) f g h6 h7 hf hg h5 (by rw [← nI_0v, ← nI_1v]; exact hf12)
    · have e : stG s.2 (64 * r) (64 * r + i) (s.2 11) (s.2 12) = s.2 12 (64 * r + f) := by
        unfold stG
        rw [h5, if_neg (nIn (by decide) (by decide) (by decide)), if_neg (nIn (by decide) (by decide) (by decide)), if_neg (nIn (by decide) (by decide) (by decide)), if_neg (nIn (by decide) (by decide) (by decide)), if_neg (fun c => c.elim (fun c => (nIn (by decide) (by decide) (by decide)) c) (fun c => (nIn (by decide) (by decide) (by decide)) c)), e6, g01_if hf12]
      rw [e]
      exact M_god8 hl d s _ _ hk (by omega) f g h6 h7 hf hg h5 (by rw [← nI_0v, ← nI_1v]; exact hf12)
def cm (c v o : Int32) : Int32 := if c = 0 then (if v = o then nI 0 else nI 1) else nI 1
def psO (r : Nat) : Nat → Nat → MSt → Int32 → MSt × Int32
  | 0, _, s, c => (s, c)
  | n + 1, i, s, c => psO r n (i + 1) (aU 11 (64 * r + i) (stO s.2 (64 * r) (64 * r + i) (s.2 11)) s) (cm c (stO s.2 (64 * r) (64 * r + i) (s.2 11)) (s.2 11 (64 * r + i)))
def psG (r : Nat) : Nat → Nat → MSt → Int32 → MSt × Int32
  | 0, _, s, c => (s, c)
  | n + 1, i, s, c => psG r n (i + 1) (aU 12 (64 * r + i) (stG s.2 (64 * r) (64 * r + i) (s.2 11) (s.2 12)) s) (cm c (stG s.2 (64 * r) (64 * r + i) (s.2 11) (s.2 12)) (s.2 12 (64 * r + i)))
def rdO (zs : Nat → Nat) : Nat → Nat → MSt → Int32 → MSt × Int32
  | 0, _, s, c => (s, c)
  | n + 1, r, s, c => rdO zs n (r + 1) (psO r (zs r) 0 s c).1 (psO r (zs r) 0 s c).2
def rdG (zs : Nat → Nat) : Nat → Nat → MSt → Int32 → MSt × Int32
  | 0, _, s, c => (s, c)
  | n + 1, r, s, c => rdG zs n (r + 1) (psG r (zs r) 0 s c).1 (psG r (zs r) 0 s c).2
theorem GM.fr {zs : Nat → Nat} {H H' : Nat → Nat → Int32} (h : GM zs H) (e : ∀ k x, k ≤ 10 → H' k x = H k x) : GM zs H' := by
  intro r hr
  obtain ⟨h1, h2, h3⟩ := h r hr
  refine ⟨(e 10 r (by decide)).trans h1, h2, fun i hi => ?_⟩
  unfold nodM
  rw [e 5 _ (by decide), e 6 _ (by decide), e 7 _ (by decide)]
  exact h3 i hi
theorem GM.a {zs : Nat → Nat} {s : MSt} {k i : Nat} {v : Int32} (h : GM zs s.2) (hk : 10 < k) : GM zs (aU k i v s).2 := h.fr fun j x hj => by rw [aU_2, if_neg (by omega)]
theorem psO_fr {r : Nat} : ∀ (n i : Nat) (s : MSt) (c : Int32), (psO r n i s c).1.1 = s.1 ∧ ∀ k x, k ≠ 11 → (psO r n i s c).1.2 k x = s.2 k x
  | 0, i, s, c => ⟨rfl, fun _ _ _ => rfl⟩
  | n + 1, i, s, c => by
    obtain ⟨h1, h2⟩ := psO_fr n (i + 1) (aU 11 (64 * r + i) (stO s.2 (64 * r) (64 * r + i) (s.2 11)) s) (cm c (stO s.2 (64 * r) (64 * r + i) (s.2 11)) (s.2 11 (64 * r + i)))
    exact ⟨h1, fun k x hk => by rw [psO, h2 k x hk, aU_2, if_neg (fun c => hk c.1)]⟩
theorem psG_fr {r : Nat} : ∀ (n i : Nat) (s : MSt) (c : Int32), (psG r n i s c).1.1 = s.1 ∧ ∀ k x, k ≠ 12 → (psG r n i s c).1.2 k x = s.2 k x
  | 0, i, s, c => ⟨rfl, fun _ _ _ => rfl⟩
  | n + 1, i, s, c => by
    obtain ⟨h1, h2⟩ := psG_fr n (i + 1) (aU 12 (64 * r + i) (stG s.2 (64 * r) (64 * r + i) (s.2 11) (s.2 12)) s) (cm c (stG s.2 (64 * r) (64 * r + i) (s.2 11) (s.2 12)) (s.2 12 (64 * r + i)))
    exact ⟨h1, fun k x hk => by rw [psG, h2 k x hk, aU_2, if_neg (fun c => hk c.1)]⟩
theorem stG_01 (H : Nat → Nat → Int32) (B k : Nat) (O G : Nat → Int32) : stG H B k O G = nI 0 ∨ stG H B k O G = nI 1 := by
  unfold stG
  repeat' split
  all_goals first | exact Or.inl rfl | exact Or.inr rfl
theorem g01.a {s : MSt} {i : Nat} {v : Int32} (h : g01 s.2) (hv : v = nI 0 ∨ v = nI 1) : g01 (aU 12 i v s).2 := fun k hk => by
  rw [aU_2]
  split
  · exact hv
  · exact h k hk
theorem psG_01 {r : Nat} : ∀ (n i : Nat) (s : MSt) (c : Int32), g01 s.2 → g01 (psG r n i s c).1.2
  | 0, i, s, c, h => h
  | n + 1, i, s, c, h => psG_01 n (i + 1) _ _ (h.a (stG_01 _ _ _ _ _))
theorem g01_nar {v : Int32} (h : v = nI 0 ∨ v = nI 1) : vp_nar .boolean v = v := by
  rcases h with h | h
  · rw [h]; decide +kernel
  · rw [h]; decide +kernel
set_option maxHeartbeats 4000000 in
theorem M_moreO_in (hl : l.stackTraces = false) (d : Nat) (zs : Nat → Nat) (r : Nat) (hr : r < 6) (Q : Oc → MSt → Prop) : ∀ (n i : Nat) (s : MSt) (c : Int32), i + n = zs r → GM zs s.2 → (EW (IM cy ad hp0) l D cy base mX9_more (d + 4) 0 0 131 [(0, .ref (ad 43)), (1, .int (nI 0)), (2, .int (psO r n i s c).2), (3, .int (nI r))] [] (psO r n i s c).1 Q) → EW (IM cy ad hp0) l D cy base mX9_more (d + 4) 0 0 16 [(0, .ref (ad 43)), (1, .int (nI 0)), (2, .int c), (3, .int (nI r)), (4, .int (nI (64 * r + i)))] [] s Q
  | 0, i, s, c, hi, hG, K => by
    have hz := (hG r hr).1
    have hz9 := (hG r hr).2.1
    refine EW.iload dX9_more_16 rfl ?_
    refine EW.bp 64 dX9_more_18 ?_
    refine EW.iload_n dX9_more_20 rfl rfl ?_
    refine EW.imul dX9_more_21 ?_
    refine EW.top (pk_mul _ _) ?_
    refine EW.aload_n dX9_more_22 rfl rfl ?_
    refine EM.get f_X9_33 dX9_more_23 rfl ?_
    refine EW.iload_n dX9_more_26 rfl rfl ?_
    refine EM.ialdN r dX9_more_27 rfl rfl (by simp only [mLen]; omega) ?_
    refine EW.top hz ?_
    refine EW.iadd dX9_more_28 ?_
    refine EW.top (nI_add _ _) ?_
    refine EW.icmp_ge 131 dX9_more_29 (by decide) (fun c29 => ?_) (fun c29 => ?_)
    · have c29 : (64 * r) + (zs r) ≤ 64 * r + i := (nI_leI (by omega) (by omega)).mp c29
      exact EW.loc (lv' := [(0, .ref (ad 43)), (1, .int (nI 0)), (2, .int _), (3, .int (nI r))]) ⟨rfl, rfl, rfl, rfl, trivial⟩ K
    · have c29 : ¬ ((64 * r) + (zs r) ≤ 64 * r + i) := fun h => c29 ((nI_leI (by omega) (by omega)).mpr h); omega
  | n + 1, i, s, c, hi, hG, K => by
    have hz := (hG r hr).1
    have hz9 := (hG r hr).2.1
    refine EW.iload dX9_more_16 rfl ?_
    refine EW.bp 64 dX9_more_18 ?_
    refine EW.iload_n dX9_more_20 rfl rfl ?_
    refine EW.imul dX9_more_21 ?_
    refine EW.top (pk_mul _ _) ?_
    refine EW.aload_n dX9_more_22 rfl rfl ?_
    refine EM.get f_X9_33 dX9_more_23 rfl ?_
    refine EW.iload_n dX9_more_26 rfl rfl ?_
    refine EM.ialdN r dX9_more_27 rfl rfl (by simp only [mLen]; omega) ?_
    refine EW.top hz ?_
    refine EW.iadd dX9_more_28 ?_
    refine EW.top (nI_add _ _) ?_
    refine EW.icmp_ge 131 dX9_more_29 (by decide) (fun c29 => ?_) (fun c29 => ?_)
    · have c29 : (64 * r) + (zs r) ≤ 64 * r + i := (nI_leI (by omega) (by omega)).mp c29; omega
    · have c29 : ¬ ((64 * r) + (zs r) ≤ 64 * r + i) := fun h => c29 ((nI_leI (by omega) (by omega)).mpr h)
      refine EW.iload_n dX9_more_32 rfl rfl ?_
      refine EW.if_eq 82 dX9_more_33 (by decide) (fun c33 => ?_) (fun c33 => ?_)
      · refine EW.aload_n dX9_more_82 rfl rfl ?_
        refine EW.iload dX9_more_83 rfl ?_
        refine EW.bp 64 dX9_more_85 ?_
        refine EW.iload_n dX9_more_87 rfl rfl ?_
        refine EW.imul dX9_more_88 ?_
        refine EW.top (pk_mul _ _) ?_
        refine EM.callV (M_outS hl d s r i zs hG hr (by omega)) mfX9_outcomeOf l_X9_184 mvX9_outcomeOf (by omega) dX9_more_89 rfl rfl rfl rfl (Nat.le_of_ble_eq_true rfl) (fun _ _ q => nomatch q.1) (fun v89 s89 q89 => ?_)
        obtain ⟨e89, h89⟩ := q89; cases e89; replace h89 := h89.symm; subst h89
        refine EW.istore dX9_more_92 (by decide) ?_
        refine EW.iload_n dX9_more_94 rfl rfl ?_
        refine EW.if_ne 110 dX9_more_95 (by decide) (fun c95 => ?_) (fun c95 => ?_)
        · refine EW.ic 1 dX9_more_110 ?_
          refine EW.goto 115 dX9_more_111 (by decide) ?_
          refine EW.istore_n dX9_more_115 rfl (by decide) ?_
          refine EW.aload_n dX9_more_116 rfl rfl ?_
          refine EM.get f_X9_36 dX9_more_117 rfl ?_
          refine EW.iload dX9_more_120 rfl ?_
          refine EW.iload dX9_more_122 rfl ?_
          refine EM.iastN (64 * r + i) dX9_more_124 rfl rfl (by simp only [mLen]; omega) ?_
          refine EW.iinc dX9_more_125 rfl (nI_inc _) (by decide) ?_
          refine EW.goto 16 dX9_more_128 (by decide) ?_
          rw [psO, show cm c (stO s.2 (64 * r) (64 * r + i) (s.2 11)) (s.2 11 (64 * r + i)) = nI 1 by unfold cm; rw [if_neg c95]] at K
          exact EW.loc (lv' := [(0, .ref (ad 43)), (1, .int (nI 0)), (2, .int _), (3, .int (nI r)), (4, .int (nI (64 * r + (i + 1))))]) ⟨rfl, rfl, rfl, rfl, rfl, trivial⟩ (M_moreO_in hl d zs r hr Q n (i + 1) _ _ (by omega) (hG.a (by decide)) K)
        · refine EW.iload dX9_more_98 rfl ?_
          refine EW.aload_n dX9_more_100 rfl rfl ?_
          refine EM.get f_X9_36 dX9_more_101 rfl ?_
          refine EW.iload dX9_more_104 rfl ?_
          refine EM.ialdN (64 * r + i) dX9_more_106 rfl rfl (by simp only [mLen]; omega) ?_
          refine EW.icmp_eq 114 dX9_more_107 (by decide) (fun c107 => ?_) (fun c107 => ?_)
          · refine EW.ic 0 dX9_more_114 ?_
            refine EW.istore_n dX9_more_115 rfl (by decide) ?_
            refine EW.aload_n dX9_more_116 rfl rfl ?_
            refine EM.get f_X9_36 dX9_more_117 rfl ?_
            refine EW.iload dX9_more_120 rfl ?_
            refine EW.iload dX9_more_122 rfl ?_
            refine EM.iastN (64 * r + i) dX9_more_124 rfl rfl (by simp only [mLen]; omega) ?_
            refine EW.iinc dX9_more_125 rfl (nI_inc _) (by decide) ?_
            refine EW.goto 16 dX9_more_128 (by decide) ?_
            rw [psO, show cm c (stO s.2 (64 * r) (64 * r + i) (s.2 11)) (s.2 11 (64 * r + i)) = nI 0 by unfold cm; rw [if_pos c95, if_pos c107]] at K
            exact EW.loc (lv' := [(0, .ref (ad 43)), (1, .int (nI 0)), (2, .int _), (3, .int (nI r)), (4, .int (nI (64 * r + (i + 1))))]) ⟨rfl, rfl, rfl, rfl, rfl, trivial⟩ (M_moreO_in hl d zs r hr Q n (i + 1) _ _ (by omega) (hG.a (by decide)) K)
          · refine EW.ic 1 dX9_more_110 ?_
            refine EW.goto 115 dX9_more_111 (by decide) ?_
            refine EW.istore_n dX9_more_115 rfl (by decide) ?_
            refine EW.aload_n dX9_more_116 rfl rfl ?_
            refine EM.get f_X9_36 dX9_more_117 rfl ?_
            refine EW.iload dX9_more_120 rfl ?_
            refine EW.iload dX9_more_122 rfl ?_
            refine EM.iastN (64 * r + i) dX9_more_124 rfl rfl (by simp only [mLen]; omega) ?_
            refine EW.iinc dX9_more_125 rfl (nI_inc _) (by decide) ?_
            refine EW.goto 16 dX9_more_128 (by decide) ?_
            rw [psO, show cm c (stO s.2 (64 * r) (64 * r + i) (s.2 11)) (s.2 11 (64 * r + i)) = nI 1 by unfold cm; rw [if_pos c95, if_neg c107]] at K
            exact EW.loc (lv' := [(0, .ref (ad 43)), (1, .int (nI 0)), (2, .int _), (3, .int (nI r)), (4, .int (nI (64 * r + (i + 1))))]) ⟨rfl, rfl, rfl, rfl, rfl, trivial⟩ (M_moreO_in hl d zs r hr Q n (i + 1) _ _ (by omega) (hG.a (by decide)) K)
      · exact absurd c33 (by decide +kernel)
theorem psO_c {r : Nat} : ∀ (n i : Nat) (s : MSt) (c : Int32), (c = nI 0 ∨ c = nI 1) → (psO r n i s c).2 = nI 0 ∨ (psO r n i s c).2 = nI 1
  | 0, i, s, c, h => h
  | n + 1, i, s, c, h => psO_c n (i + 1) _ _ (by
    unfold cm
    split
    · split
      · exact Or.inl rfl
      · exact Or.inr rfl
    · exact Or.inr rfl)
set_option maxHeartbeats 4000000 in
theorem M_moreO_out (hl : l.stackTraces = false) (d : Nat) (zs : Nat → Nat) : ∀ (n r : Nat) (s : MSt) (c : Int32), r + n = 6 → GM zs s.2 → (c = nI 0 ∨ c = nI 1) → EW (IM cy ad hp0) l D cy base mX9_more (d + 4) 0 0 4 [(0, .ref (ad 43)), (1, .int (nI 0)), (2, .int c), (3, .int (nI r))] [] s (fun o s2 => o = .inl (some (.int (rdO zs n r s c).2)) ∧ s2 = (rdO zs n r s c).1)
  | 0, r, s, c, hr, hG, hc => by
    refine EW.iload_n dX9_more_4 rfl rfl ?_
    refine EW.bp 6 dX9_more_5 ?_
    refine EW.icmp_ge 137 dX9_more_7 (by decide) (fun c7 => ?_) (fun c7 => ?_)
    · have c7 : 6 ≤ r := (nI_leI (by omega) (by omega)).mp c7
      refine EW.iload_n dX9_more_137 rfl rfl ?_
      refine EW.zret (ty := .boolean) rfl (by rcases hc with h | h <;> rw [h] <;> decide +kernel) dX9_more_138 ?_
      exact ⟨rfl, rfl⟩
    · have c7 : ¬ (6 ≤ r) := fun h => c7 ((nI_leI (by omega) (by omega)).mpr h); omega
  | n + 1, r, s, c, hr, hG, hc => by
    refine EW.iload_n dX9_more_4 rfl rfl ?_
    refine EW.bp 6 dX9_more_5 ?_
    refine EW.icmp_ge 137 dX9_more_7 (by decide) (fun c7 => ?_) (fun c7 => ?_)
    · have c7 : 6 ≤ r := (nI_leI (by omega) (by omega)).mp c7; omega
    · have c7 : ¬ (6 ≤ r) := fun h => c7 ((nI_leI (by omega) (by omega)).mpr h)
      refine EW.bp 64 dX9_more_10 ?_
      refine EW.iload_n dX9_more_12 rfl rfl ?_
      refine EW.imul dX9_more_13 ?_
      refine EW.top (pk_mul _ _) ?_
      refine EW.istore dX9_more_14 (by decide) ?_
      refine EW.loc (lv' := [(0, .ref (ad 43)), (1, .int (nI 0)), (2, .int _), (3, .int (nI r)), (4, .int (nI (64 * r + 0)))]) ⟨rfl, rfl, rfl, rfl, rfl, trivial⟩ ?_
      refine M_moreO_in hl d zs r (by omega) _ (zs r) 0 s c (by omega) hG ?_
      refine EW.iinc dX9_more_131 rfl (nI_inc _) (by decide) ?_
      refine EW.goto 4 dX9_more_134 (by decide) ?_
      exact EW.loc (lv' := [(0, .ref (ad 43)), (1, .int (nI 0)), (2, .int _), (3, .int (nI (r + 1)))]) ⟨rfl, rfl, rfl, rfl, trivial⟩ <| M_moreO_out hl d zs n (r + 1) (psO r (zs r) 0 s c).1 (psO r (zs r) 0 s c).2 (by omega) (hG.fr fun k x hk => (psO_fr _ _ _ _).2 k x (by omega)) (psO_c _ _ _ _ hc)
set_option maxHeartbeats 4000000 in
theorem M_moreO (hl : l.stackTraces = false) (d : Nat) (s : MSt) (zs : Nat → Nat) (hG : GM zs s.2) : MtW (IM cy ad hp0) l D cy base mX9_more (d + 4) 0 0 [.ref (ad 43), .int (nI 0)] s (fun o s2 => o = .inl (some (.int (rdO zs 6 0 s (nI 0)).2)) ∧ s2 = (rdO zs 6 0 s (nI 0)).1) := by
  refine MtW.of hl mfX9_more rfl (Nat.le_of_ble_eq_true rfl) ?_
  refine EW.ic 0 dX9_more_0 ?_
  refine EW.istore_n dX9_more_1 rfl (by decide) ?_
  refine EW.ic 0 dX9_more_2 ?_
  refine EW.istore_n dX9_more_3 rfl (by decide) ?_
  exact EW.loc (lv' := [(0, .ref (ad 43)), (1, .int (nI 0)), (2, .int (nI 0)), (3, .int (nI 0))]) ⟨rfl, rfl, rfl, rfl, trivial⟩ (M_moreO_out hl d zs 6 0 s (nI 0) rfl hG (Or.inl rfl))
set_option maxHeartbeats 4000000 in
theorem M_moreG_in (hl : l.stackTraces = false) (d : Nat) (zs : Nat → Nat) (r : Nat) (hr : r < 6) (Q : Oc → MSt → Prop) : ∀ (n i : Nat) (s : MSt) (c : Int32), i + n = zs r → GM zs s.2 → g01 s.2 → (EW (IM cy ad hp0) l D cy base mX9_more (d + 4) 0 0 131 [(0, .ref (ad 43)), (1, .int (nI 1)), (2, .int (psG r n i s c).2), (3, .int (nI r))] [] (psG r n i s c).1 Q) → EW (IM cy ad hp0) l D cy base mX9_more (d + 4) 0 0 16 [(0, .ref (ad 43)), (1, .int (nI 1)), (2, .int c), (3, .int (nI r)), (4, .int (nI (64 * r + i)))] [] s Q
  | 0, i, s, c, hi, hG, h01, K => by
    have hz := (hG r hr).1
    have hz9 := (hG r hr).2.1
    refine EW.iload dX9_more_16 rfl ?_
    refine EW.bp 64 dX9_more_18 ?_
    refine EW.iload_n dX9_more_20 rfl rfl ?_
    refine EW.imul dX9_more_21 ?_
    refine EW.top (pk_mul _ _) ?_
    refine EW.aload_n dX9_more_22 rfl rfl ?_
    refine EM.get f_X9_33 dX9_more_23 rfl ?_
    refine EW.iload_n dX9_more_26 rfl rfl ?_
    refine EM.ialdN r dX9_more_27 rfl rfl (by simp only [mLen]; omega) ?_
    refine EW.top hz ?_
    refine EW.iadd dX9_more_28 ?_
    refine EW.top (nI_add _ _) ?_
    refine EW.icmp_ge 131 dX9_more_29 (by decide) (fun c29 => ?_) (fun c29 => ?_)
    · have c29 : (64 * r) + (zs r) ≤ 64 * r + i := (nI_leI (by omega) (by omega)).mp c29
      exact EW.loc (lv' := [(0, .ref (ad 43)), (1, .int (nI 1)), (2, .int _), (3, .int (nI r))]) ⟨rfl, rfl, rfl, rfl, trivial⟩ K
    · have c29 : ¬ ((64 * r) + (zs r) ≤ 64 * r + i) := fun h => c29 ((nI_leI (by omega) (by omega)).mpr h); omega
  | n + 1, i, s, c, hi, hG, h01, K => by
    have hz := (hG r hr).1
    have hz9 := (hG r hr).2.1
    have hv01 := stG_01 s.2 (64 * r) (64 * r + i) (s.2 11) (s.2 12)
    refine EW.iload dX9_more_16 rfl ?_
    refine EW.bp 64 dX9_more_18 ?_
    refine EW.iload_n dX9_more_20 rfl rfl ?_
    refine EW.imul dX9_more_21 ?_
    refine EW.top (pk_mul _ _) ?_
    refine EW.aload_n dX9_more_22 rfl rfl ?_
    refine EM.get f_X9_33 dX9_more_23 rfl ?_
    refine EW.iload_n dX9_more_26 rfl rfl ?_
    refine EM.ialdN r dX9_more_27 rfl rfl (by simp only [mLen]; omega) ?_
    refine EW.top hz ?_
    refine EW.iadd dX9_more_28 ?_
    refine EW.top (nI_add _ _) ?_
    refine EW.icmp_ge 131 dX9_more_29 (by decide) (fun c29 => ?_) (fun c29 => ?_)
    · have c29 : (64 * r) + (zs r) ≤ 64 * r + i := (nI_leI (by omega) (by omega)).mp c29; omega
    · have c29 : ¬ ((64 * r) + (zs r) ≤ 64 * r + i) := fun h => c29 ((nI_leI (by omega) (by omega)).mpr h)
      refine EW.iload_n dX9_more_32 rfl rfl ?_
      refine EW.if_eq 82 dX9_more_33 (by decide) (fun c33 => ?_) (fun c33 => ?_)
      · exact absurd c33 (by decide +kernel)
      · refine EW.aload_n dX9_more_36 rfl rfl ?_
        refine EW.iload dX9_more_37 rfl ?_
        refine EW.bp 64 dX9_more_39 ?_
        refine EW.iload_n dX9_more_41 rfl rfl ?_
        refine EW.imul dX9_more_42 ?_
        refine EW.top (pk_mul _ _) ?_
        refine EM.callV (M_godS hl d s r i zs hG hr (by omega) h01) mfX9_goodOf l_X9_181 mvX9_goodOf (by omega) dX9_more_43 rfl rfl rfl rfl (Nat.le_of_ble_eq_true rfl) (fun _ _ q => nomatch q.1) (fun v43 s43 q43 => ?_)
        obtain ⟨e43, h43⟩ := q43; cases e43; replace h43 := h43.symm; subst h43
        refine EW.istore dX9_more_46 (by decide) ?_
        refine EW.iload_n dX9_more_48 rfl rfl ?_
        refine EW.if_ne 64 dX9_more_49 (by decide) (fun c49 => ?_) (fun c49 => ?_)
        · refine EW.ic 1 dX9_more_64 ?_
          refine EW.goto 69 dX9_more_65 (by decide) ?_
          refine EW.istore_n dX9_more_69 rfl (by decide) ?_
          refine EW.aload_n dX9_more_70 rfl rfl ?_
          refine EM.get f_X9_39 dX9_more_71 rfl ?_
          refine EW.iload dX9_more_74 rfl ?_
          refine EW.iload dX9_more_76 rfl ?_
          refine EM.zastN (64 * r + i) dX9_more_78 rfl rfl (by simp only [mLen]; omega) ?_
          refine EW.goto 125 dX9_more_79 (by decide) ?_
          refine EW.iinc dX9_more_125 rfl (nI_inc _) (by decide) ?_
          refine EW.goto 16 dX9_more_128 (by decide) ?_
          rw [psG, show cm c (stG s.2 (64 * r) (64 * r + i) (s.2 11) (s.2 12)) (s.2 12 (64 * r + i)) = nI 1 by unfold cm; rw [if_neg c49]] at K
          refine EW.eqs (s' := aU 12 (64 * r + i) (stG s.2 (64 * r) (64 * r + i) (s.2 11) (s.2 12)) s) (by unfold aU; rw [g01_nar hv01]) ?_
          exact EW.loc (lv' := [(0, .ref (ad 43)), (1, .int (nI 1)), (2, .int _), (3, .int (nI r)), (4, .int (nI (64 * r + (i + 1))))]) ⟨rfl, rfl, rfl, rfl, rfl, trivial⟩ (M_moreG_in hl d zs r hr Q n (i + 1) _ _ (by omega) (hG.a (by decide)) (h01.a hv01) K)
        · refine EW.iload dX9_more_52 rfl ?_
          refine EW.aload_n dX9_more_54 rfl rfl ?_
          refine EM.get f_X9_39 dX9_more_55 rfl ?_
          refine EW.iload dX9_more_58 rfl ?_
          refine EM.zaldN (64 * r + i) dX9_more_60 rfl rfl (by simp only [mLen]; omega) ?_
          refine EW.icmp_eq 68 dX9_more_61 (by decide) (fun c61 => ?_) (fun c61 => ?_)
          · refine EW.ic 0 dX9_more_68 ?_
            refine EW.istore_n dX9_more_69 rfl (by decide) ?_
            refine EW.aload_n dX9_more_70 rfl rfl ?_
            refine EM.get f_X9_39 dX9_more_71 rfl ?_
            refine EW.iload dX9_more_74 rfl ?_
            refine EW.iload dX9_more_76 rfl ?_
            refine EM.zastN (64 * r + i) dX9_more_78 rfl rfl (by simp only [mLen]; omega) ?_
            refine EW.goto 125 dX9_more_79 (by decide) ?_
            refine EW.iinc dX9_more_125 rfl (nI_inc _) (by decide) ?_
            refine EW.goto 16 dX9_more_128 (by decide) ?_
            rw [psG, show cm c (stG s.2 (64 * r) (64 * r + i) (s.2 11) (s.2 12)) (s.2 12 (64 * r + i)) = nI 0 by unfold cm; rw [if_pos c49, if_pos c61]] at K
            refine EW.eqs (s' := aU 12 (64 * r + i) (stG s.2 (64 * r) (64 * r + i) (s.2 11) (s.2 12)) s) (by unfold aU; rw [g01_nar hv01]) ?_
            exact EW.loc (lv' := [(0, .ref (ad 43)), (1, .int (nI 1)), (2, .int _), (3, .int (nI r)), (4, .int (nI (64 * r + (i + 1))))]) ⟨rfl, rfl, rfl, rfl, rfl, trivial⟩ (M_moreG_in hl d zs r hr Q n (i + 1) _ _ (by omega) (hG.a (by decide)) (h01.a hv01) K)
          · refine EW.ic 1 dX9_more_64 ?_
            refine EW.goto 69 dX9_more_65 (by decide) ?_
            refine EW.istore_n dX9_more_69 rfl (by decide) ?_
            refine EW.aload_n dX9_more_70 rfl rfl ?_
            refine EM.get f_X9_39 dX9_more_71 rfl ?_
            refine EW.iload dX9_more_74 rfl ?_
            refine EW.iload dX9_more_76 rfl ?_
            refine EM.zastN (64 * r + i) dX9_more_78 rfl rfl (by simp only [mLen]; omega) ?_
            refine EW.goto 125 dX9_more_79 (by decide) ?_
            refine EW.iinc dX9_more_125 rfl (nI_inc _) (by decide) ?_
            refine EW.goto 16 dX9_more_128 (by decide) ?_
            rw [psG, show cm c (stG s.2 (64 * r) (64 * r + i) (s.2 11) (s.2 12)) (s.2 12 (64 * r + i)) = nI 1 by unfold cm; rw [if_pos c49, if_neg c61]] at K
            refine EW.eqs (s' := aU 12 (64 * r + i) (stG s.2 (64 * r) (64 * r + i) (s.2 11) (s.2 12)) s) (by unfold aU; rw [g01_nar hv01]) ?_
            exact EW.loc (lv' := [(0, .ref (ad 43)), (1, .int (nI 1)), (2, .int _), (3, .int (nI r)), (4, .int (nI (64 * r + (i + 1))))]) ⟨rfl, rfl, rfl, rfl, rfl, trivial⟩ (M_moreG_in hl d zs r hr Q n (i + 1) _ _ (by omega) (hG.a (by decide)) (h01.a hv01) K)
theorem psG_c {r : Nat} : ∀ (n i : Nat) (s : MSt) (c : Int32), (c = nI 0 ∨ c = nI 1) → (psG r n i s c).2 = nI 0 ∨ (psG r n i s c).2 = nI 1
  | 0, i, s, c, h => h
  | n + 1, i, s, c, h => psG_c n (i + 1) _ _ (by
    unfold cm
    split
    · split
      · exact Or.inl rfl
      · exact Or.inr rfl
    · exact Or.inr rfl)
set_option maxHeartbeats 4000000 in
theorem M_moreG_out (hl : l.stackTraces = false) (d : Nat) (zs : Nat → Nat) : ∀ (n r : Nat) (s : MSt) (c : Int32), r + n = 6 → GM zs s.2 → g01 s.2 → (c = nI 0 ∨ c = nI 1) → EW (IM cy ad hp0) l D cy base mX9_more (d + 4) 0 0 4 [(0, .ref (ad 43)), (1, .int (nI 1)), (2, .int c), (3, .int (nI r))] [] s (fun o s2 => o = .inl (some (.int (rdG zs n r s c).2)) ∧ s2 = (rdG zs n r s c).1)
  | 0, r, s, c, hr, hG, h01, hc => by
    refine EW.iload_n dX9_more_4 rfl rfl ?_
    refine EW.bp 6 dX9_more_5 ?_
    refine EW.icmp_ge 137 dX9_more_7 (by decide) (fun c7 => ?_) (fun c7 => ?_)
    · have c7 : 6 ≤ r := (nI_leI (by omega) (by omega)).mp c7
      refine EW.iload_n dX9_more_137 rfl rfl ?_
      refine EW.zret (ty := .boolean) rfl (by rcases hc with h | h <;> rw [h] <;> decide +kernel) dX9_more_138 ?_
      exact ⟨rfl, rfl⟩
    · have c7 : ¬ (6 ≤ r) := fun h => c7 ((nI_leI (by omega) (by omega)).mpr h); omega
  | n + 1, r, s, c, hr, hG, h01, hc => by
    refine EW.iload_n dX9_more_4 rfl rfl ?_
    refine EW.bp 6 dX9_more_5 ?_
    refine EW.icmp_ge 137 dX9_more_7 (by decide) (fun c7 => ?_) (fun c7 => ?_)
    · have c7 : 6 ≤ r := (nI_leI (by omega) (by omega)).mp c7; omega
    · have c7 : ¬ (6 ≤ r) := fun h => c7 ((nI_leI (by omega) (by omega)).mpr h)
      refine EW.bp 64 dX9_more_10 ?_
      refine EW.iload_n dX9_more_12 rfl rfl ?_
      refine EW.imul dX9_more_13 ?_
      refine EW.top (pk_mul _ _) ?_
      refine EW.istore dX9_more_14 (by decide) ?_
      refine EW.loc (lv' := [(0, .ref (ad 43)), (1, .int (nI 1)), (2, .int _), (3, .int (nI r)), (4, .int (nI (64 * r + 0)))]) ⟨rfl, rfl, rfl, rfl, rfl, trivial⟩ ?_
      refine M_moreG_in hl d zs r (by omega) _ (zs r) 0 s c (by omega) hG h01 ?_
      refine EW.iinc dX9_more_131 rfl (nI_inc _) (by decide) ?_
      refine EW.goto 4 dX9_more_134 (by decide) ?_
      exact EW.loc (lv' := [(0, .ref (ad 43)), (1, .int (nI 1)), (2, .int _), (3, .int (nI (r + 1)))]) ⟨rfl, rfl, rfl, rfl, trivial⟩ <| M_moreG_out hl d zs n (r + 1) (psG r (zs r) 0 s c).1 (psG r (zs r) 0 s c).2 (by omega) (hG.fr fun k x hk => (psG_fr _ _ _ _).2 k x (by omega)) (psG_01 _ _ _ _ h01) (psG_c _ _ _ _ hc)
set_option maxHeartbeats 4000000 in
theorem M_moreG (hl : l.stackTraces = false) (d : Nat) (s : MSt) (zs : Nat → Nat) (hG : GM zs s.2) (h01 : g01 s.2) : MtW (IM cy ad hp0) l D cy base mX9_more (d + 4) 0 0 [.ref (ad 43), .int (nI 1)] s (fun o s2 => o = .inl (some (.int (rdG zs 6 0 s (nI 0)).2)) ∧ s2 = (rdG zs 6 0 s (nI 0)).1) := by
  refine MtW.of hl mfX9_more rfl (Nat.le_of_ble_eq_true rfl) ?_
  refine EW.ic 0 dX9_more_0 ?_
  refine EW.istore_n dX9_more_1 rfl (by decide) ?_
  refine EW.ic 0 dX9_more_2 ?_
  refine EW.istore_n dX9_more_3 rfl (by decide) ?_
  exact EW.loc (lv' := [(0, .ref (ad 43)), (1, .int (nI 1)), (2, .int (nI 0)), (3, .int (nI 0))]) ⟨rfl, rfl, rfl, rfl, trivial⟩ (M_moreG_out hl d zs 6 0 s (nI 0) rfl hG h01 (Or.inl rfl))
end M14
