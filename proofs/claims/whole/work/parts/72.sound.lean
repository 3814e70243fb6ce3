/-! The outcomes of an expression, and that a match keeps to them. -/
abbrev bS (o : Int32) : Prop := ¬ o &&& nI 1 = 0
abbrev bO (o : Int32) : Prop := ¬ o &&& nI 2 = 0
abbrev bF (o : Int32) : Prop := ¬ o &&& nI 4 = 0
def sm8 (o : Int32) : Prop := ∃ j : Fin 8, o = nI j.val
def oE (O : Nat → Int32) : Ex → Int32
  | .tag _ (.tag _ .nil) => nI 6
  | .tag r .line => O r
  | .tag m (.append a b) => if m < 2 then mrI (oE O a) (oE O b) else mcI (oE O a) (oE O b)
  | .tag k (.nest _ e) => msI k (oE O e)
  | _ => nI 0
theorem mr_bits : ∀ a b : Fin 8, (bS (mrI (nI a.val) (nI b.val)) ↔ bS (nI a.val) ∧ bS (nI b.val)) ∧ (bO (mrI (nI a.val) (nI b.val)) ↔ (bO (nI a.val) ∧ (bO (nI b.val) ∨ bS (nI b.val))) ∨ (bS (nI a.val) ∧ bO (nI b.val))) ∧ (bF (mrI (nI a.val) (nI b.val)) ↔ bF (nI a.val) ∨ ((bS (nI a.val) ∨ bO (nI a.val)) ∧ bF (nI b.val))) ∧ ∃ c : Fin 8, mrI (nI a.val) (nI b.val) = nI c.val := by decide +kernel
theorem mc_bits : ∀ a b : Fin 8, (bS (mcI (nI a.val) (nI b.val)) ↔ bS (nI a.val) ∨ (bF (nI a.val) ∧ bS (nI b.val))) ∧ (bO (mcI (nI a.val) (nI b.val)) ↔ bO (nI a.val) ∨ (bF (nI a.val) ∧ bO (nI b.val))) ∧ (bF (mcI (nI a.val) (nI b.val)) ↔ bF (nI a.val) ∧ bF (nI b.val)) ∧ ∃ c : Fin 8, mcI (nI a.val) (nI b.val) = nI c.val := by decide +kernel
theorem ms4_bits : ∀ a : Fin 8, (bS (msI 4 (nI a.val)) ↔ bF (nI a.val)) ∧ (bO (msI 4 (nI a.val)) ↔ bO (nI a.val)) ∧ ¬ bF (msI 4 (nI a.val)) ∧ ∃ c : Fin 8, msI 4 (nI a.val) = nI c.val := by decide +kernel
theorem ms5_bits : ∀ a : Fin 8, (bS (msI 5 (nI a.val)) ↔ bF (nI a.val) ∧ bS (nI a.val)) ∧ (bO (msI 5 (nI a.val)) ↔ bO (nI a.val)) ∧ (bF (msI 5 (nI a.val)) ↔ bF (nI a.val)) ∧ ∃ c : Fin 8, msI 5 (nI a.val) = nI c.val := by decide +kernel
theorem ms6_bits : ∀ a : Fin 8, (bS (msI 6 (nI a.val)) ↔ bS (nI a.val) ∨ bF (nI a.val)) ∧ (bO (msI 6 (nI a.val)) ↔ bO (nI a.val)) ∧ ¬ bF (msI 6 (nI a.val)) ∧ ∃ c : Fin 8, msI 6 (nI a.val) = nI c.val := by decide +kernel
theorem ms7_bits : ∀ a : Fin 8, (bS (msI 7 (nI a.val)) ↔ bS (nI a.val) ∨ bO (nI a.val)) ∧ ¬ bO (msI 7 (nI a.val)) ∧ (bF (msI 7 (nI a.val)) ↔ bF (nI a.val)) ∧ ∃ c : Fin 8, msI 7 (nI a.val) = nI c.val := by decide +kernel
theorem ms8_bits : ∀ a : Fin 8, (bS (msI 8 (nI a.val)) ↔ bF (nI a.val)) ∧ ¬ bO (msI 8 (nI a.val)) ∧ (bF (msI 8 (nI a.val)) ↔ bS (nI a.val) ∨ bO (nI a.val)) ∧ ∃ c : Fin 8, msI 8 (nI a.val) = nI c.val := by decide +kernel
theorem oE_sm {O : Nat → Int32} (hO : ∀ r, r < 6 → sm8 (O r)) : ∀ t, wf t → sm8 (oE O t) := by
  refine ast_ind (fun lo hi _ _ => ⟨6, rfl⟩) (fun r hr => hO r hr) (fun m a b _ _ _ _ ha hb => ?_) (fun k e h4 h8 _ he => ?_)
  · obtain ⟨i, hi⟩ := ha
    obtain ⟨j, hj⟩ := hb
    show sm8 (if m < 2 then mrI (oE O a) (oE O b) else mcI (oE O a) (oE O b))
    rw [hi, hj]
    split
    · exact (mr_bits i j).2.2.2
    · exact (mc_bits i j).2.2.2
  · obtain ⟨i, hi⟩ := he
    show sm8 (msI k (oE O e))
    rw [hi]
    have hk : k = 4 ∨ k = 5 ∨ k = 6 ∨ k = 7 ∨ k = 8 := by omega
    rcases hk with rfl | rfl | rfl | rfl | rfl
    · exact (ms4_bits i).2.2.2
    · exact (ms5_bits i).2.2.2
    · exact (ms6_bits i).2.2.2
    · exact (ms7_bits i).2.2.2
    · exact (ms8_bits i).2.2.2
/-- a result at place p that keeps to the outcomes o -/
def snd (n p : Nat) (o : Int32) (v : Option Nat) : Prop := match v with
  | none => bF o
  | some q => p ≤ q ∧ q ≤ n ∧ (q = p → bS o) ∧ (p < q → bO o)
def SND (n : Nat) (O : Nat → Int32) (m : Nat → Int32) : Prop := ∀ r p, r < 6 → p ≤ 20 → m (r * 21 + p) = -2 ∨ ∃ v, m (r * 21 + p) = onI v ∧ snd n p (O r) v
def CSN (n : Nat) (rl : Nat → Option Ex) (O : Nat → Int32) (call : Nat → Nat → Nat → AS → Ra) : Prop := ∀ r p d A, r < 6 → (∃ t, rl r = some t) → p ≤ n → SND n O A.1 → SND n O (call r p d A).2.1 ∧ ∀ v, (call r p d A).1 = some v → snd n p (O r) v
/-- what is repeated is never still; all rules in it have expressions -/
def FS (rl : Nat → Option Ex) (O : Nat → Int32) : Ex → Prop
  | .tag _ (.tag _ .nil) => True
  | .tag r .line => ∃ t, rl r = some t
  | .tag _ (.append a b) => FS rl O a ∧ FS rl O b
  | .tag k (.nest _ e) => FS rl O e ∧ (k = 4 ∨ k = 5 → ¬ bS (oE O e))
  | _ => False
theorem bnA_sp {R : Ra} {f : Nat → AS → Ra} {g : AS → Ra} {P : Ra → Prop} (h0 : R.1 = none → P (none, R.2)) (h1 : R.1 = some none → P (g R.2)) (h2 : ∀ q, R.1 = some (some q) → P (f q R.2)) : P (bnA R f g) := by
  cases hR : R.1 with
  | none => rw [bnA_none hR]; exact h0 hR
  | some v => cases v with
    | none => rw [bnA_fail hR]; exact h1 hR
    | some q => rw [bnA_some hR]; exact h2 q hR
/-- what soundness says of a result -/
def SR (n : Nat) (O : Nat → Int32) (p : Nat) (o : Int32) (R : Ra) : Prop := SND n O R.2.1 ∧ ∀ v, R.1 = some v → snd n p o v
theorem SR.no {n : Nat} {O : Nat → Int32} {p : Nat} {o : Int32} {A : AS} (h : SND n O A.1) : SR n O p o (none, A) := ⟨h, fun v e => by cases e⟩
theorem SR.ok {n : Nat} {O : Nat → Int32} {p : Nat} {o : Int32} {A : AS} {v : Option Nat} (h : SND n O A.1) (hv : snd n p o v) : SR n O p o (some v, A) := ⟨h, fun v' e => by cases e; exact hv⟩
theorem avRep_snd {n : Nat} {O : Nat → Int32} {f : Nat → AS → Ra} {o : Int32} (hn : n ≤ 20) (hnS : ¬ bS o) (hf : ∀ p A, p ≤ n → SND n O A.1 → SR n O p o (f p A)) : ∀ (k : Nat) (a9 : Option Nat) (p : Nat) (A : AS), p ≤ n → SND n O A.1 → 21 ≤ p + k → SND n O (avRep f k a9 p A).2.1 ∧ ∀ v, (avRep f k a9 p A).1 = some v → (v = a9 ∧ bF o) ∨ ∃ q, v = some q ∧ p < q ∧ q ≤ n ∧ bO o
  | 0, a9, p, A, hp, _, hk => by omega
  | k + 1, a9, p, A, hp, hA, hk => by
    unfold avRep
    have H := hf p A hp hA
    refine bnA_sp (P := fun R => SND n O R.2.1 ∧ ∀ v, R.1 = some v → (v = a9 ∧ bF o) ∨ ∃ q, v = some q ∧ p < q ∧ q ≤ n ∧ bO o) (fun _ => ⟨H.1, fun v e => by cases e⟩) (fun h => ⟨H.1, fun v e => by cases e; exact Or.inl ⟨rfl, H.2 none h⟩⟩) (fun q h => ?_)
    obtain ⟨h1, h2, h3, h4⟩ := H.2 _ h
    have hpq : p < q := by
      rcases Nat.lt_or_ge p q with h5 | h5
      · exact h5
      · exact absurd (h3 (by omega)) hnS
    obtain ⟨g1, g2⟩ := avRep_snd hn hnS hf k (some q) q _ h2 H.1 (by omega)
    refine ⟨g1, fun v e => Or.inr ?_⟩
    rcases g2 v e with ⟨g3, g4⟩ | ⟨q2, g3, g4, g5, g6⟩
    · exact ⟨q, g3, hpq, h2, h4 hpq⟩
    · exact ⟨q2, g3, by omega, g5, g6⟩
theorem avA_snd {n : Nat} {w : Nat → Nat} {rl : Nat → Option Ex} {O : Nat → Int32} {call : Nat → Nat → Nat → AS → Ra} (hn : n ≤ 20) (hO : ∀ r, r < 6 → sm8 (O r)) (hc : CSN n rl O call) : ∀ t, wf t → FS rl O t → ∀ p d A, p ≤ n → SND n O A.1 → SR n O p (oE O t) (avA n w call t p d A) := by
  refine ast_ind (fun lo hi _ _ _ p d A hp hA => ?_) (fun r hr hF p d A hp hA => hc r p (d + 2) A hr hF hp hA) (fun m a b _ _ wa wb ha hb hF p d A hp hA => ?_) (fun k e h4 h8 we he hF p d A hp hA => ?_)
  · refine ⟨hA, fun v e => ?_⟩
    simp only [avA] at e
    cases e
    show snd n p (nI 6) (if p < n ∧ lo ≤ w p ∧ w p ≤ hi then some (p + 1) else none)
    split
    · exact ⟨by omega, by omega, fun h => by omega, fun _ => by decide +kernel⟩
    · show bF (nI 6)
      decide +kernel
  · obtain ⟨i, hi⟩ := oE_sm hO a wa
    obtain ⟨j, hj⟩ := oE_sm hO b wb
    have HA := ha hF.1 p (d + 1) A hp hA
    rw [hi] at HA
    show SR n O p (if m < 2 then mrI (oE O a) (oE O b) else mcI (oE O a) (oE O b)) _
    rw [hi, hj]
    simp only [avA]
    generalize (if m % 2 = 1 then d else d + 1) = d2
    by_cases hm : m < 2
    · rw [if_pos hm, if_pos hm]
      obtain ⟨b1, b2, b3, -⟩ := mr_bits i j
      refine bnA_sp (P := SR n O p _) (fun _ => SR.no HA.1) (fun h => SR.ok HA.1 (b3.mpr (Or.inl (HA.2 none h)))) (fun q h => ?_)
      obtain ⟨h1, h2, h3, h4⟩ := HA.2 _ h
      have HB := hb hF.2 q d2 (avA n w call a p (d + 1) A).2 h2 HA.1
      rw [hj] at HB
      refine ⟨HB.1, fun v e => ?_⟩
      have HV := HB.2 v e
      cases v with
      | none =>
        refine b3.mpr (Or.inr ⟨?_, HV⟩)
        by_cases hq : q = p
        · exact Or.inl (h3 hq)
        · exact Or.inr (h4 (by omega))
      | some q2 =>
        obtain ⟨g1, g2, g3, g4⟩ := HV
        refine ⟨by omega, g2, fun e2 => b1.mpr ⟨h3 (by omega), g3 (by omega)⟩, fun e2 => b2.mpr ?_⟩
        by_cases hq : q = p
        · exact Or.inr ⟨h3 hq, g4 (by omega)⟩
        · refine Or.inl ⟨h4 (by omega), ?_⟩
          by_cases hq2 : q2 = q
          · exact Or.inr (g3 hq2)
          · exact Or.inl (g4 (by omega))
    · rw [if_neg hm, if_neg hm]
      obtain ⟨b1, b2, b3, -⟩ := mc_bits i j
      refine bnA_sp (P := SR n O p _) (fun _ => SR.no HA.1) (fun h => ?_) (fun q h => SR.ok HA.1 ?_)
      · have HB := hb hF.2 p d2 (cutA A.2.2.2.1 (avA n w call a p (d + 1) A).2) hp HA.1
        rw [hj] at HB
        have hfa : bF (nI i.val) := HA.2 none h
        refine ⟨HB.1, fun v e => ?_⟩
        have HV := HB.2 v e
        cases v with
        | none => exact b3.mpr ⟨hfa, HV⟩
        | some q =>
          obtain ⟨g1, g2, g3, g4⟩ := HV
          exact ⟨g1, g2, fun e2 => b1.mpr (Or.inr ⟨hfa, g3 e2⟩), fun e2 => b2.mpr (Or.inr ⟨hfa, g4 e2⟩)⟩
      · obtain ⟨h1, h2, h3, h4⟩ := HA.2 _ h
        exact ⟨h1, h2, fun e2 => b1.mpr (Or.inl (h3 e2)), fun e2 => b2.mpr (Or.inl (h4 e2))⟩
  · obtain ⟨i, hi⟩ := oE_sm hO e we
    have HE : ∀ p d A, p ≤ n → SND n O A.1 → SR n O p (nI i.val) (avA n w call e p d A) := fun p d A hp hA => by
      have := he hF.1 p d A hp hA
      rw [hi] at this
      exact this
    have hst : k = 4 ∨ k = 5 → ¬ bS (nI i.val) := fun h => by
      have := hF.2 h
      rw [hi] at this
      exact this
    have H0 := HE p (d + 1) A hp hA
    have bSO : ∀ q, snd n p (nI i.val) (some q) → bS (nI i.val) ∨ bO (nI i.val) := fun q h => by
      by_cases hq : q = p
      · exact Or.inl (h.2.2.1 hq)
      · exact Or.inr (h.2.2.2 (by have := h.1; omega))
    show SR n O p (msI k (oE O e)) _
    rw [hi]
    simp only [avA]
    have hk : k = 4 ∨ k = 5 ∨ k = 6 ∨ k = 7 ∨ k = 8 := by omega
    rcases hk with rfl | rfl | rfl | rfl | rfl
    · obtain ⟨b1, b2, b3, -⟩ := ms4_bits i
      rw [if_neg (by decide), if_neg (by decide), if_neg (by decide), if_neg (by decide)]
      obtain ⟨g1, g2⟩ := avRep_snd hn (hst (Or.inl rfl)) (f := fun q A => avA n w call e q (d + 1) A) (fun p A hp hA => HE p (d + 1) A hp hA) 21 (some p) p A hp hA (by omega)
      refine ⟨g1, fun v e => ?_⟩
      rcases g2 v e with ⟨rfl, g4⟩ | ⟨q, rfl, g5, g6, g7⟩
      · exact ⟨Nat.le_refl _, hp, fun _ => b1.mpr g4, fun h => by omega⟩
      · exact ⟨by omega, g6, fun h => by omega, fun _ => b2.mpr g7⟩
    · obtain ⟨b1, b2, b3, -⟩ := ms5_bits i
      rw [if_neg (by decide), if_neg (by decide), if_neg (by decide), if_pos rfl]
      obtain ⟨g1, g2⟩ := avRep_snd hn (hst (Or.inr rfl)) (f := fun q A => avA n w call e q (d + 1) A) (fun p A hp hA => HE p (d + 1) A hp hA) 21 none p A hp hA (by omega)
      refine ⟨g1, fun v e => ?_⟩
      rcases g2 v e with ⟨rfl, g4⟩ | ⟨q, rfl, g5, g6, g7⟩
      · exact b3.mpr g4
      · exact ⟨by omega, g6, fun h => by omega, fun _ => b2.mpr g7⟩
    · obtain ⟨b1, b2, b3, -⟩ := ms6_bits i
      rw [if_neg (by decide), if_neg (by decide), if_pos rfl, if_neg (by decide)]
      simp only [avRep]
      refine bnA_sp (P := SR n O p _) (fun _ => SR.no H0.1) (fun h => SR.ok H0.1 ⟨Nat.le_refl _, hp, fun _ => b1.mpr (Or.inr (H0.2 none h)), fun h => by omega⟩) (fun q h => SR.ok H0.1 ?_)
      obtain ⟨h1, h2, h3, h4⟩ := H0.2 _ h
      exact ⟨h1, h2, fun e2 => b1.mpr (Or.inl (h3 e2)), fun e2 => b2.mpr (h4 e2)⟩
    · obtain ⟨b1, b2, b3, -⟩ := ms7_bits i
      rw [if_pos rfl]
      refine bnA_sp (P := SR n O p _) (fun _ => SR.no H0.1) (fun h => SR.ok H0.1 (b3.mpr (H0.2 none h))) (fun q h => SR.ok H0.1 ⟨Nat.le_refl _, hp, fun _ => b1.mpr (bSO q (H0.2 _ h)), fun h => by omega⟩)
    · obtain ⟨b1, b2, b3, -⟩ := ms8_bits i
      rw [if_neg (by decide), if_pos rfl]
      refine bnA_sp (P := SR n O p _) (fun _ => SR.no H0.1) (fun h => SR.ok H0.1 ⟨Nat.le_refl _, hp, fun _ => b1.mpr (H0.2 none h), fun h => by omega⟩) (fun q h => SR.ok H0.1 (b3.mpr (bSO q (H0.2 _ h))))
theorem on_vO {v : Option Nat} (h : ∀ q, v = some q → q ≤ 20) : vO (onI v) = v ∧ ¬ onI v = -2 := by
  refine ⟨?_, (on_ne h).1⟩
  cases v with
  | none => decide +kernel
  | some q =>
    have := h q rfl
    show vO (nI q) = some q
    unfold vO
    rw [if_neg (nI_pos (by omega)), nI_clamp (by omega)]
theorem snd_20 {n p : Nat} {o : Int32} {v : Option Nat} (hn : n ≤ 20) (h : snd n p o v) : ∀ q, v = some q → q ≤ 20 := fun q e => by
  subst e
  have := h.2.1
  omega
theorem SND.get {n : Nat} {O m : Nat → Int32} {r p : Nat} (hn : n ≤ 20) (h : SND n O m) (hr : r < 6) (hp : p ≤ 20) (h2 : ¬ m (r * 21 + p) = -2) : snd n p (O r) (vO (m (r * 21 + p))) ∧ onI (vO (m (r * 21 + p))) = m (r * 21 + p) := by
  rcases h r p hr hp with h1 | ⟨v, h1, h3⟩
  · exact absurd h1 h2
  · have e := on_vO (snd_20 hn h3)
    rw [h1, e.1]
    exact ⟨h3, rfl⟩
theorem SND.upd {n : Nat} {O m : Nat → Int32} {r p : Nat} {v : Option Nat} (h : SND n O m) (hp : p ≤ 20) (hv : snd n p (O r) v) : SND n O (upd m (r * 21 + p) (onI v)) := fun r' p' hr' hp' => by
  by_cases e : r' * 21 + p' = r * 21 + p
  · have e1 : r' = r := by omega
    have e2 : p' = p := by omega
    subst e1 e2
    exact Or.inr ⟨v, pk_us, hv⟩
  · rw [pk_un e]
    exact h r' p' hr' hp'
theorem SND.ok {n : Nat} {O m : Nat → Int32} (h : SND n O m) : mOK n m := fun c hc => by
  have e : c / 21 * 21 + c % 21 = c := by omega
  rcases h (c / 21) (c % 21) (by omega) (by omega) with h1 | ⟨v, h1, h3⟩
  · rw [e] at h1; exact Or.inl h1
  · rw [e] at h1
    cases v with
    | none => exact Or.inr (Or.inl h1)
    | some q => exact Or.inr (Or.inr ⟨q, h3.2.1, h1⟩)
theorem avR_snd {n : Nat} {w : Nat → Nat} {rl : Nat → Option Ex} {O : Nat → Int32} (hn : n ≤ 20) (hO : ∀ r, r < 6 → sm8 (O r)) (hfp : ∀ r t, r < 6 → rl r = some t → wf t ∧ FS rl O t ∧ oE O t = O r) : ∀ f, CSN n rl O (avR n w rl f)
  | 0 => fun r p d A hr hrl hp hA => by
    unfold avR
    split
    · exact SR.no hA
    · rename_i h
      exact SR.ok (A := (A.1, A.2.1, A.2.2.1 + nI 1, A.2.2.2)) hA (hA.get hn hr (by omega) h).1
  | f + 1 => fun r p d A hr hrl hp hA => by
    obtain ⟨t, ht⟩ := hrl
    obtain ⟨wt, Ft, et⟩ := hfp r t hr ht
    unfold avR
    split
    · split
      · exact SR.no hA
      · rw [ht]
        have H := avA_snd (w := w) hn hO (avR_snd (w := w) hn hO hfp f) t wt Ft p d (A.1, A.2.1 + nI 1, A.2.2) hp hA
        rw [et] at H
        show SR n O p (O r) (bnA (avA n w (avR n w rl f) t p d (A.1, A.2.1 + nI 1, A.2.2)) (fun q A1 => (some (some q), (upd A1.1 (r * 21 + p) (nI q), A1.2))) (fun A1 => (some none, (upd A1.1 (r * 21 + p) (-1), A1.2))))
        refine bnA_sp (P := SR n O p (O r)) (fun _ => SR.no H.1) (fun h => SR.ok (A := (_, _)) (SND.upd (v := none) H.1 (by omega) (H.2 none h)) (H.2 none h)) (fun q h => SR.ok (A := (_, _)) (SND.upd (v := some q) H.1 (by omega) (H.2 _ h)) (H.2 _ h))
    · rename_i h
      exact SR.ok (A := (A.1, A.2.1, A.2.2.1 + nI 1, A.2.2.2)) hA (hA.get hn hr (by omega) h).1
theorem recC_1 (r p d : Nat) (A : AS) : (recC r p d A).2.1 = A.1 := by
  unfold recC
  split
  · rfl
  · show (if A.1 (r * 21 + p) < 0 then A else _).1 = _
    split <;> rfl
theorem recC_snd {n : Nat} {rl : Nat → Option Ex} {O : Nat → Int32} (hn : n ≤ 20) : CSN n rl O recC := fun r p d A hr hrl hp hA => by
  refine ⟨by rw [recC_1]; exact hA, fun v e => ?_⟩
  unfold recC at e
  split at e
  · cases e
  · rename_i h
    cases e
    exact (hA.get hn hr (by omega) h).1
/-- what the run of the reference needs -/
theorem FS_facts {n : Nat} {w : Nat → Nat} {rl : Nat → Option Ex} {O : Nat → Int32} {call : Nat → Nat → Nat → AS → Ra} (hn : n ≤ 20) (hO : ∀ r, r < 6 → sm8 (O r)) (hc : CSN n rl O call) {g : AS → Prop} (hg : ∀ A, g A → SND n O A.1) (hg2 : ∀ t p d A, wf t → FS rl O t → p ≤ n → g A → SND n O (avA n w call t p d A).2.1 → g (avA n w call t p d A).2) : (∀ k e, wf e → FS rl O (xS k e) → FS rl O e ∧ (k = 4 ∨ k = 5 → ∀ p d A q, p ≤ n → g A → (avA n w call e p d A).1 = some (some q) → p < q)) ∧ (∀ t, wf t → FS rl O t → GD n w call g t) := by
  refine ⟨fun k e we hF => ⟨hF.1, fun hk p d A q hp hA he => ?_⟩, fun t wt hF p d A hp hA => ?_⟩
  · have H := avA_snd (w := w) hn hO hc e we hF.1 p d A hp (hg A hA)
    obtain ⟨h1, h2, h3, h4⟩ := H.2 _ he
    rcases Nat.lt_or_ge p q with h5 | h5
    · exact h5
    · exact absurd (h3 (by omega)) (hF.2 hk)
  · have H := avA_snd (w := w) hn hO hc t wt hF p d A hp (hg A hA)
    exact ⟨fun q e => (H.2 _ e).2.1, fun _ => hg2 t p d A wt hF hp hA H.1⟩
