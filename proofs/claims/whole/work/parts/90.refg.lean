/-! The reference's goodness is the least solution; verdicts. -/
def rtG (zs : Nat → Nat) (g : Nat → Int32) (q : Nat) : Bool := if zs q = 0 then false else !(g (64 * q + zs q - 1) == 0)
def stEG (O : Nat → Int32) (G : Nat → Bool) (v : Ex → Bool) : Ex → Bool
  | .tag _ (.tag _ .nil) => true
  | .tag r .line => G r
  | .tag m (.append a b) => if m < 2 then v a && (oE O a &&& nI 1 == 0 || v b) else v a && v b
  | .tag k (.nest _ e) => if k = 4 ∨ k = 5 then v e && (oE O e &&& nI 1 == 0) else v e
  | _ => false
theorem gE_st {O : Nat → Int32} {G : Nat → Bool} : ∀ e, wf e → stEG O G (gE O G) e = gE O G e := ast_ind (fun _ _ _ _ => rfl) (fun _ _ => rfl) (fun _ _ _ _ _ _ _ _ _ => rfl) (fun _ _ _ _ _ _ => rfl)
theorem ifbI {p : Prop} [Decidable p] {b : Bool} (h : p ↔ b = true) : (if p then nI 1 else nI 0) = bI b := by
  by_cases hp : p
  · rw [if_pos hp, h.mp hp]
    rfl
  · rw [if_neg hp]
    cases b with
    | false => rfl
    | true => exact absurd (h.mpr rfl) hp
theorem NDE_stG {rl : Nat → Option Ex} {zs : Nat → Nat} {H : Nat → Nat → Int32} (h : RFL rl zs H) {r : Nat} {t : Ex} (hr : r < 6) (ht : rl r = some t) (f g O : Nat → Int32) (v : Ex → Bool) (hO : ∀ j x, (po t)[j]? = some x → f (64 * r + j) = oE O x) : ∀ e, wf e → ∀ i, (po t)[i]? = some e → (∀ j x, (po t)[j]? = some x → sz x < sz e → g (64 * r + j) = bI (v x)) → stG H (64 * r) (64 * r + i) f g = bI (stEG O (rtG zs g) v e) := by
  obtain ⟨wt, hz, h63, hN⟩ := h.at hr ht
  refine ast_ind (fun lo hi _ _ i hi2 hf => ?_) (fun q hq i hi2 hf => ?_) (fun m a b hm _ wa wb _ _ i hi2 hf => ?_) (fun k e h4 h8 we _ i hi2 hf => ?_)
  · have h1 : H 5 (64 * r + i) = nI 0 := (hN i _ hi2).2.2
    unfold stG
    rw [if_pos h1]
    rfl
  · obtain ⟨h1, h2⟩ : H 5 (64 * r + i) = nI 1 ∧ H 6 (64 * r + i) = nI q := (hN i _ hi2).2.2
    unfold stG
    have hq9 := (h.GM q hq).2.1
    rw [h1, if_neg (nIn (by decide) (by decide) (by decide)), if_pos rfl, h2, zN_nI (by omega), (h q hq).1, zN_nI (by omega)]
    show _ = bI (rtG zs g q)
    unfold rtG
    by_cases z0 : zs q = 0
    · rw [z0, if_pos rfl, if_pos rfl]
      rfl
    · rw [if_neg (nIn (by omega) (by decide) z0), if_neg z0]
      by_cases g0 : g (64 * q + zs q - 1) = 0
      · rw [if_pos g0, g0]
        decide +kernel
      · rw [if_neg g0, beq_eq_false_iff_ne.mpr g0]
        rfl
  · obtain ⟨h1, f1, g1, h2, h3, h5, h6, h7, h8⟩ : H 5 (64 * r + i) = nI (2 + m / 2) ∧ ∃ f g, f < 64 ∧ g < 64 ∧ H 6 (64 * r + i) = nI f ∧ H 7 (64 * r + i) = nI g ∧ (po t)[f]? = some a ∧ (po t)[g]? = some b := (hN i _ hi2).2.2
    have sa := sz_pos a wa
    have sb := sz_pos b wb
    have hsz : sz (xB m a b) = sz a + sz b + 1 := rfl
    have va := hf f1 a h7 (by omega)
    have vb := hf g1 b h8 (by omega)
    have oa := hO f1 a h7
    show _ = bI (if m < 2 then v a && (oE O a &&& nI 1 == 0 || v b) else v a && v b)
    unfold stG
    rw [h1, h5, h6, zN_nI (by omega), zN_nI (by omega), va, vb, oa, if_neg (nIn (by omega) (by decide) (by omega)), if_neg (nIn (by omega) (by decide) (by omega))]
    by_cases hmm : m < 2
    · rw [if_pos hmm, show 2 + m / 2 = 2 by omega, if_pos rfl]
      exact ifbI (by rw [bI_1, bI_1, Bool.and_eq_true, Bool.or_eq_true, beq_iff_eq])
    · rw [if_neg hmm, show 2 + m / 2 = 3 by omega, if_neg (nIn (by decide) (by decide) (by decide)), if_pos rfl]
      exact ifbI (by rw [bI_1, bI_1, Bool.and_eq_true])
  · obtain ⟨h1, -, f1, h2, h5, h7⟩ : H 5 (64 * r + i) = nI k ∧ H 7 (64 * r + i) = nI 0 ∧ ∃ f, f < 64 ∧ H 6 (64 * r + i) = nI f ∧ (po t)[f]? = some e := (hN i _ hi2).2.2
    have hsz : sz (xS k e) = sz e + 1 := rfl
    have va := hf f1 e h7 (by omega)
    have oa := hO f1 e h7
    show _ = bI (if k = 4 ∨ k = 5 then v e && (oE O e &&& nI 1 == 0) else v e)
    unfold stG
    rw [h1, h5, zN_nI (by omega), va, oa, if_neg (nIn (by omega) (by decide) (by omega)), if_neg (nIn (by omega) (by decide) (by omega)), if_neg (nIn (by omega) (by decide) (by omega)), if_neg (nIn (by omega) (by decide) (by omega))]
    by_cases hk : k = 4 ∨ k = 5
    · rw [if_pos hk, if_pos (hk.imp (fun e => by rw [e]) (fun e => by rw [e]))]
      exact ifbI (by rw [bI_1, Bool.and_eq_true, beq_iff_eq])
    · rw [if_neg hk, if_neg (fun c => c.elim (nIn (by omega) (by decide) (by omega)) (nIn (by omega) (by decide) (by omega)))]
      cases v e <;> decide +kernel
theorem bI_sm (b : Bool) : sm8 (bI b) := by
  cases b
  · exact ⟨0, rfl⟩
  · exact ⟨1, rfl⟩
theorem bI_le8 {a b : Bool} (h : a = true → b = true) : le8 (bI a) (bI b) := by
  cases a
  · exact le8.z (bI_sm b)
  · rw [h rfl]
    exact le8.rf (bI_sm true)
theorem ref_G {rl : Nat → Option Ex} {zs : Nat → Nat} {H : Nat → Nat → Int32} (h : RFL rl zs H) {f g O : Nat → Int32} (hO : ∀ (r : Nat) (t : Ex) (i : Nat) (e : Ex), r < 6 → rl r = some t → (po t)[i]? = some e → f (64 * r + i) = oE O e) (hf : FXP (FG H f) zs g) : LSG rl O (rtG zs g) ∧ ∀ (r : Nat) (t : Ex) (i : Nat) (e : Ex), r < 6 → rl r = some t → (po t)[i]? = some e → g (64 * r + i) = bI (gE O (rtG zs g) e) := by
  obtain ⟨⟨i1, i2, i3⟩, i4⟩ := hf
  have val : ∀ r t, r < 6 → rl r = some t → ∀ n e i, sz e ≤ n → (po t)[i]? = some e → g (64 * r + i) = bI (gE O (rtG zs g) e) := fun r t hr ht n => by
    obtain ⟨wt, hz, h63, hN⟩ := h.at hr ht
    induction n with
    | zero => intro e i hn he; have := sz_pos e (hN i e he).2.1; omega
    | succ n ih =>
      intro e i hn he
      obtain ⟨a, b, c⟩ := hN i e he
      rw [i4 r i hr (by omega), ← gE_st e b]
      exact NDE_stG h hr ht f g O (gE O (rtG zs g)) (fun j x hx => hO r t j x hr ht hx) e b i he (fun j x hx hlt => ih x j (by omega) hx)
  have vl : ∀ (r : Nat) (t : Ex) (i : Nat) (e : Ex), r < 6 → rl r = some t → (po t)[i]? = some e → g (64 * r + i) = bI (gE O (rtG zs g) e) := fun r t i e hr ht he => val r t hr ht (sz e) e i (Nat.le_refl _) he
  have root : ∀ r t, r < 6 → rl r = some t → 64 * r + zs r - 1 = 64 * r + (sz t - 1) ∧ (po t)[sz t - 1]? = some t ∧ ¬ zs r = 0 ∧ sz t ≤ 63 := fun r t hr ht => by
    obtain ⟨wt, hz, h63, hN⟩ := h.at hr ht
    have := sz_pos t wt
    exact ⟨by omega, po_last t wt, by omega, h63⟩
  refine ⟨⟨fun r t hr ht => ?_, fun F f2 r t hr ht hG => ?_⟩, vl⟩
  · obtain ⟨g1, g2, g3, g4⟩ := root r t hr ht
    have e1 := vl r t _ t hr ht g2
    generalize gE O (rtG zs g) t = b at e1
    unfold rtG
    rw [if_neg g3, g1, e1, bI_0, Bool.not_not]
  · obtain ⟨g1, g2, g3, g4⟩ := root r t hr ht
    have hle := i3 (aRR rl (fun e => bI (gE O F e))) (fun j hj => aRR_sm (fun r t i e ht hr he => bI_sm _) hj) (fun r k hr k1 k2 => ?_) (64 * r + (sz t - 1)) (by omega)
    · rw [aRR_at ht (by omega) g2] at hle
      unfold rtG at hG
      rw [if_neg g3, g1] at hG
      have hne : ¬ g (64 * r + (sz t - 1)) = 0 := fun e => by rw [e] at hG; cases hG
      exact f2 r t hr ht (bI_1.mp (le8_nz (i1 _ (by omega)) (bI_sm _) hle hne))
    · obtain ⟨i, rfl⟩ : ∃ i, k = 64 * r + i := ⟨k - 64 * r, by omega⟩
      cases hx : rl r with
      | none =>
        have := (h.no hr).mpr hx
        omega
      | some u =>
        obtain ⟨wu, hz, h63, hN⟩ := h.at hr hx
        obtain ⟨e, he⟩ := po_get wu (show i < sz u by omega)
        obtain ⟨a, we, c⟩ := hN i e he
        rw [aRR_at hx (by omega) he]
        show le8 (stG H (64 * r) (64 * r + i) f (aRR rl (fun e => bI (gE O F e)))) (bI (gE O F e))
        have hE : ∀ q, q < 6 → rtG zs (aRR rl (fun e => bI (gE O F e))) q = true → F q = true := fun q hq hc => by
          unfold rtG at hc
          split at hc
          · cases hc
          · rename_i z0
            cases hy : rl q with
            | none => exact absurd ((h.no hq).mpr hy) z0
            | some y =>
              obtain ⟨g1, g2, g3, g4⟩ := root q y hq hy
              rw [g1, aRR_at hy (by omega) g2, bI_0, Bool.not_not] at hc
              exact f2 q y hq hy hc
        rw [NDE_stG h hr hx f (aRR rl (fun e => bI (gE O F e))) O (gE O F) (fun j x hx2 => hO r u j x hr hx hx2) e we i he (fun j z hz _ => aRR_at hx (by have := (hN j z hz).1; omega) hz)]
        refine bI_le8 ?_
        exact ast_ind (P := fun e => stEG O (rtG zs (aRR rl (fun e => bI (gE O F e)))) (gE O F) e = true → gE O F e = true) (fun _ _ _ _ _ => rfl) (fun q hq c => hE q hq c) (fun m x y g1 g2 wx wy _ _ c => c) (fun k x g1 g2 wx _ c => c) e we
