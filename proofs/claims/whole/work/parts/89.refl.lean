/-! The reference's findings are the least solution. -/
def po : Ex → List Ex
  | .tag lo (.tag hi .nil) => [.tag lo (.tag hi .nil)]
  | .tag r .line => [.tag r .line]
  | .tag m (.append a b) => po a ++ (po b ++ [.tag m (.append a b)])
  | .tag k (.nest i e) => po e ++ [.tag k (.nest i e)]
  | _ => []
theorem po_len : ∀ t, wf t → (po t).length = sz t :=
  ast_ind (fun _ _ _ _ => rfl) (fun _ _ => rfl) (fun m a b _ _ _ _ ha hb => by
    show (po a ++ (po b ++ [xB m a b])).length = sz a + sz b + 1
    simp only [List.length_append, List.length_cons, List.length_nil, ha, hb]
    omega) (fun k e _ _ _ he => by
    show (po e ++ [xS k e]).length = sz e + 1
    simp only [List.length_append, List.length_cons, List.length_nil, he])
theorem po_last : ∀ t, wf t → (po t)[sz t - 1]? = some t :=
  ast_ind (fun _ _ _ _ => rfl) (fun _ _ => rfl) (fun m a b _ _ wa wb _ _ => by
    show (po a ++ (po b ++ [xB m a b]))[sz a + sz b + 1 - 1]? = _
    rw [List.getElem?_append_right (by rw [po_len a wa]; omega), List.getElem?_append_right (by rw [po_len a wa, po_len b wb]; omega), po_len a wa, po_len b wb, show sz a + sz b + 1 - 1 - sz a - sz b = 0 by omega]
    rfl) (fun k e _ _ we _ => by
    show (po e ++ [xS k e])[sz e + 1 - 1]? = _
    rw [List.getElem?_append_right (by rw [po_len e we]; omega), po_len e we, show sz e + 1 - 1 - sz e = 0 by omega]
    rfl)
/-- what stands in the block for the expression e; T: the expressions of the block's places -/
def NDE (H : Nat → Nat → Int32) (T : List Ex) (k : Nat) : Ex → Prop
  | .tag _ (.tag _ .nil) => H 5 k = nI 0
  | .tag r .line => H 5 k = nI 1 ∧ H 6 k = nI r
  | .tag m (.append a b) => H 5 k = nI (2 + m / 2) ∧ ∃ f g, f < 64 ∧ g < 64 ∧ H 6 k = nI f ∧ H 7 k = nI g ∧ T[f]? = some a ∧ T[g]? = some b
  | .tag j (.nest _ e) => H 5 k = nI j ∧ H 7 k = nI 0 ∧ ∃ f, f < 64 ∧ H 6 k = nI f ∧ T[f]? = some e
  | _ => False
theorem enc_po {H : Nat → Nat → Int32} {B : Nat} {T : List Ex} : ∀ t, wf t → ∀ o dp, enc H B t o dp → o + sz t ≤ 64 → (∀ i, i < sz t → T[o + i]? = (po t)[i]?) → ∀ i e, i < sz t → T[o + i]? = some e → wf e ∧ NDE H T (B + (o + i)) e := by
  refine ast_ind (fun lo hi h1 h2 o dp h h64 hT i e hi he => ?_) (fun r hr o dp h h64 hT i e hi he => ?_) (fun m a b h1 h2 wa wb ha hb o dp h h64 hT i e hi he => ?_) (fun k x h4 h8 wx hx o dp h h64 hT i e hi he => ?_)
  · have hi0 : i = 0 := by have : i < 1 := hi; omega
    subst hi0
    rw [hT 0 hi] at he
    cases he
    exact ⟨⟨h1, h2⟩, h.1⟩
  · have hi0 : i = 0 := by have : i < 1 := hi; omega
    subst hi0
    rw [hT 0 hi] at he
    cases he
    exact ⟨hr, h.1, h.2.1⟩
  · have hs : sz (xB m a b) = sz a + sz b + 1 := rfl
    rw [hs] at hT hi h64
    obtain ⟨e1, e2, e3, e4, e5⟩ := h
    have pa := sz_pos a wa
    have pb := sz_pos b wb
    have la := po_len a wa
    have lb := po_len b wb
    have hTa : ∀ i, i < sz a → T[o + i]? = (po a)[i]? := fun i hi => by
      rw [hT i (by omega)]
      exact List.getElem?_append_left (by omega)
    have hTb : ∀ i, i < sz b → T[o + sz a + i]? = (po b)[i]? := fun i hi => by
      rw [Nat.add_assoc, hT (sz a + i) (by omega)]
      show (po a ++ (po b ++ [xB m a b]))[sz a + i]? = _
      rw [List.getElem?_append_right (by omega), la, Nat.add_sub_cancel_left, List.getElem?_append_left (by omega)]
    by_cases c1 : i < sz a
    · exact ha o (dp + 1) e1 (by omega) hTa i e c1 he
    · by_cases c2 : i < sz a + sz b
      · have := hb (o + sz a) _ e2 (by omega) hTb (i - sz a) e (by omega) (by rw [show o + sz a + (i - sz a) = o + i by omega]; exact he)
        rw [show o + sz a + (i - sz a) = o + i by omega] at this
        exact this
      · have hi2 : i = sz a + sz b := by omega
        subst hi2
        have hl := po_last (xB m a b) ⟨h1, h2, wa, wb⟩
        rw [hs, show sz a + sz b + 1 - 1 = sz a + sz b by omega] at hl
        rw [hT _ hi, hl] at he
        cases he
        refine ⟨⟨h1, h2, wa, wb⟩, ?_, o + sz a - 1, o + sz a + sz b - 1, by omega, by omega, ?_, ?_, ?_, ?_⟩
        · rw [← Nat.add_assoc o]; exact e3
        · rw [← Nat.add_assoc o]; exact e4
        · rw [← Nat.add_assoc o]; exact e5
        · rw [show o + sz a - 1 = o + (sz a - 1) by omega, hTa _ (by omega)]
          exact po_last a wa
        · rw [show o + sz a + sz b - 1 = o + sz a + (sz b - 1) by omega, hTb _ (by omega)]
          exact po_last b wb
  · have hs : sz (xS k x) = sz x + 1 := rfl
    rw [hs] at hT hi h64
    obtain ⟨e1, e3, e4, e5⟩ := h
    have px := sz_pos x wx
    have lx := po_len x wx
    have hTa : ∀ i, i < sz x → T[o + i]? = (po x)[i]? := fun i hi => by
      rw [hT i (by omega)]
      exact List.getElem?_append_left (by omega)
    by_cases c1 : i < sz x
    · exact hx o (dp + 1) e1 (by omega) hTa i e c1 he
    · have hi2 : i = sz x := by omega
      subst hi2
      have hl := po_last (xS k x) ⟨rfl, h4, h8, wx⟩
      rw [hs, show sz x + 1 - 1 = sz x by omega] at hl
      rw [hT _ hi, hl] at he
      cases he
      refine ⟨⟨rfl, h4, h8, wx⟩, e3, e5, o + sz x - 1, by omega, e4, ?_⟩
      rw [show o + sz x - 1 = o + (sz x - 1) by omega, hTa _ (by omega)]
      exact po_last x wx
/-- the rules rl stand in the reference's blocks -/
def RFL (rl : Nat → Option Ex) (zs : Nat → Nat) (H : Nat → Nat → Int32) : Prop := ∀ r, r < 6 → H 10 r = nI (zs r) ∧ match rl r with
  | none => zs r = 0
  | some t => wf t ∧ zs r = sz t ∧ sz t ≤ 63 ∧ enc H (64 * r) t 0 0
theorem RFL.at {rl : Nat → Option Ex} {zs : Nat → Nat} {H : Nat → Nat → Int32} (h : RFL rl zs H) {r : Nat} {t : Ex} (hr : r < 6) (ht : rl r = some t) : wf t ∧ zs r = sz t ∧ sz t ≤ 63 ∧ ∀ i e, (po t)[i]? = some e → i < sz t ∧ wf e ∧ NDE H (po t) (64 * r + i) e := by
  have h1 := (h r hr).2
  rw [ht] at h1
  obtain ⟨a, b, c, d⟩ := h1
  refine ⟨a, b, c, fun i e he => ?_⟩
  have hi : i < sz t := by
    rcases Nat.lt_or_ge i (sz t) with g | g
    · exact g
    · rw [List.getElem?_eq_none (by rw [po_len t a]; exact g)] at he
      cases he
  have := enc_po (T := po t) t a 0 0 d (by omega) (fun i _ => by rw [Nat.zero_add]) i e hi (by rw [Nat.zero_add]; exact he)
  rw [Nat.zero_add] at this
  exact ⟨hi, this⟩
theorem RFL.no {rl : Nat → Option Ex} {zs : Nat → Nat} {H : Nat → Nat → Int32} (h : RFL rl zs H) {r : Nat} (hr : r < 6) : zs r = 0 ↔ rl r = none := by
  have h1 := (h r hr).2
  cases ht : rl r with
  | none => rw [ht] at h1; exact ⟨fun _ => rfl, fun _ => h1⟩
  | some t =>
    rw [ht] at h1
    have := sz_pos t h1.1
    exact ⟨fun e => by have := h1.2.1; omega, fun e => by cases e⟩
theorem po_get {t : Ex} (wt : wf t) {i : Nat} (hi : i < sz t) : ∃ e, (po t)[i]? = some e := by
  rw [← po_len t wt] at hi
  exact ⟨(po t)[i], List.getElem?_eq_getElem hi⟩
theorem NDE_nodM {H : Nat → Nat → Int32} {T : List Ex} {k : Nat} : ∀ e, wf e → NDE H T k e → nodM H k :=
  ast_ind (fun _ _ _ _ h => Or.inl h) (fun r hr h => Or.inr (Or.inl ⟨r, hr, h.1, h.2⟩)) (fun m a b hm _ _ _ _ _ h => by
    obtain ⟨h1, f, g, h2, h3, h4, h5, -⟩ := h
    exact Or.inr (Or.inr ⟨2 + m / 2, f, g, by omega, by omega, h2, h3, h1, h4, h5⟩)) (fun j e h4 h8 _ _ h => by
    obtain ⟨h1, h0, f, h2, h3, -⟩ := h
    exact Or.inr (Or.inr ⟨j, f, 0, by omega, h8, h2, by decide, h1, h3, h0⟩))
theorem RFL.GM {rl : Nat → Option Ex} {zs : Nat → Nat} {H : Nat → Nat → Int32} (h : RFL rl zs H) : GM zs H := fun r hr => by
  have h1 := h r hr
  cases ht : rl r with
  | none =>
    rw [ht] at h1
    have e : zs r = 0 := h1.2
    exact ⟨h1.1, by omega, fun i hi => by omega⟩
  | some t =>
    obtain ⟨a, b, c, d⟩ := h.at hr ht
    refine ⟨h1.1, by omega, fun i hi => ?_⟩
    obtain ⟨e, he⟩ := po_get a (show i < sz t by omega)
    obtain ⟨-, x, y⟩ := d i e he
    exact NDE_nodM e x y
theorem lst_lt {α : Type} {T : List α} {i : Nat} {e : α} (h : T[i]? = some e) : i < T.length := by
  rcases Nat.lt_or_ge i T.length with g | g
  · exact g
  · rw [List.getElem?_eq_none g] at h
    cases h
def rtO (zs : Nat → Nat) (f : Nat → Int32) (q : Nat) : Int32 := if zs q = 0 then nI 0 else f (64 * q + zs q - 1)
/-- the step at a node, from what stands in it -/
def stE (E : Nat → Int32) (v : Ex → Int32) : Ex → Int32
  | .tag _ (.tag _ .nil) => nI 6
  | .tag r .line => E r
  | .tag m (.append a b) => if m < 2 then mrI (v a) (v b) else mcI (v a) (v b)
  | .tag k (.nest _ e) => msI k (v e)
  | _ => nI 0
theorem oE_st {E : Nat → Int32} : ∀ e, wf e → stE E (oE E) e = oE E e := ast_ind (fun _ _ _ _ => rfl) (fun _ _ => rfl) (fun _ _ _ _ _ _ _ _ _ => rfl) (fun _ _ _ _ _ _ => rfl)
theorem NDE_stO {rl : Nat → Option Ex} {zs : Nat → Nat} {H : Nat → Nat → Int32} (h : RFL rl zs H) {r : Nat} {t : Ex} (hr : r < 6) (ht : rl r = some t) (f : Nat → Int32) (v : Ex → Int32) : ∀ e, wf e → ∀ i, (po t)[i]? = some e → (∀ j x, (po t)[j]? = some x → sz x < sz e → f (64 * r + j) = v x) → stO H (64 * r) (64 * r + i) f = stE (rtO zs f) v e := by
  obtain ⟨wt, hz, h63, hN⟩ := h.at hr ht
  refine ast_ind (fun lo hi _ _ i hi2 hf => ?_) (fun q hq i hi2 hf => ?_) (fun m a b hm _ wa wb _ _ i hi2 hf => ?_) (fun k e h4 h8 we _ i hi2 hf => ?_)
  · have h1 : H 5 (64 * r + i) = nI 0 := (hN i _ hi2).2.2
    unfold stO
    rw [if_pos h1]
    rfl
  · obtain ⟨h1, h2⟩ : H 5 (64 * r + i) = nI 1 ∧ H 6 (64 * r + i) = nI q := (hN i _ hi2).2.2
    unfold stO
    have hq9 := (h.GM q hq).2.1
    rw [h1, if_neg (nIn (by decide) (by decide) (by decide)), if_pos rfl, h2, zN_nI (by omega), (h q hq).1, zN_nI (by omega)]
    show _ = rtO zs f q
    unfold rtO
    by_cases z0 : zs q = 0
    · rw [z0, if_pos rfl, if_pos rfl]
    · rw [if_neg (nIn (by omega) (by decide) z0), if_neg z0]
  · obtain ⟨h1, f1, g1, h2, h3, h5, h6, h7, h8⟩ : H 5 (64 * r + i) = nI (2 + m / 2) ∧ ∃ f g, f < 64 ∧ g < 64 ∧ H 6 (64 * r + i) = nI f ∧ H 7 (64 * r + i) = nI g ∧ (po t)[f]? = some a ∧ (po t)[g]? = some b := (hN i _ hi2).2.2
    have sa := sz_pos a wa
    have sb := sz_pos b wb
    have hsz : sz (xB m a b) = sz a + sz b + 1 := rfl
    have va := hf f1 a h7 (by omega)
    have vb := hf g1 b h8 (by omega)
    show _ = if m < 2 then mrI (v a) (v b) else mcI (v a) (v b)
    unfold stO
    rw [h1, h5, h6, zN_nI (by omega), zN_nI (by omega), va, vb, if_neg (nIn (by omega) (by decide) (by omega)), if_neg (nIn (by omega) (by decide) (by omega))]
    by_cases hmm : m < 2
    · rw [if_pos hmm, show 2 + m / 2 = 2 by omega, if_pos rfl]
    · rw [if_neg hmm, show 2 + m / 2 = 3 by omega, if_neg (nIn (by decide) (by decide) (by decide)), if_pos rfl]
  · obtain ⟨h1, -, f1, h2, h5, h7⟩ : H 5 (64 * r + i) = nI k ∧ H 7 (64 * r + i) = nI 0 ∧ ∃ f, f < 64 ∧ H 6 (64 * r + i) = nI f ∧ (po t)[f]? = some e := (hN i _ hi2).2.2
    have hsz : sz (xS k e) = sz e + 1 := rfl
    have va := hf f1 e h7 (by omega)
    show _ = msI k (v e)
    unfold stO
    rw [h1, h5, zN_nI (by omega), zN_nI (by omega), va, if_neg (nIn (by omega) (by decide) (by omega)), if_neg (nIn (by omega) (by decide) (by omega)), if_neg (nIn (by omega) (by decide) (by omega)), if_neg (nIn (by omega) (by decide) (by omega))]
/-- an array of what a function of expressions gives at each place -/
def aRR (rl : Nat → Option Ex) (v : Ex → Int32) (k : Nat) : Int32 := match rl (k / 64) with
  | none => nI 0
  | some t => match (po t)[k % 64]? with
    | none => nI 0
    | some e => v e
theorem aRR_at {rl : Nat → Option Ex} {v : Ex → Int32} {r i : Nat} {t e : Ex} (ht : rl r = some t) (hi : i < 64) (he : (po t)[i]? = some e) : aRR rl v (64 * r + i) = v e := by
  unfold aRR
  rw [show (64 * r + i) / 64 = r by omega, ht, show (64 * r + i) % 64 = i by omega]
  show (match (po t)[i]? with | none => nI 0 | some e => v e) = v e
  rw [he]
theorem aRR_sm {rl : Nat → Option Ex} {v : Ex → Int32} (h : ∀ (r : Nat) (t : Ex) (i : Nat) (e : Ex), rl r = some t → r < 6 → (po t)[i]? = some e → sm8 (v e)) {j : Nat} (hj : j < 384) : sm8 (aRR rl v j) := by
  unfold aRR
  cases ht : rl (j / 64) with
  | none => exact ⟨0, rfl⟩
  | some t =>
    show sm8 (match (po t)[j % 64]? with | none => nI 0 | some e => v e)
    cases he : (po t)[j % 64]? with
    | none => exact ⟨0, rfl⟩
    | some e => exact h _ t _ e ht (by omega) he
theorem ref_O {rl : Nat → Option Ex} {zs : Nat → Nat} {H : Nat → Nat → Int32} (h : RFL rl zs H) {f : Nat → Int32} (hf : FXP (FO H) zs f) : LSO rl (rtO zs f) ∧ ∀ r t i e, r < 6 → rl r = some t → (po t)[i]? = some e → f (64 * r + i) = oE (rtO zs f) e := by
  obtain ⟨⟨i1, i2, i3⟩, i4⟩ := hf
  have val : ∀ r t, r < 6 → rl r = some t → ∀ n e i, sz e ≤ n → (po t)[i]? = some e → f (64 * r + i) = oE (rtO zs f) e := fun r t hr ht n => by
    obtain ⟨wt, hz, h63, hN⟩ := h.at hr ht
    induction n with
    | zero => intro e i hn he; have := sz_pos e (hN i e he).2.1; omega
    | succ n ih =>
      intro e i hn he
      obtain ⟨a, b, c⟩ := hN i e he
      rw [i4 r i hr (by omega)]
      rw [← oE_st e b]
      exact NDE_stO h hr ht f (oE (rtO zs f)) e b i he (fun j x hx hlt => ih x j (by omega) hx)
  have vl : ∀ r t i e, r < 6 → rl r = some t → (po t)[i]? = some e → f (64 * r + i) = oE (rtO zs f) e := fun r t i e hr ht he => val r t hr ht (sz e) e i (Nat.le_refl _) he
  have root : ∀ r t, r < 6 → rl r = some t → 64 * r + zs r - 1 = 64 * r + (sz t - 1) ∧ (po t)[sz t - 1]? = some t ∧ ¬ zs r = 0 ∧ sz t ≤ 63 := fun r t hr ht => by
    obtain ⟨wt, hz, h63, hN⟩ := h.at hr ht
    have := sz_pos t wt
    exact ⟨by omega, po_last t wt, by omega, h63⟩
  refine ⟨⟨fun r hr => ?_, fun r t hr ht => ?_, fun F f1 f2 r t hr ht => ?_⟩, vl⟩
  · unfold rtO
    split
    · exact ⟨0, rfl⟩
    · have := (h.GM r hr).2.1
      exact i1 _ (by omega)
  · obtain ⟨g1, g2, g3, g4⟩ := root r t hr ht
    show rtO zs f r = _
    unfold rtO
    rw [if_neg g3, g1]
    exact vl r t _ t hr ht g2
  · obtain ⟨g1, g2, g3, g4⟩ := root r t hr ht
    have hle := i3 (aRR rl (oE F)) (fun j hj => aRR_sm (fun r t i e ht hr he => oE_sm f1 e ((h.at hr ht).2.2.2 i e he).2.1) hj) (fun r k hr k1 k2 => ?_) (64 * r + (sz t - 1)) (by omega)
    · rw [aRR_at ht (by omega) g2] at hle
      unfold rtO
      rw [if_neg g3, g1]
      exact hle.tr (i1 _ (by omega)) (oE_sm f1 t (h.at hr ht).1) (f1 r hr) (f2 r t hr ht)
    · obtain ⟨i, rfl⟩ : ∃ i, k = 64 * r + i := ⟨k - 64 * r, by omega⟩
      cases hx : rl r with
      | none =>
        have := (h.no hr).mpr hx
        omega
      | some u =>
        obtain ⟨wu, hz, h63, hN⟩ := h.at hr hx
        obtain ⟨e, he⟩ := po_get wu (show i < sz u by omega)
        obtain ⟨a, we, c⟩ := hN i e he
        rw [aRR_at hx (by omega) he]
        show le8 (stO H (64 * r) (64 * r + i) (aRR rl (oE F))) (oE F e)
        have hE : ∀ q, q < 6 → le8 (rtO zs (aRR rl (oE F)) q) (F q) ∧ sm8 (rtO zs (aRR rl (oE F)) q) := fun q hq => by
          unfold rtO
          split
          · exact ⟨le8.z (f1 q hq), ⟨0, rfl⟩⟩
          · rename_i z0
            cases hy : rl q with
            | none => exact absurd ((h.no hq).mpr hy) z0
            | some y =>
              obtain ⟨g1, g2, g3, g4⟩ := root q y hq hy
              rw [g1, aRR_at hy (by omega) g2]
              exact ⟨f2 q y hq hy, oE_sm f1 y (h.at hq hy).1⟩
        rw [NDE_stO h hr hx (aRR rl (oE F)) (oE F) e we i he (fun j z hz _ => aRR_at hx (by have := (hN j z hz).1; omega) hz)]
        exact ast_ind (P := fun e => le8 (stE (rtO zs (aRR rl (oE F))) (oE F) e) (oE F e)) (fun _ _ _ _ => le8.rf ⟨6, rfl⟩) (fun q hq => (hE q hq).1) (fun m x y g1 g2 wx wy _ _ => le8.rf (oE_sm f1 (xB m x y) ⟨g1, g2, wx, wy⟩)) (fun k x g1 g2 wx _ => le8.rf (oE_sm f1 (xS k x) ⟨rfl, g1, g2, wx⟩)) e we
