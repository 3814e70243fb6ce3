/-! Least solutions over the rules rl; there is one only; and an order of the rules in which a good grammar works. -/
def LSO (rl : Nat → Option Ex) (O : Nat → Int32) : Prop := (∀ r, r < 6 → sm8 (O r)) ∧ (∀ r t, r < 6 → rl r = some t → O r = oE O t) ∧ ∀ F : Nat → Int32, (∀ r, r < 6 → sm8 (F r)) → (∀ r t, r < 6 → rl r = some t → le8 (oE F t) (F r)) → ∀ r t, r < 6 → rl r = some t → le8 (O r) (F r)
def LSG (rl : Nat → Option Ex) (O : Nat → Int32) (G : Nat → Bool) : Prop := (∀ r t, r < 6 → rl r = some t → G r = gE O G t) ∧ ∀ F : Nat → Bool, (∀ r t, r < 6 → rl r = some t → gE O F t = true → F r = true) → ∀ r t, r < 6 → rl r = some t → G r = true → F r = true
def CRL (rl : Nat → Option Ex) : Prop := ∀ r t, r < 6 → rl r = some t → wf t ∧ RP (fun q => ∃ u, rl q = some u) t
theorem LSO.uniq {rl : Nat → Option Ex} {O O' : Nat → Int32} (h : LSO rl O) (h' : LSO rl O') {r : Nat} {t : Ex} (hr : r < 6) (ht : rl r = some t) : O r = O' r :=
  le8.anti (h.1 r hr) (h'.1 r hr) (h.2.2 O' h'.1 (fun q u hq hu => by rw [← h'.2.1 q u hq hu]; exact le8.rf (h'.1 q hq)) r t hr ht) (h'.2.2 O h.1 (fun q u hq hu => by rw [← h.2.1 q u hq hu]; exact le8.rf (h.1 q hq)) r t hr ht)
theorem LSO.eqE {rl : Nat → Option Ex} {O O' : Nat → Int32} (h : LSO rl O) (h' : LSO rl O') {e : Ex} (we : wf e) (hp : RP (fun q => ∃ u, rl q = some u) e) : oE O e = oE O' e :=
  oE_cg e we (RP.mono (fun q hq ⟨u, hu⟩ => h.uniq h' hq hu) e we hp)
theorem LSO.eqG {rl : Nat → Option Ex} {O O' : Nat → Int32} (h : LSO rl O) (h' : LSO rl O') (G : Nat → Bool) {e : Ex} (we : wf e) (hp : RP (fun q => ∃ u, rl q = some u) e) : gE O G e = gE O' G e :=
  gE_cg e we (RP.mono (fun q hq ⟨u, hu⟩ => ⟨h.uniq h' hq hu, rfl⟩) e we hp)
theorem LSG.chg {rl : Nat → Option Ex} {O O' : Nat → Int32} {G : Nat → Bool} (hc : CRL rl) (h : LSO rl O) (h' : LSO rl O') (hg : LSG rl O G) : LSG rl O' G :=
  ⟨fun r t hr ht => (hg.1 r t hr ht).trans (h.eqG h' G (hc r t hr ht).1 (hc r t hr ht).2), fun F hF r t hr ht => hg.2 F (fun q u hq hu e => hF q u hq hu (by rw [← h.eqG h' F (hc q u hq hu).1 (hc q u hq hu).2]; exact e)) r t hr ht⟩
theorem LSG.uniq {rl : Nat → Option Ex} {O : Nat → Int32} {G G' : Nat → Bool} (h : LSG rl O G) (h' : LSG rl O G') {r : Nat} {t : Ex} (hr : r < 6) (ht : rl r = some t) : G r = G' r := by
  have a := h.2 G' (fun q u hq hu e => by rw [h'.1 q u hq hu]; exact e) r t hr ht
  have b := h'.2 G (fun q u hq hu e => by rw [h.1 q u hq hu]; exact e) r t hr ht
  cases h1 : G r <;> cases h2 : G' r
  · rfl
  · rw [b h2] at h1; cases h1
  · rw [a h1] at h2; cases h2
  · rfl
theorem LSG.eqE {rl : Nat → Option Ex} {O : Nat → Int32} {G G' : Nat → Bool} (h : LSG rl O G) (h' : LSG rl O G') {e : Ex} (we : wf e) (hp : RP (fun q => ∃ u, rl q = some u) e) : gE O G e = gE O G' e :=
  gE_cg e we (RP.mono (fun q hq ⟨u, hu⟩ => ⟨rfl, h.uniq h' hq hu⟩) e we hp)
/-! the order -/
def GIt (rl : Nat → Option Ex) (O : Nat → Int32) : Nat → Nat → Bool
  | 0, _ => false
  | i + 1, r => match rl r with
    | none => false
    | some t => gE O (GIt rl O i) t
theorem GIt_s {rl : Nat → Option Ex} {O : Nat → Int32} (hc : CRL rl) : ∀ i r, r < 6 → GIt rl O i r = true → GIt rl O (i + 1) r = true
  | 0, r, _, h => by cases h
  | i + 1, r, hr, h => by
    unfold GIt at h ⊢
    cases ht : rl r with
    | none => rw [ht] at h; cases h
    | some t =>
      rw [ht] at h
      exact gE_mono (P := fun _ => True) (fun q hq _ => GIt_s hc i q hq) t (hc r t hr ht).1 (RP_all (fun _ _ => trivial) t (hc r t hr ht).1) h
theorem GIt_m {rl : Nat → Option Ex} {O : Nat → Int32} (hc : CRL rl) (i : Nat) : ∀ k r, r < 6 → GIt rl O i r = true → GIt rl O (i + k) r = true
  | 0, _, _, h => h
  | k + 1, r, hr, h => GIt_s hc (i + k) r hr (GIt_m hc i k r hr h)
noncomputable def GWb (rl : Nat → Option Ex) (O : Nat → Int32) (q : Nat) : Bool := @decide (∃ i, GIt rl O i q = true) (Classical.propDecidable _)
theorem GWb_i {rl : Nat → Option Ex} {O : Nat → Int32} {q : Nat} : GWb rl O q = true ↔ ∃ i, GIt rl O i q = true := by
  unfold GWb
  exact @decide_eq_true_iff _ (Classical.propDecidable _)
theorem GIt_E {rl : Nat → Option Ex} {O : Nat → Int32} (hc : CRL rl) {i j : Nat} (hij : i ≤ j) {t : Ex} (wt : wf t) (h : gE O (GIt rl O i) t = true) : gE O (GIt rl O j) t = true := by
  obtain ⟨k, rfl⟩ := Nat.exists_eq_add_of_le hij
  exact gE_mono (P := fun _ => True) (fun q hq _ => GIt_m hc i k q hq) t wt (RP_all (fun _ _ => trivial) t wt) h
theorem gE_ex {rl : Nat → Option Ex} {O : Nat → Int32} (hc : CRL rl) : ∀ t, wf t → gE O (GWb rl O) t = true → ∃ i, gE O (GIt rl O i) t = true := by
  refine ast_ind (fun _ _ _ _ _ => ⟨0, rfl⟩) (fun r _ h => GWb_i.mp h) (fun m a b _ _ wa wb ha hb => ?_) (fun k e _ _ we he => ?_)
  · show (if m < 2 then gE O (GWb rl O) a && (oE O a &&& nI 1 == 0 || gE O (GWb rl O) b) else gE O (GWb rl O) a && gE O (GWb rl O) b) = true → ∃ i, (if m < 2 then gE O (GIt rl O i) a && (oE O a &&& nI 1 == 0 || gE O (GIt rl O i) b) else gE O (GIt rl O i) a && gE O (GIt rl O i) b) = true
    by_cases hm : m < 2
    · simp only [if_pos hm]
      intro h
      rw [Bool.and_eq_true, Bool.or_eq_true] at h
      obtain ⟨i, hi⟩ := ha h.1
      rcases h.2 with g | g
      · exact ⟨i, by rw [hi, g]; rfl⟩
      · obtain ⟨j, hj⟩ := hb g
        exact ⟨max i j, by rw [GIt_E hc (Nat.le_max_left i j) wa hi, GIt_E hc (Nat.le_max_right i j) wb hj, Bool.or_true]; rfl⟩
    · simp only [if_neg hm]
      intro h
      rw [Bool.and_eq_true] at h
      obtain ⟨i, hi⟩ := ha h.1
      obtain ⟨j, hj⟩ := hb h.2
      exact ⟨max i j, by rw [GIt_E hc (Nat.le_max_left i j) wa hi, GIt_E hc (Nat.le_max_right i j) wb hj]; rfl⟩
  · show (if k = 4 ∨ k = 5 then gE O (GWb rl O) e && (oE O e &&& nI 1 == 0) else gE O (GWb rl O) e) = true → ∃ i, (if k = 4 ∨ k = 5 then gE O (GIt rl O i) e && (oE O e &&& nI 1 == 0) else gE O (GIt rl O i) e) = true
    by_cases hk : k = 4 ∨ k = 5
    · simp only [if_pos hk]
      intro h
      rw [Bool.and_eq_true] at h
      obtain ⟨i, hi⟩ := he h.1
      exact ⟨i, by rw [hi, h.2]; rfl⟩
    · simp only [if_neg hk]
      exact he
theorem nat_min {P : Nat → Prop} (h : ∃ i, P i) : ∃ i, P i ∧ ∀ j, P j → i ≤ j := by
  obtain ⟨i, hi⟩ := h
  induction i using Nat.strongRecOn with
  | _ i ih =>
    by_cases hx : ∃ j, j < i ∧ P j
    · obtain ⟨j, hj, hp⟩ := hx
      exact ih j hj hp
    · refine ⟨i, hi, fun j hj => ?_⟩
      rcases Nat.lt_or_ge j i with g | g
      · exact absurd ⟨j, g, hj⟩ hx
      · exact g
theorem rank_ex {rl : Nat → Option Ex} {O : Nat → Int32} {G : Nat → Bool} (hc : CRL rl) (hg : LSG rl O G) (hall : ∀ r t, r < 6 → rl r = some t → G r = true) : ∃ rk : Nat → Nat, ∀ r t, r < 6 → rl r = some t → gE O (fun q => decide (rk q < rk r)) t = true := by
  have hw : ∀ r t, r < 6 → rl r = some t → ∃ i, GIt rl O i r = true := fun r t hr ht => by
    refine GWb_i.mp (hg.2 (GWb rl O) (fun q u hq hu hx => ?_) r t hr ht (hall r t hr ht))
    obtain ⟨i, hi⟩ := gE_ex hc u (hc q u hq hu).1 hx
    refine GWb_i.mpr ⟨i + 1, ?_⟩
    unfold GIt
    rw [hu]
    exact hi
  have hk : ∀ q, ∃ k, (∀ j, GIt rl O j q = true → k ≤ j) ∧ ((∃ j, GIt rl O j q = true) → GIt rl O k q = true) := fun q => by
    by_cases hx : ∃ j, GIt rl O j q = true
    · obtain ⟨i, h1, h2⟩ := nat_min hx
      exact ⟨i, h2, fun _ => h1⟩
    · exact ⟨0, fun j hj => absurd ⟨j, hj⟩ hx, fun h => absurd h hx⟩
  obtain ⟨rk, hrk⟩ := Classical.axiomOfChoice hk
  refine ⟨rk, fun r t hr ht => ?_⟩
  have h1 := (hrk r).2 (hw r t hr ht)
  cases hx : rk r with
  | zero => rw [hx] at h1; cases h1
  | succ j =>
    rw [hx] at h1
    unfold GIt at h1
    rw [ht] at h1
    exact gE_mono (P := fun _ => True) (fun q hq _ hq2 => decide_eq_true (Nat.lt_succ_of_le ((hrk q).1 j hq2))) t (hc r t hr ht).1 (RP_all (fun _ _ => trivial) t (hc r t hr ht).1) h1
