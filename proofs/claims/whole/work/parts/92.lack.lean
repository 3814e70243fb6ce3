/-! The search for a rule that is wanting. -/
theorem or_and32 (a b c : Int32) : (a ||| b) &&& c = (a &&& c) ||| (b &&& c) := by
  simp [← Int32.toBitVec_inj, BitVec.and_or_distrib_right]
def tb (b : Int32) (k : Nat) : Prop := ¬ b &&& (nI 1 <<< (nI k &&& 31)) = 0
theorem tb_or {a b : Int32} {k : Nat} : tb (a ||| b) k ↔ tb a k ∨ tb b k := by
  unfold tb
  rw [or_and32, Int32.or_eq_zero_iff]
  by_cases h : a &&& (nI 1 <<< (nI k &&& 31)) = 0
  · exact ⟨fun c => Or.inr (fun e => c ⟨h, e⟩), fun c e => c.elim (fun c => c h) (fun c => c e.2)⟩
  · exact ⟨fun _ => Or.inl h, fun _ e => h e.1⟩
theorem tb_bit6 : ∀ q k : Fin 6, (¬ (nI 1 <<< (nI q.val &&& 31)) &&& (nI 1 <<< (nI k.val &&& 31)) = 0) ↔ q = k := by decide +kernel
theorem tb_bit {q k : Nat} (hq : q < 6) (hk : k < 6) : tb (nI 1 <<< (nI q &&& 31)) k ↔ q = k :=
  (tb_bit6 ⟨q, hq⟩ ⟨k, hk⟩).trans ⟨fun e => congrArg Fin.val e, fun e => Fin.ext e⟩
theorem tb_0 {k : Nat} : ¬ tb 0 k := fun h => h (Int32.zero_and)
theorem rulF_tb {nd : Nat → Option ND} {k : Nat} : ∀ (qs : List Nat) (acc : Int32), tb (rulF nd qs acc) k ↔ tb acc k ∨ ∃ p ∈ qs, ∃ n, nd p = some n ∧ n.1 = nI 2 ∧ tb (nI 1 <<< (n.2.1 &&& 31)) k
  | [], acc => ⟨Or.inl, fun h => h.elim id (fun ⟨p, a, _⟩ => by cases a)⟩
  | q :: t, acc => by
    unfold rulF
    rw [rulF_tb t]
    cases hq : nd q with
    | none =>
      constructor
      · rintro (h | ⟨p, a, b⟩)
        · exact Or.inl h
        · exact Or.inr ⟨p, List.mem_cons_of_mem _ a, b⟩
      · rintro (h | ⟨p, a, n, hn, b⟩)
        · exact Or.inl h
        · rcases List.mem_cons.mp a with rfl | a
          · rw [hq] at hn; cases hn
          · exact Or.inr ⟨p, a, n, hn, b⟩
    | some n =>
      dsimp only
      by_cases h2 : n.1 = nI 2
      · rw [if_pos h2, tb_or]
        constructor
        · rintro ((h | h) | ⟨p, a, b⟩)
          · exact Or.inl h
          · exact Or.inr ⟨q, List.mem_cons_self, n, hq, h2, h⟩
          · exact Or.inr ⟨p, List.mem_cons_of_mem _ a, b⟩
        · rintro (h | ⟨p, a, n', hn, b⟩)
          · exact Or.inl (Or.inl h)
          · rcases List.mem_cons.mp a with rfl | a
            · cases hq.symm.trans hn
              exact Or.inl (Or.inr b.2)
            · exact Or.inr ⟨p, a, n', hn, b⟩
      · rw [if_neg h2]
        constructor
        · rintro (h | ⟨p, a, b⟩)
          · exact Or.inl h
          · exact Or.inr ⟨p, List.mem_cons_of_mem _ a, b⟩
        · rintro (h | ⟨p, a, n', hn, b⟩)
          · exact Or.inl h
          · rcases List.mem_cons.mp a with rfl | a
            · cases hq.symm.trans hn
              exact absurd b.1 h2
            · exact Or.inr ⟨p, a, n', hn, b⟩
theorem stF_tb {es : Nat → Option Nat} {ps : Nat → List Nat} {nd : Nat → Option ND} {k : Nat} : ∀ (n i : Nat) (b : Int32), tb (stF es ps nd n i b) k ↔ tb b k ∨ ∃ j, i ≤ j ∧ j < i + n ∧ es j ≠ none ∧ tb (rulF nd (ps j) 0) k
  | 0, i, b => ⟨Or.inl, fun h => h.elim id (fun ⟨j, a, c, _⟩ => by omega)⟩
  | n + 1, i, b => by
    unfold stF
    cases hes : es i with
    | none =>
      dsimp only
      rw [stF_tb n (i + 1) b]
      refine or_congr_right ⟨fun ⟨j, a, c, d⟩ => ⟨j, by omega, by omega, d⟩, fun ⟨j, a, c, d⟩ => ⟨j, ?_, by omega, d⟩⟩
      by_cases e : j = i
      · subst e; exact absurd hes d.1
      · omega
    | some x =>
      dsimp only
      rw [stF_tb n (i + 1), tb_or, or_assoc]
      refine or_congr_right ⟨fun h => ?_, fun ⟨j, a, c, d⟩ => ?_⟩
      · rcases h with h | ⟨j, a, c, d⟩
        · exact ⟨i, Nat.le_refl _, by omega, (by rw [hes]; exact fun c => by cases c), h⟩
        · exact ⟨j, by omega, by omega, d⟩
      · by_cases e : j = i
        · subst e; exact Or.inl d.2
        · exact Or.inr ⟨j, by omega, by omega, d⟩
theorem po_sn {k : Nat} : ∀ t, wf t → (xC k ∈ po t → xC k ∈ snE t) ∧ (∀ q, isB q t → xC k ∈ po t → xC k ∈ snL t) := by
  refine ast_ind (fun lo hi _ _ => ⟨fun h => h, fun q hq => hq.elim⟩) (fun r _ => ⟨fun h => h, fun q hq => hq.elim⟩) (fun m a b _ h2 wa wb ha hb => ?_) (fun j x _ _ _ hx => ⟨fun h => ?_, fun q hq => hq.elim⟩)
  · have HL : xC k ∈ po (xB m a b) → xC k ∈ snL (xB m a b) := fun h => by
      have h : xC k ∈ po a ++ (po b ++ [xB m a b]) := h
      show xC k ∈ snE a ++ (if m % 2 = 1 then snL b else snE b)
      rcases List.mem_append.mp h with g | g
      · exact List.mem_append_left _ (ha.1 g)
      · rcases List.mem_append.mp g with g | g
        · refine List.mem_append_right _ ?_
          by_cases hm : m % 2 = 1
          · rw [if_pos hm]; exact hb.2 _ (h2 hm) g
          · rw [if_neg hm]; exact hb.1 g
        · cases List.mem_singleton.mp g
    exact ⟨fun h => List.mem_append_left _ (HL h), fun q _ => HL⟩
  · have h : xC k ∈ po x ++ [xS j x] := h
    rcases List.mem_append.mp h with g | g
    · exact List.mem_append_left _ (hx.1 g)
    · cases List.mem_singleton.mp g
/-- the class's layouts, whether rules are wanting or not -/
def LYC (es : Nat → Option Nat) (rt : Nat → Nat) (ps : Nat → List Nat) (tt : Nat → Ex) (nd : Nat → Option ND) : Prop := ∀ r, r < 6 → es r ≠ none → layE nd (tt r) (ps r) (rt r) ∧ wf (tt r) ∧ sz (tt r) ≤ 63 ∧ (ps r).Nodup
theorem rul_occ {nd : Nat → Option ND} {t : Ex} {qs : List Nat} {p0 k : Nat} (wt : wf t) (hl : layE nd t qs p0) (hk : k < 6) : tb (rulF nd qs 0) k ↔ xC k ∈ po t := by
  obtain ⟨n1, n2⟩ := ((lay_NDS _ wt).1 _ _ hl).both
  rw [rulF_tb]
  constructor
  · rintro (h | ⟨p, hp, n, hn, hn2, hb⟩)
    · exact absurd h tb_0
    · obtain ⟨e, qe, e1, e2, e3, -⟩ := n1 p hp
      refine (sn_po t wt).1 _ ?_
      have : e = xC k := by
        revert e3
        refine ast_ind (P := fun e => layE nd e (qe ++ [p]) p → e = xC k) (fun lo hi _ _ h => ?_) (fun r hr h => ?_) (fun m a b _ _ _ _ _ _ h => ?_) (fun j x j4 j8 _ _ h => ?_) e e2
        · obtain ⟨-, n', g1, g2, -⟩ := h
          cases hn.symm.trans g1
          exact absurd (g2.symm.trans hn2) (nIn (by decide) (by decide) (by decide))
        · obtain ⟨-, n', g1, g2, g3⟩ := h
          cases hn.symm.trans g1
          rw [g3] at hb
          rw [(tb_bit hr hk).mp hb]
        · obtain ⟨ql, n', f, -, g1, g2, -⟩ := h
          cases hn.symm.trans g1
          exact absurd (g2.symm.trans hn2) (nIn (by omega) (by decide) (by omega))
        · obtain ⟨ql, n', f, -, g1, g2, -⟩ := h
          cases hn.symm.trans g1
          exact absurd (g2.symm.trans hn2) (nIn (by omega) (by decide) (by omega))
      rw [← this]
      exact e1
  · intro h
    obtain ⟨p, qe, p1, p2, p3, -⟩ := n2 _ ((po_sn t wt).1 h)
    obtain ⟨-, n', g1, g2, g3⟩ := p3
    exact Or.inr ⟨p, p1, n', g1, g2, by rw [g3]; exact (tb_bit hk hk).mpr rfl⟩
theorem lkV_min {H : Nat → Nat → Int32} {k : Nat} {S : Nat → Prop} {a : Option Nat} (h : isM S a) : isM (fun x => S x ∨ (H 5 k = nI 1 ∧ H 10 (zN (H 6 k)) = nI 0 ∧ x = zN (H 6 k))) (lkV H k a) := by
  unfold lkV
  by_cases hc : H 5 k = nI 1 ∧ H 10 (zN (H 6 k)) = nI 0
  · rw [if_pos hc]
    cases a with
    | none => exact ⟨fun x hx => by cases hx; exact ⟨Or.inr ⟨hc.1, hc.2, rfl⟩, fun y hy => hy.elim (fun c => absurd c (h.2 rfl y)) (fun c => by rw [c.2.2]; exact Nat.le_refl _)⟩, fun hn => by cases hn⟩
    | some z =>
      dsimp only
      obtain ⟨h1, h2⟩ := h.1 z rfl
      by_cases hlt : zN (H 6 k) < z
      · rw [if_pos hlt]
        exact ⟨fun x hx => by cases hx; exact ⟨Or.inr ⟨hc.1, hc.2, rfl⟩, fun y hy => hy.elim (fun c => by have := h2 y c; omega) (fun c => by rw [c.2.2]; exact Nat.le_refl _)⟩, fun hn => by cases hn⟩
      · rw [if_neg hlt]
        exact ⟨fun x hx => by cases hx; exact ⟨Or.inl h1, fun y hy => hy.elim (fun c => h2 y c) (fun c => by rw [c.2.2]; omega)⟩, fun hn => by cases hn⟩
  · rw [if_neg hc]
    exact h.iff (fun x => ⟨Or.inl, fun c => c.elim id (fun c => absurd ⟨c.1, c.2.1⟩ hc)⟩)
def lkW (H : Nat → Nat → Int32) (r j x : Nat) : Prop := H 5 (64 * r + j) = nI 1 ∧ H 10 (zN (H 6 (64 * r + j))) = nI 0 ∧ x = zN (H 6 (64 * r + j))
theorem lkK_min {H : Nat → Nat → Int32} {r : Nat} : ∀ (n i : Nat) (S : Nat → Prop) (a : Option Nat), isM S a → isM (fun x => S x ∨ ∃ j, i ≤ j ∧ j < i + n ∧ lkW H r j x) (lkK H r n i a)
  | 0, i, S, a, h => h.iff (fun x => ⟨Or.inl, fun c => c.elim id (fun ⟨j, a, b, _⟩ => by omega)⟩)
  | n + 1, i, S, a, h => by
    unfold lkK
    refine (lkK_min n (i + 1) _ _ (lkV_min (H := H) (k := 64 * r + i) h)).iff (fun x => ⟨?_, ?_⟩)
    · rintro ((c | c) | ⟨j, a, b, c⟩)
      · exact Or.inl c
      · exact Or.inr ⟨i, Nat.le_refl _, by omega, c⟩
      · exact Or.inr ⟨j, by omega, by omega, c⟩
    · rintro (c | ⟨j, a, b, c⟩)
      · exact Or.inl (Or.inl c)
      · by_cases e : j = i
        · subst e; exact Or.inl (Or.inr c)
        · exact Or.inr ⟨j, by omega, by omega, c⟩
theorem lkR_min {zs : Nat → Nat} {H : Nat → Nat → Int32} : ∀ (n i : Nat) (S : Nat → Prop) (a : Option Nat), isM S a → isM (fun x => S x ∨ ∃ r j, i ≤ r ∧ r < i + n ∧ j < zs r ∧ lkW H r j x) (lkR zs H n i a)
  | 0, i, S, a, h => h.iff (fun x => ⟨Or.inl, fun c => c.elim id (fun ⟨r, j, a, b, _⟩ => by omega)⟩)
  | n + 1, i, S, a, h => by
    unfold lkR
    refine (lkR_min n (i + 1) _ _ (lkK_min (H := H) (r := i) (zs i) 0 S a h)).iff (fun x => ⟨?_, ?_⟩)
    · rintro ((c | ⟨j, a, b, c⟩) | ⟨r, j, a, b, c⟩)
      · exact Or.inl c
      · exact Or.inr ⟨i, j, Nat.le_refl _, by omega, by omega, c⟩
      · exact Or.inr ⟨r, j, by omega, by omega, c⟩
    · rintro (c | ⟨r, j, a, b, c, d⟩)
      · exact Or.inl (Or.inl c)
      · by_cases e : r = i
        · subst e; exact Or.inl (Or.inr ⟨j, Nat.zero_le _, by omega, d⟩)
        · exact Or.inr ⟨r, j, by omega, by omega, c, d⟩
theorem ref_occ {rl : Nat → Option Ex} {zs : Nat → Nat} {H : Nat → Nat → Int32} (h : RFL rl zs H) {r x : Nat} (hr : r < 6) : (∃ j, j < zs r ∧ lkW H r j x) ↔ ∃ t, rl r = some t ∧ xC x ∈ po t ∧ x < 6 ∧ rl x = none := by
  constructor
  · rintro ⟨j, hj, h1, h2, h3⟩
    cases ht : rl r with
    | none => have := (h.no hr).mpr ht; omega
    | some t =>
      obtain ⟨w1, w2, w3, w4⟩ := h.at hr ht
      obtain ⟨e, he⟩ := po_get w1 (show j < sz t by omega)
      obtain ⟨-, we, hn⟩ := w4 j e he
      have : e = xC x ∧ x < 6 := by
        revert hn
        refine ast_ind (P := fun e => NDE H (po t) (64 * r + j) e → e = xC x ∧ x < 6) (fun lo hi _ _ c => ?_) (fun q hq c => ?_) (fun m a b _ _ _ _ _ _ c => ?_) (fun k a k4 k8 _ _ c => ?_) e we
        · have c : H 5 (64 * r + j) = nI 0 := c
          exact absurd (c.symm.trans h1) (nIn (by decide) (by decide) (by decide))
        · have c2 : H 6 (64 * r + j) = nI q := c.2
          rw [c2, zN_nI (by omega)] at h3
          rw [h3]
          exact ⟨rfl, hq⟩
        · exact absurd (c.1.symm.trans h1) (nIn (by omega) (by decide) (by omega))
        · exact absurd (c.1.symm.trans h1) (nIn (by omega) (by decide) (by omega))
      refine ⟨t, rfl, by rw [← this.1]; exact List.mem_of_getElem? he, this.2, ?_⟩
      rw [← h3, (h x this.2).1] at h2
      have := (h.GM x this.2).2.1
      refine (h.no (by omega)).mp ?_
      exact (nI_eq0 (by omega)).mp h2
  · rintro ⟨t, ht, hx, hx6, hxn⟩
    obtain ⟨w1, w2, w3, w4⟩ := h.at hr ht
    obtain ⟨j, hj, he⟩ := List.getElem_of_mem hx
    have he2 : (po t)[j]? = some (xC x) := by rw [List.getElem?_eq_getElem hj, he]
    obtain ⟨hjs, -, hn⟩ := w4 j _ he2
    have c2 : H 6 (64 * r + j) = nI x := hn.2
    refine ⟨j, by omega, hn.1, ?_, ?_⟩
    · rw [c2, zN_nI (by omega), (h x hx6).1, (h.no hx6).mpr hxn]
    · rw [c2, zN_nI (by omega)]
theorem lk_lm {rl : Nat → Option Ex} {zs : Nat → Nat} {H : Nat → Nat → Int32} {es : Nat → Option Nat} {rt : Nat → Nat} {ps : Nat → List Nat} {tt : Nat → Ex} {nd : Nat → Option ND} (h : RFL rl zs H) (hc : LYC es rt ps tt nd) (hrl : ∀ r, r < 6 → rl r = (es r).map (fun _ => tt r)) : isM (fun x => ∃ r t, r < 6 ∧ rl r = some t ∧ xC x ∈ po t ∧ x < 6 ∧ rl x = none) (lkR zs H 6 0 none) ∧ lkR zs H 6 0 none = lmF es (stF es ps nd 6 0 (nI 0)) 6 0 := by
  have hno : ∀ r, r < 6 → (rl r = none ↔ es r = none) := fun r hr => by
    rw [hrl r hr]
    cases es r <;> exact ⟨fun c => by cases c <;> rfl, fun c => by cases c <;> rfl⟩
  have h1 : isM (fun x => ∃ r t, r < 6 ∧ rl r = some t ∧ xC x ∈ po t ∧ x < 6 ∧ rl x = none) (lkR zs H 6 0 none) := by
    refine (lkR_min (zs := zs) (H := H) 6 0 (fun _ => False) none ⟨fun x hx => (by cases hx), fun _ y c => c⟩).iff (fun x => ⟨?_, ?_⟩)
    · rintro (c | ⟨r, j, a, b, c, d⟩)
      · exact c.elim
      · obtain ⟨t, ht⟩ := (ref_occ h (show r < 6 by omega)).mp ⟨j, c, d⟩
        exact ⟨r, t, by omega, ht⟩
    · rintro ⟨r, t, hr, ht⟩
      obtain ⟨j, c, d⟩ := (ref_occ h hr).mpr ⟨t, ht⟩
      exact Or.inr ⟨r, j, Nat.zero_le _, by omega, c, d⟩
  refine ⟨h1, h1.uniq (lmF_min 6 0) (fun x => ⟨?_, ?_⟩)⟩
  · rintro ⟨r, t, hr, ht, hx, hx6, hxn⟩
    have hes : es r ≠ none := fun c => by rw [(hno r hr).mpr c] at ht; cases ht
    have htt : tt r = t := by
      rw [hrl r hr] at ht
      cases hy : es r with
      | none => exact absurd hy hes
      | some y => rw [hy] at ht; cases ht; rfl
    obtain ⟨l1, l2, -⟩ := hc r hr hes
    refine ⟨Nat.zero_le _, by omega, (hno x hx6).mp hxn, (stF_tb 6 0 (nI 0)).mpr (Or.inr ⟨r, Nat.zero_le _, by omega, hes, ?_⟩)⟩
    rw [← htt] at hx
    exact (rul_occ l2 l1 hx6).mpr hx
  · rintro ⟨-, hx6, hxn, hb⟩
    have hx6 : x < 6 := by omega
    rcases (stF_tb (k := x) 6 0 (nI 0)).mp hb with c | ⟨j, -, hj, hes, c⟩
    · exact absurd c tb_0
    · obtain ⟨l1, l2, -⟩ := hc j (by omega) hes
      refine ⟨j, tt j, by omega, ?_, (rul_occ l2 l1 hx6).mp c, hx6, (hno x hx6).mpr hxn⟩
      rw [hrl j (by omega)]
      cases hy : es j with
      | none => exact absurd hy hes
      | some y => rfl
theorem RP_po {P : Nat → Prop} : ∀ t, wf t → (∀ q, q < 6 → xC q ∈ po t → P q) → RP P t :=
  ast_ind (fun _ _ _ _ _ => trivial) (fun r hr h => h r hr (List.mem_singleton.mpr rfl)) (fun m a b _ _ _ _ ha hb h => ⟨ha (fun q hq hx => h q hq (List.mem_append_left _ hx)), hb (fun q hq hx => h q hq (List.mem_append_right _ (List.mem_append_left _ hx)))⟩) (fun k e _ _ _ he h => he (fun q hq hx => h q hq (List.mem_append_left _ hx)))
theorem lk_CRL {rl : Nat → Option Ex} {zs : Nat → Nat} {H : Nat → Nat → Int32} (h : RFL rl zs H) (hm : isM (fun x => ∃ r t, r < 6 ∧ rl r = some t ∧ xC x ∈ po t ∧ x < 6 ∧ rl x = none) none) : CRL rl := fun r t hr ht => by
  refine ⟨(h.at hr ht).1, RP_po t (h.at hr ht).1 (fun q hq hx => ?_)⟩
  cases hy : rl q with
  | none => exact absurd ⟨r, t, hr, ht, hx, hq, hy⟩ (hm.2 rfl q)
  | some u => exact ⟨u, rfl⟩
theorem sz_rl {zs : Nat → Nat} {es : Nat → Option Nat} {f : Nat → Int32} (hf : ∀ r, r < 6 → f r = nI (zs r) ∧ zs r < 64 ∧ (zs r = 0 ↔ es r = none)) : ∀ n i c, i + n ≤ 6 → szF es n i c = rlF f n i c
  | 0, _, _, _ => rfl
  | n + 1, i, c, h => by
    obtain ⟨h1, h2, h3⟩ := hf i (by omega)
    unfold szF rlF
    cases hes : es i with
    | none =>
      have : zs i = 0 := h3.mpr hes
      rw [h1, this, if_neg (by decide +kernel)]
      exact sz_rl hf n (i + 1) c (by omega)
    | some y =>
      have : ¬ zs i = 0 := fun e => by rw [h3.mp e] at hes; cases hes
      rw [h1, if_pos (show 0 < nI (zs i) from (nI_gt0 (by omega)).mpr (by omega))]
      exact sz_rl hf n (i + 1) (c + 1) (by omega)
