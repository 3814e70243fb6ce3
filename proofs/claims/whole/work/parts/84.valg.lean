/-- goodness, given the outcomes and which rules are good -/
def gE (O : Nat → Int32) (G : Nat → Bool) : Ex → Bool
  | .tag _ (.tag _ .nil) => true
  | .tag r .line => G r
  | .tag m (.append a b) => if m < 2 then gE O G a && (oE O a &&& nI 1 == 0 || gE O G b) else gE O G a && gE O G b
  | .tag k (.nest _ e) => if k = 4 ∨ k = 5 then gE O G e && (oE O e &&& nI 1 == 0) else gE O G e
  | _ => false
def bI (b : Bool) : Int32 := if b = true then nI 1 else nI 0
theorem bI_0 {b : Bool} : (bI b == 0) = !b := by cases b <;> decide +kernel
theorem bI_1 {b : Bool} : ¬ bI b = 0 ↔ b = true := by cases b <;> decide +kernel
theorem gdR_cg {nd nd' : Nat → Option ND} : ∀ (pl : List Nat), (∀ q ∈ pl, ndG nd q = ndG nd' q ∧ ndO nd q = ndO nd' q) → gdR nd pl = gdR nd' pl
  | [], _ => rfl
  | q :: t, h => by
    unfold gdR
    rw [(h q List.mem_cons_self).1, (h q List.mem_cons_self).2, gdR_cg t (fun q hq => h q (List.mem_cons_of_mem _ hq))]
theorem gdC_cg {nd nd' : Nat → Option ND} : ∀ (pl : List Nat), (∀ q ∈ pl, ndG nd q = ndG nd' q ∧ ndO nd q = ndO nd' q) → gdC nd pl = gdC nd' pl
  | [], _ => rfl
  | q :: t, h => by
    unfold gdC
    rw [(h q List.mem_cons_self).1, gdC_cg t (fun q hq => h q (List.mem_cons_of_mem _ hq))]
def jg (t : Ex) (nd : Nat → Option ND) (pl : List Nat) : Bool := match t with
  | .tag m (.append _ _) => if m < 2 then gdR nd pl else gdC nd pl
  | _ => gdR nd pl
set_option maxHeartbeats 1000000 in
theorem valG {nd : Nat → Option ND} {rt : Nat → Nat} {qs : List Nat} {env : Nat → Int32} {G : Nat → Bool} (hd : qs.Nodup) (hex : ∀ p ∈ qs, ∃ n, nd p = some n) (hO : ORD nd qs) (hr : ∀ l1 q l2, qs = l1 ++ q :: l2 → ∀ r, r < 6 → rt r ∉ l1) (hvO : ∀ e, wf e → ∀ qe q, layE nd e qe q → (∀ c ∈ qe, c ∈ qs) → sz e ≤ 100 → ndO nd q = oE env e) (hen : ∀ r, r < 6 → ndG nd (rt r) = bI (G r)) : ∀ e, wf e → (∀ qe q, layE nd e qe q → (∀ c ∈ qe, c ∈ qs) → sz e ≤ 100 → ndG (pasG (Kf nd) rt qs nd) q = bI (gE env G e)) ∧ (∀ ql f, layL nd e ql f → (∀ c ∈ ql, c ∈ qs) → sz e ≤ 100 → ∀ pl, lnk nd nNext (f :: pl) (some f) → jg e (pasG (Kf nd) rt qs nd) (f :: pl) = gE env G e) := by
  generalize hK : Kf nd = K
  generalize hN : pasG K rt qs nd = N
  have hNO : ∀ q, ndO N q = ndO nd q := fun q => by rw [← hN]; exact (pasG_out qs nd hex q).2
  have at0 : ∀ q, q ∈ qs → ∀ n, nd q = some n → ∃ l1, ndG N q = godV (pasG K rt l1 nd) K rt q ∧ (∀ c ∈ l1, ndG N c = ndG (pasG K rt l1 nd) c) ∧ (∀ r, r < 6 → ndG (pasG K rt l1 nd) (rt r) = bI (G r)) ∧ (∀ c, ndO (pasG K rt l1 nd) c = ndO N c) ∧ (∃ n', pasG K rt l1 nd q = some n' ∧ sk n' = sk n) ∧ (n.1 = nI 3 ∨ n.1 = nI 4 → ∀ c ∈ K q, c ∈ l1) ∧ (¬ n.1 = nI 1 → ¬ n.1 = nI 2 → (K q).headD 0 ∈ l1) := by
    intro q hq n hn
    obtain ⟨l1, l2, e⟩ := List.append_of_mem hq
    obtain ⟨a1, a2, a3, a4⟩ := pasG_at (K := K) (rt := rt) (nd := nd) (l1 := l1) (l2 := l2) (q := q) (by rw [← e]; exact hex) (by rw [← e]; exact hd)
    rw [← e, hN] at a1 a2
    obtain ⟨o1, o2⟩ := hO l1 q l2 e n hn
    rw [hK] at o1 o2
    exact ⟨l1, a1, a2, fun r h => (a3 _ (hr l1 q l2 e r h)).trans (hen r h), fun c => (a4 c).trans (hNO c).symm, (pasG_sk l1 nd).get hn, o1, o2⟩
  refine ast_ind (fun lo hi _ _ => ⟨fun qe q h hs h100 => ?_, fun ql f h => h.elim⟩) (fun r hr6 => ⟨fun qe q h hs h100 => ?_, fun ql f h => h.elim⟩) (fun m a b h1 h2 wa wb ha hb => ?_) (fun k e h4 h8 we he => ⟨fun qe q h hs h100 => ?_, fun ql f h => h.elim⟩)
  · obtain ⟨rfl, n, g1, g2, -⟩ := h
    obtain ⟨l1, a1, -, -, -, ⟨n', b1, b2⟩, -⟩ := at0 q (hs q (List.mem_singleton.mpr rfl)) n g1
    rw [a1]
    unfold godV
    rw [b1]
    show (if n'.1 = nI 1 then nI 1 else _) = _
    rw [if_pos ((sk_eq b2).1.trans g2)]
    rfl
  · obtain ⟨rfl, n, g1, g2, g3⟩ := h
    obtain ⟨l1, a1, -, a3, -, ⟨n', b1, b2⟩, -⟩ := at0 q (hs q (List.mem_singleton.mpr rfl)) n g1
    have e1 : n'.1 = nI 2 := (sk_eq b2).1.trans g2
    have e2 : n'.2.1 = nI r := (sk_eq b2).2.1.trans g3
    rw [a1]
    unfold godV
    rw [b1]
    show (if n'.1 = nI 1 then nI 1 else if n'.1 = nI 2 then (if ndG (pasG K rt l1 nd) (rt n'.2.1.toNatClampNeg) = 0 then nI 0 else nI 1) else _) = bI (G r)
    rw [if_neg (by rw [e1]; exact nIn (by decide) (by decide) (by decide)), if_pos e1, e2, nI_clamp (by omega), a3 r hr6]
    cases G r <;> decide +kernel
  · have HL : ∀ ql f, layL nd (xB m a b) ql f → (∀ c ∈ ql, c ∈ qs) → sz (xB m a b) ≤ 100 → ∀ pl, lnk nd nNext (f :: pl) (some f) → jg (xB m a b) N (f :: pl) = gE env G (xB m a b) := by
      intro ql f h hs h100 pl hl
      have hsz : sz (xB m a b) = sz a + sz b + 1 := rfl
      rw [hsz] at h100
      obtain ⟨qa, qb, rfl, g1, nf, g, g2, g3, g4⟩ := h
      have va := ha.1 qa f g1 (fun c hc => hs c (List.mem_append_left _ hc)) (by omega)
      have oa : ndO N f = oE env a := (hNO f).trans (hvO a wa qa f g1 (fun c hc => hs c (List.mem_append_left _ hc)) (by omega))
      obtain ⟨-, nf', c1, c2⟩ := hl
      cases g2.symm.trans c1
      rw [g3] at c2
      have key : (m < 2 → gdR N pl = gE env G b ∨ (gdR N pl = gE env G b)) → (m < 2 → gdR N pl = gE env G b) → (¬ m < 2 → gdC N pl = gE env G b) → jg (xB m a b) N (f :: pl) = gE env G (xB m a b) := by
        intro _ k1 k2
        show (if m < 2 then gdR N (f :: pl) else gdC N (f :: pl)) = if m < 2 then gE env G a && (oE env a &&& nI 1 == 0 || gE env G b) else gE env G a && gE env G b
        by_cases hm2 : m < 2
        · rw [if_pos hm2, if_pos hm2]
          unfold gdR
          rw [va, oa, k1 hm2, bI_0, Bool.not_not]
        · rw [if_neg hm2, if_neg hm2]
          unfold gdC
          rw [va, k2 hm2, bI_0, Bool.not_not]
      by_cases hm : m % 2 = 1
      · rw [if_pos hm] at g4
        have hib := h2 hm
        cases pl with
        | nil => cases c2
        | cons g' pl' =>
          obtain ⟨c3, n2, c4, c5⟩ := c2
          cases c3
          have v1 := hb.2 qb g g4 (fun c hc => hs c (List.mem_append_right _ hc)) (by omega) pl' ⟨rfl, n2, c4, c5⟩
          have ej : jg b N (g :: pl') = if m < 2 then gdR N (g :: pl') else gdC N (g :: pl') := by
            revert hib
            refine ast_ind (P := fun b => isB (m / 2) b → jg b N (g :: pl') = if m < 2 then gdR N (g :: pl') else gdC N (g :: pl')) (fun _ _ _ _ h => h.elim) (fun _ _ h => h.elim) (fun m' a' b' _ _ _ _ _ _ h => ?_) (fun _ _ _ _ _ _ h => h.elim) b wb
            have h : m' / 2 = m / 2 := h
            show (if m' < 2 then gdR N (g :: pl') else gdC N (g :: pl')) = _
            by_cases hm2 : m < 2
            · rw [if_pos (by omega), if_pos hm2]
            · rw [if_neg (by omega), if_neg hm2]
          rw [ej] at v1
          refine key (fun hm2 => ?_) (fun hm2 => ?_) (fun hm2 => ?_)
          · rw [if_pos hm2] at v1; exact Or.inl v1
          · rw [if_pos hm2] at v1; exact v1
          · rw [if_neg hm2] at v1; exact v1
      · rw [if_neg hm] at g4
        obtain ⟨g5, ng, g6, g7⟩ := g4
        have vb := hb.1 qb g g5 (fun c hc => hs c (List.mem_append_right _ hc)) (by omega)
        cases pl with
        | nil => cases c2
        | cons g' pl' =>
          obtain ⟨c3, n2, c4, c5⟩ := c2
          cases c3
          cases g6.symm.trans c4
          rw [g7] at c5
          cases pl' with
          | nil =>
            have r1 : gdR N [g] = gE env G b := by
              unfold gdR gdR
              rw [vb, bI_0, Bool.not_not, Bool.or_true, Bool.and_true]
            have r2 : gdC N [g] = gE env G b := by
              unfold gdC gdC
              rw [vb, bI_0, Bool.not_not, Bool.and_true]
            exact key (fun _ => Or.inl r1) (fun _ => r1) (fun _ => r2)
          | cons x y => cases c5.1
    refine ⟨fun qe q h hs h100 => ?_, HL⟩
    obtain ⟨ql, n, f, pl, e1, g1, g2, g3, g4, g5, g6, g7⟩ := layE_K (show wf (xB m a b) from ⟨h1, h2, wa, wb⟩) h100 h
    subst e1
    obtain ⟨l1, a1, a2, -, a4, ⟨n', b1, b2⟩, o1, -⟩ := at0 q (hs q (List.mem_append_right _ (List.mem_singleton.mpr rfl))) n g1
    have v := HL ql f g4 (fun c hc => hs c (List.mem_append_left _ hc)) h100 pl g6
    have ek : n'.1 = nI (3 + m / 2) := (sk_eq b2).1.trans g2
    have hm2 : m / 2 = 0 ∨ m / 2 = 1 := by omega
    have on : n.1 = nI 3 ∨ n.1 = nI 4 := by
      rcases hm2 with h | h
      · exact Or.inl (by rw [g2, h])
      · exact Or.inr (by rw [g2, h])
    have hl1 := o1 on
    rw [← hK, g5] at hl1
    have eq2 : ∀ c ∈ f :: pl, ndG (pasG K rt l1 nd) c = ndG N c ∧ ndO (pasG K rt l1 nd) c = ndO N c := fun c hc => ⟨(a2 c (hl1 c hc)).symm, a4 c⟩
    have ek2 : K q = f :: pl := by rw [← hK]; exact g5
    rw [a1]
    unfold godV
    rw [b1]
    show (if n'.1 = nI 1 then nI 1 else if n'.1 = nI 2 then (if ndG (pasG K rt l1 nd) (rt n'.2.1.toNatClampNeg) = 0 then nI 0 else nI 1) else if n'.1 = nI 3 then (if gdR (pasG K rt l1 nd) (K q) = true then nI 1 else nI 0) else if n'.1 = nI 4 then (if gdC (pasG K rt l1 nd) (K q) = true then nI 1 else nI 0) else _) = bI (gE env G (xB m a b))
    rw [ek2, gdR_cg _ eq2, gdC_cg _ eq2, ek, ← v]
    by_cases hmm : m < 2
    · have e3 : m / 2 = 0 := by omega
      have ej : jg (xB m a b) N (f :: pl) = gdR N (f :: pl) := if_pos hmm
      rw [ej, e3, if_neg (nIn (by decide) (by decide) (by decide)), if_neg (nIn (by decide) (by decide) (by decide)), if_pos rfl]
      rfl
    · have e3 : m / 2 = 1 := by omega
      have ej : jg (xB m a b) N (f :: pl) = gdC N (f :: pl) := if_neg hmm
      rw [ej, e3, if_neg (nIn (by decide) (by decide) (by decide)), if_neg (nIn (by decide) (by decide) (by decide)), if_neg (nIn (by decide) (by decide) (by decide)), if_pos rfl]
      rfl
  · obtain ⟨ql, n, f, t, e1, g1, g2, g3, g4, g5⟩ := layS_K we h4 h8 h
    subst e1
    have hsz : sz (xS k e) = sz e + 1 := rfl
    rw [hsz] at h100
    obtain ⟨l1, a1, a2, -, a4, ⟨n', b1, b2⟩, -, o2⟩ := at0 q (hs q (List.mem_append_right _ (List.mem_singleton.mpr rfl))) n g1
    have ve := he.1 ql f g4 (fun c hc => hs c (List.mem_append_left _ hc)) (by omega)
    have oe : ndO N f = oE env e := (hNO f).trans (hvO e we ql f g4 (fun c hc => hs c (List.mem_append_left _ hc)) (by omega))
    have ek : n'.1 = nI (k + 1) := (sk_eq b2).1.trans g2
    have hf := o2 (by rw [g2]; exact nIn (by omega) (by decide) (by omega)) (by rw [g2]; exact nIn (by omega) (by decide) (by omega))
    have ek2 : K q = f :: t := by rw [← hK]; exact g5
    rw [ek2] at hf
    have hf : f ∈ l1 := hf
    rw [a1]
    unfold godV
    rw [b1]
    show (if n'.1 = nI 1 then nI 1 else if n'.1 = nI 2 then (if ndG (pasG K rt l1 nd) (rt n'.2.1.toNatClampNeg) = 0 then nI 0 else nI 1) else if n'.1 = nI 3 then (if gdR (pasG K rt l1 nd) (K q) = true then nI 1 else nI 0) else if n'.1 = nI 4 then (if gdC (pasG K rt l1 nd) (K q) = true then nI 1 else nI 0) else if n'.1 = nI 5 ∨ n'.1 = nI 6 then (if ¬ ndG (pasG K rt l1 nd) ((K q).headD 0) = 0 ∧ ndO (pasG K rt l1 nd) ((K q).headD 0) &&& nI 1 = 0 then nI 1 else nI 0) else (if ndG (pasG K rt l1 nd) ((K q).headD 0) = 0 then nI 0 else nI 1)) = bI (if k = 4 ∨ k = 5 then gE env G e && (oE env e &&& nI 1 == 0) else gE env G e)
    rw [ek2]
    show (if n'.1 = nI 1 then nI 1 else if n'.1 = nI 2 then (if ndG (pasG K rt l1 nd) (rt n'.2.1.toNatClampNeg) = 0 then nI 0 else nI 1) else if n'.1 = nI 3 then (if gdR (pasG K rt l1 nd) (f :: t) = true then nI 1 else nI 0) else if n'.1 = nI 4 then (if gdC (pasG K rt l1 nd) (f :: t) = true then nI 1 else nI 0) else if n'.1 = nI 5 ∨ n'.1 = nI 6 then (if ¬ ndG (pasG K rt l1 nd) f = 0 ∧ ndO (pasG K rt l1 nd) f &&& nI 1 = 0 then nI 1 else nI 0) else (if ndG (pasG K rt l1 nd) f = 0 then nI 0 else nI 1)) = _
    rw [ek, if_neg (nIn (by omega) (by decide) (by omega)), if_neg (nIn (by omega) (by decide) (by omega)), if_neg (nIn (by omega) (by decide) (by omega)), if_neg (nIn (by omega) (by decide) (by omega)), ← a2 f hf, a4 f, ve, oe]
    by_cases hk : k = 4 ∨ k = 5
    · rw [if_pos (by exact hk.imp (fun h => by rw [h]) (fun h => by rw [h])), if_pos hk]
      cases hg : gE env G e
      · rw [if_neg (fun c => c.1 (by decide +kernel))]
        rfl
      · by_cases h0 : oE env e &&& nI 1 = 0
        · rw [if_pos ⟨by decide +kernel, h0⟩, h0]
          decide +kernel
        · rw [if_neg (fun c => h0 c.2)]
          have : (oE env e &&& nI 1 == 0) = false := by rw [beq_eq_false_iff_ne]; exact h0
          rw [this]
          rfl
    · rw [if_neg (fun c => hk (c.imp (fun c => Nat.succ.inj ((nI_eq (by omega) (by decide)).mp c)) (fun c => Nat.succ.inj ((nI_eq (by omega) (by decide)).mp c)))), if_neg hk]
      cases gE env G e <;> decide +kernel
