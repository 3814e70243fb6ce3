/-- what a node asks comes before it -/
def ORD (nd : Nat → Option ND) (qs : List Nat) : Prop := ∀ l1 q l2, qs = l1 ++ q :: l2 → ∀ n, nd q = some n → (n.1 = nI 3 ∨ n.1 = nI 4 → ∀ c ∈ Kf nd q, c ∈ l1) ∧ (¬ n.1 = nI 1 → ¬ n.1 = nI 2 → (Kf nd q).headD 0 ∈ l1)
theorem ORD_of {nd : Nat → Option ND} {qs : List Nat} {es : List Ex} (h : NDS nd qs es) (h100 : ∀ e ∈ es, sz e ≤ 100) : ORD nd qs := by
  intro l1 q l2 e n hn
  obtain ⟨x, qz, h1, h2, h3, h4⟩ := h.2 l1 q l2 e
  have hx := h100 x (List.mem_of_getElem? h1)
  revert h3 hx
  refine ast_ind (P := fun x => layE nd x (qz ++ [q]) q → sz x ≤ 100 → _) (fun lo hi _ _ h3 hx => ?_) (fun r _ h3 hx => ?_) (fun m a b g1 g2 g3 g4 _ _ h3 hx => ?_) (fun k e g1 g2 g3 _ h3 hx => ?_) x h2
  · obtain ⟨-, n1, c1, c2, -⟩ := h3
    cases hn.symm.trans c1
    exact ⟨fun c => by rw [c2] at c; rcases c with c | c <;> exact absurd c (nIn (by decide) (by decide) (by decide)), fun c => absurd c2 c⟩
  · obtain ⟨-, n1, c1, c2, -⟩ := h3
    cases hn.symm.trans c1
    exact ⟨fun c => by rw [c2] at c; rcases c with c | c <;> exact absurd c (nIn (by decide) (by decide) (by decide)), fun _ c => absurd c2 c⟩
  · obtain ⟨ql, n1, f, pl, c1, c2, c3, c4, c5, c6, c7, c8⟩ := layE_K (show wf (xB m a b) from ⟨g1, g2, g3, g4⟩) hx h3
    cases hn.symm.trans c2
    have eq : qz = ql := List.append_cancel_right c1
    subst eq
    rw [c6]
    exact ⟨fun _ c hc => h4 c (c8 c hc), fun _ _ => h4 f (c8 f List.mem_cons_self)⟩
  · obtain ⟨ql, n1, f, t, c1, c2, c3, c4, c5, c6⟩ := layS_K g3 g1 g2 h3
    cases hn.symm.trans c2
    have eq : qz = ql := List.append_cancel_right c1
    subst eq
    rw [c6]
    refine ⟨fun c => ?_, fun _ _ => h4 f (layE_mem e g3 _ f c5)⟩
    rw [c3] at c
    rcases c with c | c <;> exact absurd c (nIn (by omega) (by decide) (by omega))
theorem jr_mr : ∀ a b : Fin 8, jrI (nI a.val) (nI b.val) = mrI (nI a.val) (nI b.val) := by decide +kernel
theorem jc_mc : ∀ a b : Fin 8, jcI (nI a.val) (nI b.val) = mcI (nI a.val) (nI b.val) := by decide +kernel
theorem mr_as : ∀ a b c : Fin 8, mrI (mrI (nI a.val) (nI b.val)) (nI c.val) = mrI (nI a.val) (mrI (nI b.val) (nI c.val)) := by decide +kernel
theorem mc_as : ∀ a b c : Fin 8, mcI (mcI (nI a.val) (nI b.val)) (nI c.val) = mcI (nI a.val) (mcI (nI b.val) (nI c.val)) := by decide +kernel
theorem sg_ms : ∀ a : Fin 8, sgI 5 (nI a.val) = msI 4 (nI a.val) ∧ sgI 6 (nI a.val) = msI 5 (nI a.val) ∧ sgI 7 (nI a.val) = msI 6 (nI a.val) ∧ sgI 8 (nI a.val) = msI 7 (nI a.val) ∧ sgI 9 (nI a.val) = msI 8 (nI a.val) := by decide +kernel
theorem fld_r {nd : Nat → Option ND} : ∀ (pl : List Nat) (a b : Int32), (∀ q ∈ pl, sm8 (ndO nd q)) → sm8 a → sm8 b → fldF jrI nd pl (jrI a b) = mrI a (fldF jrI nd pl b) ∧ sm8 (fldF jrI nd pl b)
  | [], a, b, _, ⟨i, hi⟩, ⟨j, hj⟩ => by
    subst hi hj
    exact ⟨jr_mr i j, ⟨j, rfl⟩⟩
  | q :: t, a, b, h, ha, hb => by
    obtain ⟨i, rfl⟩ := ha
    obtain ⟨j, rfl⟩ := hb
    obtain ⟨k, hk⟩ := h q List.mem_cons_self
    have hsm : sm8 (jrI (nI j.val) (nI k.val)) := by rw [jr_mr]; exact (mr_bits j k).2.2.2
    obtain ⟨h1, h2⟩ := fld_r t (nI i.val) (jrI (nI j.val) (nI k.val)) (fun q hq => h q (List.mem_cons_of_mem _ hq)) ⟨i, rfl⟩ hsm
    have e : jrI (jrI (nI i.val) (nI j.val)) (nI k.val) = jrI (nI i.val) (jrI (nI j.val) (nI k.val)) := by
      obtain ⟨c, hc⟩ := (mr_bits i j).2.2.2
      obtain ⟨d, hd⟩ := (mr_bits j k).2.2.2
      rw [jr_mr i j, hc, jr_mr c k, ← hc, jr_mr j k, hd, jr_mr i d, ← hd, mr_as]
    unfold fldF
    rw [hk, e]
    exact ⟨h1, h2⟩
theorem fld_c {nd : Nat → Option ND} : ∀ (pl : List Nat) (a b : Int32), (∀ q ∈ pl, sm8 (ndO nd q)) → sm8 a → sm8 b → fldF jcI nd pl (jcI a b) = mcI a (fldF jcI nd pl b) ∧ sm8 (fldF jcI nd pl b)
  | [], a, b, _, ⟨i, hi⟩, ⟨j, hj⟩ => by
    subst hi hj
    exact ⟨jc_mc i j, ⟨j, rfl⟩⟩
  | q :: t, a, b, h, ha, hb => by
    obtain ⟨i, rfl⟩ := ha
    obtain ⟨j, rfl⟩ := hb
    obtain ⟨k, hk⟩ := h q List.mem_cons_self
    have hsm : sm8 (jcI (nI j.val) (nI k.val)) := by rw [jc_mc]; exact (mc_bits j k).2.2.2
    obtain ⟨h1, h2⟩ := fld_c t (nI i.val) (jcI (nI j.val) (nI k.val)) (fun q hq => h q (List.mem_cons_of_mem _ hq)) ⟨i, rfl⟩ hsm
    have e : jcI (jcI (nI i.val) (nI j.val)) (nI k.val) = jcI (nI i.val) (jcI (nI j.val) (nI k.val)) := by
      obtain ⟨c, hc⟩ := (mc_bits i j).2.2.2
      obtain ⟨d, hd⟩ := (mc_bits j k).2.2.2
      rw [jc_mc i j, hc, jc_mc c k, ← hc, jc_mc j k, hd, jc_mc i d, ← hd, mc_as]
    unfold fldF
    rw [hk, e]
    exact ⟨h1, h2⟩
theorem fld_cg {f : Int32 → Int32 → Int32} {nd nd' : Nat → Option ND} : ∀ (pl : List Nat) (a : Int32), (∀ q ∈ pl, ndO nd q = ndO nd' q) → fldF f nd pl a = fldF f nd' pl a
  | [], _, _ => rfl
  | q :: t, a, h => by
    unfold fldF
    rw [h q List.mem_cons_self]
    exact fld_cg t _ (fun q hq => h q (List.mem_cons_of_mem _ hq))
/-- which joining a row or choice has -/
def jn (t : Ex) : Int32 → Int32 → Int32 := match t with
  | .tag m (.append _ _) => if m < 2 then jrI else jcI
  | _ => jrI
set_option maxHeartbeats 1000000 in
/-- the outcomes after a pass -/
theorem valO {nd : Nat → Option ND} {rt : Nat → Nat} {qs : List Nat} {env : Nat → Int32} (hd : qs.Nodup) (hex : ∀ p ∈ qs, ∃ n, nd p = some n) (hO : ORD nd qs) (hr : ∀ l1 q l2, qs = l1 ++ q :: l2 → ∀ r, r < 6 → rt r ∉ l1) (hen : ∀ r, r < 6 → env r = ndO nd (rt r)) (hsm : ∀ r, r < 6 → sm8 (env r)) : ∀ e, wf e → (∀ qe q, layE nd e qe q → (∀ c ∈ qe, c ∈ qs) → sz e ≤ 100 → ndO (pasO (Kf nd) rt qs nd) q = oE env e) ∧ (∀ ql f, layL nd e ql f → (∀ c ∈ ql, c ∈ qs) → sz e ≤ 100 → ∀ pl, lnk nd nNext (f :: pl) (some f) → fldF (jn e) (pasO (Kf nd) rt qs nd) pl (ndO (pasO (Kf nd) rt qs nd) f) = oE env e ∧ ∀ c ∈ f :: pl, sm8 (ndO (pasO (Kf nd) rt qs nd) c)) := by
  generalize hK : Kf nd = K
  generalize hN : pasO K rt qs nd = N
  -- what stands at a place of the list
  have at0 : ∀ q, q ∈ qs → ∀ n, nd q = some n → ∃ l1, ndO N q = outV (pasO K rt l1 nd) K rt q ∧ (∀ c ∈ l1, ndO N c = ndO (pasO K rt l1 nd) c) ∧ (∀ r, r < 6 → ndO (pasO K rt l1 nd) (rt r) = env r) ∧ (∃ n', pasO K rt l1 nd q = some n' ∧ sk n' = sk n) ∧ (n.1 = nI 3 ∨ n.1 = nI 4 → ∀ c ∈ K q, c ∈ l1) ∧ (¬ n.1 = nI 1 → ¬ n.1 = nI 2 → (K q).headD 0 ∈ l1) := by
    intro q hq n hn
    obtain ⟨l1, l2, e⟩ := List.append_of_mem hq
    obtain ⟨a1, a2, a3⟩ := pasO_at (K := K) (rt := rt) (nd := nd) (l1 := l1) (l2 := l2) (q := q) (by rw [← e]; exact hex) (by rw [← e]; exact hd)
    rw [← e, hN] at a1 a2
    obtain ⟨o1, o2⟩ := hO l1 q l2 e n hn
    rw [hK] at o1 o2
    exact ⟨l1, a1, a2, fun r h => (a3 _ (hr l1 q l2 e r h)).trans (hen r h).symm, (pasO_sk l1 nd).get hn, o1, o2⟩
  refine ast_ind (fun lo hi _ _ => ⟨fun qe q h hs h100 => ?_, fun ql f h => h.elim⟩) (fun r hr6 => ⟨fun qe q h hs h100 => ?_, fun ql f h => h.elim⟩) (fun m a b h1 h2 wa wb ha hb => ?_) (fun k e h4 h8 we he => ⟨fun qe q h hs h100 => ?_, fun ql f h => h.elim⟩)
  · obtain ⟨rfl, n, g1, g2, -⟩ := h
    obtain ⟨l1, a1, -, -, ⟨n', b1, b2⟩, -⟩ := at0 q (hs q (List.mem_singleton.mpr rfl)) n g1
    rw [a1]
    unfold outV
    rw [b1]
    show (if n'.1 = nI 1 then nI 6 else _) = _
    rw [if_pos ((sk_eq b2).1.trans g2)]
    rfl
  · obtain ⟨rfl, n, g1, g2, g3⟩ := h
    obtain ⟨l1, a1, -, a3, ⟨n', b1, b2⟩, -⟩ := at0 q (hs q (List.mem_singleton.mpr rfl)) n g1
    have e1 : n'.1 = nI 2 := (sk_eq b2).1.trans g2
    have e2 : n'.2.1 = nI r := (sk_eq b2).2.1.trans g3
    rw [a1]
    unfold outV
    rw [b1]
    show (if n'.1 = nI 1 then nI 6 else if n'.1 = nI 2 then ndO (pasO K rt l1 nd) (rt n'.2.1.toNatClampNeg) else _) = _
    rw [if_neg (by rw [e1]; exact nIn (by decide) (by decide) (by decide)), if_pos e1, e2, nI_clamp (by omega), a3 r hr6]
    rfl
  · have HL : ∀ ql f, layL nd (xB m a b) ql f → (∀ c ∈ ql, c ∈ qs) → sz (xB m a b) ≤ 100 → ∀ pl, lnk nd nNext (f :: pl) (some f) → fldF (jn (xB m a b)) N pl (ndO N f) = oE env (xB m a b) ∧ ∀ c ∈ f :: pl, sm8 (ndO N c) := by
      intro ql f h hs h100 pl hl
      have hsz : sz (xB m a b) = sz a + sz b + 1 := rfl
      rw [hsz] at h100
      obtain ⟨qa, qb, rfl, g1, nf, g, g2, g3, g4⟩ := h
      have va := ha.1 qa f g1 (fun c hc => hs c (List.mem_append_left _ hc)) (by omega)
      have sa : sm8 (ndO N f) := by rw [va]; exact oE_sm hsm a wa
      obtain ⟨-, nf', c1, c2⟩ := hl
      cases g2.symm.trans c1
      rw [g3] at c2
      have key : ∀ pl', pl = g :: pl' → (∀ c ∈ g :: pl', sm8 (ndO N c)) → (m < 2 → fldF jrI N pl' (ndO N g) = oE env b) → (¬ m < 2 → fldF jcI N pl' (ndO N g) = oE env b) → fldF (jn (xB m a b)) N pl (ndO N f) = oE env (xB m a b) ∧ ∀ c ∈ f :: pl, sm8 (ndO N c) := by
        intro pl' e hsm' k1 k2
        subst e
        refine ⟨?_, fun c hc => ?_⟩
        · show fldF (if m < 2 then jrI else jcI) N pl' ((if m < 2 then jrI else jcI) (ndO N f) (ndO N g)) = if m < 2 then mrI (oE env a) (oE env b) else mcI (oE env a) (oE env b)
          by_cases hm2 : m < 2
          · rw [if_pos hm2, if_pos hm2, (fld_r pl' _ _ (fun q hq => hsm' q (List.mem_cons_of_mem _ hq)) sa (hsm' g List.mem_cons_self)).1, k1 hm2, va]
          · rw [if_neg hm2, if_neg hm2, (fld_c pl' _ _ (fun q hq => hsm' q (List.mem_cons_of_mem _ hq)) sa (hsm' g List.mem_cons_self)).1, k2 hm2, va]
        · rcases List.mem_cons.mp hc with rfl | hc
          · exact sa
          · exact hsm' c hc
      by_cases hm : m % 2 = 1
      · rw [if_pos hm] at g4
        have hib := h2 hm
        cases pl with
        | nil => cases c2
        | cons g' pl' =>
          obtain ⟨c3, n2, c4, c5⟩ := c2
          cases c3
          obtain ⟨v1, v2⟩ := hb.2 qb g g4 (fun c hc => hs c (List.mem_append_right _ hc)) (by omega) pl' ⟨rfl, n2, c4, c5⟩
          refine key pl' rfl v2 (fun hm2 => ?_) (fun hm2 => ?_)
          · have : jn b = jrI := by
              revert hib
              refine ast_ind (P := fun b => isB (m / 2) b → jn b = jrI) (fun _ _ _ _ h => h.elim) (fun _ _ h => h.elim) (fun m' a' b' _ _ _ _ _ _ h => ?_) (fun _ _ _ _ _ _ h => h.elim) b wb
              have h : m' / 2 = m / 2 := h
              show (if m' < 2 then jrI else jcI) = jrI
              rw [if_pos (by omega)]
            rw [this] at v1
            exact v1
          · have : jn b = jcI := by
              revert hib
              refine ast_ind (P := fun b => isB (m / 2) b → jn b = jcI) (fun _ _ _ _ h => h.elim) (fun _ _ h => h.elim) (fun m' a' b' _ _ _ _ _ _ h => ?_) (fun _ _ _ _ _ _ h => h.elim) b wb
              have h : m' / 2 = m / 2 := h
              show (if m' < 2 then jrI else jcI) = jcI
              rw [if_neg (by omega)]
            rw [this] at v1
            exact v1
      · rw [if_neg hm] at g4
        obtain ⟨g5, ng, g6, g7⟩ := g4
        have vb := hb.1 qb g g5 (fun c hc => hs c (List.mem_append_right _ hc)) (by omega)
        cases pl with
        | nil => cases c2
        | cons g' pl' =>
          obtain ⟨c3, n2, c4, c5⟩ := c2
          cases c3
          cases g6.symm.trans c4
          rw [g7] at c5
          cases pl' with
          | nil =>
            exact key [] rfl (fun c hc => by rw [List.mem_singleton.mp hc, vb]; exact oE_sm hsm b wb) (fun _ => vb) (fun _ => vb)
          | cons x y => cases c5.1
    refine ⟨fun qe q h hs h100 => ?_, HL⟩
    obtain ⟨ql, n, f, pl, e1, g1, g2, g3, g4, g5, g6, g7⟩ := layE_K (show wf (xB m a b) from ⟨h1, h2, wa, wb⟩) h100 h
    subst e1
    obtain ⟨l1, a1, a2, -, ⟨n', b1, b2⟩, o1, -⟩ := at0 q (hs q (List.mem_append_right _ (List.mem_singleton.mpr rfl))) n g1
    have v := (HL ql f g4 (fun c hc => hs c (List.mem_append_left _ hc)) h100 pl g6).1
    have ek : n'.1 = nI (3 + m / 2) := (sk_eq b2).1.trans g2
    have hm2 : m / 2 = 0 ∨ m / 2 = 1 := by omega
    have on : n.1 = nI 3 ∨ n.1 = nI 4 := by
      rcases hm2 with h | h
      · exact Or.inl (by rw [g2, h])
      · exact Or.inr (by rw [g2, h])
    have hl1 := o1 on
    rw [← hK, g5] at hl1
    have eq2 : ∀ c ∈ f :: pl, ndO (pasO K rt l1 nd) c = ndO N c := fun c hc => (a2 c (hl1 c hc)).symm
    rw [a1]
    unfold outV
    rw [b1, ← hK, g5, hK]
    show (if n'.1 = nI 1 then nI 6 else if n'.1 = nI 2 then ndO (pasO K rt l1 nd) (rt n'.2.1.toNatClampNeg) else if n'.1 = nI 3 then fldF jrI (pasO K rt l1 nd) pl (ndO (pasO K rt l1 nd) f) else if n'.1 = nI 4 then fldF jcI (pasO K rt l1 nd) pl (ndO (pasO K rt l1 nd) f) else _) = _
    rw [fld_cg pl _ (fun q hq => eq2 q (List.mem_cons_of_mem _ hq)), fld_cg (f := jcI) pl _ (fun q hq => eq2 q (List.mem_cons_of_mem _ hq)), eq2 f List.mem_cons_self, ek]
    by_cases hmm : m < 2
    · have e3 : m / 2 = 0 := by omega
      have ej : jn (xB m a b) = jrI := if_pos hmm
      rw [ej] at v
      rw [e3, if_neg (nIn (by decide) (by decide) (by decide)), if_neg (nIn (by decide) (by decide) (by decide)), if_pos rfl]
      exact v
    · have e3 : m / 2 = 1 := by omega
      have ej : jn (xB m a b) = jcI := if_neg hmm
      rw [ej] at v
      rw [e3, if_neg (nIn (by decide) (by decide) (by decide)), if_neg (nIn (by decide) (by decide) (by decide)), if_neg (nIn (by decide) (by decide) (by decide)), if_pos rfl]
      exact v
  · obtain ⟨ql, n, f, t, e1, g1, g2, g3, g4, g5⟩ := layS_K we h4 h8 h
    subst e1
    have hsz : sz (xS k e) = sz e + 1 := rfl
    rw [hsz] at h100
    obtain ⟨l1, a1, a2, -, ⟨n', b1, b2⟩, -, o2⟩ := at0 q (hs q (List.mem_append_right _ (List.mem_singleton.mpr rfl))) n g1
    have ve := he.1 ql f g4 (fun c hc => hs c (List.mem_append_left _ hc)) (by omega)
    have ek : n'.1 = nI (k + 1) := (sk_eq b2).1.trans g2
    have hf := o2 (by rw [g2]; exact nIn (by omega) (by decide) (by omega)) (by rw [g2]; exact nIn (by omega) (by decide) (by omega))
    rw [← hK, g5] at hf
    have hf : f ∈ l1 := hf
    rw [a1]
    unfold outV
    rw [b1, ← hK, g5, hK]
    show (if n'.1 = nI 1 then nI 6 else if n'.1 = nI 2 then ndO (pasO K rt l1 nd) (rt n'.2.1.toNatClampNeg) else if n'.1 = nI 3 then fldF jrI (pasO K rt l1 nd) t (ndO (pasO K rt l1 nd) f) else if n'.1 = nI 4 then fldF jcI (pasO K rt l1 nd) t (ndO (pasO K rt l1 nd) f) else sgI n'.1.toNatClampNeg (ndO (pasO K rt l1 nd) f)) = msI k (oE env e)
    rw [ek, if_neg (nIn (by omega) (by decide) (by omega)), if_neg (nIn (by omega) (by decide) (by omega)), if_neg (nIn (by omega) (by decide) (by omega)), if_neg (nIn (by omega) (by decide) (by omega)), nI_clamp (by omega), ← a2 f hf, ve]
    obtain ⟨i, hi⟩ := oE_sm hsm e we
    rw [hi]
    obtain ⟨s1, s2, s3, s4, s5⟩ := sg_ms i
    have hk : k = 4 ∨ k = 5 ∨ k = 6 ∨ k = 7 ∨ k = 8 := by omega
    rcases hk with rfl | rfl | rfl | rfl | rfl
    · exact s1
    · exact s2
    · exact s3
    · exact s4
    · exact s5
