/-! The verdict, in words that class and reference share. -/
def MIS (rl : Nat → Option Ex) (x : Nat) : Prop := ∃ r t, r < 6 ∧ rl r = some t ∧ xC x ∈ po t ∧ x < 6 ∧ rl x = none
def BAD (rl : Nat → Option Ex) (O : Nat → Int32) (G : Nat → Bool) (x : Nat) : Prop := x < 6 ∧ ∃ t, rl x = some t ∧ ∃ e ∈ po t, gE O G e = false
def VDT (rl : Nat → Option Ex) (v : Int32) : Prop := ((∀ r, r < 6 → rl r = none) ∧ v = nI 1) ∨ ((∃ r, r < 6 ∧ rl r ≠ none) ∧ ∃ x, isM (MIS rl) (some x) ∧ v = nI (2 + 10 * x)) ∨ ((∃ r, r < 6 ∧ rl r ≠ none) ∧ isM (MIS rl) none ∧ ∃ O G o, LSO rl O ∧ LSG rl O G ∧ isM (BAD rl O G) o ∧ v = ngI o)
theorem CRL_of {rl : Nat → Option Ex} (hw : ∀ r t, r < 6 → rl r = some t → wf t) (hm : isM (MIS rl) none) : CRL rl := fun r t hr ht => by
  refine ⟨hw r t hr ht, RP_po t (hw r t hr ht) (fun q hq hx => ?_)⟩
  cases hy : rl q with
  | none => exact absurd ⟨r, t, hr, ht, hx, hq, hy⟩ (hm.2 rfl q)
  | some u => exact ⟨u, rfl⟩
theorem RP_sub {P : Nat → Prop} : ∀ t, wf t → RP P t → ∀ e ∈ po t, wf e ∧ RP P e :=
  ast_ind (fun lo hi h1 h2 g e he => by rw [List.mem_singleton.mp he]; exact ⟨⟨h1, h2⟩, g⟩) (fun r hr g e he => by rw [List.mem_singleton.mp he]; exact ⟨hr, g⟩) (fun m a b h1 h2 wa wb ha hb g e he => by
    have he : e ∈ po a ++ (po b ++ [xB m a b]) := he
    rcases List.mem_append.mp he with q | q
    · exact ha g.1 e q
    · rcases List.mem_append.mp q with q | q
      · exact hb g.2 e q
      · rw [List.mem_singleton.mp q]; exact ⟨⟨h1, h2, wa, wb⟩, g⟩) (fun k x h4 h8 wx hx g e he => by
    have he : e ∈ po x ++ [xS k x] := he
    rcases List.mem_append.mp he with q | q
    · exact hx g e q
    · rw [List.mem_singleton.mp q]; exact ⟨⟨rfl, h4, h8, wx⟩, g⟩)
theorem VDT.uniq {rl : Nat → Option Ex} {v v' : Int32} (hw : ∀ r t, r < 6 → rl r = some t → wf t) (h : VDT rl v) (h' : VDT rl v') : v = v' := by
  rcases h with ⟨a1, rfl⟩ | ⟨⟨r, hr, hn⟩, x, a2, rfl⟩ | ⟨⟨r, hr, hn⟩, a2, O, G, o, a3, a4, a5, rfl⟩
  · rcases h' with ⟨-, rfl⟩ | ⟨⟨r, hr, hn⟩, -⟩ | ⟨⟨r, hr, hn⟩, -⟩
    · rfl
    · exact absurd (a1 r hr) hn
    · exact absurd (a1 r hr) hn
  · rcases h' with ⟨b1, -⟩ | ⟨-, y, b2, rfl⟩ | ⟨-, b2, -⟩
    · exact absurd (b1 r hr) hn
    · rw [Option.some.inj (a2.uniq b2 (fun _ => Iff.rfl))]
    · cases a2.uniq b2 (fun _ => Iff.rfl)
  · rcases h' with ⟨b1, -⟩ | ⟨-, y, b2, -⟩ | ⟨-, b2, O', G', o', b3, b4, b5, rfl⟩
    · exact absurd (b1 r hr) hn
    · cases a2.uniq b2 (fun _ => Iff.rfl)
    · have hc := CRL_of hw a2
      have hG := a4.chg hc a3 b3
      have : o = o' := a5.uniq b5 (fun x => and_congr_right fun hx => exists_congr fun t => and_congr_right fun ht => exists_congr fun e => and_congr_right fun he => by
        obtain ⟨we, re⟩ := RP_sub t (hc x t hx ht).1 (hc x t hx ht).2 e he
        rw [a3.eqG b3 G we re, hG.eqE b4 we re])
      rw [this]
/-- what the class's searches find, in these words -/
theorem lm_MIS {rl : Nat → Option Ex} {es : Nat → Option Nat} {rt : Nat → Nat} {ps : Nat → List Nat} {tt : Nat → Ex} {nd : Nat → Option ND} (hc : LYC es rt ps tt nd) (hrl : ∀ r, r < 6 → rl r = (es r).map (fun _ => tt r)) : isM (MIS rl) (lmF es (stF es ps nd 6 0 (nI 0)) 6 0) := by
  have hno : ∀ r, r < 6 → (rl r = none ↔ es r = none) := fun r hr => by
    rw [hrl r hr]
    cases es r <;> exact ⟨fun c => by cases c <;> rfl, fun c => by cases c <;> rfl⟩
  refine (lmF_min 6 0).iff (fun x => ⟨?_, ?_⟩)
  · rintro ⟨-, hx6, hxn, hb⟩
    have hx6 : x < 6 := by omega
    rcases (stF_tb (k := x) 6 0 (nI 0)).mp hb with c | ⟨j, -, hj, hes, c⟩
    · exact absurd c tb_0
    · obtain ⟨l1, l2, -⟩ := hc j (by omega) hes
      refine ⟨j, tt j, by omega, ?_, (rul_occ l2 l1 hx6).mp c, hx6, (hno x hx6).mpr hxn⟩
      rw [hrl j (by omega)]
      cases hy : es j with
      | none => exact absurd hy hes
      | some y => rfl
  · rintro ⟨r, t, hr, ht, hx, hx6, hxn⟩
    have hes : es r ≠ none := fun c => by rw [(hno r hr).mpr c] at ht; cases ht
    have htt : tt r = t := by
      rw [hrl r hr] at ht
      cases hy : es r with
      | none => exact absurd hy hes
      | some y => rw [hy] at ht; cases ht; rfl
    obtain ⟨l1, l2, -⟩ := hc r hr hes
    refine ⟨Nat.zero_le _, by omega, (hno x hx6).mp hxn, (stF_tb 6 0 (nI 0)).mpr (Or.inr ⟨r, Nat.zero_le _, by omega, hes, ?_⟩)⟩
    rw [← htt] at hx
    exact (rul_occ l2 l1 hx6).mpr hx
theorem lg_BAD {rl : Nat → Option Ex} {O : Nat → Int32} {G : Nat → Bool} {es : Nat → Option Nat} {rt : Nat → Nat} {ps : Nat → List Nat} {tt : Nat → Ex} {nd0 nd : Nat → Option ND} (hc : LYC es rt ps tt nd0) (hrl : ∀ r, r < 6 → rl r = (es r).map (fun _ => tt r)) (hs : skE nd0 nd) (hv : ∀ j, j < 6 → es j ≠ none → VALG ps nd0 nd j O G) : isM (BAD rl O G) (lgF es ps nd 6 0) := by
  refine (lgF_min 6 0).iff (fun x => ⟨?_, ?_⟩)
  · rintro ⟨-, hx6, hne, h0⟩
    have hx : x < 6 := by omega
    obtain ⟨l1, l2, l3, l4⟩ := hc x hx hne
    obtain ⟨n1, n2⟩ := ((lay_NDS _ l2).1 _ _ l1).both
    obtain ⟨p, p1, n, hn, h0⟩ := (algF_ex _).mp h0
    obtain ⟨e, qe, e1, e2, e3, e4⟩ := n1 p p1
    rw [hv x hx hne e e2 _ p e3 e4 (by have := (snE_sz _ l2).1 e e1; omega)] at h0
    refine ⟨hx, tt x, ?_, e, (sn_po _ l2).1 e e1, ?_⟩
    · rw [hrl x hx]
      cases hy : es x with
      | none => exact absurd hy hne
      | some y => rfl
    · cases hg : gE O G e with
      | false => rfl
      | true => rw [hg] at h0; exact absurd h0 (by decide +kernel)
  · rintro ⟨hx, t, ht, e, he, hg⟩
    have hne : es x ≠ none := fun c => by rw [hrl x hx, c] at ht; cases ht
    have htt : tt x = t := by
      rw [hrl x hx] at ht
      cases hy : es x with
      | none => exact absurd hy hne
      | some y => rw [hy] at ht; cases ht; rfl
    subst htt
    obtain ⟨l1, l2, l3, l4⟩ := hc x hx hne
    obtain ⟨n1, n2⟩ := ((lay_NDS _ l2).1 _ _ l1).both
    refine ⟨Nat.zero_le _, by omega, hne, (algF_ex _).mpr ?_⟩
    by_cases hall : ∀ e ∈ snE (tt x), gE O G e = true
    · have := (sn_good _ l2).1 hall e he
      rw [this] at hg
      cases hg
    · obtain ⟨e2, hx2⟩ := Classical.not_forall.mp hall
      obtain ⟨h3, h4⟩ := Classical.not_imp.mp hx2
      obtain ⟨p, qe, p1, p2, p3, p4⟩ := n2 e2 h3
      obtain ⟨n, hn⟩ := lay_ex l2 l1 p p1
      obtain ⟨n', hn', -⟩ := hs.get hn
      refine ⟨p, p1, n', hn', ?_⟩
      rw [hv x hx hne e2 p2 _ p p3 p4 (by have := (snE_sz _ l2).1 e2 h3; omega), Bool.eq_false_iff.mpr h4]
      rfl
/-! the passes' start -/
def ZND (nd : Nat → Option ND) (q : Nat) : Prop := ndO nd q = nI 0 ∧ ndG nd q = nI 0
theorem ZND.up {nd : Nat → Option ND} {p q : Nat} (h : ZND nd q ∨ q = p) : ZND (va_up nd p ((nd p).map fgtN)) q := by
  unfold ZND ndO ndG
  by_cases e : q = p
  · subst e
    rw [va_up_self]
    cases nd q <;> exact ⟨rfl, rfl⟩
  · rw [va_up_ne _ _ e]
    exact h.resolve_right e
theorem fgtF_Z : ∀ (ps : List Nat) (nd : Nat → Option ND) (q : Nat), ZND nd q ∨ q ∈ ps → ZND (fgtF ps nd) q
  | [], nd, q, h => h.resolve_right (fun c => by cases c)
  | p :: t, nd, q, h => by
    unfold fgtF
    refine fgtF_Z t _ q ?_
    rcases h with h | h
    · exact Or.inl (ZND.up (Or.inl h))
    · rcases List.mem_cons.mp h with e | h
      · exact Or.inl (ZND.up (Or.inr e))
      · exact Or.inr h
theorem fgA_Z {es : Nat → Option Nat} {ps : Nat → List Nat} : ∀ (n i : Nat) (nd : Nat → Option ND) (q : Nat), (ZND nd q ∨ ∃ j, i ≤ j ∧ j < i + n ∧ es j ≠ none ∧ q ∈ ps j) → ZND (fgA es ps n i nd) q
  | 0, i, nd, q, h => h.resolve_right (fun ⟨j, a, b, _⟩ => by omega)
  | n + 1, i, nd, q, h => by
    unfold fgA
    cases hes : es i with
    | none =>
      refine fgA_Z n (i + 1) nd q (h.imp_right (fun ⟨j, a, b, c, d⟩ => ⟨j, ?_, by omega, c, d⟩))
      by_cases e : j = i
      · subst e; exact absurd hes c
      · omega
    | some y =>
      refine fgA_Z n (i + 1) _ q ?_
      rcases h with h | ⟨j, a, b, c, d⟩
      · exact Or.inl (fgtF_Z _ _ _ (Or.inl h))
      · by_cases e : j = i
        · subst e; exact Or.inl (fgtF_Z _ _ _ (Or.inr d))
        · exact Or.inr ⟨j, by omega, by omega, c, d⟩
theorem ndG_setO {nd : Nat → Option ND} {p q : Nat} {v : Int32} : ndG (setO nd p v) q = ndG nd q := by
  unfold setO ndG
  by_cases h : q = p
  · subst h
    rw [va_up_self]
    cases nd q <;> rfl
  · rw [va_up_ne _ _ h]
theorem pasO_G {K : Nat → List Nat} {rt : Nat → Nat} : ∀ (ps : List Nat) (nd : Nat → Option ND) (q : Nat), ndG (pasO K rt ps nd) q = ndG nd q
  | [], _, _ => rfl
  | p :: t, nd, q => by
    unfold pasO
    rw [pasO_G t, ndG_setO]
theorem rndO_G {es : Nat → Option Nat} {K : Nat → List Nat} {rt : Nat → Nat} {ps : Nat → List Nat} : ∀ (n i : Nat) (nd : Nat → Option ND) (b : Int32) (q : Nat), ndG (rndO es K rt ps n i nd b).1 q = ndG nd q
  | 0, _, _, _, _ => rfl
  | n + 1, i, nd, b, q => by
    unfold rndO
    cases es i with
    | none => exact rndO_G n (i + 1) nd _ q
    | some y => exact (rndO_G n (i + 1) _ _ q).trans (pasO_G _ _ _)
theorem itO_G {es : Nat → Option Nat} {K : Nat → List Nat} {rt : Nat → Nat} {ps : Nat → List Nat} : ∀ (k : Nat) (nd : Nat → Option ND) (q : Nat), ndG (itO es K rt ps k nd) q = ndG nd q
  | 0, _, _ => rfl
  | k + 1, nd, q => by
    unfold itO
    split
    · exact rndO_G 6 0 nd _ q
    · exact (itO_G k _ q).trans (rndO_G 6 0 nd _ q)
/-- all that the passes find, in the words of the rules -/
theorem passes_all {rl : Nat → Option Ex} {es : Nat → Option Nat} {rt : Nat → Nat} {ps : Nat → List Nat} {tt : Nat → Ex} {nd : Nat → Option ND} (h : CLY es rt ps tt nd) (hrl : ∀ r, r < 6 → rl r = (es r).map (fun _ => tt r)) : ∃ nd3, nd3 = itG es (Kf nd) rt ps 19 (itO es (Kf nd) rt ps 19 (fgA es ps 6 0 nd)) ∧ skE nd nd3 ∧ ∃ O G, LSO rl O ∧ LSG rl O G ∧ isM (BAD rl O G) (lgF es ps nd3 6 0) ∧ ∀ r t, r < 6 → rl r = some t → ndO nd3 (rt r) = O r := by
  have hL : LYC es rt ps tt nd := fun r hr he => by
    obtain ⟨a, b, c, d, -⟩ := h.1 r hr he
    exact ⟨a, b, c, d⟩
  have hat : ∀ r t, r < 6 → rl r = some t → es r ≠ none ∧ tt r = t := fun r t hr ht => by
    rw [hrl r hr] at ht
    cases hy : es r with
    | none => rw [hy] at ht; cases ht
    | some y => rw [hy] at ht; cases ht; exact ⟨fun c => (by cases c), rfl⟩
  have hmem : ∀ r, r < 6 → es r ≠ none → rt r ∈ ps r := fun r hr he => layE_mem _ (h.1 r hr he).2.1 _ _ (h.1 r hr he).1
  have hZ : ∀ r, r < 6 → ZND (fgA es ps 6 0 nd) (rt r) := fun r hr => by
    obtain ⟨q, hq, hx, e⟩ := h.2.2 r hr
    rw [e]
    exact fgA_Z 6 0 nd _ (Or.inr ⟨q, Nat.zero_le _, by omega, hx, hmem q hq hx⟩)
  have s1 : skE nd (fgA es ps 6 0 nd) := fgA_sk 6 0 nd
  have I1 : IVE es tt (eO rt (fgA es ps 6 0 nd)) := by
    have hz : ∀ r, r < 6 → eO rt (fgA es ps 6 0 nd) r = nI 0 := fun r hr => (hZ r hr).1
    have hsm : ∀ r, r < 6 → sm8 (eO rt (fgA es ps 6 0 nd) r) := fun r hr => ⟨0, hz r hr⟩
    refine ⟨hsm, fun r hr he => ?_, fun F f1 f2 r hr he => ?_⟩
    · rw [hz r hr]
      exact le8.z (oE_sm hsm _ (h.1 r hr he).2.1)
    · rw [hz r hr]
      exact le8.z (f1 r hr)
  obtain ⟨s2, I2, V2⟩ := itO_ok h 19 (fgA es ps 6 0 nd) (by omega) s1 I1
  generalize hN2 : itO es (Kf nd) rt ps 19 (fgA es ps 6 0 nd) = nd2 at *
  have g2 : ∀ r, r < 6 → ndG nd2 (rt r) = nI 0 := fun r hr => by rw [← hN2, itO_G]; exact (hZ r hr).2
  have e2 : ∀ r, r < 6 → eG rt nd2 r = false := fun r hr => eG_of (b := false) (g2 r hr)
  obtain ⟨s3, O3, I3, V3⟩ := itG_ok (O := eO rt nd2) h 19 nd2 (by omega) s2 V2 (fun r hr => by rw [e2 r hr]; exact g2 r hr) ⟨fun r hr he ht => (by rw [e2 r hr] at ht; cases ht), fun F f2 r hr he ht => (by rw [e2 r hr] at ht; cases ht)⟩
  generalize hN3 : itG es (Kf nd) rt ps 19 nd2 = nd3 at *
  refine ⟨nd3, rfl, s3, eO rt nd2, eG rt nd3, ⟨I2.1, fun r t hr ht => ?_, fun F f1 f2 r t hr ht => ?_⟩, ⟨fun r t hr ht => ?_, fun F f2 r t hr ht hg => ?_⟩, lg_BAD hL hrl s3 V3, fun r t hr ht => (O3 (rt r))⟩
  · obtain ⟨he, rfl⟩ := hat r t hr ht
    obtain ⟨a, b, c, d, -⟩ := h.1 r hr he
    exact V2 r hr he (tt r) b (ps r) (rt r) a (fun c hc => hc) (by omega)
  · obtain ⟨he, rfl⟩ := hat r t hr ht
    exact I2.2.2 F f1 (fun q hq hx => f2 q (tt q) hq (by rw [hrl q hq]; cases hy : es q with
      | none => exact absurd hy hx
      | some y => rfl)) r hr he
  · obtain ⟨he, rfl⟩ := hat r t hr ht
    obtain ⟨a, b, c, d, -⟩ := h.1 r hr he
    exact eG_of (V3 r hr he (tt r) b (ps r) (rt r) a (fun c hc => hc) (by omega))
  · obtain ⟨he, rfl⟩ := hat r t hr ht
    exact I3.2 F (fun q hq hx hF => f2 q (tt q) hq (by rw [hrl q hq]; cases hy : es q with
      | none => exact absurd hy hx
      | some y => rfl) hF) r hr he hg
theorem szF_0 {es : Nat → Option Nat} : ∀ n i c, szF es n i c = 0 ↔ c = 0 ∧ ∀ j, i ≤ j → j < i + n → es j = none
  | 0, i, c => ⟨fun h => ⟨h, fun j a b => by omega⟩, fun h => h.1⟩
  | n + 1, i, c => by
    unfold szF
    cases hes : es i with
    | none =>
      dsimp only
      rw [szF_0 n (i + 1) c]
      refine and_congr_right fun _ => ⟨fun h j a b => ?_, fun h j a b => h j (by omega) (by omega)⟩
      by_cases e : j = i
      · subst e; exact hes
      · exact h j (by omega) (by omega)
    | some y =>
      dsimp only
      rw [szF_0 n (i + 1) (c + 1)]
      exact ⟨fun h => by omega, fun h => by have := h.2 i (Nat.le_refl _) (by omega); rw [hes] at this; cases this⟩
