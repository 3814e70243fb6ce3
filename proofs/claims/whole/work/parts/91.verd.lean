/-! Verdicts: the class's and the reference's searches find the same. -/
def isM (S : Nat → Prop) (o : Option Nat) : Prop := (∀ x, o = some x → S x ∧ ∀ y, S y → x ≤ y) ∧ (o = none → ∀ y, ¬ S y)
theorem isM.uniq {S S' : Nat → Prop} {a b : Option Nat} (h : isM S a) (h' : isM S' b) (e : ∀ x, S x ↔ S' x) : a = b := by
  cases a with
  | none =>
    cases b with
    | none => rfl
    | some y => exact absurd ((e y).mpr (h'.1 y rfl).1) (h.2 rfl y)
  | some x =>
    cases b with
    | none => exact absurd ((e x).mp (h.1 x rfl).1) (h'.2 rfl x)
    | some y =>
      have h1 := (h.1 x rfl).2 y ((e y).mpr (h'.1 y rfl).1)
      have h2 := (h'.1 y rfl).2 x ((e x).mp (h.1 x rfl).1)
      rw [Nat.le_antisymm h1 h2]
theorem isM.iff {S S' : Nat → Prop} {a : Option Nat} (h : isM S a) (e : ∀ x, S x ↔ S' x) : isM S' a :=
  ⟨fun x hx => ⟨(e x).mp (h.1 x hx).1, fun y hy => (h.1 x hx).2 y ((e y).mpr hy)⟩, fun hn y hy => h.2 hn y ((e y).mpr hy)⟩
/-- a search from i on -/
theorem isM_srch {P : Nat → Prop} {f : Nat → Nat → Option Nat} (h0 : ∀ i, f 0 i = none) (h1 : ∀ n i, P i → f (n + 1) i = some i) (h2 : ∀ n i, ¬ P i → f (n + 1) i = f n (i + 1)) : ∀ n i, isM (fun x => i ≤ x ∧ x < i + n ∧ P x) (f n i)
  | 0, i => ⟨fun x hx => (by rw [h0] at hx; cases hx), fun _ y hy => (by have h3 := hy.1; have h4 := hy.2.1; omega)⟩
  | n + 1, i => by
    by_cases hp : P i
    · rw [h1 n i hp]
      exact ⟨fun x hx => by cases hx; exact ⟨⟨Nat.le_refl _, by omega, hp⟩, fun y hy => hy.1⟩, fun hn => by cases hn⟩
    · rw [h2 n i hp]
      refine (isM_srch h0 h1 h2 n (i + 1)).iff (fun x => ⟨fun ⟨a, b, c⟩ => ⟨by omega, by omega, c⟩, fun ⟨a, b, c⟩ => ⟨?_, by omega, c⟩⟩)
      by_cases e : x = i
      · subst e; exact absurd c hp
      · omega
theorem lmF_min {es : Nat → Option Nat} {b : Int32} : ∀ n i, isM (fun x => i ≤ x ∧ x < i + n ∧ es x = none ∧ ¬ b &&& (nI 1 <<< (nI x &&& 31)) = 0) (lmF es b n i) :=
  isM_srch (P := fun x => es x = none ∧ ¬ b &&& (nI 1 <<< (nI x &&& 31)) = 0) (fun _ => rfl) (fun n i h => by unfold lmF; rw [if_pos h]) (fun n i h => by rw [lmF, if_neg h])
theorem lgF_min {es : Nat → Option Nat} {ps : Nat → List Nat} {nd : Nat → Option ND} : ∀ n i, isM (fun x => i ≤ x ∧ x < i + n ∧ es x ≠ none ∧ algF nd (ps x) = false) (lgF es ps nd n i) :=
  isM_srch (P := fun x => es x ≠ none ∧ algF nd (ps x) = false) (fun _ => rfl) (fun n i h => by unfold lgF; rw [if_pos h]) (fun n i h => by rw [lgF, if_neg h])
theorem ngR_min {zs : Nat → Nat} {G : Nat → Int32} : ∀ n i, isM (fun x => i ≤ x ∧ x < i + n ∧ ngK G x (zs x) 0 = true) (ngR zs G n i) :=
  isM_srch (P := fun x => ngK G x (zs x) 0 = true) (fun _ => rfl) (fun n i h => by unfold ngR; rw [if_pos h]) (fun n i h => by rw [ngR, if_neg h])
theorem ngK_ex {G : Nat → Int32} {r : Nat} : ∀ n i, ngK G r n i = true ↔ ∃ j, i ≤ j ∧ j < i + n ∧ G (64 * r + j) = 0
  | 0, i => ⟨fun h => (by cases h), fun ⟨j, a, b, _⟩ => by omega⟩
  | n + 1, i => by
    unfold ngK
    by_cases h : G (64 * r + i) = 0
    · rw [if_pos h]
      exact ⟨fun _ => ⟨i, Nat.le_refl _, by omega, h⟩, fun _ => rfl⟩
    · rw [if_neg h, ngK_ex n (i + 1)]
      refine ⟨fun ⟨j, a, b, c⟩ => ⟨j, by omega, by omega, c⟩, fun ⟨j, a, b, c⟩ => ⟨j, ?_, by omega, c⟩⟩
      by_cases e : j = i
      · subst e; exact absurd c h
      · omega
theorem algF_ex {nd : Nat → Option ND} : ∀ qs : List Nat, algF nd qs = false ↔ ∃ p ∈ qs, ∃ n, nd p = some n ∧ ndG nd p = 0
  | [] => ⟨fun h => (by cases h), fun ⟨p, a, _⟩ => by cases a⟩
  | q :: t => by
    unfold algF
    rw [Bool.and_eq_false_iff, algF_ex t]
    constructor
    · rintro (h | ⟨p, a, b⟩)
      · cases hq : nd q with
        | none => rw [hq] at h; cases h
        | some n =>
          rw [hq] at h
          refine ⟨q, List.mem_cons_self, n, hq, ?_⟩
          unfold ndG
          rw [hq]
          have h : (!(n.2.2.2.2.2.2.2 == 0)) = false := h
          rw [Bool.not_eq_false', beq_iff_eq] at h
          exact h
      · exact ⟨p, List.mem_cons_of_mem _ a, b⟩
    · rintro ⟨p, a, n, hn, h0⟩
      rcases List.mem_cons.mp a with rfl | a
      · refine Or.inl ?_
        unfold ndG at h0
        rw [hn] at h0
        have h0 : n.2.2.2.2.2.2.2 = 0 := h0
        rw [hn]
        show (!(n.2.2.2.2.2.2.2 == 0)) = false
        rw [h0]
        rfl
      · exact Or.inr ⟨p, a, n, hn, h0⟩
theorem NDS.both {nd : Nat → Option ND} {qs : List Nat} {es : List Ex} (h : NDS nd qs es) : (∀ p ∈ qs, ∃ e qe, e ∈ es ∧ wf e ∧ layE nd e (qe ++ [p]) p ∧ ∀ c ∈ qe ++ [p], c ∈ qs) ∧ ∀ e ∈ es, ∃ p qe, p ∈ qs ∧ wf e ∧ layE nd e (qe ++ [p]) p ∧ ∀ c ∈ qe ++ [p], c ∈ qs := by
  have main : ∀ l1 p l2, qs = l1 ++ p :: l2 → ∃ e qe, es[l1.length]? = some e ∧ wf e ∧ layE nd e (qe ++ [p]) p ∧ ∀ c ∈ qe ++ [p], c ∈ qs := fun l1 p l2 e => by
    obtain ⟨x, qz, h1, h2, h3, h4⟩ := h.2 l1 p l2 e
    refine ⟨x, qz, h1, h2, h3, fun c hc => ?_⟩
    rw [e]
    rcases List.mem_append.mp hc with g | g
    · exact List.mem_append_left _ (h4 c g)
    · rw [List.mem_singleton.mp g]
      exact List.mem_append_right _ List.mem_cons_self
  refine ⟨fun p hp => ?_, fun e he => ?_⟩
  · obtain ⟨l1, l2, e⟩ := List.append_of_mem hp
    obtain ⟨x, qz, h1, h2⟩ := main l1 p l2 e
    exact ⟨x, qz, List.mem_of_getElem? h1, h2⟩
  · obtain ⟨l1, l2, ee⟩ := List.append_of_mem he
    have hlt : l1.length < qs.length := by rw [h.1, ee]; simp
    have e1 : qs = qs.take l1.length ++ qs[l1.length] :: qs.drop (l1.length + 1) := by
      rw [List.getElem_cons_drop, List.take_append_drop]
    obtain ⟨x, qz, h1, h2, h3, h4⟩ := main _ _ _ e1
    have e2 : (qs.take l1.length).length = l1.length := by rw [List.length_take]; omega
    rw [e2, ee, List.getElem?_append_right (Nat.le_refl _), Nat.sub_self] at h1
    cases h1
    exact ⟨qs[l1.length], qz, List.getElem_mem _, h2, h3, h4⟩
theorem sn_po : ∀ t, wf t → (∀ e ∈ snE t, e ∈ po t) ∧ (∀ e ∈ snL t, e ∈ po t) := by
  refine ast_ind (fun lo hi _ _ => ⟨fun e h => h, fun e h => by cases h⟩) (fun r _ => ⟨fun e h => h, fun e h => by cases h⟩) (fun m a b _ _ _ _ ha hb => ?_) (fun k e _ _ _ he => ⟨fun x h => ?_, fun e h => by cases h⟩)
  · have HL : ∀ e ∈ snL (xB m a b), e ∈ po (xB m a b) := fun e h => by
      have h : e ∈ snE a ++ (if m % 2 = 1 then snL b else snE b) := h
      show e ∈ po a ++ (po b ++ [xB m a b])
      rcases List.mem_append.mp h with g | g
      · exact List.mem_append_left _ (ha.1 e g)
      · refine List.mem_append_right _ (List.mem_append_left _ ?_)
        split at g
        · exact hb.2 e g
        · exact hb.1 e g
    refine ⟨fun e h => ?_, HL⟩
    have h : e ∈ snL (xB m a b) ++ [xB m a b] := h
    rcases List.mem_append.mp h with g | g
    · exact HL e g
    · exact List.mem_append_right _ (List.mem_append_right _ g)
  · have h : x ∈ snE e ++ [xS k e] := h
    show x ∈ po e ++ [xS k e]
    rcases List.mem_append.mp h with g | g
    · exact List.mem_append_left _ (he.1 x g)
    · exact List.mem_append_right _ g
theorem sn_self : ∀ t, wf t → t ∈ snE t :=
  ast_ind (fun _ _ _ _ => List.mem_singleton.mpr rfl) (fun _ _ => List.mem_singleton.mpr rfl) (fun m a b _ _ _ _ _ _ => List.mem_append_right _ (List.mem_singleton.mpr rfl)) (fun k e _ _ _ _ => List.mem_append_right _ (List.mem_singleton.mpr rfl))
/-- where all nodes of the class are good, so are all of the reference -/
theorem sn_good {O : Nat → Int32} {G : Nat → Bool} : ∀ t, wf t → ((∀ e ∈ snE t, gE O G e = true) → ∀ e ∈ po t, gE O G e = true) ∧ (∀ q, isB q t → (∀ e ∈ snL t, gE O G e = true) → ∀ e ∈ po t, gE O G e = true) := by
  refine ast_ind (fun lo hi _ _ => ⟨fun h => h, fun q hq => hq.elim⟩) (fun r _ => ⟨fun h => h, fun q hq => hq.elim⟩) (fun m a b _ h2 wa wb ha hb => ?_) (fun k x _ _ _ hx => ⟨fun h e he => ?_, fun q hq => hq.elim⟩)
  · have HL : (∀ e ∈ snL (xB m a b), gE O G e = true) → ∀ e ∈ po (xB m a b), gE O G e = true := fun h e he => by
      have h : ∀ e ∈ snE a ++ (if m % 2 = 1 then snL b else snE b), gE O G e = true := h
      have pa := ha.1 (fun e he => h e (List.mem_append_left _ he))
      have pb : ∀ e ∈ po b, gE O G e = true := by
        by_cases hm : m % 2 = 1
        · rw [if_pos hm] at h
          exact hb.2 _ (h2 hm) (fun e he => h e (List.mem_append_right _ he))
        · rw [if_neg hm] at h
          exact hb.1 (fun e he => h e (List.mem_append_right _ he))
      have he : e ∈ po a ++ (po b ++ [xB m a b]) := he
      rcases List.mem_append.mp he with g | g
      · exact pa e g
      · rcases List.mem_append.mp g with g | g
        · exact pb e g
        · rw [List.mem_singleton.mp g]
          have ga := pa a ((sn_po a wa).1 a (sn_self a wa))
          have gb := pb b ((sn_po b wb).1 b (sn_self b wb))
          show (if m < 2 then gE O G a && (oE O a &&& nI 1 == 0 || gE O G b) else gE O G a && gE O G b) = true
          rw [ga, gb, Bool.or_true]
          split <;> rfl
    exact ⟨fun h => HL (fun e he => h e (List.mem_append_left _ he)), fun q _ => HL⟩
  · have h : ∀ e ∈ snE x ++ [xS k x], gE O G e = true := h
    have he : e ∈ po x ++ [xS k x] := he
    rcases List.mem_append.mp he with g | g
    · exact hx.1 (fun e he => h e (List.mem_append_left _ he)) e g
    · exact h e (List.mem_append_right _ g)
/-- the search for what isn't good -/
theorem ng_lg {rl : Nat → Option Ex} {zs : Nat → Nat} {H : Nat → Nat → Int32} {g O : Nat → Int32} {G : Nat → Bool} {es : Nat → Option Nat} {rt : Nat → Nat} {ps : Nat → List Nat} {tt : Nat → Ex} {nd0 nd : Nat → Option ND} (h : RFL rl zs H) (hc : CLY es rt ps tt nd0) (hrl : ∀ r, r < 6 → rl r = (es r).map (fun _ => tt r)) (hg : ∀ (r : Nat) (t : Ex) (i : Nat) (e : Ex), r < 6 → rl r = some t → (po t)[i]? = some e → g (64 * r + i) = bI (gE O G e)) (hs : skE nd0 nd) (hv : ∀ j, j < 6 → es j ≠ none → VALG ps nd0 nd j O G) : ngR zs g 6 0 = lgF es ps nd 6 0 := by
  refine (ngR_min 6 0).uniq (lgF_min 6 0) (fun x => and_congr_right fun _ => and_congr_right fun hx6 => ?_)
  have hx : x < 6 := by omega
  rw [ngK_ex, algF_ex]
  cases hes : es x with
  | none =>
    have hz : zs x = 0 := (h.no hx).mpr (by rw [hrl x hx, hes]; rfl)
    rw [hz]
    exact ⟨fun ⟨j, a, b, _⟩ => by omega, fun ⟨c, _⟩ => absurd rfl c⟩
  | some y =>
    have hne : es x ≠ none := by rw [hes]; exact fun c => by cases c
    have ht : rl x = some (tt x) := by rw [hrl x hx, hes]; rfl
    obtain ⟨l1, l2, l3, l4, l5⟩ := hc.1 x hx hne
    obtain ⟨w1, w2, w3, w4⟩ := h.at hx ht
    obtain ⟨n1, n2⟩ := ((lay_NDS _ l2).1 _ _ l1).both
    have hs100 : ∀ e ∈ snE (tt x), sz e ≤ 100 := fun e he => by have := (snE_sz _ l2).1 e he; omega
    constructor
    · rintro ⟨j, -, hj, h0⟩
      refine ⟨fun c => (by cases c), ?_⟩
      obtain ⟨e, he⟩ := po_get l2 (show j < sz (tt x) by omega)
      rw [hg x _ j e hx ht he] at h0
      by_cases hall : ∀ e ∈ snE (tt x), gE O G e = true
      · have := (sn_good _ l2).1 hall e (List.mem_of_getElem? he)
        rw [this] at h0
        exact absurd h0 (by decide +kernel)
      · obtain ⟨e2, hx2⟩ := Classical.not_forall.mp hall
        obtain ⟨h3, h4⟩ := Classical.not_imp.mp hx2
        obtain ⟨p, qe, p1, p2, p3, p4⟩ := n2 e2 h3
        obtain ⟨n, hn⟩ := lay_ex l2 l1 p p1
        obtain ⟨n', hn', -⟩ := hs.get hn
        refine ⟨p, p1, n', hn', ?_⟩
        rw [hv x hx hne e2 p2 _ p p3 p4 (hs100 e2 h3), Bool.eq_false_iff.mpr h4]
        rfl
    · rintro ⟨-, p, p1, n, hn, h0⟩
      obtain ⟨e, qe, e1, e2, e3, e4⟩ := n1 p p1
      rw [hv x hx hne e e2 _ p e3 e4 (hs100 e e1)] at h0
      obtain ⟨j, hj, he⟩ := List.getElem_of_mem ((sn_po _ l2).1 e e1)
      have he2 : (po (tt x))[j]? = some e := by rw [List.getElem?_eq_getElem hj, he]
      refine ⟨j, Nat.zero_le _, ?_, ?_⟩
      · have := (w4 j e he2).1
        omega
      · rw [hg x _ j e hx ht he2, h0]
