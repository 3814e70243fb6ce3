/-! The class's passes over all rules come to the least solution. -/
theorem lay_sk {nd nd' : Nat → Option ND} (h : skE nd nd') : ∀ t, wf t → (∀ qs p, layE nd t qs p → layE nd' t qs p) ∧ (∀ ql f, layL nd t ql f → layL nd' t ql f) := by
  refine ast_ind (fun lo hi _ _ => ⟨fun qs p g => ?_, fun ql f g => g.elim⟩) (fun r _ => ⟨fun qs p g => ?_, fun ql f g => g.elim⟩) (fun m a b _ _ wa wb ha hb => ?_) (fun k e _ _ we he => ⟨fun qs p g => ?_, fun ql f g => g.elim⟩)
  · obtain ⟨g0, n, g1, g2, g3, g4⟩ := g
    obtain ⟨n', k1, k2⟩ := h.get g1
    obtain ⟨e1, e2, e3, e4, e5, e6⟩ := sk_eq k2
    exact ⟨g0, n', k1, e1.trans g2, e2.trans g3, e3.trans g4⟩
  · obtain ⟨g0, n, g1, g2, g3⟩ := g
    obtain ⟨n', k1, k2⟩ := h.get g1
    obtain ⟨e1, e2, e3, e4, e5, e6⟩ := sk_eq k2
    exact ⟨g0, n', k1, e1.trans g2, e2.trans g3⟩
  · have HL : ∀ ql f, layL nd (xB m a b) ql f → layL nd' (xB m a b) ql f := by
      intro ql f g
      obtain ⟨qa, qb, g0, g1, nf, g9, g2, g3, g4⟩ := g
      obtain ⟨nf', k1, k2⟩ := h.get g2
      refine ⟨qa, qb, g0, ha.1 qa f g1, nf', g9, k1, (sk_eq k2).2.2.2.2.1.trans g3, ?_⟩
      by_cases hm : m % 2 = 1
      · rw [if_pos hm] at g4 ⊢
        exact hb.2 qb g9 g4
      · rw [if_neg hm] at g4 ⊢
        obtain ⟨g5, ng, g6, g7⟩ := g4
        obtain ⟨ng', k3, k4⟩ := h.get g6
        exact ⟨hb.1 qb g9 g5, ng', k3, (sk_eq k4).2.2.2.2.1.trans g7⟩
    refine ⟨fun qs p g => ?_, HL⟩
    obtain ⟨ql, n, f, g0, g1, g2, g3, g4⟩ := g
    obtain ⟨n', k1, k2⟩ := h.get g1
    obtain ⟨e1, e2, e3, e4, e5, e6⟩ := sk_eq k2
    exact ⟨ql, n', f, g0, k1, e1.trans g2, e4.trans g3, HL ql f g4⟩
  · obtain ⟨ql, n, f, g0, g1, g2, g3, g4⟩ := g
    obtain ⟨n', k1, k2⟩ := h.get g1
    obtain ⟨e1, e2, e3, e4, e5, e6⟩ := sk_eq k2
    exact ⟨ql, n', f, g0, k1, e1.trans g2, e4.trans g3, he.1 ql f g4⟩
theorem RP_all {P : Nat → Prop} (h : ∀ r, r < 6 → P r) : ∀ t, wf t → RP P t :=
  ast_ind (fun _ _ _ _ => trivial) (fun r hr => h r hr) (fun _ _ _ _ _ _ _ ha hb => ⟨ha, hb⟩) (fun _ _ _ _ _ he => he)
/-- how many bits an outcome has -/
def bcn (o : Int32) : Nat := (if o &&& nI 1 = 0 then 0 else 1) + (if o &&& nI 2 = 0 then 0 else 1) + (if o &&& nI 4 = 0 then 0 else 1)
theorem bc_dec : ∀ a b : Fin 8, le8 (nI a.val) (nI b.val) → bcn (nI a.val) ≤ bcn (nI b.val) ∧ (bcn (nI b.val) ≤ bcn (nI a.val) → a = b) := by
  unfold le8 bcn
  decide +kernel
theorem bc_3 (o : Int32) : bcn o ≤ 3 := by
  unfold bcn
  split <;> split <;> split <;> decide
theorem bc_le {a b : Int32} (ha : sm8 a) (hb : sm8 b) (h : le8 a b) : bcn a ≤ bcn b ∧ (¬ a = b → bcn a < bcn b) := by
  obtain ⟨i, rfl⟩ := ha
  obtain ⟨j, rfl⟩ := hb
  obtain ⟨h1, h2⟩ := bc_dec i j h
  refine ⟨h1, fun hne => ?_⟩
  rcases Nat.lt_or_ge (bcn (nI i.val)) (bcn (nI j.val)) with h3 | h3
  · exact h3
  · exact absurd (by rw [h2 h3]) hne
def bsm (f : Nat → Nat) : Nat → Nat
  | 0 => 0
  | n + 1 => bsm f n + f n
theorem bsm_le {f : Nat → Nat} {c : Nat} (h : ∀ k, f k ≤ c) : ∀ n, bsm f n ≤ n * c
  | 0 => Nat.zero_le _
  | n + 1 => by
    have h1 := bsm_le h n
    have h2 := h n
    show bsm f n + f n ≤ (n + 1) * c
    rw [Nat.add_mul, Nat.one_mul]
    omega
theorem bsm_mono {f g : Nat → Nat} : ∀ n, (∀ k, k < n → f k ≤ g k) → bsm f n ≤ bsm g n ∧ ∀ k, k < n → f k < g k → bsm f n < bsm g n
  | 0, _ => ⟨Nat.le_refl _, fun k hk => by omega⟩
  | n + 1, h => by
    obtain ⟨h1, h2⟩ := bsm_mono n (fun k hk => h k (by omega))
    have h3 := h n (Nat.lt_succ_self n)
    refine ⟨by show bsm f n + f n ≤ bsm g n + g n; omega, fun k hk hlt => ?_⟩
    show bsm f n + f n < bsm g n + g n
    by_cases e : k = n
    · subst e; omega
    · have := h2 k (by omega) hlt
      omega
theorem or01 {b : Int32} {p : Prop} [Decidable p] (hb : b = nI 0 ∨ b = nI 1) : ((b ||| (if p then nI 0 else nI 1)) = nI 0 ∨ (b ||| (if p then nI 0 else nI 1)) = nI 1) ∧ ((b ||| (if p then nI 0 else nI 1)) = 0 ↔ b = 0 ∧ p) := by
  by_cases hp : p
  · rw [if_pos hp]
    rcases hb with rfl | rfl
    · exact ⟨Or.inl (by decide +kernel), ⟨fun _ => ⟨by decide +kernel, hp⟩, fun _ => by decide +kernel⟩⟩
    · exact ⟨Or.inr (by decide +kernel), ⟨fun h => absurd h (by decide +kernel), fun h => absurd h.1 (by decide +kernel)⟩⟩
  · rw [if_neg hp]
    rcases hb with rfl | rfl
    · exact ⟨Or.inr (by decide +kernel), ⟨fun h => absurd h (by decide +kernel), fun h => absurd h.2 hp⟩⟩
    · exact ⟨Or.inr (by decide +kernel), ⟨fun h => absurd h (by decide +kernel), fun h => absurd h.2 hp⟩⟩
theorem or00 {b : Int32} (hb : b = nI 0 ∨ b = nI 1) : b ||| nI 0 = b := by
  rcases hb with rfl | rfl <;> decide +kernel
def eO (rt : Nat → Nat) (nd : Nat → Option ND) (r : Nat) : Int32 := ndO nd (rt r)
/-- small, below its step, and below each that is above its step -/
def IVE (es : Nat → Option Nat) (tt : Nat → Ex) (E : Nat → Int32) : Prop := (∀ r, r < 6 → sm8 (E r)) ∧ (∀ r, r < 6 → es r ≠ none → le8 (E r) (oE E (tt r))) ∧ ∀ F : Nat → Int32, (∀ r, r < 6 → sm8 (F r)) → (∀ r, r < 6 → es r ≠ none → le8 (oE F (tt r)) (F r)) → ∀ r, r < 6 → es r ≠ none → le8 (E r) (F r)
/-- each node of rule i has the outcomes of what it stands for -/
def VALO (ps : Nat → List Nat) (nd0 nd : Nat → Option ND) (i : Nat) (E : Nat → Int32) : Prop := ∀ e, wf e → ∀ qe q, layE nd0 e qe q → (∀ c ∈ qe, c ∈ ps i) → sz e ≤ 100 → ndO nd q = oE E e
theorem Kf_eq {nd nd' : Nat → Option ND} (h : skE nd nd') : Kf nd' = Kf nd := funext (Kf_sk h)
theorem passO {es : Nat → Option Nat} {rt : Nat → Nat} {ps : Nat → List Nat} {tt : Nat → Ex} {nd0 nd : Nat → Option ND} (h : CLY es rt ps tt nd0) (hs : skE nd0 nd) {i : Nat} (hi : i < 6) (he : es i ≠ none) (hsm : ∀ r, r < 6 → sm8 (eO rt nd r)) : eO rt (pasO (Kf nd0) rt (ps i) nd) i = oE (eO rt nd) (tt i) ∧ (∀ r, r < 6 → rt r = rt i ∨ eO rt (pasO (Kf nd0) rt (ps i) nd) r = eO rt nd r) ∧ VALO ps nd0 (pasO (Kf nd0) rt (ps i) nd) i (eO rt nd) ∧ ∀ q, q ∉ ps i → ndO (pasO (Kf nd0) rt (ps i) nd) q = ndO nd q := by
  have hN := h.sk hs
  obtain ⟨h1, h2, h3, h4, h5⟩ := hN.1 i hi he
  obtain ⟨c1, c2, c3⟩ := hN.rt hi he
  have hex := lay_ex h2 h1
  have hnds := (lay_NDS _ h2).1 _ _ h1
  have hord := ORD_of hnds (fun e hx => by have := (snE_sz _ h2).1 e hx; omega)
  have hv := valO (rt := rt) (env := eO rt nd) h4 hex hord c2 (fun r _ => rfl) hsm
  rw [Kf_eq hs] at hv
  have hout := pasO_out (K := Kf nd0) (rt := rt) (ps i) nd hex
  refine ⟨(hv (tt i) h2).1 (ps i) (rt i) h1 (fun c hc => hc) (by omega), fun r hr => ?_, fun e we qe q hl hq h100 => (hv e we).1 qe q ((lay_sk hs e we).1 qe q hl) hq h100, hout⟩
  obtain ⟨q, hq, hx, e⟩ := h.2.2 r hr
  by_cases hqi : q = i
  · subst hqi; exact Or.inl e
  · refine Or.inr ?_
    show ndO _ (rt r) = ndO nd (rt r)
    rw [e]
    exact hout _ (c1 q hq hx hqi)
theorem IVE.step {es : Nat → Option Nat} {rt : Nat → Nat} {ps : Nat → List Nat} {tt : Nat → Ex} {nd0 nd : Nat → Option ND} (h : CLY es rt ps tt nd0) (hs : skE nd0 nd) {i : Nat} (hi : i < 6) (he : es i ≠ none) (hI : IVE es tt (eO rt nd)) : IVE es tt (eO rt (pasO (Kf nd0) rt (ps i) nd)) ∧ ∀ r, r < 6 → le8 (eO rt nd r) (eO rt (pasO (Kf nd0) rt (ps i) nd) r) := by
  obtain ⟨a1, a2, a3⟩ := hI
  obtain ⟨p1, p2, -, p4⟩ := passO h hs hi he a1
  have wi : ∀ r, r < 6 → es r ≠ none → wf (tt r) ∧ RP (fun q => es q ≠ none) (tt r) := fun r hr hx => by
    obtain ⟨-, x2, -, -, x5⟩ := h.1 r hr hx
    exact ⟨x2, x5⟩
  have eq1 : ∀ r, rt r = rt i → eO rt (pasO (Kf nd0) rt (ps i) nd) r = oE (eO rt nd) (tt i) ∧ eO rt nd r = eO rt nd i := fun r e => by
    rw [← p1]
    unfold eO
    rw [e]
    exact ⟨rfl, rfl⟩
  generalize hN : eO rt (pasO (Kf nd0) rt (ps i) nd) = E' at *
  generalize hE : eO rt nd = E at *
  have s1 : ∀ r, r < 6 → sm8 (E' r) := fun r hr => by
    rcases p2 r hr with g | g
    · rw [(eq1 r g).1]; exact oE_sm a1 _ (wi i hi he).1
    · rw [g]; exact a1 r hr
  have s2 : ∀ r, r < 6 → le8 (E r) (E' r) := fun r hr => by
    rcases p2 r hr with g | g
    · rw [(eq1 r g).1, (eq1 r g).2]; exact a2 i hi he
    · rw [g]; exact le8.rf (a1 r hr)
  have ne : ∀ r, r < 6 → es r ≠ none → r ≠ i → E' r = E r := fun r hr hx hri => by
    rcases p2 r hr with g | g
    · exact absurd (by rw [g]; exact (h.rt hi he).2.2) ((h.rt hi he).1 r hr hx hri)
    · exact g
  have mo : ∀ r, r < 6 → es r ≠ none → le8 (oE E (tt r)) (oE E' (tt r)) := fun r hr hx => oE_mono (P := fun q => es q ≠ none) a1 s1 (fun q hq _ => s2 q hq) _ (wi r hr hx).1 (wi r hr hx).2
  refine ⟨⟨s1, fun r hr hx => ?_, fun F f1 f2 r hr hx => ?_⟩, s2⟩
  · by_cases hri : r = i
    · subst hri
      rw [p1]
      exact mo r hr hx
    · rw [ne r hr hx hri]
      exact (a2 r hr hx).tr (a1 r hr) (oE_sm a1 _ (wi r hr hx).1) (oE_sm s1 _ (wi r hr hx).1) (mo r hr hx)
  · by_cases hri : r = i
    · subst hri
      rw [p1]
      exact (oE_mono (P := fun q => es q ≠ none) a1 f1 (fun q hq hqx => a3 F f1 f2 q hq hqx) _ (wi r hr hx).1 (wi r hr hx).2).tr (oE_sm a1 _ (wi r hr hx).1) (oE_sm f1 _ (wi r hr hx).1) (f1 r hr) (f2 r hr hx)
    · rw [ne r hr hx hri]
      exact a3 F f1 f2 r hr hx
def bsO (E : Nat → Int32) : Nat := bsm (fun r => bcn (E r)) 6
theorem VALO.eqE {ps : Nat → List Nat} {nd0 nd : Nat → Option ND} {i : Nat} {E E' : Nat → Int32} (h : VALO ps nd0 nd i E) (e : ∀ r, r < 6 → E r = E' r) : VALO ps nd0 nd i E' := fun x wx qe q hl hq h100 => (h x wx qe q hl hq h100).trans (oE_cg x wx (RP_all e x wx))
set_option maxHeartbeats 1000000 in
theorem rndO_ok {es : Nat → Option Nat} {rt : Nat → Nat} {ps : Nat → List Nat} {tt : Nat → Ex} {nd0 : Nat → Option ND} (h : CLY es rt ps tt nd0) : ∀ (n i : Nat) (nd : Nat → Option ND) (b : Int32), i + n ≤ 6 → (b = nI 0 ∨ b = nI 1) → skE nd0 nd → IVE es tt (eO rt nd) → IVE es tt (eO rt (rndO es (Kf nd0) rt ps n i nd b).1) ∧ bsO (eO rt nd) ≤ bsO (eO rt (rndO es (Kf nd0) rt ps n i nd b).1) ∧ ((rndO es (Kf nd0) rt ps n i nd b).2 = 0 → b = 0 ∧ (∀ r, r < 6 → eO rt (rndO es (Kf nd0) rt ps n i nd b).1 r = eO rt nd r) ∧ ∀ j, i ≤ j → j < i + n → es j ≠ none → VALO ps nd0 (rndO es (Kf nd0) rt ps n i nd b).1 j (eO rt nd)) ∧ (¬ (rndO es (Kf nd0) rt ps n i nd b).2 = 0 → ¬ b = 0 ∨ bsO (eO rt nd) < bsO (eO rt (rndO es (Kf nd0) rt ps n i nd b).1)) ∧ ∀ q, (∀ j, i ≤ j → j < i + n → es j ≠ none → q ∉ ps j) → ndO (rndO es (Kf nd0) rt ps n i nd b).1 q = ndO nd q
  | 0, i, nd, b, _, _, _, hI => ⟨hI, Nat.le_refl _, fun h0 => ⟨h0, fun _ _ => rfl, fun j h1 h2 => by omega⟩, fun h0 => Or.inl h0, fun _ _ => rfl⟩
  | n + 1, i, nd, b, hin, hb, hs, hI => by
    unfold rndO
    cases hei : es i with
    | none =>
      dsimp only
      rw [or00 hb]
      obtain ⟨r1, r2, r3, r4, r5⟩ := rndO_ok h n (i + 1) nd b (by omega) hb hs hI
      refine ⟨r1, r2, fun h0 => ?_, r4, fun q hq => r5 q (fun j j1 j2 j3 => hq j (by omega) (by omega) j3)⟩
      obtain ⟨q1, q2, q3⟩ := r3 h0
      refine ⟨q1, q2, fun j j1 j2 j3 => ?_⟩
      by_cases hji : j = i
      · subst hji; exact absurd hei j3
      · exact q3 j (by omega) (by omega) j3
    | some x =>
      dsimp only
      have he : es i ≠ none := by rw [hei]; exact fun c => by cases c
      have hi : i < 6 := by omega
      obtain ⟨p1, p2, p3, p4⟩ := passO h hs hi he hI.1
      obtain ⟨t1, t2⟩ := hI.step h hs hi he
      have hs2 := skE.tr hs (pasO_sk (K := Kf nd0) (rt := rt) (ps i) nd)
      have hor := or01 (p := ndO (pasO (Kf nd0) rt (ps i) nd) (rt i) = ndO nd (rt i)) hb
      generalize hB : (b ||| (if ndO (pasO (Kf nd0) rt (ps i) nd) (rt i) = ndO nd (rt i) then nI 0 else nI 1)) = b2 at *
      generalize hM : pasO (Kf nd0) rt (ps i) nd = nd2 at *
      obtain ⟨r1, r2, r3, r4, r5⟩ := rndO_ok h n (i + 1) nd2 b2 (by omega) hor.1 hs2 t1
      have mo := bsm_mono (f := fun r => bcn (eO rt nd r)) (g := fun r => bcn (eO rt nd2 r)) 6 (fun k hk => (bc_le (hI.1 k hk) (t1.1 k hk) (t2 k hk)).1)
      refine ⟨r1, Nat.le_trans mo.1 r2, fun h0 => ?_, fun h0 => ?_, fun q hq => (r5 q (fun j j1 j2 j3 => hq j (by omega) (by omega) j3)).trans (p4 q (hq i (Nat.le_refl _) (by omega) he))⟩
      · obtain ⟨q1, q2, q3⟩ := r3 h0
        obtain ⟨b1, b2⟩ := hor.2.mp q1
        have ee : ∀ r, r < 6 → eO rt nd2 r = eO rt nd r := fun r hr => by
          rcases p2 r hr with g | g
          · unfold eO
            rw [g]
            exact b2
          · exact g
        refine ⟨b1, fun r hr => (q2 r hr).trans (ee r hr), fun j j1 j2 j3 => ?_⟩
        by_cases hji : j = i
        · subst hji
          intro e we qe q hl hq h100
          rw [r5 q (fun j' k1 k2 k3 => h.2.1 j j' (by omega) (by omega) j3 k3 (by omega) q (hq q (layE_mem e we qe q hl)))]
          exact p3 e we qe q hl hq h100
        · exact (q3 j (by omega) (by omega) j3).eqE ee
      · by_cases hb0 : b = 0
        · refine Or.inr ?_
          rcases r4 h0 with g | g
          · have hne : ¬ ndO nd2 (rt i) = ndO nd (rt i) := fun e => g (hor.2.mpr ⟨hb0, e⟩)
            exact Nat.lt_of_lt_of_le (mo.2 i hi ((bc_le (hI.1 i hi) (t1.1 i hi) (t2 i hi)).2 (fun e => hne e.symm))) r2
          · exact Nat.lt_of_le_of_lt mo.1 g
        · exact Or.inl hb0
theorem itO_ok {es : Nat → Option Nat} {rt : Nat → Nat} {ps : Nat → List Nat} {tt : Nat → Ex} {nd0 : Nat → Option ND} (h : CLY es rt ps tt nd0) : ∀ (k : Nat) (nd : Nat → Option ND), 19 ≤ k + bsO (eO rt nd) → skE nd0 nd → IVE es tt (eO rt nd) → skE nd0 (itO es (Kf nd0) rt ps k nd) ∧ IVE es tt (eO rt (itO es (Kf nd0) rt ps k nd)) ∧ ∀ j, j < 6 → es j ≠ none → VALO ps nd0 (itO es (Kf nd0) rt ps k nd) j (eO rt (itO es (Kf nd0) rt ps k nd))
  | 0, nd, hk, hs, hI => by
    have : bsO (eO rt nd) ≤ 6 * 3 := bsm_le (fun k => bc_3 _) 6
    omega
  | k + 1, nd, hk, hs, hI => by
    unfold itO
    obtain ⟨r1, r2, r3, r4, r5⟩ := rndO_ok h 6 0 nd (nI 0) (by omega) (Or.inl rfl) hs hI
    have hs2 := skE.tr hs (rndO_sk (es := es) (K := Kf nd0) (rt := rt) (ps := ps) 6 0 nd (nI 0))
    split
    · rename_i h0
      obtain ⟨q1, q2, q3⟩ := r3 h0
      exact ⟨hs2, r1, fun j hj hx => (q3 j (Nat.zero_le _) (by omega) hx).eqE (fun r hr => (q2 r hr).symm)⟩
    · rename_i h0
      rcases r4 h0 with g | g
      · exact absurd (by decide +kernel) g
      · exact itO_ok h k _ (by omega) hs2 r1
