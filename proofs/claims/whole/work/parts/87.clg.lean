/-! The same for goodness. -/
def eG (rt : Nat → Nat) (nd : Nat → Option ND) (r : Nat) : Bool := !(ndG nd (rt r) == 0)
def IVG (es : Nat → Option Nat) (tt : Nat → Ex) (O : Nat → Int32) (G : Nat → Bool) : Prop := (∀ r, r < 6 → es r ≠ none → G r = true → gE O G (tt r) = true) ∧ ∀ F : Nat → Bool, (∀ r, r < 6 → es r ≠ none → gE O F (tt r) = true → F r = true) → ∀ r, r < 6 → es r ≠ none → G r = true → F r = true
def VALG (ps : Nat → List Nat) (nd0 nd : Nat → Option ND) (i : Nat) (O : Nat → Int32) (G : Nat → Bool) : Prop := ∀ e, wf e → ∀ qe q, layE nd0 e qe q → (∀ c ∈ qe, c ∈ ps i) → sz e ≤ 100 → ndG nd q = bI (gE O G e)
theorem bI_inj {a b : Bool} (h : bI a = bI b) : a = b := by
  cases a <;> cases b
  · rfl
  · exact absurd h (by decide +kernel)
  · exact absurd h (by decide +kernel)
  · rfl
theorem eG_of {rt : Nat → Nat} {nd : Nat → Option ND} {r : Nat} {b : Bool} (h : ndG nd (rt r) = bI b) : eG rt nd r = b := by
  unfold eG
  rw [h, bI_0, Bool.not_not]
theorem passG {es : Nat → Option Nat} {rt : Nat → Nat} {ps : Nat → List Nat} {tt : Nat → Ex} {nd0 nd : Nat → Option ND} {O : Nat → Int32} (h : CLY es rt ps tt nd0) (hs : skE nd0 nd) {i : Nat} (hi : i < 6) (he : es i ≠ none) (hv : VALO ps nd0 nd i O) (hg : ∀ r, r < 6 → ndG nd (rt r) = bI (eG rt nd r)) : (∀ r, r < 6 → ndG (pasG (Kf nd0) rt (ps i) nd) (rt r) = bI (eG rt (pasG (Kf nd0) rt (ps i) nd) r)) ∧ eG rt (pasG (Kf nd0) rt (ps i) nd) i = gE O (eG rt nd) (tt i) ∧ (∀ r, r < 6 → rt r = rt i ∨ eG rt (pasG (Kf nd0) rt (ps i) nd) r = eG rt nd r) ∧ VALG ps nd0 (pasG (Kf nd0) rt (ps i) nd) i O (eG rt nd) ∧ (∀ q, q ∉ ps i → ndG (pasG (Kf nd0) rt (ps i) nd) q = ndG nd q) ∧ ∀ q, ndO (pasG (Kf nd0) rt (ps i) nd) q = ndO nd q := by
  have hN := h.sk hs
  obtain ⟨h1, h2, h3, h4, h5⟩ := hN.1 i hi he
  obtain ⟨c1, c2, c3⟩ := hN.rt hi he
  have hex := lay_ex h2 h1
  have hnds := (lay_NDS _ h2).1 _ _ h1
  have hord := ORD_of hnds (fun e hx => by have := (snE_sz _ h2).1 e hx; omega)
  have hv := valG (rt := rt) (env := O) (G := eG rt nd) h4 hex hord c2 (fun e we qe q hl hq h100 => hv e we qe q ((lay_sk hs.sym e we).1 qe q hl) hq h100) hg
  rw [Kf_eq hs] at hv
  have hout := fun q => pasG_out (K := Kf nd0) (rt := rt) (ps i) nd hex q
  have r0 : ndG (pasG (Kf nd0) rt (ps i) nd) (rt i) = bI (gE O (eG rt nd) (tt i)) := (hv (tt i) h2).1 (ps i) (rt i) h1 (fun c hc => hc) (by omega)
  have r1 : ∀ r, r < 6 → rt r = rt i ∨ ndG (pasG (Kf nd0) rt (ps i) nd) (rt r) = ndG nd (rt r) := fun r hr => by
    obtain ⟨q, hq, hx, e⟩ := h.2.2 r hr
    by_cases hqi : q = i
    · subst hqi; exact Or.inl e
    · refine Or.inr ?_
      rw [e]
      exact (hout _).1 (c1 q hq hx hqi)
  refine ⟨fun r hr => ?_, eG_of r0, fun r hr => ?_, fun e we qe q hl hq h100 => (hv e we).1 qe q ((lay_sk hs e we).1 qe q hl) hq h100, fun q hq => (hout q).1 hq, fun q => (hout q).2⟩
  · rcases r1 r hr with g | g
    · have e2 : eG rt (pasG (Kf nd0) rt (ps i) nd) r = gE O (eG rt nd) (tt i) := eG_of (by rw [g]; exact r0)
      rw [e2, g]
      exact r0
    · have e2 : eG rt (pasG (Kf nd0) rt (ps i) nd) r = eG rt nd r := eG_of (by rw [g]; exact hg r hr)
      rw [e2, g]
      exact hg r hr
  · rcases r1 r hr with g | g
    · exact Or.inl g
    · exact Or.inr (eG_of (by rw [g]; exact hg r hr))
theorem IVG.step {es : Nat → Option Nat} {rt : Nat → Nat} {ps : Nat → List Nat} {tt : Nat → Ex} {nd0 nd : Nat → Option ND} {O : Nat → Int32} {E' : Nat → Bool} (h : CLY es rt ps tt nd0) {i : Nat} (hi : i < 6) (he : es i ≠ none) (hI : IVG es tt O (eG rt nd)) (p1 : E' i = gE O (eG rt nd) (tt i)) (p2 : ∀ r, r < 6 → rt r = rt i ∨ E' r = eG rt nd r) (p3 : ∀ r, rt r = rt i → E' r = E' i) : IVG es tt O E' ∧ ∀ r, r < 6 → eG rt nd r = true → E' r = true := by
  obtain ⟨a2, a3⟩ := hI
  have wi : ∀ r, r < 6 → es r ≠ none → wf (tt r) ∧ RP (fun q => es q ≠ none) (tt r) := fun r hr hx => by
    obtain ⟨-, x2, -, -, x5⟩ := h.1 r hr hx
    exact ⟨x2, x5⟩
  have eq1 : ∀ r, rt r = rt i → eG rt nd r = eG rt nd i := fun r e => by
    unfold eG
    rw [e]
  generalize hE : eG rt nd = E at *
  have s2 : ∀ r, r < 6 → E r = true → E' r = true := fun r hr hx => by
    rcases p2 r hr with g | g
    · rw [p3 r g, p1]
      rw [eq1 r g] at hx
      exact a2 i hi he hx
    · rw [g]; exact hx
  have ne : ∀ r, r < 6 → es r ≠ none → r ≠ i → E' r = E r := fun r hr hx hri => by
    rcases p2 r hr with g | g
    · exact absurd (by rw [g]; exact (h.rt hi he).2.2) ((h.rt hi he).1 r hr hx hri)
    · exact g
  have mo : ∀ r, r < 6 → es r ≠ none → gE O E (tt r) = true → gE O E' (tt r) = true := fun r hr hx => gE_mono (P := fun q => es q ≠ none) (fun q hq _ => s2 q hq) _ (wi r hr hx).1 (wi r hr hx).2
  refine ⟨⟨fun r hr hx ht => ?_, fun F f2 r hr hx ht => ?_⟩, s2⟩
  · by_cases hri : r = i
    · subst hri
      rw [p1] at ht
      exact mo r hr hx ht
    · rw [ne r hr hx hri] at ht
      exact mo r hr hx (a2 r hr hx ht)
  · by_cases hri : r = i
    · subst hri
      rw [p1] at ht
      exact f2 r hr hx (gE_mono (P := fun q => es q ≠ none) (fun q hq hqx => a3 F f2 q hq hqx) _ (wi r hr hx).1 (wi r hr hx).2 ht)
    · rw [ne r hr hx hri] at ht
      exact a3 F f2 r hr hx ht
def bt1 (b : Bool) : Nat := if b = true then 1 else 0
theorem bt1_le {a b : Bool} (h : a = true → b = true) : bt1 a ≤ bt1 b ∧ (¬ a = b → bt1 a < bt1 b) := by
  cases a <;> cases b
  · exact ⟨Nat.le_refl _, fun h => absurd rfl h⟩
  · exact ⟨by decide, fun _ => by decide⟩
  · cases h rfl
  · exact ⟨Nat.le_refl _, fun h => absurd rfl h⟩
def bsG (G : Nat → Bool) : Nat := bsm (fun r => bt1 (G r)) 6
theorem VALG.eqE {ps : Nat → List Nat} {nd0 nd : Nat → Option ND} {i : Nat} {O : Nat → Int32} {E E' : Nat → Bool} (h : VALG ps nd0 nd i O E) (e : ∀ r, r < 6 → E r = E' r) : VALG ps nd0 nd i O E' := fun x wx qe q hl hq h100 => (h x wx qe q hl hq h100).trans (by rw [gE_cg x wx (RP_all (fun r hr => ⟨rfl, e r hr⟩) x wx)])
theorem gB_e {rt : Nat → Nat} {nd : Nat → Option ND} {r : Nat} (h : ndG nd (rt r) = bI (eG rt nd r)) : gB nd (rt r) = bI (eG rt nd r) := by
  unfold gB
  rw [h]
  cases eG rt nd r <;> decide +kernel
set_option maxHeartbeats 1000000 in
theorem rndG_ok {es : Nat → Option Nat} {rt : Nat → Nat} {ps : Nat → List Nat} {tt : Nat → Ex} {nd0 : Nat → Option ND} {O : Nat → Int32} (h : CLY es rt ps tt nd0) : ∀ (n i : Nat) (nd : Nat → Option ND) (b : Int32), i + n ≤ 6 → (b = nI 0 ∨ b = nI 1) → skE nd0 nd → (∀ j, j < 6 → es j ≠ none → VALO ps nd0 nd j O) → (∀ r, r < 6 → ndG nd (rt r) = bI (eG rt nd r)) → IVG es tt O (eG rt nd) → (∀ q, ndO (rndG es (Kf nd0) rt ps n i nd b).1 q = ndO nd q) ∧ (∀ r, r < 6 → ndG (rndG es (Kf nd0) rt ps n i nd b).1 (rt r) = bI (eG rt (rndG es (Kf nd0) rt ps n i nd b).1 r)) ∧ IVG es tt O (eG rt (rndG es (Kf nd0) rt ps n i nd b).1) ∧ bsG (eG rt nd) ≤ bsG (eG rt (rndG es (Kf nd0) rt ps n i nd b).1) ∧ ((rndG es (Kf nd0) rt ps n i nd b).2 = 0 → b = 0 ∧ (∀ r, r < 6 → eG rt (rndG es (Kf nd0) rt ps n i nd b).1 r = eG rt nd r) ∧ ∀ j, i ≤ j → j < i + n → es j ≠ none → VALG ps nd0 (rndG es (Kf nd0) rt ps n i nd b).1 j O (eG rt nd)) ∧ (¬ (rndG es (Kf nd0) rt ps n i nd b).2 = 0 → ¬ b = 0 ∨ bsG (eG rt nd) < bsG (eG rt (rndG es (Kf nd0) rt ps n i nd b).1)) ∧ ∀ q, (∀ j, i ≤ j → j < i + n → es j ≠ none → q ∉ ps j) → ndG (rndG es (Kf nd0) rt ps n i nd b).1 q = ndG nd q
  | 0, i, nd, b, _, _, _, _, hg, hI => ⟨fun _ => rfl, hg, hI, Nat.le_refl _, fun h0 => ⟨h0, fun _ _ => rfl, fun j h1 h2 => by omega⟩, fun h0 => Or.inl h0, fun _ _ => rfl⟩
  | n + 1, i, nd, b, hin, hb, hs, hv, hg, hI => by
    unfold rndG
    cases hei : es i with
    | none =>
      dsimp only
      rw [or00 hb]
      obtain ⟨r8, r9, r1, r2, r3, r4, r5⟩ := rndG_ok h n (i + 1) nd b (by omega) hb hs hv hg hI
      refine ⟨r8, r9, r1, r2, fun h0 => ?_, r4, fun q hq => r5 q (fun j j1 j2 j3 => hq j (by omega) (by omega) j3)⟩
      obtain ⟨q1, q2, q3⟩ := r3 h0
      refine ⟨q1, q2, fun j j1 j2 j3 => ?_⟩
      by_cases hji : j = i
      · subst hji; exact absurd hei j3
      · exact q3 j (by omega) (by omega) j3
    | some x =>
      dsimp only
      have he : es i ≠ none := by rw [hei]; exact fun c => by cases c
      have hi : i < 6 := by omega
      obtain ⟨p0, p1, p2, p3, p4, p5⟩ := passG h hs hi he (hv i hi he) hg
      have hs2 := skE.tr hs (pasG_sk (K := Kf nd0) (rt := rt) (ps i) nd)
      have hor := or01 (p := gB (pasG (Kf nd0) rt (ps i) nd) (rt i) = gB nd (rt i)) hb
      generalize hB : (b ||| (if gB (pasG (Kf nd0) rt (ps i) nd) (rt i) = gB nd (rt i) then nI 0 else nI 1)) = b2 at *
      generalize hM : pasG (Kf nd0) rt (ps i) nd = nd2 at *
      obtain ⟨t1, t2⟩ := IVG.step h hi he hI p1 p2 (fun r e => by unfold eG; rw [e])
      obtain ⟨r8, r9, r1, r2, r3, r4, r5⟩ := rndG_ok h n (i + 1) nd2 b2 (by omega) hor.1 hs2 (fun j hj hx e we qe q hl hq h100 => (p5 q).trans (hv j hj hx e we qe q hl hq h100)) p0 t1
      have mo := bsm_mono (f := fun r => bt1 (eG rt nd r)) (g := fun r => bt1 (eG rt nd2 r)) 6 (fun k hk => (bt1_le (t2 k hk)).1)
      have eB : gB nd2 (rt i) = gB nd (rt i) ↔ eG rt nd2 i = eG rt nd i := by
        rw [gB_e (p0 i hi), gB_e (hg i hi)]
        exact ⟨bI_inj, fun e => by rw [e]⟩
      refine ⟨fun q => (r8 q).trans (p5 q), r9, r1, Nat.le_trans mo.1 r2, fun h0 => ?_, fun h0 => ?_, fun q hq => (r5 q (fun j j1 j2 j3 => hq j (by omega) (by omega) j3)).trans (p4 q (hq i (Nat.le_refl _) (by omega) he))⟩
      · obtain ⟨q1, q2, q3⟩ := r3 h0
        obtain ⟨b1, b2⟩ := hor.2.mp q1
        have ee : ∀ r, r < 6 → eG rt nd2 r = eG rt nd r := fun r hr => by
          rcases p2 r hr with g | g
          · have := eB.mp b2
            unfold eG at this ⊢
            rw [g]
            exact this
          · exact g
        refine ⟨b1, fun r hr => (q2 r hr).trans (ee r hr), fun j j1 j2 j3 => ?_⟩
        by_cases hji : j = i
        · subst hji
          intro e we qe q hl hq h100
          rw [r5 q (fun j' k1 k2 k3 => h.2.1 j j' (by omega) (by omega) j3 k3 (by omega) q (hq q (layE_mem e we qe q hl)))]
          exact p3 e we qe q hl hq h100
        · exact (q3 j (by omega) (by omega) j3).eqE ee
      · by_cases hb0 : b = 0
        · refine Or.inr ?_
          rcases r4 h0 with g | g
          · have hne : ¬ gB nd2 (rt i) = gB nd (rt i) := fun e => g (hor.2.mpr ⟨hb0, e⟩)
            exact Nat.lt_of_lt_of_le (mo.2 i hi ((bt1_le (t2 i hi)).2 (fun e => hne (eB.mpr e.symm)))) r2
          · exact Nat.lt_of_le_of_lt mo.1 g
        · exact Or.inl hb0
theorem bt1_1 (b : Bool) : bt1 b ≤ 1 := by cases b <;> decide
theorem itG_ok {es : Nat → Option Nat} {rt : Nat → Nat} {ps : Nat → List Nat} {tt : Nat → Ex} {nd0 : Nat → Option ND} {O : Nat → Int32} (h : CLY es rt ps tt nd0) : ∀ (k : Nat) (nd : Nat → Option ND), 7 ≤ k + bsG (eG rt nd) → skE nd0 nd → (∀ j, j < 6 → es j ≠ none → VALO ps nd0 nd j O) → (∀ r, r < 6 → ndG nd (rt r) = bI (eG rt nd r)) → IVG es tt O (eG rt nd) → skE nd0 (itG es (Kf nd0) rt ps k nd) ∧ (∀ q, ndO (itG es (Kf nd0) rt ps k nd) q = ndO nd q) ∧ IVG es tt O (eG rt (itG es (Kf nd0) rt ps k nd)) ∧ ∀ j, j < 6 → es j ≠ none → VALG ps nd0 (itG es (Kf nd0) rt ps k nd) j O (eG rt (itG es (Kf nd0) rt ps k nd))
  | 0, nd, hk, hs, hv, hg, hI => by
    have : bsG (eG rt nd) ≤ 6 * 1 := bsm_le (fun k => bt1_1 _) 6
    omega
  | k + 1, nd, hk, hs, hv, hg, hI => by
    unfold itG
    obtain ⟨r8, r9, r1, r2, r3, r4, r5⟩ := rndG_ok h 6 0 nd (nI 0) (by omega) (Or.inl rfl) hs hv hg hI
    have hs2 := skE.tr hs (rndG_sk (es := es) (K := Kf nd0) (rt := rt) (ps := ps) 6 0 nd (nI 0))
    split
    · rename_i h0
      obtain ⟨q1, q2, q3⟩ := r3 h0
      exact ⟨hs2, r8, r1, fun j hj hx => (q3 j (Nat.zero_le _) (by omega) hx).eqE (fun r hr => (q2 r hr).symm)⟩
    · rename_i h0
      rcases r4 h0 with g | g
      · exact absurd (by decide +kernel) g
      · obtain ⟨f1, f2, f3, f4⟩ := itG_ok h k _ (by omega) hs2 (fun j hj hx e we qe q hl hq h100 => (r8 q).trans (hv j hj hx e we qe q hl hq h100)) r9 r1
        exact ⟨f1, fun q => (f2 q).trans (r8 q), f3, f4⟩
