/-! Rows and choices while they are read: es the parts so far, qs their nodes, f the first of their roots, z the last. -/
def nxtN (n : ND) (p : Nat) : ND := (n.1, n.2.1, n.2.2.1, n.2.2.2.1, some p, n.2.2.2.2.2.1, n.2.2.2.2.2.2.1, n.2.2.2.2.2.2.2)
def layO (nd : Nat → Option ND) : List Ex → List Nat → Nat → Nat → Prop
  | [], _, _, _ => False
  | [e], qs, f, z => f = z ∧ layE nd e qs f ∧ ∃ nf, nd f = some nf ∧ nNext nf = none
  | e :: e2 :: t, qs, f, z => ∃ qa qb g nf, qs = qa ++ qb ∧ layE nd e qa f ∧ nd f = some nf ∧ nNext nf = some g ∧ layO nd (e2 :: t) qb g z
theorem layO_mem {nd : Nat → Option ND} : ∀ (es : List Ex) (qs : List Nat) (f z : Nat), (∀ e ∈ es, wf e) → layO nd es qs f z → f ∈ qs ∧ z ∈ qs ∧ ∃ nz, nd z = some nz ∧ nNext nz = none
  | [], _, _, _, _, h => h.elim
  | [e], qs, f, z, hw, h => by
    obtain ⟨rfl, h1, h2⟩ := h
    have := layE_mem e (hw e List.mem_cons_self) qs f h1
    exact ⟨this, this, h2⟩
  | e :: e2 :: t, qs, f, z, hw, h => by
    obtain ⟨qa, qb, g, nf, rfl, h1, h2, h3, h4⟩ := h
    obtain ⟨k1, k2, k3⟩ := layO_mem (e2 :: t) qb g z (fun a ha => hw a (List.mem_cons_of_mem _ ha)) h4
    exact ⟨List.mem_append_left _ (layE_mem e (hw e List.mem_cons_self) qa f h1), List.mem_append_right _ k2, k3⟩
theorem layE_fr {nd nd' : Nat → Option ND} {t : Ex} {qs : List Nat} {p : Nat} (wt : wf t) (hnd : qs.Nodup) (h : layE nd t qs p) (hs : ∀ q ∈ qs, ∀ n, nd q = some n → ∃ n', nd' q = some n' ∧ nl5 n' = nl5 n) : layE nd' t qs p :=
  (lay_fr t wt).1 qs p hnd h (fun q hq _ n hn => hs q hq n hn) (fun n hn => by
    obtain ⟨n', h1, h2⟩ := hs p (layE_mem t wt qs p h) n hn
    simp only [nl5, nl4, Prod.mk.injEq] at h2 ⊢
    exact ⟨n', h1, h2.1, h2.2.1, h2.2.2.1, h2.2.2.2.1⟩)
theorem layO_fr {nd nd' : Nat → Option ND} : ∀ (es : List Ex) (qs : List Nat) (f z : Nat), (∀ e ∈ es, wf e) → qs.Nodup → layO nd es qs f z → (∀ q ∈ qs, ∀ n, nd q = some n → ∃ n', nd' q = some n' ∧ nl5 n' = nl5 n) → layO nd' es qs f z
  | [], _, _, _, _, _, h, _ => h.elim
  | [e], qs, f, z, hw, hnd, h, hs => by
    obtain ⟨h0, h1, nf, h2, h3⟩ := h
    obtain ⟨n', k1, k2⟩ := hs f (layE_mem e (hw e List.mem_cons_self) qs f h1) nf h2
    simp only [nl5, Prod.mk.injEq] at k2
    exact ⟨h0, layE_fr (hw e List.mem_cons_self) hnd h1 hs, n', k1, k2.2.2.2.2.trans h3⟩
  | e :: e2 :: t, qs, f, z, hw, hnd, h, hs => by
    obtain ⟨qa, qb, g, nf, rfl, h1, h2, h3, h4⟩ := h
    have hna := (List.nodup_append.mp hnd).1
    have hnb := (List.nodup_append.mp hnd).2.1
    obtain ⟨n', k1, k2⟩ := hs f (List.mem_append_left _ (layE_mem e (hw e List.mem_cons_self) qa f h1)) nf h2
    simp only [nl5, Prod.mk.injEq] at k2
    exact ⟨qa, qb, g, n', rfl, layE_fr (hw e List.mem_cons_self) hna h1 (fun q hq => hs q (List.mem_append_left _ hq)), k1, k2.2.2.2.2.trans h3, layO_fr (e2 :: t) qb g z (fun a ha => hw a (List.mem_cons_of_mem _ ha)) hnb h4 (fun q hq => hs q (List.mem_append_right _ hq))⟩
theorem layO_snoc {nd : Nat → Option ND} {e' : Ex} {q' : List Nat} {p z : Nat} {nz np : ND} (we : wf e') (hE : layE nd e' q' p) (hp : nd p = some np) (hpn : nNext np = none) (hz : nd z = some nz) : ∀ (es : List Ex) (qs : List Nat) (f : Nat), (∀ e ∈ es, wf e) → (qs ++ q').Nodup → layO nd es qs f z → layO (va_up nd z (some (nxtN nz p))) (es ++ [e']) (qs ++ q') f p
  | [], _, _, _, _, h => h.elim
  | [e], qs, f, hw, hnd, h => by
    obtain ⟨rfl, h1, -⟩ := h
    have hna := (List.nodup_append.mp hnd).1
    have hnb := (List.nodup_append.mp hnd).2.1
    have hx := (List.nodup_append.mp hnd).2.2
    have fm := layE_mem e (hw e List.mem_cons_self) qs f h1
    have pm := layE_mem e' we q' p hE
    have hne : ∀ q ∈ q', q ≠ f := fun q hq h => hx f fm q hq h.symm
    refine ⟨qs, q', p, nxtN nz p, rfl, ?_, va_up_self _ _ _, rfl, rfl, ?_, np, ?_, hpn⟩
    · refine (lay_fr e (hw e List.mem_cons_self)).1 qs f hna h1 (fun q hq hqf n hn => ⟨n, ?_, rfl⟩) (fun n hn => ⟨nxtN nz p, va_up_self _ _ _, ?_⟩)
      · rw [va_up_ne _ _ hqf]; exact hn
      · cases hz.symm.trans hn
        rfl
    · exact layE_fr we hnb hE (fun q hq n hn => ⟨n, by rw [va_up_ne _ _ (hne q hq)]; exact hn, rfl⟩)
    · rw [va_up_ne _ _ (hne p pm)]
      exact hp
  | e :: e2 :: t, qs, f, hw, hnd, h => by
    obtain ⟨qa, qb, g, nf, rfl, h1, h2, h3, h4⟩ := h
    rw [List.append_assoc] at hnd
    have hna := (List.nodup_append.mp hnd).1
    have hnb := (List.nodup_append.mp hnd).2.1
    have hx := (List.nodup_append.mp hnd).2.2
    obtain ⟨k1, k2, -⟩ := layO_mem (e2 :: t) qb g z (fun a ha => hw a (List.mem_cons_of_mem _ ha)) h4
    have hne : ∀ q ∈ qa, q ≠ z := fun q hq => hx q hq z (List.mem_append_left _ k2)
    have ih := layO_snoc we hE hp hpn hz (e2 :: t) qb g (fun a ha => hw a (List.mem_cons_of_mem _ ha)) hnb h4
    have fm := layE_mem e (hw e List.mem_cons_self) qa f h1
    exact ⟨qa, qb ++ q', g, nf, List.append_assoc _ _ _, layE_fr (hw e List.mem_cons_self) hna h1 (fun q hq n hn => ⟨n, by rw [va_up_ne _ _ (hne q hq)]; exact hn, rfl⟩), by rw [va_up_ne _ _ (hne f fm)]; exact h2, h3, ih⟩
theorem layO_close {nd : Nat → Option ND} {m : Nat} (hm : m % 2 = 0) : ∀ (t : List Ex) (e x : Ex) (qs : List Nat) (f z : Nat), layO nd (e :: x :: t) qs f z → layL nd (mkB m e (x :: t)) qs f
  | [], e, x, qs, f, z, h => by
    obtain ⟨qa, qb, g, nf, h0, h1, h2, h3, h4⟩ := h
    obtain ⟨rfl, h5, h6⟩ := h4
    refine ⟨qa, qb, h0, h1, nf, g, h2, h3, ?_⟩
    rw [if_neg (by omega)]
    exact ⟨h5, h6⟩
  | y :: t, e, x, qs, f, z, h => by
    obtain ⟨qa, qb, g, nf, h0, h1, h2, h3, h4⟩ := h
    refine ⟨qa, qb, h0, h1, nf, g, h2, h3, ?_⟩
    rw [if_pos (by omega)]
    exact layO_close hm t x y qb g z h4
theorem layO_ne {nd : Nat → Option ND} {e x : Ex} {t : List Ex} {qs : List Nat} {f z : Nat} (hw : ∀ a ∈ e :: x :: t, wf a) (hnd : qs.Nodup) (h : layO nd (e :: x :: t) qs f z) : f ≠ z := by
  obtain ⟨qa, qb, g, nf, rfl, h1, h2, h3, h4⟩ := h
  obtain ⟨k1, k2, -⟩ := layO_mem (x :: t) qb g z (fun a ha => hw a (List.mem_cons_of_mem _ ha)) h4
  exact (List.nodup_append.mp hnd).2.2 f (layE_mem e (hw e List.mem_cons_self) qa f h1) z k2
/-- the next of a node of the new ones is set -/
theorem rdF.next {s s1 : CSt} {x : Nat} {ps qs : List Nat} {b z p : Nat} {nz : ND} (g : rdF s s1 x ps qs b) (hz : z ∈ qs) (hn : s1.2.2.2.2.1 z = some nz) : rdF s (ndP s1 (va_up s1.2.2.2.2.1 z (some (nxtN nz p)))) x ps qs b := by
  obtain ⟨h1, h2, h3, h4, h5, ⟨e9, k1, k2, k3⟩, h7, h8, h9, h10⟩ := g
  have hzs : s.2.2.2.2.1 z = none := h7 z hz
  refine ⟨h1, h2, h3, h4, h5, ⟨e9, k1, ?_, k3⟩, h7, h8, fun a n ha => ?_, fun a ha hq => ?_⟩
  · have key : ∀ (ps : List Nat) (r : Option Nat), lnk s1.2.2.2.2.1 nLater ps r → lnk (va_up s1.2.2.2.2.1 z (some (nxtN nz p))) nLater ps r := by
      intro ps
      induction ps with
      | nil => intro r h; exact h
      | cons a t ih =>
        intro r h
        obtain ⟨q1, n, q2, q3⟩ := h
        by_cases haz : a = z
        · subst haz
          cases hn.symm.trans q2
          exact ⟨q1, nxtN nz p, va_up_self _ _ _, ih _ q3⟩
        · exact ⟨q1, n, by rw [va_up_ne _ _ haz]; exact q2, ih _ q3⟩
    exact key _ _ k2
  · obtain ⟨n', q1, q2⟩ := h9 a n ha
    have haz : a ≠ z := fun e => by rw [e, hzs] at ha; cases ha
    exact ⟨n', (show va_up s1.2.2.2.2.1 z _ a = some n' by rw [va_up_ne _ _ haz]; exact q1), q2⟩
  · have haz : a ≠ z := fun e => hq (by rw [e]; exact hz)
    exact (show va_up s1.2.2.2.2.1 z _ a = s.2.2.2.2.1 a by rw [va_up_ne _ _ haz]; exact h10 a ha hq)
