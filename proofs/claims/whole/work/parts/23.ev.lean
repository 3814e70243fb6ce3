/-! Expressions as trees (no types of our own are allowed, so they are coded in Std.Format), and what a match of one gives: evA. xR a range, xC a rule, xB m two in a row (m 0, 1) or a choice (m 2, 3), odd where the second goes on the same row or choice; xS k a sign (4 * 5 + 6 ? 7 & 8 !). -/
abbrev Ex : Type := Std.Format
abbrev xR (lo hi : Nat) : Ex := .tag lo (.tag hi .nil)
abbrev xC (r : Nat) : Ex := .tag r .line
abbrev xB (m : Nat) (a b : Ex) : Ex := .tag m (.append a b)
abbrev xS (k : Nat) (e : Ex) : Ex := .tag k (.nest 0 e)
def isB (q : Nat) : Ex → Prop
  | .tag m (.append _ _) => m / 2 = q
  | _ => False
def wf : Ex → Prop
  | .tag lo (.tag hi .nil) => lo ≤ 8 ∧ hi ≤ 8
  | .tag r .line => r < 6
  | .tag m (.append a b) => m < 4 ∧ (m % 2 = 1 → isB (m / 2) b) ∧ wf a ∧ wf b
  | .tag k (.nest i e) => i = 0 ∧ 4 ≤ k ∧ k ≤ 8 ∧ wf e
  | _ => False
def sz : Ex → Nat
  | .tag _ (.tag _ .nil) => 1
  | .tag _ .line => 1
  | .tag _ (.append a b) => sz a + sz b + 1
  | .tag _ (.nest _ e) => sz e + 1
  | _ => 0
def ht : Ex → Nat
  | .tag _ (.tag _ .nil) => 1
  | .tag _ .line => 1
  | .tag m (.append a b) => if m % 2 = 1 then max (ht a + 1) (ht b) else max (ht a + 1) (ht b + 1)
  | .tag _ (.nest _ e) => ht e + 1
  | _ => 0
theorem ast_ind {P : Ex → Prop} (h1 : ∀ lo hi, lo ≤ 8 → hi ≤ 8 → P (xR lo hi)) (h2 : ∀ r, r < 6 → P (xC r)) (h3 : ∀ m a b, m < 4 → (m % 2 = 1 → isB (m / 2) b) → wf a → wf b → P a → P b → P (xB m a b)) (h4 : ∀ k e, 4 ≤ k → k ≤ 8 → wf e → P e → P (xS k e)) : ∀ t, wf t → P t
  | .tag lo (.tag hi .nil), h => h1 lo hi h.1 h.2
  | .tag r .line, h => h2 r h
  | .tag m (.append a b), h => h3 m a b h.1 h.2.1 h.2.2.1 h.2.2.2 (ast_ind h1 h2 h3 h4 a h.2.2.1) (ast_ind h1 h2 h3 h4 b h.2.2.2)
  | .tag k (.nest i e), ⟨hi, g1, g2, g3⟩ => by subst hi; exact h4 k e g1 g2 g3 (ast_ind h1 h2 h3 h4 e g3)
/-- the node p is t; the nodes from f on along next are the parts of t -/
def rep2 (nd : Nat → Option ND) : Ex → (Nat → Prop) × (Nat → Prop)
  | .tag lo (.tag hi .nil) => (fun p => ∃ n, nd p = some n ∧ n.1 = nI 1 ∧ n.2.1 = nI (97 + lo) ∧ n.2.2.1 = nI (97 + hi), fun _ => False)
  | .tag r .line => (fun p => ∃ n, nd p = some n ∧ n.1 = nI 2 ∧ n.2.1 = nI r, fun _ => False)
  | .tag m (.append a b) =>
    (fun p => ∃ n f, nd p = some n ∧ n.1 = nI (3 + m / 2) ∧ n.2.2.2.1 = some f ∧ (rep2 nd a).1 f ∧ ∃ nf g, nd f = some nf ∧ nNext nf = some g ∧ (if m % 2 = 1 then (rep2 nd b).2 g else (rep2 nd b).1 g ∧ ∃ ng, nd g = some ng ∧ nNext ng = none),
     fun f => (rep2 nd a).1 f ∧ ∃ nf g, nd f = some nf ∧ nNext nf = some g ∧ (if m % 2 = 1 then (rep2 nd b).2 g else (rep2 nd b).1 g ∧ ∃ ng, nd g = some ng ∧ nNext ng = none))
  | .tag k (.nest _ e) => (fun p => ∃ n f, nd p = some n ∧ n.1 = nI (k + 1) ∧ n.2.2.2.1 = some f ∧ (rep2 nd e).1 f, fun _ => False)
  | _ => (fun _ => False, fun _ => False)
abbrev rep (nd : Nat → Option ND) (t : Ex) (p : Nat) : Prop := (rep2 nd t).1 p
abbrev repL (nd : Nat → Option ND) (t : Ex) (p : Nat) : Prop := (rep2 nd t).2 p
/-- how a match ends: none: too deep; some none: it fails; some (some q): it goes to q -/
abbrev Rs : Type := Option (Option Nat) × CSt
def bnd (R : Rs) (f : Nat → CSt → Rs) (g : CSt → Rs) : Rs := match R.1 with
  | none => (none, R.2)
  | some none => g R.2
  | some (some q) => f q R.2
def bsz (c : Option Nat) (s : CSt) : Int32 := match c with
  | none => nI 0
  | some c => s.2.1 10 c
def cut (c : Option Nat) (z : Int32) (s : CSt) : CSt := match c with
  | none => s
  | some c => (s.1, va_up s.2.1 10 (upd (s.2.1 10) c z), s.2.2)
def adb (c : Option Nat) (q : Nat) (s : CSt) : CSt := match c with
  | none => s
  | some c => (s.1, va_up (if 0 ≤ s.2.1 10 c ∧ s.2.1 10 c < nI 60 then va_up s.2.1 11 (upd (s.2.1 11) (c * 60 + (s.2.1 10 c).toNatClampNeg) (nI q)) else s.2.1) 10 (upd (s.2.1 10) c (s.2.1 10 c + nI 1)), s.2.2)
def cN (c : Option Nat) : Int32 := match c with
  | none => -1
  | some c => nI c
def evRep (f : Nat → CSt → Rs) (c : Option Nat) : Nat → Option Nat → Nat → CSt → Rs
  | 0, at9, _, s => (some at9, s)
  | k + 1, at9, p, s => bnd (f p s) (fun q s1 => evRep f c k (some q) q s1) (fun s1 => (some at9, cut c (bsz c s) s1))
def evA (n : Nat) (w : Nat → Nat) (call : Nat → Nat → Nat → CSt → Rs) : Ex → Nat → Nat → Option Nat → CSt → Rs
  | .tag lo (.tag hi .nil), p, _, _, s => (some (if p < n ∧ lo ≤ w p ∧ w p ≤ hi then some (p + 1) else none), s)
  | .tag r .line, p, d, c, s => bnd (call r p (d + 2) s) (fun q s1 => (some (some q), adb c (r * 21 + p) s1)) (fun s1 => (some none, s1))
  | .tag m (.append a b), p, d, c, s =>
    if m < 2 then bnd (evA n w call a p (d + 1) c s) (fun q s1 => evA n w call b q (if m % 2 = 1 then d else d + 1) c s1) (fun s1 => (some none, s1))
    else bnd (evA n w call a p (d + 1) c s) (fun q s1 => (some (some q), s1)) (fun s1 => bnd (evA n w call b p (if m % 2 = 1 then d else d + 1) c (cut c (bsz c s) s1)) (fun q s2 => (some (some q), s2)) (fun s2 => (some none, if m % 2 = 1 then s2 else cut c (bsz c s) s2)))
  | .tag k (.nest _ e), p, d, c, s =>
    if k = 7 then bnd (evA n w call e p (d + 1) none s) (fun _ s1 => (some (some p), s1)) (fun s1 => (some none, s1))
    else if k = 8 then bnd (evA n w call e p (d + 1) none s) (fun _ s1 => (some none, s1)) (fun s1 => (some (some p), s1))
    else evRep (fun q s => evA n w call e q (d + 1) c s) c (if k = 6 then 1 else 21) (if k = 5 then none else some p) p s
  | _, _, _, _, s => (some none, s)
def vO (x : Int32) : Option Nat := if x < 0 then none else some x.toNatClampNeg
def kept (c : Nat) (v : Int32) (s : CSt) : CSt := (s.1, va_up s.2.1 9 (upd (s.2.1 9) c v), s.2.2)
def evR (n : Nat) (w : Nat → Nat) (rl : Nat → Option Ex) : Nat → Nat → Nat → Nat → CSt → Rs
  | 0, r, p, _, s => if s.2.1 9 (r * 21 + p) = -2 then (none, s) else (some (vO (s.2.1 9 (r * 21 + p))), (va_up s.1 6 (s.1 6 + nI 1), s.2))
  | f + 1, r, p, d, s => if s.2.1 9 (r * 21 + p) = -2 then (if 40 < d then (none, s) else match rl r with
      | none => (some none, kept (r * 21 + p) (-1) (cut (some (r * 21 + p)) (nI 0) (va_up s.1 5 (s.1 5 + nI 1), s.2)))
      | some t => bnd (evA n w (evR n w rl f) t p d (some (r * 21 + p)) (cut (some (r * 21 + p)) (nI 0) (va_up s.1 5 (s.1 5 + nI 1), s.2))) (fun q s1 => (some (some q), kept (r * 21 + p) (nI q) s1)) (fun s1 => (some none, kept (r * 21 + p) (-1) s1)))
    else (some (vO (s.2.1 9 (r * 21 + p))), (va_up s.1 6 (s.1 6 + nI 1), s.2))
theorem bnd_none {R : Rs} {f : Nat → CSt → Rs} {g : CSt → Rs} (h : R.1 = none) : bnd R f g = (none, R.2) := by unfold bnd; rw [h]
theorem bnd_fail {R : Rs} {f : Nat → CSt → Rs} {g : CSt → Rs} (h : R.1 = some none) : bnd R f g = g R.2 := by unfold bnd; rw [h]
theorem bnd_some {R : Rs} {f : Nat → CSt → Rs} {g : CSt → Rs} {q : Nat} (h : R.1 = some (some q)) : bnd R f g = f q R.2 := by unfold bnd; rw [h]
/-- what holds of the state in a match -/
def memOK (n : Nat) (s : CSt) : Prop := ∀ c, c < 126 → s.2.1 9 c = -2 ∨ s.2.1 9 c = -1 ∨ ∃ q, q ≤ n ∧ s.2.1 9 c = nI q
def MG (n : Nat) (w : Nat → Nat) (rl : Nat → Option Ex) (s : CSt) : Prop := s.1 1 = nI n ∧ n ≤ 20 ∧ (∀ j, j < n → s.2.1 4 j = nI (97 + w j) ∧ w j ≤ 8) ∧ memOK n s ∧ ∀ r, r < 6 → match rl r with
  | none => s.2.2.2.1 r = none
  | some t => wf t ∧ ht t ≤ 24 ∧ ∃ x e9 p, s.2.2.2.1 r = some x ∧ s.2.2.2.2.2 x = some e9 ∧ e9.2 = some p ∧ rep s.2.2.2.2.1 t p
/-- what a match leaves as it was -/
def frM (s s2 : CSt) : Prop := s2.2.2 = s.2.2 ∧ s2.1 1 = s.1 1 ∧ s2.2.1 4 = s.2.1 4
theorem frM.rf {s : CSt} : frM s s := ⟨rfl, rfl, rfl⟩
theorem frM.tr {a b c : CSt} (h : frM a b) (g : frM b c) : frM a c := ⟨g.1.trans h.1, g.2.1.trans h.2.1, g.2.2.trans h.2.2⟩
theorem MG.fr {n : Nat} {w : Nat → Nat} {rl : Nat → Option Ex} {s s2 : CSt} (h : MG n w rl s) (f : frM s s2) (hm : memOK n s2) : MG n w rl s2 := by
  obtain ⟨h1, h2, h3, -, h5⟩ := h
  obtain ⟨f1, f2, f3⟩ := f
  refine ⟨f2.trans h1, h2, fun j hj => by rw [f3]; exact h3 j hj, hm, fun r hr => ?_⟩
  rw [f1]
  exact h5 r hr
theorem frM.cut {c : Option Nat} {z : Int32} {s : CSt} : frM s (cut c z s) := by
  cases c with
  | none => exact frM.rf
  | some c => exact ⟨rfl, rfl, show va_up s.2.1 10 (upd (s.2.1 10) c z) 4 = s.2.1 4 from va_up_ne _ _ (by decide)⟩
theorem frM.adb {c : Option Nat} {q : Nat} {s : CSt} : frM s (adb c q s) := by
  cases c with
  | none => exact frM.rf
  | some c =>
    refine ⟨rfl, rfl, ?_⟩
    show va_up (if 0 ≤ s.2.1 10 c ∧ s.2.1 10 c < nI 60 then va_up s.2.1 11 (upd (s.2.1 11) (c * 60 + (s.2.1 10 c).toNatClampNeg) (nI q)) else s.2.1) 10 (upd (s.2.1 10) c (s.2.1 10 c + nI 1)) 4 = s.2.1 4
    rw [va_up_ne _ _ (by decide)]
    split
    · exact va_up_ne _ _ (by decide)
    · rfl
theorem frM.kept {c : Nat} {v : Int32} {s : CSt} : frM s (kept c v s) := ⟨rfl, rfl, show va_up s.2.1 9 (upd (s.2.1 9) c v) 4 = s.2.1 4 from va_up_ne _ _ (by decide)⟩
theorem frM.cnt {i : Nat} {v : Int32} {s : CSt} (h : i ≠ 1) : frM s (va_up s.1 i v, s.2) := ⟨rfl, show va_up s.1 i v 1 = s.1 1 from va_up_ne _ _ (fun e => h e.symm), rfl⟩
theorem cut_9 {c : Option Nat} {z : Int32} {s : CSt} : (cut c z s).2.1 9 = s.2.1 9 := by
  cases c with
  | none => rfl
  | some c => exact (show va_up s.2.1 10 (upd (s.2.1 10) c z) 9 = s.2.1 9 from va_up_ne _ _ (by decide))
theorem kept_9 {c : Nat} {v : Int32} {s : CSt} : (kept c v s).2.1 9 = upd (s.2.1 9) c v := (show va_up s.2.1 9 (upd (s.2.1 9) c v) 9 = upd (s.2.1 9) c v from va_up_self _ _ _)
theorem memOK.cut {n : Nat} {c : Option Nat} {z : Int32} {s : CSt} (h : memOK n s) : memOK n (cut c z s) := by
  intro j hj
  rw [cut_9]
  exact h j hj
theorem adb_9 {c : Option Nat} {q : Nat} {s : CSt} : (adb c q s).2.1 9 = s.2.1 9 := by
  cases c with
  | none => rfl
  | some c =>
    show va_up (if 0 ≤ s.2.1 10 c ∧ s.2.1 10 c < nI 60 then va_up s.2.1 11 (upd (s.2.1 11) (c * 60 + (s.2.1 10 c).toNatClampNeg) (nI q)) else s.2.1) 10 (upd (s.2.1 10) c (s.2.1 10 c + nI 1)) 9 = s.2.1 9
    rw [va_up_ne _ _ (by decide)]
    split
    · exact va_up_ne _ _ (by decide)
    · rfl
theorem memOK.adb {n : Nat} {c : Option Nat} {q : Nat} {s : CSt} (h : memOK n s) : memOK n (adb c q s) := by
  intro j hj
  rw [adb_9]
  exact h j hj
theorem memOK.kept {n c : Nat} {v : Int32} {s : CSt} (h : memOK n s) (hv : v = -1 ∨ ∃ q, q ≤ n ∧ v = nI q) : memOK n (kept c v s) := by
  intro j hj
  rw [kept_9]
  by_cases hc : j = c
  · subst hc
    rw [pk_us]
    exact Or.inr hv
  · rw [pk_un hc]
    exact h j hj
/-- a result keeps what holds -/
def okR (n : Nat) (s : CSt) (R : Rs) : Prop := frM s R.2 ∧ memOK n R.2 ∧ ∀ q, R.1 = some (some q) → q ≤ n
theorem okR.bnd {n : Nat} {s : CSt} {R : Rs} {f : Nat → CSt → Rs} {g : CSt → Rs} (h : okR n s R) (hf : ∀ q, R.1 = some (some q) → q ≤ n → okR n R.2 (f q R.2)) (hg : R.1 = some none → okR n R.2 (g R.2)) : okR n s (bnd R f g) := by
  obtain ⟨h1, h2, h3⟩ := h
  cases hR : R.1 with
  | none => rw [bnd_none hR]; exact ⟨h1, h2, fun q e => by cases e⟩
  | some v => cases v with
    | none => rw [bnd_fail hR]; obtain ⟨g1, g2, g3⟩ := hg hR; exact ⟨h1.tr g1, g2, g3⟩
    | some q => rw [bnd_some hR]; obtain ⟨g1, g2, g3⟩ := hf q hR (h3 q hR); exact ⟨h1.tr g1, g2, g3⟩
theorem okR.lift {n : Nat} {s s1 : CSt} {R : Rs} (f : frM s s1) (h : okR n s1 R) : okR n s R := ⟨f.tr h.1, h.2.1, h.2.2⟩
theorem okR.mk0 {n : Nat} {s : CSt} (hm : memOK n s) : okR n s (some none, s) := ⟨frM.rf, hm, fun q e => by cases e⟩
theorem okR.mk1 {n p : Nat} {s : CSt} (hm : memOK n s) (hp : p ≤ n) : okR n s (some (some p), s) := ⟨frM.rf, hm, fun q e => by cases e; exact hp⟩
theorem evRep_ok {n : Nat} {f : Nat → CSt → Rs} {c : Option Nat} (hf : ∀ p s, p ≤ n → memOK n s → okR n s (f p s)) : ∀ (k : Nat) (a9 : Option Nat) (p : Nat) (s : CSt), (∀ q, a9 = some q → q ≤ n) → p ≤ n → memOK n s → okR n s (evRep f c k a9 p s)
  | 0, a9, p, s, ha, _, hm => ⟨frM.rf, hm, fun q e => ha q (Option.some.inj e)⟩
  | k + 1, a9, p, s, ha, hp, hm => by
    unfold evRep
    refine (hf p s hp hm).bnd (fun q _ hq => evRep_ok hf k (some q) q _ (fun q' e => by cases e; exact hq) hq (hf p s hp hm).2.1) (fun _ => ?_)
    exact ⟨frM.cut, (hf p s hp hm).2.1.cut, fun q e => ha q (Option.some.inj e)⟩
theorem evA_ok {n : Nat} {w : Nat → Nat} {call : Nat → Nat → Nat → CSt → Rs} (hc : ∀ r p d s, r < 6 → p ≤ n → memOK n s → okR n s (call r p d s)) : ∀ t, wf t → ∀ p d c s, p ≤ n → memOK n s → okR n s (evA n w call t p d c s) := by
  refine ast_ind (fun lo hi _ _ p d c s hp hm => ?_) (fun r hr p d c s hp hm => ?_) (fun m a b h1 h2 h3 h4 ha hb p d c s hp hm => ?_) (fun k e h1 h2 h3 he p d c s hp hm => ?_)
  · refine ⟨frM.rf, hm, fun q e => ?_⟩
    simp only [evA] at e
    split at e
    · cases e; omega
    · cases e
  · simp only [evA]
    refine (hc r p _ s hr hp hm).bnd (fun q _ hq => ?_) (fun _ => okR.mk0 (hc r p _ s hr hp hm).2.1)
    exact ⟨frM.adb, (hc r p _ s hr hp hm).2.1.adb, fun q' e => by cases e; exact hq⟩
  · simp only [evA]
    have A := ha p (d + 1) c s hp hm
    split
    · exact A.bnd (fun q _ hq => hb q _ c _ hq A.2.1) (fun _ => okR.mk0 A.2.1)
    · refine A.bnd (fun q _ hq => okR.mk1 A.2.1 hq) (fun _ => ?_)
      generalize (if m % 2 = 1 then d else d + 1) = d2
      have B := hb p d2 c (cut c (bsz c s) (evA n w call a p (d + 1) c s).2) hp A.2.1.cut
      refine okR.lift frM.cut (B.bnd (fun q _ hq => okR.mk1 B.2.1 hq) (fun _ => ?_))
      split
      · exact okR.mk0 B.2.1
      · exact okR.lift frM.cut (okR.mk0 B.2.1.cut)
  · simp only [evA]
    split
    · have A := he p (d + 1) none s hp hm
      exact A.bnd (fun q _ _ => okR.mk1 A.2.1 hp) (fun _ => okR.mk0 A.2.1)
    · split
      · have A := he p (d + 1) none s hp hm
        exact A.bnd (fun q _ _ => okR.mk0 A.2.1) (fun _ => okR.mk1 A.2.1 hp)
      · exact evRep_ok (fun p s hp hm => he p (d + 1) c s hp hm) _ _ _ _ (fun q e => by split at e <;> cases e; exact hp) hp hm
theorem vO_ok {n : Nat} {s : CSt} {c : Nat} (hn : n ≤ 20) (hm : memOK n s) (hc : c < 126) (h : ¬ s.2.1 9 c = -2) : onI (vO (s.2.1 9 c)) = s.2.1 9 c ∧ ∀ q, vO (s.2.1 9 c) = some q → q ≤ n := by
  rcases hm c hc with h1 | h1 | ⟨q, hq, h1⟩
  · exact absurd h1 h
  · rw [h1]
    exact ⟨by decide +kernel, fun q e => by rw [show vO (-1) = none by decide +kernel] at e; cases e⟩
  · rw [h1]
    have e : vO (nI q) = some q := by
      unfold vO
      rw [if_neg (nI_pos (by omega)), nI_clamp (by omega)]
    rw [e]
    exact ⟨rfl, fun q' e => by cases e; exact hq⟩
theorem evR_ok {n : Nat} {w : Nat → Nat} {rl : Nat → Option Ex} (hn : n ≤ 20) (hw : ∀ r t, r < 6 → rl r = some t → wf t) : ∀ f r p d s, r < 6 → p ≤ n → memOK n s → okR n s (evR n w rl f r p d s)
  | 0, r, p, d, s, hr, hp, hm => by
    unfold evR
    split
    · exact ⟨frM.rf, hm, fun q e => by cases e⟩
    · rename_i h
      exact ⟨frM.cnt (by decide), hm, fun q e => (vO_ok hn hm (by omega) h).2 q (Option.some.inj e)⟩
  | f + 1, r, p, d, s, hr, hp, hm => by
    unfold evR
    split
    · split
      · exact ⟨frM.rf, hm, fun q e => by cases e⟩
      · have F : frM s (cut (some (r * 21 + p)) (nI 0) (va_up s.1 5 (s.1 5 + nI 1), s.2)) := frM.tr (frM.cnt (by decide)) frM.cut
        have hm1 : memOK n (cut (some (r * 21 + p)) (nI 0) (va_up s.1 5 (s.1 5 + nI 1), s.2)) := memOK.cut hm
        cases hx : rl r with
        | none => exact okR.lift F ⟨frM.kept, hm1.kept (Or.inl rfl), fun q e => by cases e⟩
        | some t =>
          have A := evA_ok (w := w) (fun r p d s hr hp hm => evR_ok (w := w) hn hw f r p d s hr hp hm) t (hw r t hr hx) p d (some (r * 21 + p)) _ hp hm1
          refine okR.lift F (A.bnd (fun q _ hq => ⟨frM.kept, A.2.1.kept (Or.inr ⟨q, hq, rfl⟩), fun q' e => by cases e; exact hq⟩) (fun _ => ⟨frM.kept, A.2.1.kept (Or.inl rfl), fun q e => by cases e⟩))
    · rename_i h
      exact ⟨frM.cnt (by decide), hm, fun q e => (vO_ok hn hm (by omega) h).2 q (Option.some.inj e)⟩
