/-! The match without the class's rows below: memory, how many were worked out, how many had, and the records (how many, and the arrays of rules, places and goals). -/
abbrev AS : Type := (Nat → Int32) × Int32 × Int32 × Nat × (Nat → Int32) × (Nat → Int32) × (Nat → Int32)
abbrev Ra : Type := Option (Option Nat) × AS
def bnA (R : Ra) (f : Nat → AS → Ra) (g : AS → Ra) : Ra := match R.1 with
  | none => (none, R.2)
  | some none => g R.2
  | some (some q) => f q R.2
theorem bnA_none {R : Ra} {f : Nat → AS → Ra} {g : AS → Ra} (h : R.1 = none) : bnA R f g = (none, R.2) := by unfold bnA; rw [h]
theorem bnA_fail {R : Ra} {f : Nat → AS → Ra} {g : AS → Ra} (h : R.1 = some none) : bnA R f g = g R.2 := by unfold bnA; rw [h]
theorem bnA_some {R : Ra} {f : Nat → AS → Ra} {g : AS → Ra} {q : Nat} (h : R.1 = some (some q)) : bnA R f g = f q R.2 := by unfold bnA; rw [h]
def cutA (x : Nat) (A : AS) : AS := (A.1, A.2.1, A.2.2.1, x, A.2.2.2.2)
def avRep (f : Nat → AS → Ra) : Nat → Option Nat → Nat → AS → Ra
  | 0, at9, _, A => (some at9, A)
  | k + 1, at9, p, A => bnA (f p A) (fun q A1 => avRep f k (some q) q A1) (fun A1 => (some at9, cutA A.2.2.2.1 A1))
def avA (n : Nat) (w : Nat → Nat) (call : Nat → Nat → Nat → AS → Ra) : Ex → Nat → Nat → AS → Ra
  | .tag lo (.tag hi .nil), p, _, A => (some (if p < n ∧ lo ≤ w p ∧ w p ≤ hi then some (p + 1) else none), A)
  | .tag r .line, p, d, A => call r p (d + 2) A
  | .tag m (.append a b), p, d, A =>
    if m < 2 then bnA (avA n w call a p (d + 1) A) (fun q A1 => avA n w call b q (if m % 2 = 1 then d else d + 1) A1) (fun A1 => (some none, A1))
    else bnA (avA n w call a p (d + 1) A) (fun q A1 => (some (some q), A1)) (fun A1 => avA n w call b p (if m % 2 = 1 then d else d + 1) (cutA A.2.2.2.1 A1))
  | .tag k (.nest _ e), p, d, A =>
    if k = 7 then bnA (avA n w call e p (d + 1) A) (fun _ A1 => (some (some p), cutA A.2.2.2.1 A1)) (fun A1 => (some none, cutA A.2.2.2.1 A1))
    else if k = 8 then bnA (avA n w call e p (d + 1) A) (fun _ A1 => (some none, cutA A.2.2.2.1 A1)) (fun A1 => (some (some p), cutA A.2.2.2.1 A1))
    else avRep (fun q A => avA n w call e q (d + 1) A) (if k = 6 then 1 else 21) (if k = 5 then none else some p) p A
  | _, _, _, A => (some none, A)
def avR (n : Nat) (w : Nat → Nat) (rl : Nat → Option Ex) : Nat → Nat → Nat → Nat → AS → Ra
  | 0, r, p, _, A => if A.1 (r * 21 + p) = -2 then (none, A) else (some (vO (A.1 (r * 21 + p))), (A.1, A.2.1, A.2.2.1 + nI 1, A.2.2.2))
  | f + 1, r, p, d, A => if A.1 (r * 21 + p) = -2 then (if 40 < d then (none, A) else match rl r with
      | none => (some none, (upd A.1 (r * 21 + p) (-1), A.2.1 + nI 1, A.2.2))
      | some t => bnA (avA n w (avR n w rl f) t p d (A.1, A.2.1 + nI 1, A.2.2)) (fun q A1 => (some (some q), (upd A1.1 (r * 21 + p) (nI q), A1.2))) (fun A1 => (some none, (upd A1.1 (r * 21 + p) (-1), A1.2))))
    else (some (vO (A.1 (r * 21 + p))), (A.1, A.2.1, A.2.2.1 + nI 1, A.2.2.2))
/-- the class's state and the short one -/
def PA (s : CSt) (A : AS) : Prop := s.2.1 9 = A.1 ∧ s.1 5 = A.2.1 ∧ s.1 6 = A.2.2.1
def PR (R : Rs) (S : Ra) : Prop := R.1 = S.1 ∧ PA R.2 S.2
theorem PA.cut {s : CSt} {A : AS} {c : Option Nat} {z : Int32} (h : PA s A) : PA (cut c z s) A := by
  refine ⟨by rw [cut_9]; exact h.1, ?_, ?_⟩
  · cases c <;> exact h.2.1
  · cases c <;> exact h.2.2
theorem PA.cutA {s : CSt} {A : AS} {x : Nat} (h : PA s A) : PA s (cutA x A) := h
theorem PA.adb {s : CSt} {A : AS} {c : Option Nat} {q : Nat} (h : PA s A) : PA (adb c q s) A := by
  refine ⟨by rw [adb_9]; exact h.1, ?_, ?_⟩
  · cases c <;> exact h.2.1
  · cases c <;> exact h.2.2
theorem PR.bnd {R : Rs} {S : Ra} {f : Nat → CSt → Rs} {g : CSt → Rs} {f' : Nat → AS → Ra} {g' : AS → Ra} (h : PR R S) (hf : ∀ q s A, PA s A → PR (f q s) (f' q A)) (hg : ∀ s A, PA s A → PR (g s) (g' A)) : PR (bnd R f g) (bnA S f' g') := by
  obtain ⟨h1, h2⟩ := h
  cases hR : R.1 with
  | none =>
    rw [bnd_none hR, bnA_none (h1.symm.trans hR)]
    exact ⟨rfl, h2⟩
  | some v => cases v with
    | none =>
      rw [bnd_fail hR, bnA_fail (h1.symm.trans hR)]
      exact hg _ _ h2
    | some q =>
      rw [bnd_some hR, bnA_some (h1.symm.trans hR)]
      exact hf q _ _ h2
theorem bnA_id (R : Ra) : bnA R (fun q s => (some (some q), s)) (fun s => (some none, s)) = R := by
  obtain ⟨v, s⟩ := R
  rcases v with _ | _ | q <;> rfl
theorem PR.rep {f : Nat → CSt → Rs} {f' : Nat → AS → Ra} {c : Option Nat} (hf : ∀ q s A, PA s A → PR (f q s) (f' q A)) : ∀ (k : Nat) (a9 : Option Nat) (p : Nat) (s : CSt) (A : AS), PA s A → PR (evRep f c k a9 p s) (avRep f' k a9 p A)
  | 0, a9, p, s, A, h => ⟨rfl, h⟩
  | k + 1, a9, p, s, A, h => by
    unfold evRep avRep
    exact (hf p s A h).bnd (fun q s A h => PR.rep hf k (some q) q s A h) (fun s1 A1 h1 => ⟨rfl, h1.cut.cutA⟩)
theorem ev_av {n : Nat} {w : Nat → Nat} {call : Nat → Nat → Nat → CSt → Rs} {call' : Nat → Nat → Nat → AS → Ra} (hc : ∀ r p d s A, PA s A → PR (call r p d s) (call' r p d A)) : ∀ t, wf t → ∀ p d c s A, PA s A → PR (evA n w call t p d c s) (avA n w call' t p d A) := by
  refine ast_ind (fun lo hi _ _ p d c s A h => ⟨rfl, h⟩) (fun r hr p d c s A h => ?_) (fun m a b h1 h2 h3 h4 ha hb p d c s A h => ?_) (fun k e h1 h2 h3 he p d c s A h => ?_)
  · simp only [evA, avA]
    rw [← bnA_id (call' r p (d + 2) A)]
    exact (hc r p (d + 2) s A h).bnd (fun q s1 A1 h1 => ⟨rfl, h1.adb⟩) (fun s1 A1 h1 => ⟨rfl, h1⟩)
  · simp only [evA, avA]
    generalize (if m % 2 = 1 then d else d + 1) = d2
    split
    · exact (ha p (d + 1) c s A h).bnd (fun q s1 A1 h1 => hb q d2 c s1 A1 h1) (fun s1 A1 h1 => ⟨rfl, h1⟩)
    · refine (ha p (d + 1) c s A h).bnd (fun q s1 A1 h1 => ⟨rfl, h1⟩) (fun s1 A1 h1 => ?_)
      rw [← bnA_id (avA n w call' b p d2 (cutA A.2.2.2.1 A1))]
      refine (hb p d2 c _ _ (h1.cut.cutA)).bnd (fun q s2 A2 h2 => ⟨rfl, h2⟩) (fun s2 A2 h2 => ⟨rfl, ?_⟩)
      show PA (if m % 2 = 1 then s2 else cut c (bsz c s) s2) A2
      split
      · exact h2
      · exact h2.cut
  · simp only [evA, avA]
    split
    · exact (he p (d + 1) none s A h).bnd (fun q s1 A1 h1 => ⟨rfl, h1.cutA⟩) (fun s1 A1 h1 => ⟨rfl, h1.cutA⟩)
    · split
      · exact (he p (d + 1) none s A h).bnd (fun q s1 A1 h1 => ⟨rfl, h1.cutA⟩) (fun s1 A1 h1 => ⟨rfl, h1.cutA⟩)
      · exact PR.rep (fun q s A h => he q (d + 1) c s A h) _ _ _ _ _ h
theorem PA.kept {s : CSt} {A : AS} {c : Nat} {v : Int32} (h : PA s A) : PA (kept c v s) (upd A.1 c v, A.2) := ⟨by rw [kept_9, h.1], h.2⟩
theorem evR_avR {n : Nat} {w : Nat → Nat} {rl : Nat → Option Ex} (hw : ∀ r t, rl r = some t → wf t) : ∀ f r p d s A, PA s A → PR (evR n w rl f r p d s) (avR n w rl f r p d A)
  | 0, r, p, d, s, A, h => by
    unfold evR avR
    rw [h.1]
    split
    · exact ⟨rfl, h⟩
    · exact ⟨rfl, h.1, h.2.1, by show va_up s.1 6 (s.1 6 + nI 1) 6 = _; rw [va_up_self, h.2.2]⟩
  | f + 1, r, p, d, s, A, h => by
    unfold evR avR
    rw [h.1]
    split
    · split
      · exact ⟨rfl, h⟩
      · have h5 : PA (cut (some (r * 21 + p)) (nI 0) (va_up s.1 5 (s.1 5 + nI 1), s.2)) (A.1, A.2.1 + nI 1, A.2.2) := by
          refine PA.cut ⟨h.1, ?_, ?_⟩
          · show va_up s.1 5 (s.1 5 + nI 1) 5 = _
            rw [va_up_self, h.2.1]
          · show va_up s.1 5 (s.1 5 + nI 1) 6 = _
            rw [va_up_ne _ _ (by decide)]
            exact h.2.2
        cases hx : rl r with
        | none => exact ⟨rfl, h5.kept⟩
        | some t => exact (ev_av (fun r p d s A h => evR_avR hw f r p d s A h) t (hw r t hx) p d _ _ _ h5).bnd (fun q s1 A1 h1 => ⟨rfl, h1.kept⟩) (fun s1 A1 h1 => ⟨rfl, h1.kept⟩)
    · exact ⟨rfl, h.1, h.2.1, by show va_up s.1 6 (s.1 6 + nI 1) 6 = _; rw [va_up_self, h.2.2]⟩
