/-! The class's rows below hold what is told again from the memory. -/
def ROW (s : CSt) (c : Nat) (Z : List Nat) : Prop := s.2.1 10 c = nI Z.length ∧ ∀ (k y : Nat), Z[k]? = some y → k < 60 → s.2.1 11 (c * 60 + k) = nI y
def RWc (c : Option Nat) (s : CSt) (Z : List Nat) : Prop := ∀ c1, c = some c1 → ROW s c1 Z
def rSame (s s2 : CSt) (c : Nat) : Prop := s2.2.1 10 c = s.2.1 10 c ∧ ∀ k, k < 60 → s2.2.1 11 (c * 60 + k) = s.2.1 11 (c * 60 + k)
theorem ROW.same {s s2 : CSt} {c : Nat} {Z : List Nat} (h : ROW s c Z) (e : rSame s s2 c) : ROW s2 c Z := ⟨e.1.trans h.1, fun k y hk h60 => (e.2 k h60).trans (h.2 k y hk h60)⟩
theorem rSame.rf {s : CSt} {c : Nat} : rSame s s c := ⟨rfl, fun _ _ => rfl⟩
theorem rSame.tr {s s2 s3 : CSt} {c : Nat} (h : rSame s s2 c) (g : rSame s2 s3 c) : rSame s s3 c := ⟨g.1.trans h.1, fun k hk => (g.2 k hk).trans (h.2 k hk)⟩
theorem cut_10 {c : Nat} {z : Int32} {s : CSt} : (cut (some c) z s).2.1 10 = upd (s.2.1 10) c z := (show va_up s.2.1 10 (upd (s.2.1 10) c z) 10 = _ from va_up_self _ _ _)
theorem cut_11 {c : Option Nat} {z : Int32} {s : CSt} : (cut c z s).2.1 11 = s.2.1 11 := by
  cases c with
  | none => rfl
  | some c => exact (show va_up s.2.1 10 (upd (s.2.1 10) c z) 11 = s.2.1 11 from va_up_ne _ _ (by decide))
theorem adb_10 {c y : Nat} {s : CSt} : (adb (some c) y s).2.1 10 = upd (s.2.1 10) c (s.2.1 10 c + nI 1) := (show va_up (if 0 ≤ s.2.1 10 c ∧ s.2.1 10 c < nI 60 then va_up s.2.1 11 (upd (s.2.1 11) (c * 60 + (s.2.1 10 c).toNatClampNeg) (nI y)) else s.2.1) 10 (upd (s.2.1 10) c (s.2.1 10 c + nI 1)) 10 = _ from va_up_self _ _ _)
theorem adb_11 {c y : Nat} {s : CSt} : (adb (some c) y s).2.1 11 = if 0 ≤ s.2.1 10 c ∧ s.2.1 10 c < nI 60 then upd (s.2.1 11) (c * 60 + (s.2.1 10 c).toNatClampNeg) (nI y) else s.2.1 11 := by
  show va_up (if 0 ≤ s.2.1 10 c ∧ s.2.1 10 c < nI 60 then va_up s.2.1 11 (upd (s.2.1 11) (c * 60 + (s.2.1 10 c).toNatClampNeg) (nI y)) else s.2.1) 10 (upd (s.2.1 10) c (s.2.1 10 c + nI 1)) 11 = _
  rw [va_up_ne _ _ (by decide)]
  split
  · exact va_up_self _ _ _
  · rfl
theorem ROW.cut {s s1 : CSt} {c : Nat} {Z X : List Nat} (h : ROW s c Z) (h1 : ROW s1 c (Z ++ X)) : ROW (cut (some c) (bsz (some c) s) s1) c Z := by
  refine ⟨?_, fun k y hk h60 => ?_⟩
  · rw [cut_10, pk_us]
    exact h.1
  · rw [cut_11]
    refine h1.2 k y ?_ h60
    rw [List.getElem?_append_left (lst_lt hk)]
    exact hk
theorem ROW.adb {s : CSt} {c y : Nat} {Z : List Nat} (h : ROW s c Z) (hz : Z.length < 2 ^ 30) : ROW (adb (some c) y s) c (Z ++ [y]) := by
  refine ⟨?_, fun k y' hk h60 => ?_⟩
  · rw [adb_10, pk_us, h.1, nI_add, List.length_append]
    rfl
  · rw [adb_11, h.1, nI_clamp (by omega)]
    by_cases hk2 : k < Z.length
    · rw [List.getElem?_append_left hk2] at hk
      split
      · rw [pk_un (by omega)]
        exact h.2 k y' hk h60
      · exact h.2 k y' hk h60
    · have hk3 : k = Z.length := by
        have := lst_lt hk
        rw [List.length_append] at this
        have : k < Z.length + 1 := this
        omega
      subst hk3
      rw [List.getElem?_append_right (Nat.le_refl _), Nat.sub_self] at hk
      cases hk
      rw [if_pos ⟨nI_pos' (by omega), nI_lt h60 (by decide)⟩, pk_us]
theorem rSame.cut {c : Option Nat} {c' : Nat} {z : Int32} {s : CSt} (h : c ≠ some c') : rSame s (cut c z s) c' := by
  refine ⟨?_, fun k _ => by rw [cut_11]⟩
  cases c with
  | none => rfl
  | some c => rw [cut_10, pk_un (fun e => h (by rw [e]))]
theorem rSame.adb {c : Option Nat} {c' y : Nat} {s : CSt} (h : c ≠ some c') : rSame s (adb c y s) c' := by
  cases c with
  | none => exact rSame.rf
  | some c =>
    have hne : c' ≠ c := fun e => h (by rw [e])
    refine ⟨by rw [adb_10, pk_un hne], fun k hk => ?_⟩
    rw [adb_11]
    split
    · rename_i hc
      have := nI_cl hc.1 hc.2
      rw [pk_un (by omega)]
    · rfl
theorem RWc.cut {s s1 : CSt} {c : Option Nat} {Z X : List Nat} (h : RWc c s Z) (h1 : RWc c s1 (Z ++ X)) : RWc c (cut c (bsz c s) s1) Z := fun c1 e => by
  subst e
  exact (h c1 rfl).cut (h1 c1 rfl)
theorem RWc.adb {s : CSt} {c : Option Nat} {y : Nat} {Z : List Nat} (h : RWc c s Z) (hz : Z.length < 2 ^ 30) : RWc c (adb c y s) (Z ++ [y]) := fun c1 e => by
  subst e
  exact (h c1 rfl).adb hz
def BLW (rk : Nat → Nat) (c' c : Nat) : Prop := c % 21 < c' % 21 ∨ (c' % 21 = c % 21 ∧ rk (c' / 21) < rk (c / 21))
theorem BLW.tr {rk : Nat → Nat} {a b c : Nat} (h : BLW rk a b) (g : BLW rk b c) : BLW rk a c := by
  unfold BLW at *
  omega
theorem BLW.irr {rk : Nat → Nat} {c : Nat} : ¬ BLW rk c c := by
  unfold BLW
  omega
def FRc (rk : Nat → Nat) (c : Option Nat) (c0 : Nat) (s s2 : CSt) : Prop := ∀ c', c' < 126 → ¬ BLW rk c' c0 → s2.2.1 9 c' = s.2.1 9 c' ∧ (c ≠ some c' → rSame s s2 c')
theorem FRc.rf {rk : Nat → Nat} {c : Option Nat} {c0 : Nat} {s : CSt} : FRc rk c c0 s s := fun _ _ _ => ⟨rfl, fun _ => rSame.rf⟩
theorem FRc.tr {rk : Nat → Nat} {c : Option Nat} {c0 : Nat} {s s2 s3 : CSt} (h : FRc rk c c0 s s2) (g : FRc rk c c0 s2 s3) : FRc rk c c0 s s3 := fun c' h1 h2 => ⟨(g c' h1 h2).1.trans (h c' h1 h2).1, fun h3 => ((h c' h1 h2).2 h3).tr ((g c' h1 h2).2 h3)⟩
theorem FRc.cut {rk : Nat → Nat} {c : Option Nat} {c0 : Nat} {z : Int32} {s : CSt} : FRc rk c c0 s (cut c z s) := fun c' _ _ => ⟨by rw [cut_9], fun h => rSame.cut h⟩
theorem FRc.adb {rk : Nat → Nat} {c : Option Nat} {c0 y : Nat} {s : CSt} : FRc rk c c0 s (adb c y s) := fun c' _ _ => ⟨by rw [adb_9], fun h => rSame.adb h⟩
def INVC (n : Nat) (w : Nat → Nat) (rl : Nat → Option Ex) (s : CSt) : Prop := ∀ c q, c < 126 → q ≤ n → s.2.1 9 c = nI q → ∃ t L, rl (c / 21) = some t ∧ rp n w (lkm (s.2.1 9)) t (c % 21) = some (some q, L) ∧ ROW s c L
theorem nI_ne2 {q : Nat} (h : q ≤ 20) : ¬ nI q = -2 := by
  have := (on_ne (v := some q) (fun q' e => by cases e; exact h)).1
  exact this
theorem INVC.mv {n : Nat} {w : Nat → Nat} {rl : Nat → Option Ex} {s s2 : CSt} {c : Option Nat} {c0 : Nat} (hn : n ≤ 20) (h : INVC n w rl s) (hc : ∀ c1, c = some c1 → c1 = c0) (h0 : s.2.1 9 c0 = -2) (h9 : s2.2.1 9 = s.2.1 9) (hr : ∀ c', c ≠ some c' → rSame s s2 c') : INVC n w rl s2 := fun c' q h1 h2 h3 => by
  rw [h9] at h3
  obtain ⟨t, L, g1, g2, g3⟩ := h c' q h1 h2 h3
  refine ⟨t, L, g1, by rw [h9]; exact g2, g3.same (hr c' (fun e => ?_))⟩
  have := hc c' e
  subst this
  rw [h0] at h3
  exact nI_ne2 (by omega) h3.symm
theorem INVC.cut {n : Nat} {w : Nat → Nat} {rl : Nat → Option Ex} {s : CSt} {c : Option Nat} {c0 : Nat} {z : Int32} (hn : n ≤ 20) (h : INVC n w rl s) (hc : ∀ c1, c = some c1 → c1 = c0) (h0 : s.2.1 9 c0 = -2) : INVC n w rl (cut c z s) := h.mv hn hc h0 cut_9 (fun _ h => rSame.cut h)
theorem INVC.adb {n : Nat} {w : Nat → Nat} {rl : Nat → Option Ex} {s : CSt} {c : Option Nat} {c0 y : Nat} (hn : n ≤ 20) (h : INVC n w rl s) (hc : ∀ c1, c = some c1 → c1 = c0) (h0 : s.2.1 9 c0 = -2) : INVC n w rl (adb c y s) := h.mv hn hc h0 adb_9 (fun _ h => rSame.adb h)
section ROWS
variable (n : Nat) (w : Nat → Nat) (rl : Nat → Option Ex) (O : Nat → Int32) (rk : Nat → Nat)
/-- what a match of a part under the cell c0 does -/
def EVS (c : Option Nat) (c0 : Nat) (Z : List Nat) (b : Nat) (s : CSt) (R : Rs) (T : (Nat → Int32) → Rp) : Prop := INVC n w rl R.2 ∧ SND n O (R.2.2.1 9) ∧ EXT (s.2.1 9) (R.2.2.1 9) ∧ FRc rk c c0 s R.2 ∧ ∀ v, R.1 = some v → ∃ X X', T (R.2.2.1 9) = some (v, X) ∧ X'.length ≤ b ∧ RWc c R.2 (Z ++ X') ∧ (v ≠ none → X' = X)
/-- what a call does -/
def CSP (call : Nat → Nat → Nat → CSt → Rs) : Prop := ∀ r p d s, r < 6 → (∃ t, rl r = some t) → p ≤ n → INVC n w rl s → SND n O (s.2.1 9) → INVC n w rl (call r p d s).2 ∧ SND n O ((call r p d s).2.2.1 9) ∧ EXT (s.2.1 9) ((call r p d s).2.2.1 9) ∧ (∀ c', c' < 126 → c' ≠ r * 21 + p → ¬ BLW rk c' (r * 21 + p) → (call r p d s).2.2.1 9 c' = s.2.1 9 c' ∧ rSame s (call r p d s).2 c') ∧ ∀ v, (call r p d s).1 = some v → snd n p (O r) v ∧ (call r p d s).2.2.1 9 (r * 21 + p) = onI v
end ROWS
section ROWS2
variable {n : Nat} {w : Nat → Nat} {rl : Nat → Option Ex} {O : Nat → Int32} {rk : Nat → Nat}
theorem evA_snd (hn : n ≤ 20) (hO : ∀ r, r < 6 → sm8 (O r)) (hw : ∀ r t, rl r = some t → wf t) (hfp : ∀ r t, r < 6 → rl r = some t → wf t ∧ FS rl O t ∧ oE O t = O r) (f : Nat) {t : Ex} (wt : wf t) (hF : FS rl O t) (p d : Nat) (c : Option Nat) (s : CSt) (hp : p ≤ n) (hS : SND n O (s.2.1 9)) : SND n O ((evA n w (evR n w rl f) t p d c s).2.2.1 9) ∧ ∀ v, (evA n w (evR n w rl f) t p d c s).1 = some v → snd n p (oE O t) v := by
  obtain ⟨e1, e2, -⟩ := ev_av (n := n) (w := w) (call := evR n w rl f) (call' := avR n w rl f) (fun r p d s A h => evR_avR hw f r p d s A h) t wt p d c s (s.2.1 9, s.1 5, s.1 6, 0, fun _ => 0, fun _ => 0, fun _ => 0) ⟨rfl, rfl, rfl⟩
  obtain ⟨h1, h2⟩ := avA_snd (w := w) hn hO (avR_snd (w := w) hn hO hfp f) t wt hF p d (s.2.1 9, s.1 5, s.1 6, 0, fun _ => 0, fun _ => 0, fun _ => 0) hp hS
  rw [e1, e2]
  exact ⟨h1, h2⟩
theorem evRep_rows {f : Nat → CSt → Rs} {c : Option Nat} {c0 ce : Nat} {e : Ex} {oe : Int32} {ge : Prop} (hn : n ≤ 20) (hc0 : c0 < 126) (hc : ∀ c1, c = some c1 → c1 = c0) (we : wf e) (hce : ce = cR e)
    (hf : ∀ q s Z, c0 % 21 ≤ q → q ≤ n → (c0 % 21 < q ∨ ge) → INVC n w rl s → SND n O (s.2.1 9) → s.2.1 9 c0 = -2 → RWc c s Z → Z.length + ce ≤ 2 ^ 29 → EVS n w rl O rk c c0 Z ce s (f q s) (fun m => rp n w (lkm m) e q) ∧ ∀ v, (f q s).1 = some v → snd n q oe v) :
    ∀ (k : Nat) (a9 : Option Nat) (p : Nat) (s : CSt) (Z L : List Nat), (k ≤ 1 ∨ ¬ bS oe) → c0 % 21 ≤ p → p ≤ n → (k = 0 ∨ c0 % 21 < p ∨ ge) → INVC n w rl s → SND n O (s.2.1 9) → s.2.1 9 c0 = -2 → RWc c s (Z ++ L) → (Z ++ L).length + k * ce ≤ 2 ^ 29 → INVC n w rl (evRep f c k a9 p s).2 ∧ SND n O ((evRep f c k a9 p s).2.2.1 9) ∧ EXT (s.2.1 9) ((evRep f c k a9 p s).2.2.1 9) ∧ FRc rk c c0 s (evRep f c k a9 p s).2 ∧ ∀ v, (evRep f c k a9 p s).1 = some v → ∃ X, rpRep (fun q => rp n w (lkm ((evRep f c k a9 p s).2.2.1 9)) e q) k a9 p L = some (v, X) ∧ RWc c (evRep f c k a9 p s).2 (Z ++ X) ∧ X.length ≤ L.length + k * ce
  | 0, a9, p, s, Z, L, _, _, _, _, hI, hS, h0, hR, hz => ⟨hI, hS, EXT.rf, FRc.rf, fun v ev => ⟨L, by cases ev; rfl, hR, by omega⟩⟩
  | k + 1, a9, p, s, Z, L, hk, hp0, hp, hg, hI, hS, h0, hR, hz => by
    have hz2 : (Z ++ L).length + ce ≤ 2 ^ 29 := by rw [Nat.add_mul, Nat.one_mul] at hz; omega
    obtain ⟨⟨i1, i2, i3, i4, i5⟩, i6⟩ := hf p s (Z ++ L) hp0 hp (hg.resolve_left (by omega)) hI hS h0 hR hz2
    have h01 : (f p s).2.2.1 9 c0 = -2 := by rw [(i4 c0 hc0 BLW.irr).1]; exact h0
    unfold evRep
    cases hRes : (f p s).1 with
    | none =>
      rw [bnd_none hRes]
      exact ⟨i1, i2, i3, i4, fun v ev => by cases ev⟩
    | some v0 =>
      obtain ⟨X1, X1', x1, x2, x3, x4⟩ := i5 v0 hRes
      dsimp only at x1
      have sn := i6 v0 hRes
      cases v0 with
      | none =>
        rw [bnd_fail hRes]
        refine ⟨i1.cut hn hc h01, by rw [cut_9]; exact i2, by rw [cut_9]; exact i3, i4.tr FRc.cut, fun v ev => ?_⟩
        cases ev
        refine ⟨L, ?_, hR.cut x3, by omega⟩
        rw [cut_9]
        unfold rpRep
        rw [x1]
        rfl
      | some q =>
        rw [bnd_some hRes]
        have e4 := x4 (fun c => by cases c)
        subst e4
        obtain ⟨s1, s2, s3, s4⟩ := sn
        have lX : X1'.length ≤ ce := x2
        have hk2 : k ≤ 1 ∨ ¬ bS oe := hk.imp_left (fun h => by omega)
        have hg2 : k = 0 ∨ c0 % 21 < q ∨ ge := by
          rcases hk with h | h
          · exact Or.inl (by omega)
          · refine Or.inr (Or.inl ?_)
            rcases Nat.lt_or_ge p q with g | g
            · omega
            · exact absurd (s3 (by omega)) h
        rw [List.append_assoc] at x3
        have hz3 : (Z ++ (L ++ X1')).length + k * ce ≤ 2 ^ 29 := by
          rw [Nat.add_mul, Nat.one_mul] at hz
          simp only [List.length_append] at hz ⊢
          omega
        obtain ⟨j1, j2, j3, j4, j5⟩ := evRep_rows hn hc0 hc we hce hf k (some q) q (f p s).2 Z (L ++ X1') hk2 (by omega) s2 hg2 i1 i2 h01 x3 hz3
        refine ⟨j1, j2, i3.tr j3, i4.tr j4, fun v ev => ?_⟩
        obtain ⟨X, y1, y2, y3⟩ := j5 v ev
        refine ⟨X, ?_, y2, by rw [Nat.add_mul, Nat.one_mul]; simp only [List.length_append] at y3; omega⟩
        unfold rpRep
        rw [rp_mo (lkm_CLO hn i2) (j3.cl hn) e we p _ hp x1]
        exact y1
theorem gE_row {O : Nat → Int32} {G : Nat → Bool} {m : Nat} {a b : Ex} (hm : m < 2) (h : gE O G (xB m a b) = true) : gE O G a = true ∧ (bS (oE O a) → gE O G b = true) := by
  have h : (if m < 2 then gE O G a && (oE O a &&& nI 1 == 0 || gE O G b) else gE O G a && gE O G b) = true := h
  rw [if_pos hm, Bool.and_eq_true, Bool.or_eq_true, beq_iff_eq] at h
  exact ⟨h.1, fun c => h.2.resolve_left c⟩
theorem gE_cho {O : Nat → Int32} {G : Nat → Bool} {m : Nat} {a b : Ex} (hm : ¬ m < 2) (h : gE O G (xB m a b) = true) : gE O G a = true ∧ gE O G b = true := by
  have h : (if m < 2 then gE O G a && (oE O a &&& nI 1 == 0 || gE O G b) else gE O G a && gE O G b) = true := h
  rw [if_neg hm, Bool.and_eq_true] at h
  exact h
theorem gE_sig {O : Nat → Int32} {G : Nat → Bool} {k : Nat} {e : Ex} (h : gE O G (xS k e) = true) : gE O G e = true := by
  have h : (if k = 4 ∨ k = 5 then gE O G e && (oE O e &&& nI 1 == 0) else gE O G e) = true := h
  split at h
  · rw [Bool.and_eq_true] at h
    exact h.1
  · exact h
set_option maxHeartbeats 2000000 in
theorem evA_rows (hn : n ≤ 20) (hO : ∀ r, r < 6 → sm8 (O r)) (hw : ∀ r t, rl r = some t → wf t) (hfp : ∀ r t, r < 6 → rl r = some t → wf t ∧ FS rl O t ∧ oE O t = O r) (f : Nat) (hCS : CSP n w rl O rk (evR n w rl f)) {c0 : Nat} (hc0 : c0 < 126) : ∀ t, wf t → FS rl O t → ∀ p d c s Z, c0 % 21 ≤ p → p ≤ n → (c0 % 21 < p ∨ gE O (fun q => decide (rk q < rk (c0 / 21))) t = true) → (∀ c1, c = some c1 → c1 = c0) → INVC n w rl s → SND n O (s.2.1 9) → s.2.1 9 c0 = -2 → RWc c s Z → Z.length + cR t ≤ 2 ^ 29 → EVS n w rl O rk c c0 Z (cR t) s (evA n w (evR n w rl f) t p d c s) (fun m => rp n w (lkm m) t p) := by
  refine ast_ind (fun lo hi _ _ hF p d c s Z hp0 hp hg hc hI hS h0 hR hz => ?_) (fun r hr hF p d c s Z hp0 hp hg hc hI hS h0 hR hz => ?_) (fun m a b h1 h2 wa wb ha hb hF p d c s Z hp0 hp hg hc hI hS h0 hR hz => ?_) (fun k e h4 h8 we he hF p d c s Z hp0 hp hg hc hI hS h0 hR hz => ?_)
  · refine ⟨hI, hS, EXT.rf, FRc.rf, fun v ev => ⟨[], [], ?_, Nat.zero_le _, by rw [List.append_nil]; exact hR, fun _ => rfl⟩⟩
    simp only [evA] at ev
    cases ev
    rfl
  · have hb : BLW rk (r * 21 + p) c0 := by
      unfold BLW
      rw [show (r * 21 + p) % 21 = p by omega, show (r * 21 + p) / 21 = r by omega]
      rcases hg with g | g
      · exact Or.inl g
      · rcases Nat.lt_or_ge (c0 % 21) p with g2 | g2
        · exact Or.inl g2
        · exact Or.inr ⟨by omega, of_decide_eq_true g⟩
    obtain ⟨i1, i2, i3, i4, i5⟩ := hCS r p (d + 2) s hr hF hp hI hS
    have G1 : ∀ c', c' < 126 → ¬ BLW rk c' c0 → (evR n w rl f r p (d + 2) s).2.2.1 9 c' = s.2.1 9 c' ∧ rSame s (evR n w rl f r p (d + 2) s).2 c' := fun c' h1 h2 => i4 c' h1 (fun e => h2 (by rw [e]; exact hb)) (fun e => h2 (e.tr hb))
    have F1 : FRc rk c c0 s (evR n w rl f r p (d + 2) s).2 := fun c' h1 h2 => ⟨(G1 c' h1 h2).1, fun _ => (G1 c' h1 h2).2⟩
    have h01 : (evR n w rl f r p (d + 2) s).2.2.1 9 c0 = -2 := by rw [(G1 c0 hc0 BLW.irr).1]; exact h0
    have R1 : RWc c (evR n w rl f r p (d + 2) s).2 Z := fun c1 e => by
      have := hc c1 e
      subst this
      exact (hR c1 e).same (G1 c1 hc0 BLW.irr).2
    simp only [evA]
    cases hRes : (evR n w rl f r p (d + 2) s).1 with
    | none =>
      rw [bnd_none hRes]
      exact ⟨i1, i2, i3, F1, fun v ev => by cases ev⟩
    | some v0 =>
      obtain ⟨s1, s2⟩ := i5 v0 hRes
      have hlk := lkm_v s2 (snd_20 hn s1)
      cases v0 with
      | none =>
        rw [bnd_fail hRes]
        refine ⟨i1, i2, i3, F1, fun v ev => ⟨[], [], ?_, Nat.zero_le _, by rw [List.append_nil]; exact R1, fun _ => rfl⟩⟩
        cases ev
        simp only [rp]
        rw [hlk]
        rfl
      | some q =>
        rw [bnd_some hRes]
        have hcr : cR (xC r) = 1 := rfl
        refine ⟨i1.adb hn hc h01, by rw [adb_9]; exact i2, by rw [adb_9]; exact i3, F1.tr FRc.adb, fun v ev => ⟨[r * 21 + p], [r * 21 + p], ?_, Nat.le_refl _, R1.adb (by omega), fun _ => rfl⟩⟩
        cases ev
        rw [adb_9]
        simp only [rp]
        rw [hlk]
        rfl
  · have hcr : cR (xB m a b) = cR a + cR b := rfl
    rw [hcr] at hz
    have ga : c0 % 21 < p ∨ gE O (fun q => decide (rk q < rk (c0 / 21))) a = true := hg.imp_right (fun g => by
      by_cases hm : m < 2
      · exact (gE_row hm g).1
      · exact (gE_cho hm g).1)
    obtain ⟨i1, i2, i3, i4, i5⟩ := ha hF.1 p (d + 1) c s Z hp0 hp ga hc hI hS h0 hR (by omega)
    have i6 := (evA_snd (w := w) hn hO hw hfp f wa hF.1 p (d + 1) c s hp hS).2
    have h01 : (evA n w (evR n w rl f) a p (d + 1) c s).2.2.1 9 c0 = -2 := by rw [(i4 c0 hc0 BLW.irr).1]; exact h0
    simp only [evA]
    generalize (if m % 2 = 1 then d else d + 1) = d2
    by_cases hm : m < 2
    · rw [if_pos hm]
      cases hRes : (evA n w (evR n w rl f) a p (d + 1) c s).1 with
      | none =>
        rw [bnd_none hRes]
        exact ⟨i1, i2, i3, i4, fun v ev => by cases ev⟩
      | some v0 =>
        obtain ⟨X, X', x1, x2, x3, x4⟩ := i5 v0 hRes
        dsimp only at x1
        have sn := i6 v0 hRes
        cases v0 with
        | none =>
          rw [bnd_fail hRes]
          refine ⟨i1, i2, i3, i4, fun v ev => ⟨[], X', ?_, by omega, x3, fun c => ?_⟩⟩
          · cases ev
            simp only [rp]
            rw [if_pos hm, x1]
            rfl
          · cases ev; exact absurd rfl c
        | some q =>
          rw [bnd_some hRes]
          have e4 := x4 (fun c => by cases c)
          subst e4
          obtain ⟨s1, s2, s3, s4⟩ := sn
          have gb : c0 % 21 < q ∨ gE O (fun q => decide (rk q < rk (c0 / 21))) b = true := by
            rcases hg with g | g
            · exact Or.inl (by omega)
            · by_cases e : q = p
              · exact Or.inr ((gE_row hm g).2 (s3 e))
              · exact Or.inl (by omega)
          obtain ⟨j1, j2, j3, j4, j5⟩ := hb hF.2 q d2 c _ (Z ++ X') (by omega) s2 gb hc i1 i2 h01 x3 (by rw [List.length_append]; omega)
          refine ⟨j1, j2, i3.tr j3, i4.tr j4, fun v ev => ?_⟩
          obtain ⟨Y, Y', y1, y2, y3, y4⟩ := j5 v ev
          dsimp only at y1
          rw [List.append_assoc] at y3
          have ra := rp_mo (lkm_CLO hn i2) (j3.cl hn) a wa p _ hp x1
          cases v with
          | none =>
            refine ⟨[], X' ++ Y', ?_, by rw [List.length_append]; omega, y3, fun c => absurd rfl c⟩
            simp only [rp]
            rw [if_pos hm, ra, bnP_s, y1]
            rfl
          | some q2 =>
            have e5 := y4 (fun c => by cases c)
            subst e5
            refine ⟨X' ++ Y', X' ++ Y', ?_, by rw [List.length_append]; omega, y3, fun _ => rfl⟩
            simp only [rp]
            rw [if_pos hm, ra, bnP_s, y1]
            rfl
    · rw [if_neg hm]
      cases hRes : (evA n w (evR n w rl f) a p (d + 1) c s).1 with
      | none =>
        rw [bnd_none hRes]
        exact ⟨i1, i2, i3, i4, fun v ev => by cases ev⟩
      | some v0 =>
        obtain ⟨X, X', x1, x2, x3, x4⟩ := i5 v0 hRes
        dsimp only at x1
        cases v0 with
        | some q =>
          rw [bnd_some hRes]
          refine ⟨i1, i2, i3, i4, fun v ev => ⟨X, X', ?_, by omega, x3, fun c => x4 (fun c => by cases c)⟩⟩
          cases ev
          simp only [rp]
          rw [if_neg hm, x1]
          rfl
        | none =>
          rw [bnd_fail hRes]
          have gb : c0 % 21 < p ∨ gE O (fun q => decide (rk q < rk (c0 / 21))) b = true := hg.imp_right (fun g => (gE_cho hm g).2)
          generalize hs1 : (evA n w (evR n w rl f) a p (d + 1) c s).2 = sA at *
          have c9 : (cut c (bsz c s) sA).2.1 9 = sA.2.1 9 := cut_9
          have h02 : (cut c (bsz c s) sA).2.1 9 c0 = -2 := by rw [c9]; exact h01
          obtain ⟨j1, j2, j3, j4, j5⟩ := hb hF.2 p d2 c (cut c (bsz c s) sA) Z hp0 hp gb hc (i1.cut hn hc h01) (by rw [c9]; exact i2) h02 (hR.cut x3) (by omega)
          rw [c9] at j3
          have h03 : (evA n w (evR n w rl f) b p d2 c (cut c (bsz c s) sA)).2.2.1 9 c0 = -2 := by rw [(j4 c0 hc0 BLW.irr).1]; exact h02
          have ra : rp n w (lkm ((evA n w (evR n w rl f) b p d2 c (cut c (bsz c s) sA)).2.2.1 9)) a p = some (none, X) := rp_mo (lkm_CLO hn i2) (j3.cl hn) a wa p _ hp x1
          generalize (evA n w (evR n w rl f) b p d2 c (cut c (bsz c s) sA)) = RB at *
          cases hRes2 : RB.1 with
          | none =>
            rw [bnd_none hRes2]
            exact ⟨j1, j2, i3.tr j3, (i4.tr FRc.cut).tr j4, fun v ev => by cases ev⟩
          | some v1 =>
            obtain ⟨Y, Y', y1, y2, y3, y4⟩ := j5 v1 hRes2
            dsimp only at y1
            cases v1 with
            | some q =>
              rw [bnd_some hRes2]
              refine ⟨j1, j2, i3.tr j3, (i4.tr FRc.cut).tr j4, fun v ev => ⟨Y, Y', ?_, by omega, y3, fun c => y4 (fun c => by cases c)⟩⟩
              cases ev
              simp only [rp]
              rw [if_neg hm, ra]
              exact y1
            | none =>
              rw [bnd_fail hRes2]
              have ry : rp n w (lkm (RB.2.2.1 9)) (xB m a b) p = some (none, Y) := by
                simp only [rp]
                rw [if_neg hm, ra]
                exact y1
              by_cases hm1 : m % 2 = 1
              · rw [if_pos hm1]
                refine ⟨j1, j2, i3.tr j3, (i4.tr FRc.cut).tr j4, fun v ev => ⟨Y, Y', ?_, by omega, y3, fun c => ?_⟩⟩
                · cases ev; exact ry
                · cases ev; exact absurd rfl c
              · rw [if_neg hm1]
                refine ⟨j1.cut hn hc h03, by rw [cut_9]; exact j2, by rw [cut_9]; exact i3.tr j3, ((i4.tr FRc.cut).tr j4).tr FRc.cut, fun v ev => ⟨Y, [], ?_, Nat.zero_le _, by rw [List.append_nil]; exact hR.cut y3, fun c => ?_⟩⟩
                · cases ev; rw [cut_9]; exact ry
                · cases ev; exact absurd rfl c
  · have ge : c0 % 21 < p ∨ gE O (fun q => decide (rk q < rk (c0 / 21))) e = true := hg.imp_right gE_sig
    have hce : cR e ≤ cR (xS k e) := by
      show cR e ≤ if k = 4 ∨ k = 5 then 21 * cR e else cR e
      split <;> omega
    by_cases h78 : k = 7 ∨ k = 8
    · obtain ⟨i1, i2, i3, i4, i5⟩ := he hF.1 p (d + 1) none s [] hp0 hp ge (fun c1 ec => by cases ec) hI hS h0 (fun c1 ec => by cases ec) (by rw [List.length_nil]; omega)
      simp only [evA]
      generalize (evA n w (evR n w rl f) e p (d + 1) none s) = RB at *
      have F1 : FRc rk c c0 s RB.2 := fun c' h1 h2 => ⟨(i4 c' h1 h2).1, fun _ => (i4 c' h1 h2).2 (fun ec => by cases ec)⟩
      have R1 : RWc c RB.2 Z := fun c1 ec => by
        have := hc c1 ec
        subst this
        exact (hR c1 ec).same ((i4 c1 hc0 BLW.irr).2 (fun ec => by cases ec))
      by_cases h7 : k = 7
      · rw [if_pos h7]
        cases hRes : RB.1 with
        | none =>
          rw [bnd_none hRes]
          exact ⟨i1, i2, i3, F1, fun v ev => by cases ev⟩
        | some v0 =>
          obtain ⟨X, X', x1, -⟩ := i5 v0 hRes
          dsimp only at x1
          cases v0 with
          | none =>
            rw [bnd_fail hRes]
            refine ⟨i1, i2, i3, F1, fun v ev => ⟨[], [], ?_, Nat.zero_le _, by rw [List.append_nil]; exact R1, fun _ => rfl⟩⟩
            cases ev
            simp only [rp]
            rw [if_pos h7, x1]
            rfl
          | some q =>
            rw [bnd_some hRes]
            refine ⟨i1, i2, i3, F1, fun v ev => ⟨[], [], ?_, Nat.zero_le _, by rw [List.append_nil]; exact R1, fun _ => rfl⟩⟩
            cases ev
            simp only [rp]
            rw [if_pos h7, x1]
            rfl
      · have h8' : k = 8 := by omega
        rw [if_neg h7, if_pos h8']
        cases hRes : RB.1 with
        | none =>
          rw [bnd_none hRes]
          exact ⟨i1, i2, i3, F1, fun v ev => by cases ev⟩
        | some v0 =>
          obtain ⟨X, X', x1, -⟩ := i5 v0 hRes
          dsimp only at x1
          cases v0 with
          | none =>
            rw [bnd_fail hRes]
            refine ⟨i1, i2, i3, F1, fun v ev => ⟨[], [], ?_, Nat.zero_le _, by rw [List.append_nil]; exact R1, fun _ => rfl⟩⟩
            cases ev
            simp only [rp]
            rw [if_neg h7, if_pos h8', x1]
            rfl
          | some q =>
            rw [bnd_some hRes]
            refine ⟨i1, i2, i3, F1, fun v ev => ⟨[], [], ?_, Nat.zero_le _, by rw [List.append_nil]; exact R1, fun _ => rfl⟩⟩
            cases ev
            simp only [rp]
            rw [if_neg h7, if_pos h8', x1]
            rfl
    · have h7 : ¬ k = 7 := fun c => h78 (Or.inl c)
      have h8' : ¬ k = 8 := fun c => h78 (Or.inr c)
      simp only [evA]
      rw [if_neg h7, if_neg h8']
      have hk : (if k = 6 then 1 else 21) * cR e = cR (xS k e) := by
        show _ = if k = 4 ∨ k = 5 then 21 * cR e else cR e
        by_cases h6 : k = 6
        · rw [if_pos h6, if_neg (by omega)]; omega
        · rw [if_neg h6, if_pos (by omega)]
      obtain ⟨i1, i2, i3, i4, i5⟩ := evRep_rows (rk := rk) (O := O) (oe := oE O e) (ge := gE O (fun q => decide (rk q < rk (c0 / 21))) e = true) hn hc0 hc we rfl (fun q s Z a1 a2 a3 a4 a5 a6 a7 a8 => ⟨he hF.1 q (d + 1) c s Z a1 a2 a3 hc a4 a5 a6 a7 a8, (evA_snd (w := w) hn hO hw hfp f we hF.1 q (d + 1) c s a2 a5).2⟩) (if k = 6 then 1 else 21) (if k = 5 then none else some p) p s Z [] (by
        by_cases h6 : k = 6
        · rw [if_pos h6]; exact Or.inl (Nat.le_refl _)
        · exact Or.inr (hF.2 (by omega))) hp0 hp (Or.inr ge) hI hS h0 (by rw [List.append_nil]; exact hR) (by rw [hk, List.append_nil]; exact hz)
      refine ⟨i1, i2, i3, i4, fun v ev => ?_⟩
      obtain ⟨X, x1, x2, x3⟩ := i5 v ev
      refine ⟨X, X, ?_, by rw [hk, List.length_nil] at x3; omega, x2, fun _ => rfl⟩
      simp only [rp]
      rw [if_neg h7, if_neg h8']
      exact x1
end ROWS2
