/-! The class's match keeps its rows right; what its tree is grown from. -/
section CSPS
variable {n : Nat} {w : Nat → Nat} {rl : Nat → Option Ex} {O : Nat → Int32} {rk : Nat → Nat}
theorem evR_snd (hn : n ≤ 20) (hO : ∀ r, r < 6 → sm8 (O r)) (hw : ∀ r t, rl r = some t → wf t) (hfp : ∀ r t, r < 6 → rl r = some t → wf t ∧ FS rl O t ∧ oE O t = O r) (f : Nat) (r p d : Nat) (s : CSt) (hr : r < 6) (hrl : ∃ t, rl r = some t) (hp : p ≤ n) (hS : SND n O (s.2.1 9)) : SND n O ((evR n w rl f r p d s).2.2.1 9) ∧ ∀ v, (evR n w rl f r p d s).1 = some v → snd n p (O r) v := by
  obtain ⟨e1, e2, -⟩ := evR_avR (n := n) (w := w) hw f r p d s (s.2.1 9, s.1 5, s.1 6, 0, fun _ => 0, fun _ => 0, fun _ => 0) ⟨rfl, rfl, rfl⟩
  obtain ⟨h1, h2⟩ := avR_snd (w := w) hn hO hfp f r p d (s.2.1 9, s.1 5, s.1 6, 0, fun _ => 0, fun _ => 0, fun _ => 0) hr hrl hp hS
  rw [e1, e2]
  exact ⟨h1, h2⟩
theorem kept_r {c c' : Nat} {v : Int32} {s : CSt} : rSame s (kept c v s) c' := ⟨(show va_up s.2.1 9 (upd (s.2.1 9) c v) 10 c' = s.2.1 10 c' by rw [va_up_ne _ _ (by decide)]), fun k _ => (show va_up s.2.1 9 (upd (s.2.1 9) c v) 11 _ = s.2.1 11 _ by rw [va_up_ne _ _ (by decide)])⟩
theorem EXT.up {m : Nat → Int32} {c : Nat} {v : Int32} (h : m c = -2) : EXT m (upd m c v) := fun x hx hn => by
  by_cases e : x = c
  · subst e; exact absurd h hn
  · rw [pk_un e]
theorem INVC.kept {s : CSt} {c : Nat} {v : Int32} (hn : n ≤ 20) (hS : SND n O (s.2.1 9)) (hw : ∀ r t, rl r = some t → wf t) (h : INVC n w rl s) (h0 : s.2.1 9 c = -2) (hv : ∀ q, q ≤ n → v = nI q → ∃ t L, rl (c / 21) = some t ∧ c % 21 ≤ n ∧ rp n w (lkm (s.2.1 9)) t (c % 21) = some (some q, L) ∧ ROW s c L) : INVC n w rl (kept c v s) := fun c' q h1 h2 h3 => by
  rw [kept_9] at h3 ⊢
  have hx := EXT.cl hn (EXT.up (v := v) h0)
  by_cases e : c' = c
  · subst e
    rw [pk_us] at h3
    obtain ⟨t, L, g1, g2, g3, g4⟩ := hv q h2 h3
    exact ⟨t, L, g1, rp_mo (lkm_CLO hn hS) hx t (hw _ _ g1) _ _ g2 g3, g4.same kept_r⟩
  · rw [pk_un e] at h3
    obtain ⟨t, L, g1, g2, g3⟩ := h c' q h1 h2 h3
    have hp : c' % 21 ≤ n := by
      have e2 : c' / 21 * 21 + c' % 21 = c' := by omega
      have := hS.get hn (r := c' / 21) (p := c' % 21) (by omega) (by omega) (by rw [e2, h3]; exact nI_ne2 (by omega))
      rw [e2, h3] at this
      have hv2 : vO (nI q) = some q := (on_vO (v := some q) (fun q' e => by cases e; omega)).1
      rw [hv2] at this
      have := this.1
      exact Nat.le_trans this.1 this.2.1
    exact ⟨t, L, g1, rp_mo (lkm_CLO hn hS) hx t (hw _ _ g1) _ _ hp g2, g3.same kept_r⟩
theorem CSP_evR (hn : n ≤ 20) (hO : ∀ r, r < 6 → sm8 (O r)) (hw : ∀ r t, rl r = some t → wf t) (hfp : ∀ r t, r < 6 → rl r = some t → wf t ∧ FS rl O t ∧ oE O t = O r) (hrk : ∀ r t, r < 6 → rl r = some t → gE O (fun q => decide (rk q < rk r)) t = true) (hcr : ∀ r t, r < 6 → rl r = some t → cR t ≤ 2 ^ 28) : ∀ f, CSP n w rl O rk (evR n w rl f)
  | 0 => fun r p d s hr hrl hp hI hS => by
    unfold evR
    by_cases h2 : s.2.1 9 (r * 21 + p) = -2
    · rw [if_pos h2]
      exact ⟨hI, hS, EXT.rf, fun c' _ _ _ => ⟨rfl, rSame.rf⟩, fun v ev => by cases ev⟩
    · rw [if_neg h2]
      have hg := hS.get hn hr (by omega) h2
      exact ⟨hI, hS, EXT.rf, fun c' _ _ _ => ⟨rfl, rSame.rf⟩, fun v ev => by cases ev; exact ⟨hg.1, hg.2.symm⟩⟩
  | f + 1 => fun r p d s hr hrl hp hI hS => by
    have hsn := evR_snd (w := w) hn hO hw hfp (f + 1) r p d s hr hrl hp hS
    unfold evR at hsn ⊢
    by_cases h2 : s.2.1 9 (r * 21 + p) = -2
    · rw [if_pos h2] at hsn ⊢
      by_cases hd : 40 < d
      · rw [if_pos hd]
        exact ⟨hI, hS, EXT.rf, fun c' _ _ _ => ⟨rfl, rSame.rf⟩, fun v ev => by cases ev⟩
      · rw [if_neg hd] at hsn ⊢
        obtain ⟨t, ht⟩ := hrl
        obtain ⟨wt, Ft, et⟩ := hfp r t hr ht
        rw [ht] at hsn ⊢
        dsimp only at hsn ⊢
        have hc0 : r * 21 + p < 126 := by omega
        have c21 : (r * 21 + p) % 21 = p := by omega
        have d21 : (r * 21 + p) / 21 = r := by omega
        have hI0 : INVC n w rl (va_up s.1 5 (s.1 5 + nI 1), s.2) := hI
        have hI1 := hI0.cut (c := some (r * 21 + p)) (c0 := r * 21 + p) (z := nI 0) hn (fun c1 e => (Option.some.inj e).symm) h2
        have h9 : (cut (some (r * 21 + p)) (nI 0) (va_up s.1 5 (s.1 5 + nI 1), s.2)).2.1 9 = s.2.1 9 := cut_9
        have hr1 : ∀ c', c' ≠ r * 21 + p → rSame s (cut (some (r * 21 + p)) (nI 0) (va_up s.1 5 (s.1 5 + nI 1), s.2)) c' := fun c' hne => rSame.cut (s := (va_up s.1 5 (s.1 5 + nI 1), s.2)) (fun e => hne (Option.some.inj e).symm)
        have hro : ROW (cut (some (r * 21 + p)) (nI 0) (va_up s.1 5 (s.1 5 + nI 1), s.2)) (r * 21 + p) [] := ⟨by rw [cut_10, pk_us]; rfl, fun k y hk _ => by cases hk⟩
        generalize cut (some (r * 21 + p)) (nI 0) (va_up s.1 5 (s.1 5 + nI 1), s.2) = s1 at *
        obtain ⟨i1, i2, i3, i4, i5⟩ := evA_rows (w := w) (rk := rk) hn hO hw hfp f (CSP_evR hn hO hw hfp hrk hcr f) hc0 t wt Ft p d (some (r * 21 + p)) s1 [] (by omega) hp (Or.inr (by rw [d21]; exact hrk r t hr ht)) (fun c1 e => (Option.some.inj e).symm) hI1 (by rw [h9]; exact hS) (by rw [h9]; exact h2) (fun c1 e => by rw [← Option.some.inj e]; exact hro) (by have := hcr r t hr ht; rw [List.length_nil]; omega)
        rw [h9] at i3
        have hF : ∀ c', c' < 126 → c' ≠ r * 21 + p → ¬ BLW rk c' (r * 21 + p) → (evA n w (evR n w rl f) t p d (some (r * 21 + p)) s1).2.2.1 9 c' = s.2.1 9 c' ∧ rSame s (evA n w (evR n w rl f) t p d (some (r * 21 + p)) s1).2 c' := fun c' h1 h3 h4 => by
          obtain ⟨j1, j2⟩ := i4 c' h1 h4
          exact ⟨by rw [j1, h9], (hr1 c' h3).tr (j2 (fun e => h3 (Option.some.inj e).symm))⟩
        have h01 : (evA n w (evR n w rl f) t p d (some (r * 21 + p)) s1).2.2.1 9 (r * 21 + p) = -2 := by rw [(i4 _ hc0 BLW.irr).1, h9]; exact h2
        generalize evA n w (evR n w rl f) t p d (some (r * 21 + p)) s1 = RA at *
        have hK : ∀ v c', c' ≠ r * 21 + p → (kept (r * 21 + p) v RA.2).2.1 9 c' = RA.2.2.1 9 c' := fun v c' h1 => by rw [kept_9, pk_un h1]
        cases hRes : RA.1 with
        | none =>
          rw [bnd_none hRes]
          exact ⟨i1, i2, i3, hF, fun v ev => by cases ev⟩
        | some v0 =>
          obtain ⟨X, X', x1, x2, x3, x4⟩ := i5 v0 hRes
          cases v0 with
          | none =>
            rw [bnd_fail hRes] at hsn ⊢
            refine ⟨i1.kept hn i2 hw h01 (fun q hq e => absurd e.symm (nI_m1 (by omega))), hsn.1, ?_, fun c' h1 h3 h4 => ⟨(hK _ c' h3).trans (hF c' h1 h3 h4).1, (hF c' h1 h3 h4).2.tr kept_r⟩, fun v ev => ⟨hsn.2 v ev, ?_⟩⟩
            · show EXT (s.2.1 9) ((kept (r * 21 + p) (-1) RA.2).2.1 9)
              rw [kept_9]
              exact i3.tr (EXT.up h01)
            · cases ev
              show (kept (r * 21 + p) (-1) RA.2).2.1 9 (r * 21 + p) = _
              rw [kept_9, pk_us]
              rfl
          | some q =>
            rw [bnd_some hRes] at hsn ⊢
            have e4 := x4 (fun c => by cases c)
            subst e4
            have hq : q ≤ n := (hsn.2 _ rfl).2.1
            refine ⟨i1.kept hn i2 hw h01 (fun q' hq' e => ⟨t, X', by rw [d21]; exact ht, by rw [c21]; exact hp, ?_, ?_⟩), hsn.1, ?_, fun c' h1 h3 h4 => ⟨(hK _ c' h3).trans (hF c' h1 h3 h4).1, (hF c' h1 h3 h4).2.tr kept_r⟩, fun v ev => ⟨hsn.2 v ev, ?_⟩⟩
            · rw [c21, ← (nI_eq (by omega) (by omega)).mp e]
              exact x1
            · have := x3 _ rfl
              rw [List.nil_append] at this
              exact this
            · show EXT (s.2.1 9) ((kept (r * 21 + p) (nI q) RA.2).2.1 9)
              rw [kept_9]
              exact i3.tr (EXT.up h01)
            · cases ev
              show (kept (r * 21 + p) (nI q) RA.2).2.1 9 (r * 21 + p) = _
              rw [kept_9, pk_us]
              rfl
    · rw [if_neg h2]
      have hg := hS.get hn hr (by omega) h2
      exact ⟨hI, hS, EXT.rf, fun c' _ _ _ => ⟨rfl, rSame.rf⟩, fun v ev => by cases ev; exact ⟨hg.1, hg.2.symm⟩⟩
/-- the cells that went, and what stands right below one -/
def gdC9 (n : Nat) (m : Nat → Int32) (c : Nat) : Prop := c < 126 ∧ ∃ q, q ≤ n ∧ m c = nI q
def chC9 (n : Nat) (w : Nat → Nat) (rl : Nat → Option Ex) (m : Nat → Int32) (c : Nat) : List Nat := match rl (c / 21) with
  | none => []
  | some t => match rp n w (lkm m) t (c % 21) with
    | some (some _, L) => L
    | _ => []
theorem chC9_at {m : Nat → Int32} {c : Nat} {t : Ex} {q : Nat} {L : List Nat} (h1 : rl (c / 21) = some t) (h2 : rp n w (lkm m) t (c % 21) = some (some q, L)) : chC9 n w rl m c = L := by
  unfold chC9
  rw [h1]
  dsimp only
  rw [h2]
/-- a cell that went, told again -/
theorem gd_tell {s : CSt} (hn : n ≤ 20) (hS : SND n O (s.2.1 9)) (hw : ∀ r t, rl r = some t → wf t) (hcr : ∀ r t, r < 6 → rl r = some t → cR t ≤ 2 ^ 28) (hI : INVC n w rl s) {c : Nat} (hg : gdC9 n (s.2.1 9) c) : ∃ t q, rl (c / 21) = some t ∧ c % 21 ≤ n ∧ q ≤ n ∧ s.2.1 9 c = nI q ∧ rp n w (lkm (s.2.1 9)) t (c % 21) = some (some q, chC9 n w rl (s.2.1 9) c) ∧ ROW s c (chC9 n w rl (s.2.1 9) c) ∧ (chC9 n w rl (s.2.1 9) c).length ≤ 2 ^ 28 ∧ ∀ y ∈ chC9 n w rl (s.2.1 9) c, gdC9 n (s.2.1 9) y := by
  obtain ⟨hc, q, hq, h3⟩ := hg
  obtain ⟨t, L, g1, g2, g3⟩ := hI c q hc hq h3
  have hp : c % 21 ≤ n := by
    have e2 : c / 21 * 21 + c % 21 = c := by omega
    have := hS.get hn (r := c / 21) (p := c % 21) (by omega) (by omega) (by rw [e2, h3]; exact nI_ne2 (by omega))
    rw [e2, h3] at this
    have hv2 : vO (nI q) = some q := (on_vO (v := some q) (fun q' e => by cases e; omega)).1
    rw [hv2] at this
    have := this.1
    exact Nat.le_trans this.1 this.2.1
  have e := chC9_at g1 g2
  obtain ⟨o1, o2, o3⟩ := rp_ok (lkm_CLO hn hS) t (hw _ _ g1) _ _ hp g2
  have := hcr _ t (by omega) g1
  rw [e]
  refine ⟨t, q, g1, hp, hq, h3, g2, g3, Nat.le_trans o2 this, fun y hy => ?_⟩
  obtain ⟨r, p, q2, y1, y2, y3, y4⟩ := o3 y hy
  subst y1
  unfold lkm at y4
  split at y4
  · cases y4
  · rename_i h2
    obtain ⟨z1, z2⟩ := hS.get hn y2 (by omega) h2
    rw [Option.some.inj y4] at z1 z2
    exact ⟨by omega, q2, z1.2.1, z2.symm⟩
theorem CHI_of {s : CSt} (hn : n ≤ 20) (hS : SND n O (s.2.1 9)) (hw : ∀ r t, rl r = some t → wf t) (hcr : ∀ r t, r < 6 → rl r = some t → cR t ≤ 2 ^ 28) (hI : INVC n w rl s) : CHI s (gdC9 n (s.2.1 9)) (chC9 n w rl (s.2.1 9)) := fun c hg => by
  obtain ⟨t, q, h1, h2, h3, h4, h5, h6, h7, h8⟩ := gd_tell hn hS hw hcr hI hg
  exact ⟨hg.1, h6.1, by omega, h6.2, h8⟩
end CSPS
