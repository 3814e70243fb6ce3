section RUN3
variable {cy : Nat → ClassId} {ad : Nat → Nat} {hp0 : Hp} {l : Launch} {D : va_G} {base : Nat}
theorem avRep_x0 {f : Nat → AS → Ra} (hf : ∀ p A, (f p A).2.2.2.2.1 ≤ A.2.2.2.1) : ∀ (k : Nat) (a9 : Option Nat) (p : Nat) (A : AS), (avRep f k a9 p A).2.2.2.2.1 ≤ A.2.2.2.1
  | 0, a9, p, A => Nat.le_refl _
  | k + 1, a9, p, A => by
    unfold avRep
    exact bnA_x (hf p A) (fun q A1 h1 => Nat.le_trans (avRep_x0 hf k (some q) q A1) h1) (fun A1 h1 => Nat.le_refl _) (Nat.le_refl _)
theorem avA_x0 {n : Nat} {w : Nat → Nat} {call : Nat → Nat → Nat → AS → Ra} (hc : ∀ r p d A, (call r p d A).2.2.2.2.1 ≤ A.2.2.2.1) : ∀ t, wf t → ∀ p d A, (avA n w call t p d A).2.2.2.2.1 ≤ A.2.2.2.1 := by
  refine ast_ind (fun lo hi _ _ p d A => Nat.le_refl _) (fun r _ p d A => hc r p (d + 2) A) (fun m a b _ _ _ _ ha hb p d A => ?_) (fun k e _ _ _ he p d A => ?_)
  · simp only [avA]
    split
    · exact bnA_x (ha p (d + 1) A) (fun q A1 h1 => Nat.le_trans (hb q _ A1) h1) (fun A1 h1 => h1) (Nat.le_refl _)
    · exact bnA_x (ha p (d + 1) A) (fun q A1 h1 => h1) (fun A1 h1 => hb p _ (cutA A.2.2.2.1 A1)) (Nat.le_refl _)
  · simp only [avA]
    split
    · exact bnA_x (he p (d + 1) A) (fun q A1 h1 => Nat.le_refl _) (fun A1 h1 => Nat.le_refl _) (Nat.le_refl _)
    · split
      · exact bnA_x (he p (d + 1) A) (fun q A1 h1 => Nat.le_refl _) (fun A1 h1 => Nat.le_refl _) (Nat.le_refl _)
      · exact avRep_x0 (fun p A => he p (d + 1) A) _ _ _ _
theorem avR_x0 {n : Nat} {w : Nat → Nat} {rl : Nat → Option Ex} (hw : ∀ r t, rl r = some t → wf t) : ∀ f r p d A, (avR n w rl f r p d A).2.2.2.2.1 ≤ A.2.2.2.1
  | 0, r, p, d, A => by
    unfold avR
    split <;> exact Nat.le_refl _
  | f + 1, r, p, d, A => by
    unfold avR
    split
    · split
      · exact Nat.le_refl _
      · split
        · exact Nat.le_refl _
        · rename_i t ht
          exact bnA_x (avA_x0 (fun r p d A => avR_x0 hw f r p d A) t (hw r t ht) p d (A.1, A.2.1 + nI 1, A.2.2)) (fun q A1 h1 => h1) (fun A1 h1 => h1) (Nat.le_refl _)
    · exact Nat.le_refl _
def mOK (n : Nat) (m : Nat → Int32) : Prop := ∀ c, c < 126 → m c = -2 ∨ m c = -1 ∨ ∃ q, q ≤ n ∧ m c = nI q
theorem mOK_v {n : Nat} {m : Nat → Int32} {c : Nat} (hn : n ≤ 20) (hm : mOK n m) (hc : c < 126) (h : ¬ m c = -2) : onI (vO (m c)) = m c ∧ ∀ q, vO (m c) = some q → q ≤ n := by
  rcases hm c hc with h1 | h1 | ⟨q, hq, h1⟩
  · exact absurd h1 h
  · rw [h1]
    exact ⟨by decide +kernel, fun q e => by rw [show vO (-1) = none by decide +kernel] at e; cases e⟩
  · rw [h1]
    have e : vO (nI q) = some q := by
      unfold vO
      rw [if_neg (nI_pos (by omega)), nI_clamp (by omega)]
    rw [e]
    exact ⟨rfl, fun q' e => by cases e; exact hq⟩
theorem RS.had {s : MSt} {A : AS} (h : RS s A) : RS (fU 15 (s.1 15 + nI 1) s) (A.1, A.2.1, A.2.2.1 + nI 1, A.2.2.2) := by
  obtain ⟨h1, h2, h3, h4, h5, h6, h7⟩ := h
  exact ⟨h1, by rw [fU_1]; exact h2, by rw [fU_1, h3]; rfl, by rw [fU_1]; exact h4, h5, h6, h7⟩
theorem RS.f22 {s : MSt} {A : AS} {v : Int32} (h : RS s A) : RS (fU 22 v s) A := by
  obtain ⟨h1, h2, h3, h4, h5, h6, h7⟩ := h
  exact ⟨h1, by rw [fU_1]; exact h2, by rw [fU_1]; exact h3, by rw [fU_1]; exact h4, h5, h6, h7⟩
theorem RS.f14 {s : MSt} {A : AS} (h : RS s A) : RS (fU 14 (s.1 14 + nI 1) s) (A.1, A.2.1 + nI 1, A.2.2) := by
  obtain ⟨h1, h2, h3, h4, h5, h6, h7⟩ := h
  exact ⟨h1, by rw [fU_1, h2]; rfl, by rw [fU_1]; exact h3, by rw [fU_1]; exact h4, h5, h6, h7⟩
theorem RS.kept {s : MSt} {A : AS} {r p : Nat} {v : Int32} (h : RS s A) : RS (aU 13 (21 * r + p) v s) (upd A.1 (r * 21 + p) v, A.2) := by
  obtain ⟨h1, h2, h3, h4, h5, h6, h7⟩ := h
  refine ⟨fun c hc => ?_, h2, h3, h4, ?_, ?_, ?_⟩
  · rw [aU_2, Nat.mul_comm 21 r]
    by_cases e : c = r * 21 + p
    · subst e
      rw [if_pos ⟨rfl, rfl⟩]
      exact pk_us.symm
    · rw [if_neg (fun c => e c.2)]
      exact (h1 c hc).trans (pk_un e).symm
  · refine Eq.trans (funext fun x => ?_) h5
    rw [aU_2, if_neg (by omega)]
  · refine Eq.trans (funext fun x => ?_) h6
    rw [aU_2, if_neg (by omega)]
  · refine Eq.trans (funext fun x => ?_) h7
    rw [aU_2, if_neg (by omega)]
variable {n : Nat} {w : Nat → Nat} {rl : Nat → Option Ex} {g : AS → Prop} {dd : Nat}
set_option maxHeartbeats 1000000 in
theorem CALLP_R (hl : l.stackTraces = false) (hdd : 5 ≤ dd) {F : Ex → Prop} (hw : ∀ r t, rl r = some t → wf t ∧ F t) (hF1 : ∀ m a b, F (xB m a b) → F a ∧ F b) (hF2 : ∀ f k e, F (xS k e) → F e ∧ (k = 4 ∨ k = 5 → ∀ p d A q, p ≤ n → g A → (avA n w (avR n w rl f) e p d A).1 = some (some q) → p < q)) (hF3 : ∀ r, F (xC r) → ∃ t, rl r = some t) (hGD : ∀ f t, wf t → F t → GD n w (avR n w rl f) g t) (hcut : ∀ A A1, g A → g A1 → g (cutA A.2.2.2.1 A1)) (hgm : ∀ A, g A → mOK n A.1) (hgx : ∀ A, g A → A.2.2.2.1 ≤ 2 ^ 28) (hgw : ∀ A v, g A → g (A.1, v, A.2.2)) : ∀ f, CALLP n w rl 0 (avR n w rl f) g f dd cy ad hp0 l D base := by
  intro f
  induction f with
  | zero =>
    intro k r e y p h s A Q hk e1 e2 hr hrl e3 hp hs hg hci hh hhy hy9 hf hdp hxx hok K
    have hn := hci.2.2.1
    have hm : s.2 13 (21 * r + p) = A.1 (r * 21 + p) := by rw [Nat.mul_comm 21 r]; exact hs.1 _ (by omega)
    by_cases h2 : A.1 (r * 21 + p) = -2
    · refine ⟨-3, s, M_ask7 hl 0 s k p hk (by omega) r _ e1 e2 hr rfl e y hci.1 (hm.trans h2) e3 (hdp rfl) (by omega) (by omega), ?_⟩
      have eR : avR n w rl 0 r p y A = (none, A) := by unfold avR; rw [if_pos h2]
      rw [eR] at K
      exact K s hs (fun _ => frD.rf) (fun v e => by cases e)
    · refine ⟨_, _, M_ask6 hl 0 s k p hk (by omega) r _ e1 e2 hr rfl hci.1 (fun c => h2 (hm.symm.trans c)), ?_⟩
      have eR : avR n w rl 0 r p y A = (some (vO (A.1 (r * 21 + p))), (A.1, A.2.1, A.2.2.1 + nI 1, A.2.2.2)) := by unfold avR; rw [if_neg h2]
      rw [eR] at K
      have := K _ hs.had (fun e => by cases e) (fun v _ => ⟨by rw [fU_1, if_neg (by decide)]; exact hh, frR.f (by omega)⟩)
      rw [hm, ← (mOK_v hn (hgm A hg) (by omega) h2).1]
      exact this
  | succ f ih =>
    intro k r e y p h s A Q hk e1 e2 hr hrl e3 hp hs hg hci hh hhy hy9 hf hdp hxx hok K
    have hn := hci.2.2.1
    have hm : s.2 13 (21 * r + p) = A.1 (r * 21 + p) := by rw [Nat.mul_comm 21 r]; exact hs.1 _ (by omega)
    by_cases h2 : A.1 (r * 21 + p) = -2
    · by_cases h40 : 40 < y
      · refine ⟨-3, s, M_ask7 hl 0 s k p hk (by omega) r _ e1 e2 hr rfl e y hci.1 (hm.trans h2) e3 (hdp rfl) (by omega) h40, ?_⟩
        have eR : avR n w rl (f + 1) r p y A = (none, A) := by unfold avR; rw [if_pos h2, if_pos h40]
        rw [eR] at K
        exact K s hs (fun _ => frD.rf) (fun v e => by cases e)
      · obtain ⟨t, ht⟩ := hrl
        obtain ⟨g1, g2, g3, g4, g5, g6⟩ := hci.2.2.2.2 r t hr ht
        obtain ⟨wt, Ft⟩ := hw r t ht
        have hpz := sz_pos t wt
        have RT := RUNP_all (cy := cy) (ad := ad) (hp0 := hp0) (D := D) (base := base) hl hdd hF1 (hF2 f) hF3 (hGD f) hcut (fun r p d A => Nat.le_succ_of_le (avR_x0 (fun r t h => (hw r t h).1) f r p d A)) ih t wt Ft
        have eR : avR n w rl (f + 1) r p y A = bnA (avA n w (avR n w rl f) t p y (A.1, A.2.1 + nI 1, A.2.2)) (fun q A1 => (some (some q), (upd A1.1 (r * 21 + p) (nI q), A1.2))) (fun A1 => (some none, (upd A1.1 (r * 21 + p) (-1), A1.2))) := by
          rw [avR, if_pos h2, if_neg h40, ht]
        rw [eR] at K
        refine ⟨-2, _, M_ask8 hl 0 s k p hk (by omega) r _ e1 e2 hr rfl e y hci.1 (hm.trans h2) e3 (hdp rfl) (by omega) h hh (by omega) h40, ?_⟩
        generalize hs1 : fU 22 (nI y) (aU 21 h (s.1 22) (fU 16 (nI (h + 1)) (aU 20 h (vp_nar .boolean (nI 0)) (aU 19 h (s.1 24) (aU 18 h (nI p) (aU 17 h (nI k) (fU 14 (s.1 14 + nI 1) s))))))) = s1
        have F22 : s1.1 22 = nI y := by rw [← hs1]; simp [fU_1]
        have F16 : s1.1 16 = nI (h + 1) := by rw [← hs1]; simp [fU_1, aU_1]
        have F17 : s1.2 17 h = nI k := by rw [← hs1]; simp [fU_2, aU_2]
        have F18 : s1.2 18 h = nI p := by rw [← hs1]; simp [fU_2, aU_2]
        have F21 : s1.2 21 h = s.1 22 := by rw [← hs1]; simp [fU_2, aU_2]
        have FD : frD s s1 := by
          rw [← hs1]
          refine ⟨fun j h1 h2 h3 h4 h5 => ?_, fun j x h1 h2 h3 h4 h5 => ?_⟩
          · simp [fU_1, aU_1, h1, h3, h4]
          · have a1 : j ≠ 17 := by omega
            have a2 : j ≠ 18 := by omega
            have a3 : j ≠ 19 := by omega
            have a4 : j ≠ 20 := by omega
            have a5 : j ≠ 21 := by omega
            simp [fU_2, aU_2, a1, a2, a3, a4, a5]
        have FS : ∀ j x, 17 ≤ j → j ≤ 21 → x < h → s1.2 j x = s.2 j x := fun j x h1 h2 h3 => by
          rw [← hs1]
          have a1 : x ≠ h := by omega
          simp [fU_2, aU_2, a1]
        have RS1 : RS s1 (A.1, A.2.1 + nI 1, A.2.2) := by
          rw [← hs1]
          refine RS.f22 (RS.st (by omega) (RS.f16 (RS.st (by omega) (RS.st (by omega) (RS.st (by omega) (RS.st (by omega) hs.f14))))))
        have hci1 := hci.fr FD
        have g6' := (hci1.2.2.2.2 r t hr ht).2.2.2.2.2
        have FK5 : s1.2 5 k = nI 1 := (FD.2 5 k (by decide) (by decide) (by decide) (by decide) (by omega)).trans e1
        have FK6 : s1.2 6 k = nI r := (FD.2 6 k (by decide) (by decide) (by decide) (by decide) (by omega)).trans e2
        have G : RGoal cy ad hp0 l D base dd s1 (64 * r + (0 + sz t - 1)) p Q := by
          refine RT r 0 0 p y (h + 1) s1 (A.1, A.2.1 + nI 1, A.2.2) Q g6' (by omega) (by omega) hp RS1 (hgw A _ hg) hci1 F16 hhy (by omega) (by omega) (fun _ => ?_) ?_ (Or.inl rfl) ?_
          · rw [F22, nI_add]; rfl
          · have := hgx A hg
            show A.2.2.2.1 + cR t ≤ 2 ^ 29
            omega
          intro s2 hs2 hD hR
          have gA := hGD f t wt Ft p y (A.1, A.2.1 + nI 1, A.2.2) hp (hgw A _ hg)
          cases hv : (avA n w (avR n w rl f) t p y (A.1, A.2.1 + nI 1, A.2.2)).1 with
          | none =>
            rw [bnA_none hv] at K
            exact K s2 hs2 (fun _ => FD.tr (hD hv)) (fun v e => by cases e)
          | some v =>
            obtain ⟨h16, hfr⟩ := hR v hv
            have q : ∀ j, 17 ≤ j → j ≤ 21 → s2.2 j h = s1.2 j h := fun j h1 h2 => hfr.2 j h (by omega) (by omega) (by omega) (by omega) (fun _ _ => Nat.lt_succ_self h)
            have t1 := (q 17 (by decide) (by decide)).trans F17
            have t2 := (q 18 (by decide) (by decide)).trans F18
            have t3 := (q 21 (by decide) (by decide)).trans F21
            have k5 : s2.2 5 k = nI 1 := (hfr.st (by decide)).trans FK5
            have k6 : s2.2 6 k = nI r := (hfr.st (by decide)).trans FK6
            have FF : ∀ v9, frR h s (fU 16 (nI h) (fU 22 (s.1 22) (aU 13 (21 * r + p) v9 s2))) := fun v9 => by
              refine ⟨fun j h1 h2 h3 h4 => ?_, fun j x h1 h2 h3 h4 h5 => ?_⟩
              · rw [fU_1, if_neg h3, fU_1]
                by_cases h22 : j = 22
                · rw [if_pos h22, h22]
                · rw [if_neg h22, aU_1, hfr.1 j h1 h2 h3 h4]
                  exact FD.1 j h1 h2 h3 h22 h4
              · rw [fU_2, fU_2, aU_2, if_neg (fun c => h1 c.1), hfr.2 j x h1 h2 h3 h4 (fun a b => Nat.lt_succ_of_lt (h5 a b))]
                by_cases hj : 17 ≤ j ∧ j ≤ 21
                · exact FS j x hj.1 hj.2 (h5 hj.1 hj.2)
                · exact FD.2 j x h1 h2 h3 h4 hj
            have hh2 : ∀ v9, (fU 22 (s.1 22) (aU 13 (21 * r + p) v9 s2)).1 16 = nI (h + 1) := fun v9 => by
              rw [fU_1, if_neg (by decide)]
              exact h16
            cases v with
            | none =>
              rw [bnA_fail hv] at K
              have hans := M_answer1f (cy := cy) (ad := ad) (hp0 := hp0) (D := D) (base := base) hl 0 s2 h k p h16 (by omega) t1 hk t2 (by omega) k5 r k6 hr
              rw [t3] at hans
              exact R_ret hl dd h k (-1) (-1) s2 _ Q hdd ⟨by decide +kernel, by decide +kernel⟩ h16 (by omega) t1 hk hans (hh2 _) (by decide +kernel) (K _ hs2.kept.f22.f16 (fun e => by cases e) (fun v _ => ⟨by rw [fU_1, if_pos rfl], FF _⟩))
            | some q9 =>
              have hq := gA.1 q9 hv
              rw [bnA_some hv] at K
              have hans := M_answer1s (cy := cy) (ad := ad) (hp0 := hp0) (D := D) (base := base) hl 0 s2 h k p h16 (by omega) t1 hk t2 (by omega) k5 q9 (by omega) r k6 hr
              rw [t3] at hans
              exact R_ret hl dd h k (nI q9) (nI q9) s2 _ Q hdd ⟨m2_nI (by omega), m3_nI (by omega)⟩ h16 (by omega) t1 hk hans (hh2 _) (m2_nI (by omega)) (K _ hs2.kept.f22.f16 (fun e => by cases e) (fun v _ => ⟨by rw [fU_1, if_pos rfl], FF _⟩))
        obtain ⟨o9, s4, hA4, K4⟩ := G
        have hsz : s1.2 10 r = nI (sz t) := (hci1.2.2.2.2 r t hr ht).2.2.2.2.1
        have hW := M_wanted1 (cy := cy) (ad := ad) (hp0 := hp0) (D := D) (base := base) hl 0 s1 h k r F16 (by omega) F17 hk FK6 (sz t) hr hsz hpz FK5
        have ew : 64 * r + sz t - 1 = 64 * r + (0 + sz t - 1) := by omega
        rw [ew] at hW
        exact R_down hl dd h k p _ o9 s1 s4 Q hdd F16 (by omega) F18 hW hA4 K4
    · refine ⟨_, _, M_ask6 hl 0 s k p hk (by omega) r _ e1 e2 hr rfl hci.1 (fun c => h2 (hm.symm.trans c)), ?_⟩
      have eR : avR n w rl (f + 1) r p y A = (some (vO (A.1 (r * 21 + p))), (A.1, A.2.1, A.2.2.1 + nI 1, A.2.2.2)) := by unfold avR; rw [if_neg h2]
      rw [eR] at K
      have := K _ hs.had (fun e => by cases e) (fun v _ => ⟨by rw [fU_1, if_neg (by decide)]; exact hh, frR.f (by omega)⟩)
      rw [hm, ← (mOK_v hn (hgm A hg) (by omega) h2).1]
      exact this
/-- the rule's answer while a run records: what the memory has, written down -/
def recC (r p _d : Nat) (A : AS) : Ra :=
  if A.1 (r * 21 + p) = -2 then (none, A)
  else (some (vO (A.1 (r * 21 + p))), if A.1 (r * 21 + p) < 0 then A else (A.1, A.2.1, A.2.2.1, A.2.2.2.1 + 1, if A.2.2.2.1 < 64 then (upd A.2.2.2.2.1 A.2.2.2.1 (nI r), upd A.2.2.2.2.2.1 A.2.2.2.1 (nI p), upd A.2.2.2.2.2.2 A.2.2.2.1 (A.1 (r * 21 + p))) else A.2.2.2.2))
theorem recC_x (r p d : Nat) (A : AS) : (recC r p d A).2.2.2.2.1 ≤ A.2.2.2.1 + 1 := by
  unfold recC
  split
  · exact Nat.le_succ _
  · show (if A.1 (r * 21 + p) < 0 then A else _).2.2.2.1 ≤ _
    split
    · exact Nat.le_succ _
    · exact Nat.le_refl _
theorem upd_fun {f : Nat → Int32} {i x : Nat} {v : Int32} : upd f i v x = if x = i then v else f x := by
  by_cases h : x = i
  · subst h
    rw [pk_us, if_pos rfl]
  · rw [pk_un h, if_neg h]
theorem CALLP_rec (hl : l.stackTraces = false) {rv : Int32} (hrv : ¬ rv = 0) (f : Nat) (hgm : ∀ A, g A → mOK n A.1) : CALLP n w rl rv recC g f dd cy ad hp0 l D base := by
  intro k r e y p h s A Q hk e1 e2 hr hrl e3 hp hs hg hci hh hhy hy9 hf hdp hxx hok K
  have hn := hci.2.2.1
  have hm : s.2 13 (21 * r + p) = A.1 (r * 21 + p) := by rw [Nat.mul_comm 21 r]; exact hs.1 _ (by omega)
  have hrec : ¬ s.1 23 = 0 := by rw [hci.1]; exact hrv
  have hok := hok.resolve_left hrv
  unfold recC at K hok
  by_cases h2 : A.1 (r * 21 + p) = -2
  · rw [if_pos h2] at hok
    exact absurd rfl hok
  rw [if_neg h2] at K
  have hv := (mOK_v hn (hgm A hg) (by omega : r * 21 + p < 126) h2).1
  by_cases h3 : A.1 (r * 21 + p) < 0
  · rw [if_pos h3] at K
    refine ⟨_, _, M_ask4 hl 0 s k p hk (by omega) r _ e1 e2 hr hm hrec h3, ?_⟩
    have := K s hs (fun e => by cases e) (fun v _ => ⟨hh, frR.rf⟩)
    rw [← hv]
    exact this
  · rw [if_neg h3] at K
    obtain ⟨r1, r2, r3, r4, r5, r6, r7⟩ := hs
    by_cases h64 : A.2.2.2.1 < 64
    · rw [if_pos h64] at K
      refine ⟨_, _, M_ask5a hl 0 s k p hk (by omega) r _ e1 e2 hr hm A.2.2.2.1 hrec h3 r4 (by omega) h64, ?_⟩
      have := K (fU 24 (nI (A.2.2.2.1 + 1)) (aU 27 A.2.2.2.1 (A.1 (r * 21 + p)) (aU 26 A.2.2.2.1 (nI p) (aU 25 A.2.2.2.1 (nI r) s)))) ⟨fun c hc => ?_, ?_, ?_, ?_, ?_, ?_, ?_⟩ (fun e => by cases e) (fun v _ => ⟨?_, (((frR.a (by omega)).tr (frR.a (by omega))).tr (frR.a (by omega))).tr (frR.f (by omega))⟩)
      · have t2 : EW29 cy ad hp0 l D base dd (onI (vO (A.1 (r * 21 + p)))) _ Q := this
        rw [hv] at t2
        exact t2
      · simpa [fU_2, aU_2] using r1 c hc
      · simpa [fU_1, aU_1] using r2
      · simpa [fU_1, aU_1] using r3
      · simp [fU_1]
      · funext x
        simp [fU_2, aU_2, upd_fun, ← r5]
      · funext x
        simp [fU_2, aU_2, upd_fun, ← r6]
      · funext x
        simp [fU_2, aU_2, upd_fun, ← r7]
      · simpa [fU_1, aU_1] using hh
    · rw [if_neg h64] at K
      refine ⟨_, _, M_ask5b hl 0 s k p hk (by omega) r _ e1 e2 hr hm A.2.2.2.1 hrec h3 r4 (by omega) h64, ?_⟩
      have := K (fU 24 (nI (A.2.2.2.1 + 1)) s) ⟨r1, by rw [fU_1]; exact r2, by rw [fU_1]; exact r3, by rw [fU_1]; rfl, r5, r6, r7⟩ (fun e => by cases e) (fun v _ => ⟨by rw [fU_1]; exact hh, frR.f (by omega)⟩)
      have t2 : EW29 cy ad hp0 l D base dd (onI (vO (A.1 (r * 21 + p)))) _ Q := this
      rw [hv] at t2
      exact t2
/-- how a run ends -/
theorem R_fin {s s' : MSt} {R : Ra} {Q : Oc → MSt → Prop} (h20 : ∀ q, R.1 = some (some q) → q ≤ 20) (hQ : ∀ s2, RS s2 R.2 → frD s s2 → Q (.inl (some (.int (resI R.1)))) s2) (h0 : frD s s') : RKont cy ad hp0 l D base dd 0 s' R Q := by
  intro s2 h1 h2 h3
  cases hR : R.1 with
  | none =>
    have := hQ s2 h1 (h0.tr (h2 hR))
    rw [hR] at this
    exact R_endD this
  | some v =>
    obtain ⟨a, b⟩ := h3 v hR
    have := hQ s2 h1 (h0.tr b.D)
    rw [hR] at this
    exact R_end0 a (on_ne (fun q e => h20 q (by rw [hR, e]))).1 this
theorem run0 {s : MSt} {A : AS} (hs : RS s A) : RS (fU 24 (nI 0) (fU 22 (-1) (fU 16 (nI 0) s))) (cutA 0 A) ∧ frD s (fU 24 (nI 0) (fU 22 (-1) (fU 16 (nI 0) s))) := by
  refine ⟨hs.f16.f22.cut, fun k h1 h2 h3 h4 h5 => ?_, fun _ _ _ _ _ _ _ => rfl⟩
  rw [fU_1, if_neg h5, fU_1, if_neg h4, fU_1, if_neg h3]
theorem M_runM (hl : l.stackTraces = false) (hdd : 5 ≤ dd) (hC : CALLP n w rl 0 (avR n w rl 40) g 40 dd cy ad hp0 l D base) {r p : Nat} {s : MSt} {A : AS} {t : Ex} (hr : r < 6) (ht : rl r = some t) (hp : p ≤ n) (hci : CI n w rl 0 s) (hs : RS s A) (hg : g (cutA 0 A)) (e1 : s.2 5 447 = nI 1) (e2 : s.2 6 447 = nI r) (e3 : s.2 8 447 = nI 0) (h20 : ∀ q, (avR n w rl 40 r p 1 (cutA 0 A)).1 = some (some q) → q ≤ 20) : MtW (IM cy ad hp0) l D cy base mX9_run dd 0 0 [.ref (ad 43), .int (nI 447), .int (nI p)] s (fun o s2 => o = .inl (some (.int (resI (avR n w rl 40 r p 1 (cutA 0 A)).1))) ∧ RS s2 (avR n w rl 40 r p 1 (cutA 0 A)).2 ∧ frD s s2) := by
  obtain ⟨s0, f0⟩ := run0 hs
  refine M_run hl hdd (hC 447 r 0 1 p 0 _ (cutA 0 A) _ (by decide) e1 e2 hr ⟨t, ht⟩ e3 hp s0 hg (hci.fr f0) ?_ (by decide) (by decide) (by decide) (fun _ => ?_) (show 0 + 1 ≤ 2 ^ 29 by decide) (Or.inl rfl) (R_fin h20 (fun s2 a b => ⟨rfl, a, b⟩) f0))
  · simp [fU_1]
  · simp [fU_1]
    decide +kernel
theorem M_runR (hl : l.stackTraces = false) (hdd : 5 ≤ dd) {rv : Int32} (hrv : ¬ rv = 0) {r p : Nat} {s : MSt} {A : AS} {t : Ex} (hT : RUNP n w rl rv recC g 41 dd cy ad hp0 l D base t) (hr : r < 6) (ht : rl r = some t) (hp : p ≤ n) (hci : CI n w rl rv s) (hs : RS s A) (hg : g (cutA 0 A)) (hok : (avA n w recC t p 0 (cutA 0 A)).1 ≠ none) (h20 : ∀ q, (avA n w recC t p 0 (cutA 0 A)).1 = some (some q) → q ≤ 20) : MtW (IM cy ad hp0) l D cy base mX9_run dd 0 0 [.ref (ad 43), .int (nI (64 * r + sz t - 1)), .int (nI p)] s (fun o s2 => o = .inl (some (.int (resI (avA n w recC t p 0 (cutA 0 A)).1))) ∧ RS s2 (avA n w recC t p 0 (cutA 0 A)).2 ∧ frD s s2) := by
  obtain ⟨s0, f0⟩ := run0 hs
  have hci0 := hci.fr f0
  obtain ⟨g1, g2, g3, g4, g5, g6⟩ := hci0.2.2.2.2 r t hr ht
  have hpz := sz_pos t g1
  have ew : 64 * r + sz t - 1 = 64 * r + (0 + sz t - 1) := by omega
  rw [ew]
  refine M_run hl hdd (hT r 0 0 p 0 0 _ (cutA 0 A) _ g6 (by omega) (by omega) hp s0 hg hci0 ?_ (by decide) (by omega) (by decide) (fun h0 => absurd h0 hrv) ?_ (Or.inr hok) (R_fin h20 (fun s2 a b => ⟨rfl, a, b⟩) f0))
  · simp [fU_1]
  · show 0 + cR t ≤ 2 ^ 29
    omega
end RUN3
