section RUN2
variable {cy : Nat → ClassId} {ad : Nat → Nat} {hp0 : Hp} {l : Launch} {D : va_G} {base : Nat}
abbrev EW29 (cy : Nat → ClassId) (ad : Nat → Nat) (hp0 : Hp) (l : Launch) (D : va_G) (base dd : Nat) (o9 : Int32) (s : MSt) (Q : Oc → MSt → Prop) : Prop := EW (IM cy ad hp0) l D cy base mX9_run dd 0 0 29 [(0, .ref (ad 43)), (5, .int o9)] [] s Q
/-- from the ask of node k at place p on -/
def RGoal (cy : Nat → ClassId) (ad : Nat → Nat) (hp0 : Hp) (l : Launch) (D : va_G) (base dd : Nat) (s : MSt) (k p : Nat) (Q : Oc → MSt → Prop) : Prop := ∃ o9 s1, AskC cy ad hp0 l D base s k p o9 s1 ∧ EW29 cy ad hp0 l D base dd o9 s1 Q
def RKont (cy : Nat → ClassId) (ad : Nat → Nat) (hp0 : Hp) (l : Launch) (D : va_G) (base dd : Nat) (h : Nat) (s : MSt) (R : Ra) (Q : Oc → MSt → Prop) : Prop := ∀ s2, RS s2 R.2 → (R.1 = none → frD s s2) → (∀ v, R.1 = some v → s2.1 16 = nI h ∧ frR h s s2) → EW29 cy ad hp0 l D base dd (resI R.1) s2 Q
theorem R_go (hl : l.stackTraces = false) {dd h k p f kd : Nat} {s : MSt} {Q : Oc → MSt → Prop} (hdd : 5 ≤ dd) (hh : s.1 16 = nI (h + 1)) (h9 : h < 960) (hw : s.2 17 h = nI k) (hk9 : k < 448) (hp : s.2 18 h = nI p) (hkd : s.2 5 k = nI kd) (hkd2 : 2 ≤ kd) (hkd9 : kd < 100) (hf : s.2 6 k = nI f) (G : RGoal cy ad hp0 l D base dd s (k / 64 * 64 + f) p Q) : EW29 cy ad hp0 l D base dd (-2) s Q := by
  obtain ⟨o9, s1, hA, K⟩ := G
  exact R_down hl dd h k p _ o9 s s1 Q hdd hh h9 hp (M_wanted2 hl 0 s h k f hh h9 hw hk9 hf kd hkd (by omega) hkd9) hA K
theorem R_enter (hl : l.stackTraces = false) {dd h k p f kd : Nat} {s : MSt} {Q : Oc → MSt → Prop} (hdd : 5 ≤ dd) (hh : s.1 16 = nI h) (h9 : h < 960) (hk9 : k < 448) (hp : p ≤ 20) (hkd : s.2 5 k = nI kd) (hkd2 : 2 ≤ kd) (hkd9 : kd < 100) (hf : s.2 6 k = nI f) (G : RGoal cy ad hp0 l D base dd (PU h k p s) (k / 64 * 64 + f) p Q) : RGoal cy ad hp0 l D base dd s k p Q := by
  refine ⟨-2, PU h k p s, M_ask3 hl 0 s k p hk9 hp kd h hkd hkd2 hkd9 hh h9, ?_⟩
  refine R_go hl hdd (h := h) (k := k) (p := p) (f := f) (kd := kd) ?_ h9 ?_ hk9 ?_ ?_ hkd2 hkd9 ?_ G
  · simp [PU, fU_1]
  · simp [PU, fU_2, aU_2]
  · simp [PU, fU_2, aU_2]
  · simpa [PU, fU_2, aU_2] using hkd
  · simpa [PU, fU_2, aU_2] using hf
variable (n : Nat) (w : Nat → Nat) (rl : Nat → Option Ex) (rv : Int32) (call : Nat → Nat → Nat → AS → Ra) (g : AS → Prop) (f9 dd : Nat)
def CALLP (cy : Nat → ClassId) (ad : Nat → Nat) (hp0 : Hp) (l : Launch) (D : va_G) (base : Nat) : Prop := ∀ (k r e y p h : Nat) (s : MSt) (A : AS) (Q : Oc → MSt → Prop), k < 448 → s.2 5 k = nI 1 → s.2 6 k = nI r → r < 6 → (∃ t, rl r = some t) → s.2 8 k = nI e → p ≤ n → RS s A → g A → CI n w rl rv s → s.1 16 = nI h → h + 1 ≤ y → y ≤ 950 → 41 ≤ f9 + y → (rv = 0 → s.1 22 + nI e + nI 2 = nI y) → A.2.2.2.1 + 1 ≤ 2 ^ 29 → (rv = 0 ∨ (call r p y A).1 ≠ none) → RKont cy ad hp0 l D base dd h s (call r p y A) Q → RGoal cy ad hp0 l D base dd s k p Q
def RUNP (cy : Nat → ClassId) (ad : Nat → Nat) (hp0 : Hp) (l : Launch) (D : va_G) (base : Nat) (t : Ex) : Prop := ∀ (b o dp p d h : Nat) (s : MSt) (A : AS) (Q : Oc → MSt → Prop), enc s.2 (64 * b) t o dp → b < 7 → o + sz t ≤ 64 → p ≤ n → RS s A → g A → CI n w rl rv s → s.1 16 = nI h → h ≤ d → d + ht t ≤ 900 → 39 ≤ f9 + d → (rv = 0 → s.1 22 + nI dp = nI d) → A.2.2.2.1 + cR t ≤ 2 ^ 29 → (rv = 0 ∨ (avA n w call t p d A).1 ≠ none) → RKont cy ad hp0 l D base dd h s (avA n w call t p d A) Q → RGoal cy ad hp0 l D base dd s (64 * b + (o + sz t - 1)) p Q
def GD (t : Ex) : Prop := ∀ p d A, p ≤ n → g A → (∀ q, (avA n w call t p d A).1 = some (some q) → q ≤ n) ∧ ((avA n w call t p d A).1 ≠ none → g (avA n w call t p d A).2)
theorem nI_dep {a : Int32} {e d : Nat} (h : a + nI e = nI d) (k : Nat) : a + nI (e + k) = nI (d + k) := by
  have e1 : nI (e + k) = nI e + nI k := (nI_add e k).symm
  rw [e1, ← Int32.add_assoc, h, nI_add]
variable {n w rl rv call g f9 dd}
theorem RUNP_range (hl : l.stackTraces = false) {lo hi : Nat} (hlo : lo ≤ 8) (hhi : hi ≤ 8) : RUNP n w rl rv call g f9 dd cy ad hp0 l D base (xR lo hi) := by
  intro b o dp p d h s A Q he hb ho hp hs hg hci hh hhd hd hf9 hdp hxx hok K
  obtain ⟨c1, c2, c3, c4, c5⟩ := hci
  obtain ⟨e1, e2, e3⟩ := he
  have hsz : sz (xR lo hi) = 1 := rfl
  rw [hsz] at ho ⊢
  have ek : 64 * b + (o + 1 - 1) = 64 * b + o := by omega
  rw [ek]
  have hk : 64 * b + o < 448 := by omega
  have Kv : ∀ v, (avA n w call (xR lo hi) p d A).1 = some v → EW29 cy ad hp0 l D base dd (onI v) s Q := fun v hv => by
    have := K s hs (fun e => by rw [hv] at e; cases e) (fun v' _ => ⟨hh, frR.rf⟩)
    rw [hv] at this
    exact this
  by_cases hpn : p < n
  · by_cases hr : lo ≤ w p ∧ w p ≤ hi
    · exact ⟨_, s, M_ask1 hl 0 s _ p hk (by omega) n lo hi e1 c2 c3 (w p) hpn (c4 p hpn).1 e2 e3 ⟨by have := (c4 p hpn).2; omega, by omega, by omega⟩ hr, Kv (some (p + 1)) (by simp only [avA]; rw [if_pos ⟨hpn, hr⟩])⟩
    · exact ⟨_, s, M_ask2 hl 0 s _ p hk (by omega) n lo hi e1 c2 c3 (w p) hpn (c4 p hpn).1 e2 e3 ⟨by have := (c4 p hpn).2; omega, by omega, by omega⟩ hr, Kv none (by simp only [avA]; rw [if_neg (fun c => hr c.2)])⟩
  · exact ⟨_, s, M_ask0 hl 0 s _ p hk (by omega) n lo hi e1 c2 c3 hpn, Kv none (by simp only [avA]; rw [if_neg (fun c => hpn c.1)])⟩
theorem RUNP_rule {r : Nat} (hr : r < 6) (ht : ∃ t, rl r = some t) (hC : CALLP n w rl rv call g f9 dd cy ad hp0 l D base) : RUNP n w rl rv call g f9 dd cy ad hp0 l D base (xC r) := by
  intro b o dp p d h s A Q he hb ho hp hs hg hci hh hhd hd hf9 hdp hxx hok K
  obtain ⟨e1, e2, e3⟩ := he
  have hsz : sz (xC r) = 1 := rfl
  have hht : _root_.Jvm.Pilot.CChoiceParserLaw_law_r3167_6716c9.ht (xC r) = 1 := rfl
  rw [hsz] at ho ⊢
  rw [hht] at hd
  have ek : 64 * b + (o + 1 - 1) = 64 * b + o := by omega
  rw [ek]
  refine hC (64 * b + o) r dp (d + 2) p h s A Q (by omega) e1 e2 hr ht e3 hp hs hg hci hh (by omega) (by omega) (by omega) (fun h0 => ?_) hxx hok K
  rw [Int32.add_assoc, nI_add]
  exact nI_dep (hdp h0) 2
theorem RS.f16 {s : MSt} {A : AS} {v : Int32} (h : RS s A) : RS (fU 16 v s) A := by
  obtain ⟨h1, h2, h3, h4, h5, h6, h7⟩ := h
  exact ⟨h1, by rw [fU_1]; exact h2, by rw [fU_1]; exact h3, by rw [fU_1]; exact h4, h5, h6, h7⟩
theorem RS.cut {s : MSt} {A : AS} {x : Nat} (h : RS s A) : RS (fU 24 (nI x) s) (cutA x A) := by
  obtain ⟨h1, h2, h3, h4, h5, h6, h7⟩ := h
  exact ⟨h1, by rw [fU_1]; exact h2, by rw [fU_1]; exact h3, by rw [fU_1]; rfl, h5, h6, h7⟩
theorem RS.st {s : MSt} {A : AS} {k i : Nat} {v : Int32} (hk : 17 ≤ k ∧ k ≤ 21) (h : RS s A) : RS (aU k i v s) A := by
  obtain ⟨h1, h2, h3, h4, h5, h6, h7⟩ := h
  refine ⟨fun c hc => by rw [aU_2, if_neg (by omega)]; exact h1 c hc, h2, h3, h4, ?_, ?_, ?_⟩
  · refine Eq.trans (funext fun x => ?_) h5
    rw [aU_2, if_neg (by omega)]
  · refine Eq.trans (funext fun x => ?_) h6
    rw [aU_2, if_neg (by omega)]
  · refine Eq.trans (funext fun x => ?_) h7
    rw [aU_2, if_neg (by omega)]
theorem PU_top {h k p x : Nat} {s s2 : MSt} (hx : s.1 24 = nI x) (hfr : frR (h + 1) (PU h k p s) s2) : s2.2 17 h = nI k ∧ s2.2 18 h = nI p ∧ s2.2 19 h = nI x ∧ s2.2 20 h = 0 ∧ frR h s s2 := by
  have q : ∀ j, 17 ≤ j → j ≤ 21 → s2.2 j h = (PU h k p s).2 j h := fun j h1 h2 => hfr.2 j h (by omega) (by omega) (by omega) (by omega) (fun _ _ => Nat.lt_succ_self h)
  refine ⟨?_, ?_, ?_, ?_, PU.fr.tr (hfr.mo (Nat.le_succ h))⟩
  · rw [q 17 (by decide) (by decide)]
    simp [PU, fU_2, aU_2]
  · rw [q 18 (by decide) (by decide)]
    simp [PU, fU_2, aU_2]
  · rw [q 19 (by decide) (by decide)]
    simpa [PU, fU_2, aU_2] using hx
  · rw [q 20 (by decide) (by decide)]
    simp [PU, fU_2, aU_2]
    decide +kernel
theorem frR.st {h : Nat} {s s2 : MSt} (f : frR h s s2) {k x : Nat} (hk : k ≤ 10) : s2.2 k x = s.2 k x := f.2 k x (by omega) (by omega) (by omega) (by omega) (by omega)
theorem on_ok {n : Nat} {v : Option Nat} (hn : n ≤ 20) (h : ∀ q, v = some q → q ≤ n) : ¬ onI v = -2 ∧ ¬ onI v = -3 := on_ne (fun q e => Nat.le_trans (h q e) hn)
set_option maxHeartbeats 1000000 in
theorem RUNP_B (hl : l.stackTraces = false) (hdd : 5 ≤ dd) {m : Nat} {a c : Ex} (hm : m < 4) (wa : wf a) (wc : wf c) (ha : RUNP n w rl rv call g f9 dd cy ad hp0 l D base a) (hc : RUNP n w rl rv call g f9 dd cy ad hp0 l D base c) (ga : GD n w call g a) (hcut : ∀ A A1, g A → g A1 → g (cutA A.2.2.2.1 A1)) (hx : ∀ r p d A, (call r p d A).2.2.2.2.1 ≤ A.2.2.2.1 + 1) : RUNP n w rl rv call g f9 dd cy ad hp0 l D base (xB m a c) := by
  intro b o dp p d h s A Q he hb ho hp hs hg hci hh hhd hd hf9 hdp hxx hok K
  obtain ⟨ea, ec, e1, e2, e3⟩ := he
  have hsz : sz (xB m a c) = sz a + sz c + 1 := rfl
  have hn := hci.2.2.1
  rw [hsz] at ho ⊢
  have hpa := sz_pos a wa
  have hpc := sz_pos c wc
  have hcr : cR (xB m a c) = cR a + cR c := rfl
  rw [hcr] at hxx
  have hha : ht a + 1 ≤ ht (xB m a c) ∧ (if m % 2 = 1 then d else d + 1) + ht c ≤ d + ht (xB m a c) ∧ d ≤ (if m % 2 = 1 then d else d + 1) := by
    have : ht (xB m a c) = if m % 2 = 1 then max (ht a + 1) (ht c) else max (ht a + 1) (ht c + 1) := rfl
    rw [this]
    split <;> omega
  obtain ⟨hha1, hha2, hha3⟩ := hha
  have hdp2 : rv = 0 → s.1 22 + nI (if m % 2 = 1 then dp else dp + 1) = nI (if m % 2 = 1 then d else d + 1) := fun h0 => by
    split
    · exact hdp h0
    · exact nI_dep (hdp h0) 1
  have ek : 64 * b + (o + (sz a + sz c + 1) - 1) = 64 * b + (o + sz a + sz c) := by omega
  rw [ek]
  have ek2 : (64 * b + (o + sz a + sz c)) / 64 * 64 = 64 * b := by omega
  have hk9 : 64 * b + (o + sz a + sz c) < 448 := by omega
  have eP : PU h (64 * b + (o + sz a + sz c)) p s = PU h (64 * b + (o + sz a + sz c)) p s := rfl
  revert e1 e2 e3 hk9 ek2
  generalize hkk : 64 * b + (o + sz a + sz c) = k
  intro e1 e2 e3 ek2 hk9
  refine R_enter hl hdd hh (by omega) hk9 (by omega) e1 (by omega) (by omega) e2 ?_
  rw [ek2]
  refine ha b o (dp + 1) p (d + 1) (h + 1) (PU h k p s) A Q (enc_fr (fun j x h1 h2 => PU.fr.st (by omega)) a wa _ _ ea) hb (by omega) hp hs.PU hg (hci.fr PU.fr.D) (by simp [PU, fU_1]) (by omega) (by omega) (by omega) (fun h0 => ?_) (by omega) (hok.imp_right (fun h1 h2 => h1 (by simp only [avA]; split <;> rw [bnA_none h2]))) ?_
  · rw [PU.fr.1 22 (by decide) (by decide) (by decide) (by decide)]
    exact nI_dep (hdp h0) 1
  intro s2 hs2 hD hR
  have gA := ga p (d + 1) A hp hg
  cases hv : (avA n w call a p (d + 1) A).1 with
  | none =>
    have eR : avA n w call (xB m a c) p d A = (none, (avA n w call a p (d + 1) A).2) := by
      simp only [avA]
      split <;> rw [bnA_none hv]
    rw [eR] at K
    exact K s2 hs2 (fun _ => PU.fr.D.tr (hD hv)) (fun v e => by cases e)
  | some v =>
    obtain ⟨h16, hfr⟩ := hR v hv
    obtain ⟨t1, t2, t3, t4, t5⟩ := PU_top hs.2.2.2.1 hfr
    have k5 : s2.2 5 k = nI (2 + m / 2) := (t5.st (by decide)).trans e1
    have k7 : s2.2 7 k = nI (o + sz a + sz c - 1) := (t5.st (by decide)).trans e3
    have gA2 := gA.2 (by rw [hv]; intro e; cases e)
    cases v with
    | none =>
      by_cases hm2 : m < 2
      · have eR : avA n w call (xB m a c) p d A = (some none, (avA n w call a p (d + 1) A).2) := by
          simp only [avA]
          rw [if_pos hm2, bnA_fail hv]
        rw [eR] at K
        have e5 : s2.2 5 k = nI 2 := by rw [k5]; congr 1; omega
        exact R_ret hl dd h k (-1) (-1) s2 s2 Q hdd ⟨by decide +kernel, by decide +kernel⟩ h16 (by omega) t1 hk9 (M_answer2f hl 0 s2 h k p h16 (by omega) t1 hk9 t2 (by omega) e5) h16 (by decide +kernel) (K _ hs2.f16 (fun e => by cases e) (fun v _ => ⟨by rw [fU_1, if_pos rfl], t5.tr (frR.f (by omega))⟩))
      · have eR : avA n w call (xB m a c) p d A = avA n w call c p (if m % 2 = 1 then d else d + 1) (cutA A.2.2.2.1 (avA n w call a p (d + 1) A).2) := by
          simp only [avA]
          rw [if_neg hm2, bnA_fail hv]
        rw [eR] at K hok
        have e5 : s2.2 5 k = nI 3 := by rw [k5]; congr 1; omega
        have F3 : frR h s (fU 16 (nI h) (fU 24 (nI A.2.2.2.1) s2)) := (t5.tr (frR.f (by omega))).tr (frR.f (by omega))
        have G : RGoal cy ad hp0 l D base dd (fU 16 (nI h) (fU 24 (nI A.2.2.2.1) s2)) (k / 64 * 64 + (o + sz a + sz c - 1)) p Q := by
          rw [ek2]
          refine hc b (o + sz a) (if m % 2 = 1 then dp else dp + 1) p (if m % 2 = 1 then d else d + 1) h _ (cutA A.2.2.2.1 (avA n w call a p (d + 1) A).2) Q (enc_fr (fun j x h1 h2 => F3.st (by omega)) c wc _ _ ec) hb (by omega) hp hs2.cut.f16 (hcut _ _ hg gA2) (hci.fr F3.D) (by rw [fU_1, if_pos rfl]) (by omega) (by omega) (by omega) (fun h0 => ?_) ?_ hok ?_
          · rw [F3.1 22 (by decide) (by decide) (by decide) (by decide)]
            exact hdp2 h0
          · show A.2.2.2.1 + cR c ≤ 2 ^ 29
            omega
          · exact fun s4 q1 q2 q3 => K s4 q1 (fun e => F3.D.tr (q2 e)) (fun v e => ⟨(q3 v e).1, F3.tr (q3 v e).2⟩)
        obtain ⟨o9, s4, hA4, K4⟩ := G
        have hans := M_answer3f (cy := cy) (ad := ad) (hp0 := hp0) (D := D) (base := base) hl 0 s2 h k p h16 (by omega) t1 hk9 t2 (by omega) e5
        rw [t3] at hans
        exact R_next3 hl dd h k p (-1) o9 s2 (fU 24 (nI A.2.2.2.1) s2) Q hdd ⟨by decide +kernel, by decide +kernel⟩ h16 (by omega) t1 hk9 hans (by rw [fU_1, if_neg (by decide)]; exact h16) e5 _ k7 t2 s4 hA4 K4
    | some q =>
      have hq := gA.1 q hv
      by_cases hm2 : m < 2
      · have eR : avA n w call (xB m a c) p d A = avA n w call c q (if m % 2 = 1 then d else d + 1) (avA n w call a p (d + 1) A).2 := by
          simp only [avA]
          rw [if_pos hm2, bnA_some hv]
        rw [eR] at K hok
        have e5 : s2.2 5 k = nI 2 := by rw [k5]; congr 1; omega
        have F3 : frR h s (fU 16 (nI h) s2) := t5.tr (frR.f (by omega))
        have hax := avA_x (n := n) (w := w) hx a wa p (d + 1) A
        have G : RGoal cy ad hp0 l D base dd (fU 16 (nI h) s2) (k / 64 * 64 + (o + sz a + sz c - 1)) q Q := by
          rw [ek2]
          refine hc b (o + sz a) (if m % 2 = 1 then dp else dp + 1) q (if m % 2 = 1 then d else d + 1) h _ (avA n w call a p (d + 1) A).2 Q (enc_fr (fun j x h1 h2 => F3.st (by omega)) c wc _ _ ec) hb (by omega) hq hs2.f16 gA2 (hci.fr F3.D) (by rw [fU_1, if_pos rfl]) (by omega) (by omega) (by omega) (fun h0 => ?_) (by omega) hok ?_
          · rw [F3.1 22 (by decide) (by decide) (by decide) (by decide)]
            exact hdp2 h0
          · exact fun s4 q1 q2 q3 => K s4 q1 (fun e => F3.D.tr (q2 e)) (fun v e => ⟨(q3 v e).1, F3.tr (q3 v e).2⟩)
        obtain ⟨o9, s4, hA4, K4⟩ := G
        exact R_next2 hl dd h k q o9 s2 s2 Q hdd (by omega) h16 (by omega) t1 hk9 (M_answer2s hl 0 s2 h k p h16 (by omega) t1 hk9 t2 (by omega) e5 q (by omega)) h16 e5 _ k7 s4 hA4 K4
      · have eR : avA n w call (xB m a c) p d A = (some (some q), (avA n w call a p (d + 1) A).2) := by
          simp only [avA]
          rw [if_neg hm2, bnA_some hv]
        rw [eR] at K
        have e5 : s2.2 5 k = nI 3 := by rw [k5]; congr 1; omega
        exact R_ret hl dd h k (nI q) (nI q) s2 s2 Q hdd ⟨m2_nI (by omega), m3_nI (by omega)⟩ h16 (by omega) t1 hk9 (M_answer3s hl 0 s2 h k p h16 (by omega) t1 hk9 t2 (by omega) e5 q (by omega)) h16 (m2_nI (by omega)) (K _ hs2.f16 (fun e => by cases e) (fun v _ => ⟨by rw [fU_1, if_pos rfl], t5.tr (frR.f (by omega))⟩))
theorem top_fr {h k p x : Nat} {s s1 s2 : MSt} (h17 : s1.2 17 h = nI k) (h18 : s1.2 18 h = nI p) (h19 : s1.2 19 h = nI x) (hf : frR h s s1) (hfr : frR (h + 1) s1 s2) : s2.2 17 h = nI k ∧ s2.2 18 h = nI p ∧ s2.2 19 h = nI x ∧ s2.2 20 h = s1.2 20 h ∧ frR h s s2 := by
  have q : ∀ j, 17 ≤ j → j ≤ 21 → s2.2 j h = s1.2 j h := fun j h1 h2 => hfr.2 j h (by omega) (by omega) (by omega) (by omega) (fun _ _ => Nat.lt_succ_self h)
  exact ⟨(q 17 (by decide) (by decide)).trans h17, (q 18 (by decide) (by decide)).trans h18, (q 19 (by decide) (by decide)).trans h19, q 20 (by decide) (by decide), hf.tr (hfr.mo (Nat.le_succ h))⟩
set_option maxHeartbeats 1000000 in
theorem RUN_loop (hl : l.stackTraces = false) (hdd : 5 ≤ dd) {kd : Nat} (hkd : kd = 4 ∨ kd = 5) {e : Ex} (we : wf e) (he9 : RUNP n w rl rv call g f9 dd cy ad hp0 l D base e) (ge : GD n w call g e) (hmv : ∀ p d A q, p ≤ n → g A → (avA n w call e p d A).1 = some (some q) → p < q) (hx : ∀ r p d A, (call r p d A).2.2.2.2.1 ≤ A.2.2.2.1 + 1) (b o dp d h : Nat) (s : MSt) (Q : Oc → MSt → Prop) (ee : enc s.2 (64 * b) e o (dp + 1)) (hb : b < 7) (ho : o + (sz e + 1) ≤ 64) (hci : CI n w rl rv s) (hhd : h ≤ d) (hd : d + (ht e + 1) ≤ 900) (hf9 : 39 ≤ f9 + d) (hdp : rv = 0 → s.1 22 + nI dp = nI d) (k : Nat) (hkk : k = 64 * b + (o + sz e)) (e1 : s.2 5 k = nI kd) (e2 : s.2 6 k = nI (o + sz e - 1)) : ∀ (j p : Nat) (a9 : Option Nat) (s1 : MSt) (A : AS), 21 ≤ p + j → p ≤ n → g A → RS s1 A → s1.1 16 = nI (h + 1) → s1.2 17 h = nI k → s1.2 18 h = nI p → s1.2 19 h = nI A.2.2.2.1 → (kd = 4 → a9 = some p) → (kd = 5 → (a9 = none ∧ s1.2 20 h = 0) ∨ (a9 = some p ∧ ¬ s1.2 20 h = 0)) → frR h s s1 → A.2.2.2.1 + j * cR e ≤ 2 ^ 29 → (rv = 0 ∨ (avRep (fun q A => avA n w call e q (d + 1) A) j a9 p A).1 ≠ none) → RKont cy ad hp0 l D base dd h s (avRep (fun q A => avA n w call e q (d + 1) A) j a9 p A) Q → EW29 cy ad hp0 l D base dd (-2) s1 Q
  | 0, p, a9, s1, A, hj, hp, _, _, _, _, _, _, _, _, _, _, _, _ => by have := hci.2.2.1; omega
  | j + 1, p, a9, s1, A, hj, hp, hg, hs, hh, h17, h18, h19, h4, h5, hf, hxx, hok, K => by
    have hn := hci.2.2.1
    have hpe := sz_pos e we
    have hk9 : k < 448 := by omega
    have ek2 : k / 64 * 64 = 64 * b := by omega
    have c5 : s1.2 5 k = nI kd := (hf.st (by decide)).trans e1
    have c6 : s1.2 6 k = nI (o + sz e - 1) := (hf.st (by decide)).trans e2
    rw [Nat.succ_mul] at hxx
    refine R_go hl hdd hh (by omega) h17 hk9 h18 c5 (by omega) (by omega) c6 ?_
    rw [ek2]
    refine he9 b o (dp + 1) p (d + 1) (h + 1) s1 A Q (enc_fr (fun j x h1 h2 => hf.st (by omega)) e we _ _ ee) hb (by omega) hp hs hg (hci.fr hf.D) hh (by omega) (by omega) (by omega) (fun h0 => ?_) (by omega) (hok.imp_right (fun h1 h2 => h1 (by simp only [avRep]; rw [bnA_none h2]))) ?_
    · rw [hf.1 22 (by decide) (by decide) (by decide) (by decide)]
      exact nI_dep (hdp h0) 1
    intro s2 hs2 hD hR
    have gA := ge p (d + 1) A hp hg
    have hax := avA_x (n := n) (w := w) hx e we p (d + 1) A
    cases hv : (avA n w call e p (d + 1) A).1 with
    | none =>
      have eR : avRep (fun q A => avA n w call e q (d + 1) A) (j + 1) a9 p A = (none, (avA n w call e p (d + 1) A).2) := by
        simp only [avRep]
        rw [bnA_none hv]
      rw [eR] at K
      exact K s2 hs2 (fun _ => hf.D.tr (hD hv)) (fun v e => by cases e)
    | some v =>
      obtain ⟨h16, hfr⟩ := hR v hv
      obtain ⟨t1, t2, t3, t4, t5⟩ := top_fr h17 h18 h19 hf hfr
      have k5 : s2.2 5 k = nI kd := (t5.st (by decide)).trans e1
      have gA2 := gA.2 (by rw [hv]; intro e; cases e)
      cases v with
      | none =>
        have eR : avRep (fun q A => avA n w call e q (d + 1) A) (j + 1) a9 p A = (some a9, cutA A.2.2.2.1 (avA n w call e p (d + 1) A).2) := by
          simp only [avRep]
          rw [bnA_fail hv]
        rw [eR] at K
        have K2 : EW29 cy ad hp0 l D base dd (onI a9) (fU 16 (nI h) (fU 24 (nI A.2.2.2.1) s2)) Q := K _ hs2.cut.f16 (fun e => by cases e) (fun v _ => ⟨by rw [fU_1, if_pos rfl], (t5.tr (frR.f (by omega))).tr (frR.f (by omega))⟩)
        have hh2 : (fU 24 (nI A.2.2.2.1) s2).1 16 = nI (h + 1) := by rw [fU_1, if_neg (by decide)]; exact h16
        rcases hkd with rfl | rfl
        · have hans := M_answer4f (cy := cy) (ad := ad) (hp0 := hp0) (D := D) (base := base) hl 0 s2 h k p h16 (by omega) t1 hk9 t2 (by omega) k5
          rw [t3] at hans
          rw [h4 rfl] at K2
          exact R_ret hl dd h k (-1) (nI p) s2 _ Q hdd ⟨by decide +kernel, by decide +kernel⟩ h16 (by omega) t1 hk9 hans hh2 (m2_nI (by omega)) K2
        · rcases h5 rfl with ⟨ha9, hag⟩ | ⟨ha9, hag⟩
          · have hans := M_answer5fn (cy := cy) (ad := ad) (hp0 := hp0) (D := D) (base := base) hl 0 s2 h k p h16 (by omega) t1 hk9 t2 (by omega) k5 (t4.trans hag)
            rw [t3] at hans
            rw [ha9] at K2
            exact R_ret hl dd h k (-1) (-1) s2 _ Q hdd ⟨by decide +kernel, by decide +kernel⟩ h16 (by omega) t1 hk9 hans hh2 (by decide +kernel) K2
          · have hans := M_answer5fa (cy := cy) (ad := ad) (hp0 := hp0) (D := D) (base := base) hl 0 s2 h k p h16 (by omega) t1 hk9 t2 (by omega) k5 (fun e => hag (t4.symm.trans e))
            rw [t3] at hans
            rw [ha9] at K2
            exact R_ret hl dd h k (-1) (nI p) s2 _ Q hdd ⟨by decide +kernel, by decide +kernel⟩ h16 (by omega) t1 hk9 hans hh2 (m2_nI (by omega)) K2
      | some q =>
        have hq := gA.1 q hv
        have hpq := hmv p (d + 1) A q hp hg hv
        have eR : avRep (fun q A => avA n w call e q (d + 1) A) (j + 1) a9 p A = avRep (fun q A => avA n w call e q (d + 1) A) j (some q) q (avA n w call e p (d + 1) A).2 := by
          simp only [avRep]
          rw [bnA_some hv]
        rw [eR] at K hok
        have hb1 : ¬ vp_nar .boolean (nI 1) = 0 := by decide +kernel
        have K3 : EW29 cy ad hp0 l D base dd (-2) (aU 20 h (vp_nar .boolean (nI 1)) (aU 19 h (s2.1 24) (aU 18 h (nI q) s2))) Q := by
          refine RUN_loop hl hdd hkd we he9 ge hmv hx b o dp d h s Q ee hb ho hci hhd hd hf9 hdp k hkk e1 e2 j q (some q) _ (avA n w call e p (d + 1) A).2 (by omega) hq gA2 (((hs2.st (by omega)).st (by omega)).st (by omega)) ?_ ?_ ?_ ?_ (fun _ => rfl) (fun _ => Or.inr ⟨rfl, ?_⟩) (((t5.tr (frR.a (by omega))).tr (frR.a (by omega))).tr (frR.a (by omega))) (by omega) hok K
          · exact h16
          · simpa [aU_2] using t1
          · simp [aU_2]
          · simpa [aU_2] using hs2.2.2.2.1
          · simpa [aU_2] using hb1
        rcases hkd with rfl | rfl
        · exact R_rep4 hl dd h k (nI q) (nI q) s2 s2 Q hdd ⟨m2_nI (by omega), m3_nI (by omega)⟩ h16 (by omega) t1 hk9 (M_answer4s hl 0 s2 h k p h16 (by omega) t1 hk9 t2 (by omega) k5 q (by omega)) h16 k5 K3
        · exact R_rep5 hl dd h k (nI q) (nI q) s2 s2 Q hdd ⟨m2_nI (by omega), m3_nI (by omega)⟩ h16 (by omega) t1 hk9 (M_answer5s hl 0 s2 h k p h16 (by omega) t1 hk9 t2 (by omega) k5 q (by omega)) h16 k5 K3
set_option maxHeartbeats 1000000 in
theorem RUNP_S (hl : l.stackTraces = false) (hdd : 5 ≤ dd) {kd : Nat} {e : Ex} (hk4 : 4 ≤ kd) (hk8 : kd ≤ 8) (we : wf e) (he9 : RUNP n w rl rv call g f9 dd cy ad hp0 l D base e) (ge : GD n w call g e) (hmv : kd = 4 ∨ kd = 5 → ∀ p d A q, p ≤ n → g A → (avA n w call e p d A).1 = some (some q) → p < q) (hx : ∀ r p d A, (call r p d A).2.2.2.2.1 ≤ A.2.2.2.1 + 1) : RUNP n w rl rv call g f9 dd cy ad hp0 l D base (xS kd e) := by
  intro b o dp p d h s A Q he hb ho hp hs hg hci hh hhd hd hf9 hdp hxx hok K
  obtain ⟨ee, e1, e2, e3⟩ := he
  have hsz : sz (xS kd e) = sz e + 1 := rfl
  have hht : ht (xS kd e) = ht e + 1 := rfl
  have hcr : cR (xS kd e) = if kd = 4 ∨ kd = 5 then 21 * cR e else cR e := rfl
  have hn := hci.2.2.1
  have hpe := sz_pos e we
  rw [hsz] at ho ⊢
  rw [hht] at hd
  rw [hcr] at hxx
  have ek : 64 * b + (o + (sz e + 1) - 1) = 64 * b + (o + sz e) := by omega
  rw [ek]
  have hk9 : 64 * b + (o + sz e) < 448 := by omega
  have ek2 : (64 * b + (o + sz e)) / 64 * 64 = 64 * b := by omega
  revert e1 e2 e3 hk9 ek2
  generalize hkk : 64 * b + (o + sz e) = k
  intro e1 e2 e3 hk9 ek2
  by_cases h45 : kd = 4 ∨ kd = 5
  · rw [if_pos h45] at hxx
    refine ⟨-2, PU h k p s, M_ask3 hl 0 s k p hk9 (by omega) kd h e1 (by omega) (by omega) hh (by omega), ?_⟩
    obtain ⟨t1, t2, t3, t4, t5⟩ := PU_top (k := k) (p := p) hs.2.2.2.1 (frR.rf (h := h + 1))
    have eR : avA n w call (xS kd e) p d A = avRep (fun q A => avA n w call e q (d + 1) A) 21 (if kd = 5 then none else some p) p A := by
      simp only [avA]
      rw [if_neg (by omega), if_neg (by omega), if_neg (c := kd = 6) (by omega)]
    refine RUN_loop hl hdd h45 we he9 ge (hmv h45) hx b o dp d h s Q ee hb ho hci hhd (by omega) hf9 hdp k hkk.symm e1 e2 21 p (if kd = 5 then none else some p) _ A (by omega) hp hg hs.PU (by simp [PU, fU_1]) t1 t2 t3 (fun h4 => if_neg (by omega)) (fun h5 => Or.inl ⟨if_pos h5, t4⟩) t5 hxx ?_ ?_
    · rw [eR] at hok
      exact hok
    · rw [eR] at K
      exact K
  rw [if_neg h45] at hxx
  refine R_enter hl hdd hh (by omega) hk9 (by omega) e1 (by omega) (by omega) e2 ?_
  rw [ek2]
  refine he9 b o (dp + 1) p (d + 1) (h + 1) (PU h k p s) A Q (enc_fr (fun j x h1 h2 => PU.fr.st (by omega)) e we _ _ ee) hb (by omega) hp hs.PU hg (hci.fr PU.fr.D) (by simp [PU, fU_1]) (by omega) (by omega) (by omega) (fun h0 => ?_) (by omega) (hok.imp_right (fun h1 h2 => h1 (by
    simp only [avA]
    split
    · rw [bnA_none h2]
    · split
      · rw [bnA_none h2]
      · rw [if_pos (by omega : kd = 6)]
        simp only [avRep]
        rw [bnA_none h2]))) ?_
  · rw [PU.fr.1 22 (by decide) (by decide) (by decide) (by decide)]
    exact nI_dep (hdp h0) 1
  intro s2 hs2 hD hR
  have gA := ge p (d + 1) A hp hg
  cases hv : (avA n w call e p (d + 1) A).1 with
  | none =>
    have eR : avA n w call (xS kd e) p d A = (none, (avA n w call e p (d + 1) A).2) := by
      simp only [avA]
      split
      · rw [bnA_none hv]
      · split
        · rw [bnA_none hv]
        · rw [if_pos (by omega : kd = 6)]
          simp only [avRep]
          rw [bnA_none hv]
    rw [eR] at K
    exact K s2 hs2 (fun _ => PU.fr.D.tr (hD hv)) (fun v e => by cases e)
  | some v =>
    obtain ⟨h16, hfr⟩ := hR v hv
    obtain ⟨t1, t2, t3, t4, t5⟩ := PU_top hs.2.2.2.1 hfr
    have k5 : s2.2 5 k = nI kd := (t5.st (by decide)).trans e1
    have hh2 : (fU 24 (nI A.2.2.2.1) s2).1 16 = nI (h + 1) := by rw [fU_1, if_neg (by decide)]; exact h16
    have Kc : ∀ v', (avA n w call (xS kd e) p d A) = (some v', cutA A.2.2.2.1 (avA n w call e p (d + 1) A).2) → EW29 cy ad hp0 l D base dd (onI v') (fU 16 (nI h) (fU 24 (nI A.2.2.2.1) s2)) Q := fun v' eR => by
      rw [eR] at K
      exact K _ hs2.cut.f16 (fun e => by cases e) (fun v _ => ⟨by rw [fU_1, if_pos rfl], (t5.tr (frR.f (by omega))).tr (frR.f (by omega))⟩)
    have hkd : kd = 6 ∨ kd = 7 ∨ kd = 8 := by omega
    cases v with
    | none =>
      rcases hkd with rfl | rfl | rfl
      · have hans := M_answer6f (cy := cy) (ad := ad) (hp0 := hp0) (D := D) (base := base) hl 0 s2 h k p h16 (by omega) t1 hk9 t2 (by omega) k5
        rw [t3] at hans
        exact R_ret hl dd h k (-1) (nI p) s2 _ Q hdd ⟨by decide +kernel, by decide +kernel⟩ h16 (by omega) t1 hk9 hans hh2 (m2_nI (by omega)) (Kc (some p) (by
          simp only [avA]
          rw [if_neg (by decide), if_neg (by decide), if_pos trivial, if_neg (by decide)]
          simp only [avRep]
          rw [bnA_fail hv]))
      · have hans := M_answer7f (cy := cy) (ad := ad) (hp0 := hp0) (D := D) (base := base) hl 0 s2 h k p h16 (by omega) t1 hk9 t2 (by omega) k5
        rw [t3] at hans
        exact R_ret hl dd h k (-1) (-1) s2 _ Q hdd ⟨by decide +kernel, by decide +kernel⟩ h16 (by omega) t1 hk9 hans hh2 (by decide +kernel) (Kc none (by
          simp only [avA]
          rw [if_pos trivial, bnA_fail hv]))
      · have hans := M_answer8f (cy := cy) (ad := ad) (hp0 := hp0) (D := D) (base := base) hl 0 s2 h k p h16 (by omega) t1 hk9 t2 (by omega) k5
        rw [t3] at hans
        exact R_ret hl dd h k (-1) (nI p) s2 _ Q hdd ⟨by decide +kernel, by decide +kernel⟩ h16 (by omega) t1 hk9 hans hh2 (m2_nI (by omega)) (Kc (some p) (by
          simp only [avA]
          rw [if_neg (by decide), if_pos trivial, bnA_fail hv]))
    | some q =>
      have hq := gA.1 q hv
      rcases hkd with rfl | rfl | rfl
      · have eR : avA n w call (xS 6 e) p d A = (some (some q), (avA n w call e p (d + 1) A).2) := by
          simp only [avA]
          rw [if_neg (by decide), if_neg (by decide), if_pos trivial, if_neg (by decide)]
          simp only [avRep]
          rw [bnA_some hv]
        rw [eR] at K
        exact R_ret hl dd h k (nI q) (nI q) s2 s2 Q hdd ⟨m2_nI (by omega), m3_nI (by omega)⟩ h16 (by omega) t1 hk9 (M_answer6s hl 0 s2 h k p h16 (by omega) t1 hk9 t2 (by omega) k5 q (by omega)) h16 (m2_nI (by omega)) (K _ hs2.f16 (fun e => by cases e) (fun v _ => ⟨by rw [fU_1, if_pos rfl], t5.tr (frR.f (by omega))⟩))
      · have hans := M_answer7s (cy := cy) (ad := ad) (hp0 := hp0) (D := D) (base := base) hl 0 s2 h k p h16 (by omega) t1 hk9 t2 (by omega) k5 q (by omega)
        rw [t3] at hans
        exact R_ret hl dd h k (nI q) (nI p) s2 _ Q hdd ⟨m2_nI (by omega), m3_nI (by omega)⟩ h16 (by omega) t1 hk9 hans hh2 (m2_nI (by omega)) (Kc (some p) (by
          simp only [avA]
          rw [if_pos trivial, bnA_some hv]))
      · have hans := M_answer8s (cy := cy) (ad := ad) (hp0 := hp0) (D := D) (base := base) hl 0 s2 h k p h16 (by omega) t1 hk9 t2 (by omega) k5 q (by omega)
        rw [t3] at hans
        exact R_ret hl dd h k (nI q) (-1) s2 _ Q hdd ⟨m2_nI (by omega), m3_nI (by omega)⟩ h16 (by omega) t1 hk9 hans hh2 (by decide +kernel) (Kc none (by
          simp only [avA]
          rw [if_neg (by decide), if_pos trivial, bnA_some hv]))
theorem RUNP_all (hl : l.stackTraces = false) (hdd : 5 ≤ dd) {F : Ex → Prop} (hF1 : ∀ m a b, F (xB m a b) → F a ∧ F b) (hF2 : ∀ k e, F (xS k e) → F e ∧ (k = 4 ∨ k = 5 → ∀ p d A q, p ≤ n → g A → (avA n w call e p d A).1 = some (some q) → p < q)) (hF3 : ∀ r, F (xC r) → ∃ t, rl r = some t) (hGD : ∀ t, wf t → F t → GD n w call g t) (hcut : ∀ A A1, g A → g A1 → g (cutA A.2.2.2.1 A1)) (hx : ∀ r p d A, (call r p d A).2.2.2.2.1 ≤ A.2.2.2.1 + 1) (hC : CALLP n w rl rv call g f9 dd cy ad hp0 l D base) : ∀ t, wf t → F t → RUNP n w rl rv call g f9 dd cy ad hp0 l D base t :=
  ast_ind (fun lo hi h1 h2 _ => RUNP_range hl h1 h2) (fun r hr hF => RUNP_rule hr (hF3 r hF) hC) (fun m a b h1 _ h3 h4 ha hb hF => RUNP_B hl hdd h1 h3 h4 (ha (hF1 m a b hF).1) (hb (hF1 m a b hF).2) (hGD a h3 (hF1 m a b hF).1) hcut hx) (fun k e h1 h2 h3 he hF => RUNP_S hl hdd h1 h2 h3 (he (hF2 k e hF).1) (hGD e h3 (hF2 k e hF).1) (hF2 k e hF).2 hx)
end RUN2
