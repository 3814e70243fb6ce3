/-! What a match of both rests on: a sound grammar; the reference's run and the growing of its tree. -/
theorem FS_of {rl : Nat → Option Ex} {O : Nat → Int32} {G : Nat → Bool} : ∀ t, wf t → RP (fun q => ∃ u, rl q = some u) t → (∀ e ∈ po t, gE O G e = true) → FS rl O t := by
  refine ast_ind (fun _ _ _ _ _ _ => trivial) (fun r _ h _ => h) (fun m a b _ _ _ _ ha hb h g => ⟨ha h.1 (fun e he => g e (List.mem_append_left _ he)), hb h.2 (fun e he => g e (List.mem_append_right _ (List.mem_append_left _ he)))⟩) (fun k e _ _ we he h g => ⟨he h (fun x hx => g x (List.mem_append_left _ hx)), fun hk hc => ?_⟩)
  have := g (xS k e) (List.mem_append_right _ (List.mem_singleton.mpr rfl))
  have this : (if k = 4 ∨ k = 5 then gE O G e && (oE O e &&& nI 1 == 0) else gE O G e) = true := this
  rw [if_pos hk, Bool.and_eq_true, beq_iff_eq] at this
  exact hc this.2
/-- a grammar whose verdict is 0 -/
theorem sound_all {rl : Nat → Option Ex} {O : Nat → Int32} (hV : VDT rl (nI 0)) (hw : ∀ r t, rl r = some t → wf t) (hO : LSO rl O) : (∀ r t, r < 6 → rl r = some t → wf t ∧ FS rl O t ∧ oE O t = O r) ∧ ∃ rk : Nat → Nat, ∀ r t, r < 6 → rl r = some t → gE O (fun q => decide (rk q < rk r)) t = true := by
  obtain ⟨k, e1, e2, -, e4⟩ := hV.k
  obtain ⟨-, hm, O', G, o1, o2, o3⟩ := e4 ((nI_eq (by omega) (by decide)).mp e1.symm)
  have hc := CRL_of (fun r t _ ht => hw r t ht) hm
  have hG := o2.chg hc o1 hO
  have hall : ∀ r t e, r < 6 → rl r = some t → e ∈ po t → gE O G e = true := fun r t e hr ht he => by
    obtain ⟨we, re⟩ := RP_sub t (hc r t hr ht).1 (hc r t hr ht).2 e he
    rw [← o1.eqG hO G we re]
    exact o3 r t e hr ht he
  refine ⟨fun r t hr ht => ⟨hw r t ht, FS_of t (hw r t ht) (hc r t hr ht).2 (fun e he => hall r t e hr ht he), (hO.2.1 r t hr ht).symm⟩, rank_ex hc hG (fun r t hr ht => ?_)⟩
  rw [hG.1 r t hr ht]
  exact hall r t t hr ht (List.mem_of_getElem? (po_last t (hw r t ht)))
theorem sound_O {rl : Nat → Option Ex} (hV : VDT rl (nI 0)) : ∃ O, LSO rl O := by
  obtain ⟨k, e1, e2, -, e4⟩ := hV.k
  obtain ⟨-, hm, O', G, o1, o2, o3⟩ := e4 ((nI_eq (by omega) (by decide)).mp e1.symm)
  exact ⟨O', o1⟩
theorem CI.cg {n : Nat} {w : Nat → Nat} {rl : Nat → Option Ex} {rv rv' : Int32} {s s2 : MSt} (h : CI n w rl rv s) (e23 : s2.1 23 = rv') (e3 : s2.1 3 = s.1 3) (e4 : ∀ x, s2.2 4 x = s.2 4 x) (e5 : ∀ k x, 5 ≤ k → k ≤ 8 → x < 384 → s2.2 k x = s.2 k x) (e10 : ∀ x, x < 6 → s2.2 10 x = s.2 10 x) : CI n w rl rv' s2 := by
  obtain ⟨h1, h2, h3, h4, h5⟩ := h
  refine ⟨e23, e3.trans h2, h3, fun j hj => ⟨(e4 j).trans (h4 j hj).1, (h4 j hj).2⟩, fun r t hr ht => ?_⟩
  obtain ⟨g1, g2, g3, g4, g5, g6⟩ := h5 r t hr ht
  exact ⟨g1, g2, g3, g4, (e10 r hr).trans g5, enc_fr2 t g1 _ _ (fun k x a b _ hx => e5 k _ a b (by omega)) g6⟩
theorem nI_any (v : Int32) : ∃ k, v = nI k := ⟨v.toBitVec.toNat, Int32.toBitVec_inj.mp (by simp [nI])⟩
/-- recording changes no counts -/
theorem avRep_n {f : Nat → AS → Ra} (hf : ∀ p A, (f p A).2.2.1 = A.2.1 ∧ (f p A).2.2.2.1 = A.2.2.1) : ∀ (k : Nat) (a9 : Option Nat) (p : Nat) (A : AS), (avRep f k a9 p A).2.2.1 = A.2.1 ∧ (avRep f k a9 p A).2.2.2.1 = A.2.2.1
  | 0, _, _, _ => ⟨rfl, rfl⟩
  | k + 1, a9, p, A => by
    unfold avRep
    have h := hf p A
    refine bnA_sp (P := fun R => R.2.2.1 = A.2.1 ∧ R.2.2.2.1 = A.2.2.1) (fun _ => h) (fun _ => h) (fun q _ => ?_)
    have g := avRep_n hf k (some q) q (f p A).2
    exact ⟨g.1.trans h.1, g.2.trans h.2⟩
theorem avA_n {n : Nat} {w : Nat → Nat} {call : Nat → Nat → Nat → AS → Ra} (hc : ∀ r p d A, (call r p d A).2.2.1 = A.2.1 ∧ (call r p d A).2.2.2.1 = A.2.2.1) : ∀ t, wf t → ∀ p d A, (avA n w call t p d A).2.2.1 = A.2.1 ∧ (avA n w call t p d A).2.2.2.1 = A.2.2.1 := by
  refine ast_ind (fun lo hi _ _ p d A => ⟨rfl, rfl⟩) (fun r _ p d A => hc r p (d + 2) A) (fun m a b _ _ _ _ ha hb p d A => ?_) (fun k e _ _ _ he p d A => ?_)
  · simp only [avA]
    have h := ha p (d + 1) A
    split
    · refine bnA_sp (P := fun R => R.2.2.1 = A.2.1 ∧ R.2.2.2.1 = A.2.2.1) (fun _ => h) (fun _ => h) (fun q _ => ?_)
      have g := hb q (if m % 2 = 1 then d else d + 1) (avA n w call a p (d + 1) A).2
      exact ⟨g.1.trans h.1, g.2.trans h.2⟩
    · refine bnA_sp (P := fun R => R.2.2.1 = A.2.1 ∧ R.2.2.2.1 = A.2.2.1) (fun _ => h) (fun _ => ?_) (fun q _ => h)
      have g := hb p (if m % 2 = 1 then d else d + 1) (cutA A.2.2.2.1 (avA n w call a p (d + 1) A).2)
      exact ⟨g.1.trans h.1, g.2.trans h.2⟩
  · simp only [avA]
    have h := he p (d + 1) A
    split
    · exact bnA_sp (P := fun R => R.2.2.1 = A.2.1 ∧ R.2.2.2.1 = A.2.2.1) (fun _ => h) (fun _ => h) (fun q _ => h)
    · split
      · exact bnA_sp (P := fun R => R.2.2.1 = A.2.1 ∧ R.2.2.2.1 = A.2.2.1) (fun _ => h) (fun _ => h) (fun q _ => h)
      · exact avRep_n (fun p A => he p (d + 1) A) _ _ _ _
theorem recC_n (r p d : Nat) (A : AS) : (recC r p d A).2.2.1 = A.2.1 ∧ (recC r p d A).2.2.2.1 = A.2.2.1 := by
  unfold recC
  split
  · exact ⟨rfl, rfl⟩
  · dsimp only
    split <;> exact ⟨rfl, rfl⟩
section MAT
variable {cy : Nat → ClassId} {ad : Nat → Nat} {hp0 : Hp} {l : Launch} {D : va_G} {base : Nat} {n : Nat} {w : Nat → Nat} {rl : Nat → Option Ex} {O : Nat → Int32}
/-- the reference's run of a match -/
theorem M_runA (hl : l.stackTraces = false) (dd : Nat) (hdd : 5 ≤ dd) (hn : n ≤ 20) (hO : ∀ r, r < 6 → sm8 (O r)) (hw : ∀ r t, rl r = some t → wf t) (h6 : ∀ r, 6 ≤ r → rl r = none) (hfp : ∀ r t, r < 6 → rl r = some t → wf t ∧ FS rl O t ∧ oE O t = O r) {r p : Nat} {s : MSt} {A : AS} {t : Ex} (hr : r < 6) (ht : rl r = some t) (hp : p ≤ n) (hci : CI n w rl 0 s) (hs : RS s A) (hS : SND n O A.1) (e1 : s.2 5 447 = nI 1) (e2 : s.2 6 447 = nI r) (e3 : s.2 8 447 = nI 0) : MtW (IM cy ad hp0) l D cy base mX9_run dd 0 0 [.ref (ad 43), .int (nI 447), .int (nI p)] s (fun o s2 => o = .inl (some (.int (resI (avR n w rl 40 r p 1 (cutA 0 A)).1))) ∧ RS s2 (avR n w rl 40 r p 1 (cutA 0 A)).2 ∧ frD s s2) := by
  have hw2 : ∀ r t, rl r = some t → wf t ∧ (wf t ∧ FS rl O t) := fun r t ht => by
    have hr : r < 6 := by
      rcases Nat.lt_or_ge r 6 with g | g
      · exact g
      · rw [h6 r g] at ht; cases ht
    exact ⟨hw r t ht, hw r t ht, (hfp r t hr ht).2.1⟩
  have fx := fun f => FS_facts (n := n) (w := w) (call := avR n w rl f) (g := fun A => SND n O A.1 ∧ A.2.2.2.1 ≤ 2 ^ 28) hn hO (avR_snd (w := w) hn hO hfp f) (fun A h => h.1) (fun t p d A wt hF hp hA hS2 => ⟨hS2, Nat.le_trans (avA_x0 (fun r p d A => avR_x0 hw f r p d A) t wt p d A) hA.2⟩)
  have hC := CALLP_R (cy := cy) (ad := ad) (hp0 := hp0) (l := l) (D := D) (base := base) (n := n) (w := w) (rl := rl) (g := fun A => SND n O A.1 ∧ A.2.2.2.1 ≤ 2 ^ 28) (dd := dd) hl hdd (F := fun t => wf t ∧ FS rl O t) hw2 (fun m a b h => ⟨⟨h.1.2.2.1, h.2.1⟩, ⟨h.1.2.2.2, h.2.2⟩⟩) (fun f k e h => ⟨⟨h.1.2.2.2, h.2.1⟩, ((fx f).1 k e h.1.2.2.2 h.2).2⟩) (fun r h => h.2) (fun f t wt h => (fx f).2 t wt h.2) (fun A A1 h h1 => ⟨h1.1, h.2⟩) (fun A h => h.1.ok) (fun A h => h.2) (fun A v h => h) 40
  refine M_runM hl hdd hC hr ht hp hci hs ⟨hS, Nat.zero_le _⟩ e1 e2 e3 (fun q e => ?_)
  have := (avR_snd (w := w) hn hO hfp 40 r p 1 (cutA 0 A) hr ⟨t, ht⟩ hp hS).2 _ e
  have := this.2.1
  omega
/-- the state while a tree grows -/
def GIs (n : Nat) (w : Nat → Nat) (rl : Nat → Option Ex) (rv : Int32) (mm : Nat → Int32) (a14 a15 : Int32) (s : MSt) : Prop := CI n w rl rv s ∧ (∀ k, k < 126 → s.2 13 k = mm k) ∧ s.1 14 = a14 ∧ s.1 15 = a15
theorem M_growA (hl : l.stackTraces = false) (dd : Nat) (hdd : 5 ≤ dd) (hn : n ≤ 20) (hO : ∀ r, r < 6 → sm8 (O r)) (hw : ∀ r t, rl r = some t → wf t) (hfp : ∀ r t, r < 6 → rl r = some t → wf t ∧ FS rl O t ∧ oE O t = O r) {cs : CSt} (hS : SND n O (cs.2.1 9)) (hcr : ∀ r t, r < 6 → rl r = some t → cR t ≤ 2 ^ 28) (hI : INVC n w rl cs) (zs : Nat → Nat) (hzs : ∀ r t, r < 6 → rl r = some t → zs r = sz t ∧ sz t ≤ 63) (s : MSt) (c : Nat) (hc : gdC9 n (cs.2.1 9) c) (h28 : s.1 28 = nI 0) (a14 a15 : Int32) (hG : GIs n w rl 0 (cs.2.1 9) a14 a15 s) : MtW (IM cy ad hp0) l D cy base mX9_grow (dd + 1) 0 0 [.ref (ad 43), .int (nI (c / 21)), .int (nI (c % 21)), .int (cs.2.1 9 c)] s (fun o s2 => o = .inl none ∧ ∃ s9, GIs n w rl (vp_nar .boolean (nI 1)) (cs.2.1 9) a14 a15 s9 ∧ TRM s9 (cs.2.1 9) (dfs (chC9 n w rl (cs.2.1 9)) 122 [(c, 0)] [(c, 0)]) ∧ s2 = fU 23 (vp_nar .boolean (nI 0)) s9 ∧ frW (fU 23 (vp_nar .boolean (nI 1)) s) s9) := by
  have hrv : ¬ vp_nar .boolean (nI 1) = 0 := by decide +kernel
  have fx := FS_facts (n := n) (w := w) (call := recC) (g := fun A => SND n O A.1) (rl := rl) hn hO (recC_snd hn) (fun A h => h) (fun t p d A wt hF hp hA hS2 => hS2)
  have hC := CALLP_rec (cy := cy) (ad := ad) (hp0 := hp0) (l := l) (D := D) (base := base) (n := n) (w := w) (rl := rl) (g := fun A => SND n O A.1) (dd := dd) hl (rv := vp_nar .boolean (nI 1)) hrv 41 (fun A h => h.ok)
  have hRUN := RUNP_all (cy := cy) (ad := ad) (hp0 := hp0) (l := l) (D := D) (base := base) (n := n) (w := w) (rl := rl) (rv := vp_nar .boolean (nI 1)) (call := recC) (g := fun A => SND n O A.1) (f9 := 41) (dd := dd) hl hdd (F := fun t => wf t ∧ FS rl O t) (fun m a b h => ⟨⟨h.1.2.2.1, h.2.1⟩, ⟨h.1.2.2.2, h.2.2⟩⟩) (fun k e h => ⟨⟨h.1.2.2.2, h.2.1⟩, (fx.1 k e h.1.2.2.2 h.2).2⟩) (fun r h => h.2) (fun t wt h => fx.2 t wt h.2) (fun A A1 h h1 => h1) recC_x hC
  have hGR : GRUN cy ad hp0 l D base dd (GIs n w rl (vp_nar .boolean (nI 1)) (cs.2.1 9) a14 a15) (gdC9 n (cs.2.1 9)) (chC9 n w rl (cs.2.1 9)) (cs.2.1 9) zs := by
    intro s c hg hGI
    obtain ⟨t, q, t1, t2, t3, t4, t5, t6, t7, t8⟩ := gd_tell hn hS hw hcr hI hg
    have hr6 : c / 21 < 6 := by have := hg.1; omega
    obtain ⟨x, hx⟩ := nI_any (s.1 24)
    have hRS : RS s (cs.2.1 9, s.1 14, s.1 15, x, s.2 25, s.2 26, s.2 27) := ⟨hGI.2.1, rfl, rfl, hx, rfl, rfl, rfl⟩
    obtain ⟨f1, f2, f3⟩ := hfp _ t hr6 t1
    obtain ⟨r1, r2, X', r3, r4⟩ := avA_rec (w := w) hn (cs.2.1 9) (lkm_CLO hn hS) t f1 (c % 21) 0 (cutA 0 (cs.2.1 9, s.1 14, s.1 15, x, s.2 25, s.2 26, s.2 27)) [] (some q) (chC9 n w rl (cs.2.1 9) c) t2 rfl t5 ⟨rfl, fun k y hk _ => by cases hk⟩
    have rn := avA_n (n := n) (w := w) recC_n t f1 (c % 21) 0 (cutA 0 (cs.2.1 9, s.1 14, s.1 15, x, s.2 25, s.2 26, s.2 27))
    have e4 := r4 (fun c => by cases c)
    subst e4
    rw [List.nil_append] at r3
    have hz := hzs _ t hr6 t1
    rw [hz.1]
    refine (M_runR hl hdd hrv (hRUN t f1 ⟨f1, f2⟩) hr6 t1 t2 hGI.1 hRS hS (by rw [r1]; exact fun c => by cases c) (fun q' e => by rw [r1] at e; cases e; omega)).post (fun o s2 ⟨o1, o2, o3⟩ => ?_)
    obtain ⟨p1, p2, p3, p4, p5, p6, p7⟩ := o2
    refine ⟨⟨_, o1⟩, by rw [p4, r3.1], fun i y hy h64 => ?_, ⟨hGI.1.fr o3, fun k hk => by rw [p1 k hk, r2]; rfl, by rw [p2, rn.1]; exact hGI.2.2.1, by rw [p3, rn.2]; exact hGI.2.2.2⟩, o3⟩
    rw [p5, p6, p7]
    have := r3.2 i y hy h64
    rw [r2] at this
    exact this
  refine M_grow hl dd (by omega) _ _ _ _ zs hGR (fun s s2 h f => ⟨h.1.cg ((f.1 23 (by decide)).trans h.1.1) (f.1 3 (by decide)) (fun x => f.2 4 x (by omega)) (fun k x a b _ => f.2 k x (by omega)) (fun x _ => f.2 10 x (by omega)), fun k hk => (f.2 13 k (by omega)).trans (h.2.1 k hk), (f.1 14 (by decide)).trans h.2.2.1, (f.1 15 (by decide)).trans h.2.2.2⟩) (fun s c h hg => ?_) (fun c hg => ?_) s c hc h28 ?_
  · obtain ⟨t, q, t1, -⟩ := gd_tell hn hS hw hcr hI hg
    have hr6 : c / 21 < 6 := by have := hg.1; omega
    obtain ⟨g1, g2, g3, g4, g5, g6⟩ := h.1.2.2.2.2 _ t hr6 t1
    have hz := hzs _ t hr6 t1
    have := sz_pos t g1
    exact ⟨by rw [hz.1]; exact g5, by omega, by omega⟩
  · obtain ⟨t, q, t1, t2, t3, t4, t5, t6, t7, t8⟩ := gd_tell hn hS hw hcr hI hg
    exact ⟨hg.1, by omega, t8⟩
  · have f : frG (fU 23 (vp_nar .boolean (nI 1)) s) (kpS 0 0 (nI (c / 21)) (nI (c % 21)) (cs.2.1 9 c) (fU 23 (vp_nar .boolean (nI 1)) s)) := kpS_fr
    have u : ∀ k, k ≠ 23 → (fU 23 (vp_nar .boolean (nI 1)) s).1 k = s.1 k := fun k hk => by rw [fU_1, if_neg hk]
    exact ⟨hG.1.cg ((f.1 23 (by decide)).trans (by rw [fU_1, if_pos rfl])) ((f.1 3 (by decide)).trans (u 3 (by decide))) (fun x => f.2 4 x (by omega)) (fun k x a b _ => f.2 k x (by omega)) (fun x _ => f.2 10 x (by omega)), fun k hk => (f.2 13 k (by omega)).trans (hG.2.1 k hk), ((f.1 14 (by decide)).trans (u 14 (by decide))).trans hG.2.2.1, ((f.1 15 (by decide)).trans (u 15 (by decide))).trans hG.2.2.2⟩
end MAT
