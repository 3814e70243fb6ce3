/-! Verdicts of the class and of the reference: methods. -/
section EXAM
variable {cy : Nat → ClassId} {ax ad : Nat → Nat} {hp0 : Hp} {l : Launch} {D : va_G} {base : Nat}
theorem VDT.k {rl : Nat → Option Ex} {v : Int32} (h : VDT rl v) : ∃ k, v = nI k ∧ k < 1000 ∧ (k % 10 = 2 ↔ (∃ r, r < 6 ∧ rl r ≠ none) ∧ ∃ x, isM (MIS rl) (some x)) ∧ (k = 0 → (∃ r, r < 6 ∧ rl r ≠ none) ∧ isM (MIS rl) none ∧ ∃ O G, LSO rl O ∧ LSG rl O G ∧ ∀ r t e, r < 6 → rl r = some t → e ∈ po t → gE O G e = true) := by
  rcases h with ⟨a1, rfl⟩ | ⟨hp, x, a2, rfl⟩ | ⟨hp, a2, O, G, o, a3, a4, a5, rfl⟩
  · exact ⟨1, rfl, by decide, ⟨fun c => absurd c (by decide), fun ⟨⟨r, hr, hn⟩, _⟩ => absurd (a1 r hr) hn⟩, fun c => absurd c (by decide)⟩
  · have hx : x < 6 := by
      obtain ⟨r, t, -, -, -, h, -⟩ := (a2.1 x rfl).1
      exact h
    exact ⟨2 + 10 * x, rfl, by omega, ⟨fun _ => ⟨hp, x, a2⟩, fun _ => by omega⟩, fun c => by omega⟩
  · have hno : ¬ ∃ x, isM (MIS rl) (some x) := fun ⟨x, hx⟩ => by cases a2.uniq hx (fun _ => Iff.rfl)
    cases o with
    | none =>
      refine ⟨0, rfl, by decide, ⟨fun c => absurd c (by decide), fun c => absurd c.2 hno⟩, fun _ => ⟨hp, a2, O, G, a3, a4, fun r t e hr ht he => ?_⟩⟩
      cases hg : gE O G e with
      | true => rfl
      | false => exact absurd ⟨hr, t, ht, e, he, hg⟩ (a5.2 rfl r)
    | some x =>
      have hx : x < 6 := (a5.1 x rfl).1.1
      exact ⟨3 + 10 * x, rfl, by omega, ⟨fun c => by omega, fun c => absurd c.2 hno⟩, fun c => by omega⟩
theorem C_exam (hl : l.stackTraces = false) (s : CSt) {rl : Nat → Option Ex} {rt : Nat → Nat} {ps : Nat → List Nat} {tt : Nat → Ex} (hG : GP s rt ps) (hL : LYC s.2.2.2.1 rt ps tt s.2.2.2.2.1) (hdj : ∀ r q, r < 6 → q < 6 → s.2.2.2.1 r ≠ none → s.2.2.2.1 q ≠ none → r ≠ q → ∀ c ∈ ps r, c ∉ ps q) (hrl : ∀ r, r < 6 → rl r = (s.2.2.2.1 r).map (fun _ => tt r)) : ∃ v nd', (∀ hp0 : Hp, MtW (IC cy ax hp0) l D cy base mX2_examine (0 + 5) 0 0 [.ref (ax 6)] s (fun o s2 => o = .inl (some (.int v)) ∧ s2 = ndP s nd')) ∧ skE s.2.2.2.2.1 nd' ∧ VDT rl v ∧ (isM (MIS rl) none → (∃ r, r < 6 ∧ rl r ≠ none) → ∃ O, LSO rl O ∧ ∀ r t, r < 6 → rl r = some t → ndO nd' (rt r) = O r) := by
  have hno : ∀ r, r < 6 → (rl r = none ↔ s.2.2.2.1 r = none) := fun r hr => by
    rw [hrl r hr]
    cases s.2.2.2.1 r <;> exact ⟨fun c => by cases c <;> rfl, fun c => by cases c <;> rfl⟩
  by_cases hz : szF s.2.2.2.1 6 0 0 = 0
  · have hall := ((szF_0 6 0 0).mp hz).2
    have hn : ∀ r, r < 6 → rl r = none := fun r hr => (hno r hr).mpr (hall r (Nat.zero_le _) (by omega))
    exact ⟨nI 1, s.2.2.2.2.1, fun hp0 => C_examine0 hl 0 s hz, skE.rf, Or.inl ⟨hn, rfl⟩, fun _ ⟨r, hr, h⟩ => absurd (hn r hr) h⟩
  · have hex : ∃ q0, q0 < 6 ∧ s.2.2.2.1 q0 ≠ none := by
      refine Classical.byContradiction fun hc => hz ((szF_0 6 0 0).mpr ⟨rfl, fun j _ hj => ?_⟩)
      exact Classical.byContradiction fun h => hc ⟨j, by omega, h⟩
    obtain ⟨q0, hq0, hn0⟩ := hex
    have hpr : ∃ r, r < 6 ∧ rl r ≠ none := ⟨q0, hq0, fun c => hn0 ((hno q0 hq0).mp c)⟩
    have hm := lm_MIS hL hrl
    cases hlm : lmF s.2.2.2.1 (stF s.2.2.2.1 ps s.2.2.2.2.1 6 0 (nI 0)) 6 0 with
    | some x =>
      rw [hlm] at hm
      exact ⟨nI (2 + 10 * x), s.2.2.2.2.1, fun hp0 => C_examine1 hl 0 s rt ps hG hz x hlm, skE.rf, Or.inr (Or.inl ⟨hpr, x, hm, rfl⟩), fun c => by cases hm.uniq c (fun _ => Iff.rfl)⟩
    | none =>
      rw [hlm] at hm
      -- roots for the rules that aren't there too
      obtain ⟨rt', hrt⟩ : ∃ rt' : Nat → Nat, ∀ r, rt' r = if s.2.2.2.1 r = none then rt q0 else rt r := ⟨_, fun _ => rfl⟩
      have hrt1 : ∀ r, s.2.2.2.1 r ≠ none → rt' r = rt r := fun r h => by rw [hrt, if_neg h]
      have hG' : GP s rt' ps := fun r hr x hx => by
        rw [hrt1 r (by rw [hx]; exact fun c => by cases c)]
        exact hG r hr x hx
      have hC : CLY s.2.2.2.1 rt' ps tt s.2.2.2.2.1 := by
        refine ⟨fun r hr he => ?_, hdj, fun r hr => ?_⟩
        · obtain ⟨a, b, c, d⟩ := hL r hr he
          rw [hrt1 r he]
          refine ⟨a, b, c, d, RP_po _ b (fun q hq hx hqn => ?_)⟩
          exact hm.2 rfl q ⟨r, tt r, hr, by rw [hrl r hr]; cases hy : s.2.2.2.1 r with
            | none => exact absurd hy he
            | some y => rfl, hx, hq, (hno q hq).mpr hqn⟩
        · by_cases he : s.2.2.2.1 r = none
          · exact ⟨q0, hq0, hn0, by rw [hrt, if_pos he, hrt1 q0 hn0]⟩
          · exact ⟨r, hr, he, rfl⟩
      have hK : GOK s (Kf s.2.2.2.2.1) rt' ps := fun r hr x hx p hp => by
        have he : s.2.2.2.1 r ≠ none := by rw [hx]; exact fun c => by cases c
        obtain ⟨a, b, c, d⟩ := hL r hr he
        obtain ⟨n1, n2⟩ := ((lay_NDS _ b).1 _ _ a).both
        obtain ⟨e, qe, e1, e2, e3, e4⟩ := n1 p hp
        have hsz : sz e ≤ 100 := by have := (snE_sz _ b).1 e e1; omega
        revert e1 e3 hsz
        refine ast_ind (P := fun e => e ∈ snE (tt r) → layE s.2.2.2.2.1 e (qe ++ [p]) p → sz e ≤ 100 → nodeOK s (Kf s.2.2.2.2.1) rt' p) (fun lo hi _ _ _ h _ => ?_) (fun q hq e1 h _ => ?_) (fun m u w g1 g2 wu ww _ _ _ h hs => ?_) (fun k u g1 g2 wu _ _ h hs => ?_) e e2
        · obtain ⟨-, n, h1, h2, -⟩ := h
          exact ⟨n, h1, Or.inl h2⟩
        · obtain ⟨-, n, h1, h2, h3⟩ := h
          have hqe : s.2.2.2.1 q ≠ none := fun hqn => hm.2 rfl q ⟨r, tt r, hr, by rw [hrl r hr, hx]; rfl, (sn_po _ b).1 _ e1, hq, (hno q hq).mpr hqn⟩
          cases hy : s.2.2.2.1 q with
          | none => exact absurd hy hqe
          | some y =>
            obtain ⟨e9, m9, k1, k2, k3, k4⟩ := hG' q hq y hy
            exact ⟨n, h1, Or.inr (Or.inl ⟨h2, q, y, e9, m9, hq, h3, hy, k1, k2, k3⟩)⟩
        · obtain ⟨ql, n, f, pl, c1, c2, c3, c4, c5, c6, c7, c8⟩ := layE_K (show wf (xB m u w) from ⟨g1, g2, wu, ww⟩) hs h
          have hm2 : m / 2 = 0 ∨ m / 2 = 1 := by omega
          refine ⟨n, c2, Or.inr (Or.inr (Or.inl ⟨?_, f, pl, c6, c4, c7⟩))⟩
          rcases hm2 with e | e
          · exact Or.inl (by rw [c3, e])
          · exact Or.inr (by rw [c3, e])
        · obtain ⟨ql, n, f, t, c1, c2, c3, c4, c5, c6⟩ := layS_K wu g1 g2 h
          obtain ⟨nf, hnf⟩ := lay_ex wu c5 f (layE_mem u wu ql f c5)
          have hk : k = 4 ∨ k = 5 ∨ k = 6 ∨ k = 7 ∨ k = 8 := by omega
          refine ⟨n, c2, Or.inr (Or.inr (Or.inr ⟨?_, f, nf, t, c6, c4, hnf⟩))⟩
          rw [c3]
          rcases hk with rfl | rfl | rfl | rfl | rfl
          · exact Or.inl rfl
          · exact Or.inr (Or.inl rfl)
          · exact Or.inr (Or.inr (Or.inl rfl))
          · exact Or.inr (Or.inr (Or.inr (Or.inl rfl)))
          · exact Or.inr (Or.inr (Or.inr (Or.inr rfl)))
      obtain ⟨nd3, e3, s3, O, G, o1, o2, o3, o4⟩ := passes_all hC hrl
      subst e3
      refine ⟨ngI (lgF s.2.2.2.1 ps _ 6 0), _, fun hp0 => C_examine2 (cy := cy) (ax := ax) (hp0 := hp0) (D := D) (base := base) hl 0 s (Kf s.2.2.2.2.1) rt' ps hG' hK hz hlm, s3, Or.inr (Or.inr ⟨hpr, hm, O, G, _, o1, o2, o3, rfl⟩), fun _ _ => ⟨O, o1, fun r t hr ht => ?_⟩⟩
      rw [← o4 r t hr ht, hrt1 r (fun c => by rw [(hno r hr).mpr c] at ht; cases ht)]
/-! the reference -/
def FS3 (s s2 : MSt) : Prop := s2.1 = s.1 ∧ ∀ k x, k ≠ 11 → k ≠ 12 → s2.2 k x = s.2 k x
theorem lkR_MIS {rl : Nat → Option Ex} {zs : Nat → Nat} {H : Nat → Nat → Int32} (h : RFL rl zs H) : isM (MIS rl) (lkR zs H 6 0 none) := by
  refine (lkR_min (zs := zs) (H := H) 6 0 (fun _ => False) none ⟨fun x hx => (by cases hx), fun _ y c => c⟩).iff (fun x => ⟨?_, ?_⟩)
  · rintro (c | ⟨r, j, a, b, c, d⟩)
    · exact c.elim
    · obtain ⟨t, ht⟩ := (ref_occ h (show r < 6 by omega)).mp ⟨j, c, d⟩
      exact ⟨r, t, by omega, ht⟩
  · rintro ⟨r, t, hr, ht⟩
    obtain ⟨j, c, d⟩ := (ref_occ h hr).mpr ⟨t, ht⟩
    exact Or.inr ⟨r, j, Nat.zero_le _, by omega, c, d⟩
theorem ng_BAD {rl : Nat → Option Ex} {zs : Nat → Nat} {H : Nat → Nat → Int32} {g O : Nat → Int32} {G : Nat → Bool} (h : RFL rl zs H) (hg : ∀ (r : Nat) (t : Ex) (i : Nat) (e : Ex), r < 6 → rl r = some t → (po t)[i]? = some e → g (64 * r + i) = bI (gE O G e)) : isM (BAD rl O G) (ngR zs g 6 0) := by
  refine (ngR_min 6 0).iff (fun x => ⟨?_, ?_⟩)
  · rintro ⟨-, hx6, hk⟩
    have hx : x < 6 := by omega
    obtain ⟨j, -, hj, h0⟩ := (ngK_ex _ _).mp hk
    cases ht : rl x with
    | none => have := (h.no hx).mpr ht; omega
    | some t =>
      obtain ⟨w1, w2, w3, w4⟩ := h.at hx ht
      obtain ⟨e, he⟩ := po_get w1 (show j < sz t by omega)
      rw [hg x t j e hx ht he] at h0
      refine ⟨hx, t, ht, e, List.mem_of_getElem? he, ?_⟩
      cases hge : gE O G e with
      | false => rfl
      | true => rw [hge] at h0; exact absurd h0 (by decide +kernel)
  · rintro ⟨hx, t, ht, e, he, hge⟩
    obtain ⟨w1, w2, w3, w4⟩ := h.at hx ht
    obtain ⟨j, hj, e2⟩ := List.getElem_of_mem he
    have he2 : (po t)[j]? = some e := by rw [List.getElem?_eq_getElem hj, e2]
    refine ⟨Nat.zero_le _, by omega, (ngK_ex _ _).mpr ⟨j, Nat.zero_le _, ?_, ?_⟩⟩
    · have := (w4 j e he2).1
      omega
    · rw [hg x t j e hx ht he2, hge]
      rfl
theorem STU.GM {zs : Nat → Nat} {s s3 : MSt} (hG : GM zs s.2) (h : STU zs s s3) : GM zs s3.2 := hG.fr fun k x hk => h.2.1 k x (by omega) (by omega)
theorem rl_pr {rl : Nat → Option Ex} {zs : Nat → Nat} {H : Nat → Nat → Int32} (h : RFL rl zs H) : rlF (H 10) 6 0 0 = 0 ↔ ∀ r, r < 6 → rl r = none := by
  have hno : ∀ r, (((rl r).map (fun _ => 0) : Option Nat) = none ↔ rl r = none) := fun r => by
    cases rl r <;> exact ⟨fun c => by cases c <;> rfl, fun c => by cases c <;> rfl⟩
  rw [← sz_rl (zs := zs) (es := fun r => (rl r).map (fun _ => 0)) (fun r hr => ⟨(h r hr).1, (h.GM r hr).2.1, (h.no hr).trans (hno r).symm⟩) 6 0 0 (by decide), szF_0]
  exact ⟨fun c r hr => (hno r).mp (c.2 r (Nat.zero_le _) (by omega)), fun c => ⟨rfl, fun j _ hj => (hno j).mpr (c j (by omega))⟩⟩
theorem M_faultV (hl : l.stackTraces = false) (d : Nat) (s : MSt) {rl : Nat → Option Ex} {zs : Nat → Nat} {v : Int32} (hR : RFL rl zs s.2) (hV : VDT rl v) : MtW (IM cy ad hp0) l D cy base mX9_fault (d + 6) 0 0 [.ref (ad 43)] s (fun o s2 => o = .inl (some (.int v)) ∧ FS3 s s2) := by
  have hw : ∀ r t, r < 6 → rl r = some t → wf t := fun r t hr ht => (hR.at hr ht).1
  by_cases hz : rlF (s.2 10) 6 0 0 = 0
  · have := VDT.uniq hw hV (Or.inl ⟨(rl_pr hR).mp hz, rfl⟩)
    rw [this]
    exact (M_fault0 hl d s hz).post (fun o s2 ⟨a, b⟩ => ⟨a, by rw [b]; exact ⟨rfl, fun _ _ _ _ => rfl⟩⟩)
  · have hpr : ∃ r, r < 6 ∧ rl r ≠ none := Classical.byContradiction fun hc => hz ((rl_pr hR).mpr (fun r hr => Classical.byContradiction fun h => hc ⟨r, hr, h⟩))
    have hm := lkR_MIS hR
    cases hlk : lkR zs s.2 6 0 none with
    | some x =>
      rw [hlk] at hm
      have := VDT.uniq hw hV (Or.inr (Or.inl ⟨hpr, x, hm, rfl⟩))
      rw [this]
      exact (M_fault1 hl d s zs hR.GM hz x hlk).post (fun o s2 ⟨a, b⟩ => ⟨a, by rw [b]; exact ⟨rfl, fun _ _ _ _ => rfl⟩⟩)
    | none =>
      rw [hlk] at hm
      refine (M_fault2 hl d s zs hR.GM hz hlk (STU zs s) (study_ex hR.GM) (fun s3 h => h.GM hR.GM)).post (fun o s2 ⟨a, b⟩ => ⟨?_, b.1, b.2.1⟩)
      obtain ⟨o1, o2⟩ := ref_O hR b.2.2.1
      obtain ⟨g1, g2⟩ := ref_G hR (O := rtO zs (s2.2 11)) o2 b.2.2.2
      rw [a, VDT.uniq hw hV (Or.inr (Or.inr ⟨hpr, hm, _, _, _, o1, g1, ng_BAD hR g2, rfl⟩))]
/-- the reference's outcomes where no rule is wanting -/
theorem M_outsV (hl : l.stackTraces = false) (d : Nat) (s : MSt) {rl : Nat → Option Ex} {zs : Nat → Nat} {O : Nat → Int32} {r : Nat} {t : Ex} (hR : RFL rl zs s.2) (hr : r < 6) (ht : rl r = some t) (hm : isM (MIS rl) none) (hO : LSO rl O) : MtW (IM cy ad hp0) l D cy base mX9_outcomes (d + 6) 0 0 [.ref (ad 43), .int (nI r)] s (fun o s2 => o = .inl (some (.int (O r))) ∧ FS3 (fU 0 (nI 0) s) s2) := by
  obtain ⟨w1, w2, w3, w4⟩ := hR.at hr ht
  have hs1 := sz_pos t w1
  have hlk : lkR zs s.2 6 0 none = none := (lkR_MIS hR).uniq hm (fun _ => Iff.rfl)
  have h1 := M_hasRule1 (cy := cy) (ad := ad) (hp0 := hp0) (D := D) (base := base) hl 0 s r (zs r) hr (hR r hr).1 (hR.GM r hr).2.1
  rw [if_neg (by omega)] at h1
  have hR2 : RFL rl zs (fU 0 (nI 0) s).2 := hR
  refine (M_outs3 hl d s r hr h1 zs hR.GM (by omega) hlk (STU zs (fU 0 (nI 0) s)) (study_ex hR2.GM) (fun s3 h => h.GM hR2.GM)).post (fun o s2 ⟨a, b⟩ => ⟨?_, b.1, b.2.1⟩)
  obtain ⟨o1, o2⟩ := ref_O hR2 b.2.2.1
  have e := o1.uniq hO hr ht
  rw [a, ← e]
  unfold rtO
  rw [if_neg (by omega)]
end EXAM
