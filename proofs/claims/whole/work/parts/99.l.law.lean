/-! The law's world: the class's cells over hp0; in hp0 the reference's, and the row of one long. -/
abbrev LWt : Type := CSt × MSt × (Nat → Int64)
def LW (cy : Nat → ClassId) (ax ad : Nat → Nat) (o : Nat) (s : LWt) (hp : Hp) : Prop := ∃ hp0, IC cy ax hp0 s.1 hp ∧ (∀ k, k < 19 → hp0 (ax k) = none) ∧ MW cy ad s.2.1 hp0 ∧ hp0 o = some (.inl (cy 4, 1, .inr (.inl s.2.2)))
def rst (hp0 hp : Hp) : Hp := fun a => match hp0 a with
  | none => none
  | some _ => hp a
theorem rst_none {hp0 hp : Hp} {a : Nat} (h : hp0 a = none) : rst hp0 hp a = none := by unfold rst; rw [h]
theorem rst_some {hp0 hp : Hp} {a : Nat} (h : hp0 a ≠ none) : rst hp0 hp a = hp a := by
  unfold rst
  cases hx : hp0 a with
  | none => exact absurd hx h
  | some e => rfl
theorem rst_no {hp0 hp : Hp} {a : Nat} (h : rst hp0 hp a ≠ none) : hp0 a ≠ none := fun e => h (rst_none e)
theorem IC.side {cy : Nat → ClassId} {ax : Nat → Nat} {hp0 hp hp' : Hp} {s : CSt} (h : IC cy ax hp0 s hp) (hx : ∀ k, k < 19 → hp0 (ax k) = none) (hk : ∀ a, hp0 a = none → hp' a = hp a) : IC cy ax (rst hp0 hp') s hp' := by
  obtain ⟨h1, h2, h3, h4, h5, h6⟩ := h
  have n3 : ∀ a n, s.2.2.2.2.1 a = some n → hp0 a = none := fun a n ha => by
    cases hc : hp0 a with
    | none => rfl
    | some e => have := (h6 a (by rw [hc]; exact fun q => nomatch q)).1; rw [ha] at this; cases this
  have n4 : ∀ a n, s.2.2.2.2.2 a = some n → hp0 a = none := fun a n ha => by
    cases hc : hp0 a with
    | none => rfl
    | some e => have := (h6 a (by rw [hc]; exact fun q => nomatch q)).2; rw [ha] at this; cases this
  refine ⟨fun k hk9 => by rw [hk _ (hx k hk9)]; exact h1 k hk9, h2, fun a n ha => by rw [hk _ (n3 a n ha)]; exact h3 a n ha, fun a e ha => by rw [hk _ (n4 a e ha)]; exact h4 a e ha, fun a ha g1 g2 => ?_, fun a ha => h6 a (rst_no ha)⟩
  by_cases hc : hp0 a = none
  · rw [rst_none hc, hk a hc, h5 a ha g1 g2, hc]
  · rw [rst_some hc]
theorem IC.stay {cy : Nat → ClassId} {ax : Nat → Nat} {hp0 hp : Hp} {s : CSt} (h : IC cy ax hp0 s hp) (hx : ∀ k, k < 19 → hp0 (ax k) = none) {a : Nat} (ha : hp0 a ≠ none) : hp a = hp0 a :=
  h.2.2.2.2.1 a (fun k hk e => ha (by rw [e]; exact hx k hk)) (h.2.2.2.2.2 a ha).1 (h.2.2.2.2.2 a ha).2
section LAW1
variable {cy : Nat → ClassId} {ax ad : Nat → Nat} {o : Nat} {l : Launch} {D : va_G} {base : Nat}
theorem LW.cls {M : Mth} {As : List Value} {c : CSt} {m : MSt} {f : Nat → Int64} {mc ms : Nat} {P : Oc → CSt → Prop} (h : ∀ hp0, MtW (IC cy ax hp0) l D cy base M 1800 mc ms As c P) : MtW (LW cy ax ad o) l D cy base M 1800 mc ms As (c, m, f) (fun oc s => P oc s.1 ∧ s.2 = (m, f)) :=
  fun hp ⟨hp0, h1, h2, h3, h4⟩ => Mt.post (fun oc hp' ⟨c', p, i⟩ => ⟨(c', m, f), ⟨p, rfl⟩, hp0, i, h2, h3, h4⟩) (h hp0 hp h1)
theorem MW.in_ {m : MSt} {hp0 : Hp} (h : MW cy ad m hp0) {k : Nat} (hk : mSlot k = true) : hp0 (ad k) ≠ none := by
  by_cases ha : mArr k = true
  · rw [h.2.1 k ha]; exact fun q => nomatch q
  · have : k = 43 := by
      unfold mSlot at hk
      rw [Bool.or_eq_true] at hk
      rcases hk with q | q
      · exact absurd q ha
      · exact beq_iff_eq.mp q
    subst this
    rw [h.1]; exact fun q => nomatch q
theorem MW.out_ {m : MSt} {hp0 : Hp} {g : Nat → Int64} (h : MW cy ad m hp0) (ho : hp0 o = some (.inl (cy 4, 1, .inr (.inl g)))) {k : Nat} (hk : mSlot k = true) : o ≠ ad k := fun e => by
  rw [e] at ho
  by_cases ha : mArr k = true
  · rw [h.2.1 k ha] at ho; simp at ho
  · have : k = 43 := by
      unfold mSlot at hk
      rw [Bool.or_eq_true] at hk
      rcases hk with q | q
      · exact absurd q ha
      · exact beq_iff_eq.mp q
    subst this
    rw [h.1] at ho; cases ho
theorem LW.ref {M : Mth} {As : List Value} {c : CSt} {m : MSt} {f : Nat → Int64} {Q : Oc → MSt → Prop} (h : BM cy ad l D base M As m Q) : MtW (LW cy ax ad o) l D cy base M 1800 0 0 As (c, m, f) (fun oc s => Q oc s.2.1 ∧ s.1 = c ∧ s.2.2 = f) := by
  rintro hp ⟨hp0, h1, h2, h3, h4⟩
  have hst : ∀ a, hp0 a ≠ none → hp a = hp0 a := fun a ha => h1.stay h2 ha
  have hW : MW cy ad m hp := ⟨by rw [hst _ (h3.in_ rfl)]; exact h3.1, fun k hk => by rw [hst _ (h3.in_ (by unfold mSlot; rw [hk]; rfl))]; exact h3.2.1 k hk, h3.2.2⟩
  refine Mt.post (fun oc hp' ⟨m', q, i⟩ => ⟨(c, m', f), ⟨q, rfl, rfl⟩, rst hp0 hp', h1.side h2 (fun a ha => i.2 a (fun k hk e => h3.in_ hk (by rw [← e]; exact ha))), fun k hk => rst_none (h2 k hk), ⟨?_, fun k hk => ?_, i.1.2.2⟩, ?_⟩) (h hp hp ⟨hW, fun _ _ => rfl⟩)
  · rw [rst_some (h3.in_ rfl)]; exact i.1.1
  · rw [rst_some (h3.in_ (by unfold mSlot; rw [hk]; rfl))]; exact i.1.2.1 k hk
  · have hn : hp0 o ≠ none := by rw [h4]; exact fun q => nomatch q
    rw [rst_some hn, i.2 o (fun k hk => h3.out_ h4 hk), hst o hn]
    exact h4
section ROWS
variable {M : Mth} {d bc bs pc : Nat} {lv : List (Nat × Value)} {st : List Value} {s : LWt} {Q : Oc → LWt → Prop}
theorem ELW.last {x : Int64} (hdg : decode M.2.1 pc = .ok (.lastore, 1)) (kk : ∀ g, g 0 = x → EW (LW cy ax ad o) l D cy base M d bc bs (pc + 1) lv st (s.1, s.2.1, g) Q) : EW (LW cy ax ad o) l D cy base M d bc bs pc lv (.long x :: .int (nI 0) :: .ref o :: st) s Q := by
  rintro hp ⟨hp0, h1, h2, h3, h4⟩
  have hn : hp0 o ≠ none := by rw [h4]; exact fun q => nomatch q
  have hst : ∀ a, hp0 a ≠ none → hp a = hp0 a := fun a ha => h1.stay h2 ha
  have h0 : (nI 0).toNatClampNeg = 0 := by decide +kernel
  refine E.last hdg (by rw [hst o hn]; exact h4) (vp_in_nI (by decide) (by decide)) (kk (vp_updL s.2.2 (nI 0).toNatClampNeg x) (by rw [h0]; unfold vp_updL; rw [if_pos rfl]) _ ⟨rst hp0 (va_up hp o (some (.inl (cy 4, 1, .inr (.inl (vp_updL s.2.2 (nI 0).toNatClampNeg x)))))), h1.side h2 (fun a ha => va_up_ne _ _ (fun e => hn (by rw [← e]; exact ha))), fun k hk => rst_none (h2 k hk), ⟨?_, fun k hk => ?_, h3.2.2⟩, ?_⟩)
  · rw [rst_some (h3.in_ rfl), va_up_ne _ _ (h3.out_ h4 rfl).symm, hst _ (h3.in_ rfl)]; exact h3.1
  · have hs : mSlot k = true := by unfold mSlot; rw [hk]; rfl
    rw [rst_some (h3.in_ hs), va_up_ne _ _ (h3.out_ h4 hs).symm, hst _ (h3.in_ hs)]; exact h3.2.1 k hk
  · rw [rst_some hn, va_up_self]
theorem ELW.lald (hdg : decode M.2.1 pc = .ok (.laload, 1)) (kk : EW (LW cy ax ad o) l D cy base M d bc bs (pc + 1) lv (.long (s.2.2 0) :: st) s Q) : EW (LW cy ax ad o) l D cy base M d bc bs pc lv (.int (nI 0) :: .ref o :: st) s Q := by
  rintro hp ⟨hp0, h1, h2, h3, h4⟩
  have hn : hp0 o ≠ none := by rw [h4]; exact fun q => nomatch q
  have h0 : (nI 0).toNatClampNeg = 0 := by decide +kernel
  refine E.lald hdg (by rw [h1.stay h2 hn]; exact h4) (vp_in_nI (by decide) (by decide)) ?_
  rw [h0]
  exact kk hp ⟨hp0, h1, h2, h3, h4⟩
theorem LW.obC {hp : Hp} (h : LW cy ax ad o s hp) : ∃ fs, hp (ax 0) = some (.inr (8, fs)) := by
  obtain ⟨hp0, h1, -⟩ := h
  exact ⟨_, h1.1 0 (by decide)⟩
theorem LW.obM {hp : Hp} (h : LW cy ax ad o s hp) : ∃ fs, hp (ad 43) = some (.inr (9, fs)) := by
  obtain ⟨hp0, h1, h2, h3, h4⟩ := h
  exact ⟨_, by rw [h1.stay h2 (h3.in_ rfl)]; exact h3.1⟩
end ROWS
/-- an exception is caught -/
theorem EX.catch {M : Mth} {d bc bs pc : Nat} {lv : List (Nat × Value)} {hp : Hp} {Q : Oc → Hp → Prop} {X name : String} {pre suf : List (Nat × Nat × Nat × Nat)} {a b h t : Nat} (htab : M.2.2.2.2.2 = pre ++ (a, b, h, t) :: suf) (hpass : ∀ z ∈ pre, z.2.2.2 ≠ 0 ∧ ∃ nm, Cond.classLink M.1 z.2.2.2 nm ∈ gw ∧ (X, nm) ∈ ncl) (hcov : covers ⟨a, b, h, t⟩ pc = true) (ht : t ≠ 0) (hlk : Cond.classLink M.1 t name ∈ gw) (hcast : Cond.castable X name ∈ nwl) (kk : ∀ q, E l D cy base M d bc bs h lv [.ref q] hp Q) : EX l D cy base M d bc bs pc lv X hp Q := by
  intro p e s m args below meth c H locs cells slots mc ms ls rest q ce B hv hH hS g1 g2 h1 h2 h3
  have hC := B.2.2.2.2.2.2.2.2.2.1
  have hts := B.2.2.2.2.1
  refine vx_catch (own := M.1) (name := name) B.2.2.2.1 (tableOf pre) ⟨a, b, h, t⟩ (tableOf suf) (by rw [B.2.2.2.2.2.2.2.1, htab]; unfold tableOf; rw [List.map_append]; rfl) (fun z hz => ?_) hcov ht (hts _ hlk) (va_Nw.use rfl (hC.2.1 _ hcast)) h1 h2 h3 (kk q p e s m args below meth c H locs cells slots mc ms ls B hv hH hS g1 g2)
  obtain ⟨z', hz', rfl⟩ := List.mem_map.mp hz
  obtain ⟨z0, nm, z1, z2⟩ := hpass z' hz'
  exact Or.inr ⟨z0, nm, hts _ z1, hC.2.2.2.2.2.2.2.1 _ z2⟩
theorem k_nse : Cond.classLink RL 13 yCls ∈ gw := gw_t 521 (by decide +kernel) rfl
theorem k_iae : Cond.classLink RL 19 "java/lang/IllegalArgumentException" ∈ gw := gw_t 599 (by decide +kernel) rfl
theorem k_ise : Cond.classLink RL 21 "java/lang/IllegalStateException" ∈ gw := gw_t 600 (by decide +kernel) rfl
theorem k_ioob : Cond.classLink RL 34 "java/lang/IndexOutOfBoundsException" ∈ gw := gw_t 769 (by decide +kernel) rfl
theorem x_nse : Cond.castable yCls yCls ∈ nwl := List.mem_filter.mpr ⟨List.mem_append_right _ (List.mem_of_getElem? (i := 529) (by decide +kernel)), rfl⟩
theorem x_iae : Cond.castable "java/lang/IllegalArgumentException" "java/lang/IllegalArgumentException" ∈ nwl := List.mem_filter.mpr ⟨List.mem_append_right _ (List.mem_of_getElem? (i := 607) (by decide +kernel)), rfl⟩
theorem x_ise : Cond.castable "java/lang/IllegalStateException" "java/lang/IllegalStateException" ∈ nwl := List.mem_filter.mpr ⟨List.mem_append_right _ (List.mem_of_getElem? (i := 623) (by decide +kernel)), rfl⟩
theorem x_ioob : Cond.castable "java/lang/IndexOutOfBoundsException" "java/lang/IndexOutOfBoundsException" ∈ nwl := List.mem_filter.mpr ⟨List.mem_append_right _ (List.mem_of_getElem? (i := 776) (by decide +kernel)), rfl⟩
/-- invokestatic of a method with a table -/
theorem E.callSH {M : Mth} {d bc bs pc : Nat} {lv : List (Nat × Value)} {st : List Value} {hp : Hp} {Q : Oc → Hp → Prop} {M' : Mth} {idx d' mc' ms' n : Nat} {As rest : List Value} {Q' : Oc → Hp → Prop} (hM : Mt l D cy base M' d' mc' ms' As hp Q') (mf : MF M') (h0 : M'.2.2.2.2.2 ≠ []) (ml : ML M.1 idx M') (mv : MS M' n) (hd : d' < d) (hdg : decode M.2.1 pc = .ok (.invokestatic idx, 3)) (hst : st = As.reverse ++ rest) (hn : As.length = n) (hw : (rest.map fun v => v.category).sum ≤ 8)
    (kk : ∀ v hp', Q' (.inl v) hp' → E l D cy base M d bc bs (pc + 3) lv (v.toList ++ rest) hp' Q) (kx : ∀ X hp', Q' (.inr X) hp' → EX l D cy base M d bc bs pc lv X hp' Q) : E l D cy base M d (bc + mc') (bs + ms') pc lv st hp Q := by
  refine E.run (fun p e s m args below meth c H locs cells slots mc ms ls B hv hH hS g1 g2 => ⟨As.toArray, ?_⟩) kk kx
  have hts := B.2.2.2.2.1
  have hG : GoodIn gw (va_wsS M.1 idx M'.2.2.1 (mws M')) := fun w h => by
    simp only [va_wsS, List.mem_append, List.mem_cons, List.not_mem_nil, or_false] at h
    rcases h with h | h
    · rcases h with rfl | rfl | rfl
      all_goals first | exact gw_good _ ml | exact gw_good _ mv.1 | exact gw_good _ mf.2.2.2.1
    · exact mws_good mf.1 w h
  refine vx_runSX (As := As) ⟨B.1, B.2.1, B.2.2.1, B.2.2.2.1, hts⟩ hM (vx_cwSW n hts hG (mws_codeW h0) rfl rfl ⟨mf.2.2.1.1, mf.2.2.1.2, mv.2⟩ ⟨hd, ?_⟩) ⟨PcA.blind, Bd.pre B hH hS⟩ rfl hn hv.1 hst (lv_room hw) hdg ⟨g1, g2⟩
  have := mf.2.2.2.2.2
  show 8 + (M'.2.2.2.1 + 11) + 40 * d' ≤ 40 * d
  omega
theorem EW.callSH {S : Type} {I : S → Hp → Prop} {M : Mth} {d bc bs pc : Nat} {lv : List (Nat × Value)} {st : List Value} {s : S} {Q : Oc → S → Prop} {M' : Mth} {idx d' mc' ms' n : Nat} {As rest : List Value} {Q' : Oc → S → Prop} (hM : MtW I l D cy base M' d' mc' ms' As s Q') (mf : MF M') (h0 : M'.2.2.2.2.2 ≠ []) (ml : ML M.1 idx M') (mv : MS M' n) (hd : d' < d) (hdg : decode M.2.1 pc = .ok (.invokestatic idx, 3)) (hst : st = As.reverse ++ rest) (hn : As.length = n) (hw : (rest.map fun v => v.category).sum ≤ 8)
    (kk : ∀ v s', Q' (.inl v) s' → EW I l D cy base M d bc bs (pc + 3) lv (v.toList ++ rest) s' Q) (hno : ∀ X s', ¬ Q' (.inr X) s') : EW I l D cy base M d (bc + mc') (bs + ms') pc lv st s Q := fun hp8 h8 =>
  E.callSH (hM hp8 h8) mf h0 ml mv hd hdg hst hn hw (fun v hp' ⟨s', q, i⟩ => kk v s' q hp' i) (fun X hp' ⟨s', q, i⟩ => absurd q (hno X s'))
theorem MtW.ofH {S : Type} {I : S → Hp → Prop} {M : Mth} {d : Nat} {s : S} {Q : Oc → S → Prop} {mc ms : Nat} {As : List Value} (hl : l.stackTraces = false) (mf : MF M) (h0 : M.2.2.2.2.2 ≠ []) (hlen : (lg_sl As).length ≤ M.2.2.2.1) (k : EW I l D cy base M d mc ms 0 (lv_args 0 As) [] s Q) : MtW I l D cy base M d mc ms As s Q := fun hp8 h8 => Mt.ofH hl mf h0 hlen (k hp8 h8)
theorem EWX.catch {S : Type} {I : S → Hp → Prop} {M : Mth} {d bc bs pc : Nat} {lv : List (Nat × Value)} {s : S} {Q : Oc → S → Prop} {X name : String} (pre : List (Nat × Nat × Nat × Nat)) {suf : List (Nat × Nat × Nat × Nat)} {a b h t : Nat} (htab : M.2.2.2.2.2 = pre ++ (a, b, h, t) :: suf) (hpass : ∀ z ∈ pre, z.2.2.2 ≠ 0 ∧ ∃ nm, Cond.classLink M.1 z.2.2.2 nm ∈ gw ∧ (X, nm) ∈ ncl) (hcov : covers ⟨a, b, h, t⟩ pc = true) (ht : t ≠ 0) (hlk : Cond.classLink M.1 t name ∈ gw) (hcast : Cond.castable X name ∈ nwl) (kk : ∀ q, EW I l D cy base M d bc bs h lv [.ref q] s Q) : EWX I l D cy base M d bc bs pc lv X s Q := fun hp8 h8 => EX.catch htab hpass hcov ht hlk hcast (fun q => kk q hp8 h8)
end LAW1
