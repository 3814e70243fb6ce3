/-! Calls. MF: a method's own words; ML..: what a class file's place names a method. -/
def MF (M : Mth) : Prop := mcw M ∈ gw ∧ plainName M.2.2.1.cls = true ∧ (M.2.2.1.cls ≠ "java/lang/invoke/MethodHandle" ∧ M.2.2.1.cls ≠ "java/lang/invoke/VarHandle") ∧ Cond.initialized M.2.2.1.cls ∈ gw ∧ M.1 = M.2.2.1.cls ∧ M.2.2.2.1 ≤ 21
def ML (own : String) (idx : Nat) (M : Mth) : Prop := Cond.methodLink own idx M.2.2.1 ∈ gw
def MN (own : String) (idx : Nat) (M : Mth) : Prop := ∃ host, Cond.methodLinkNest own idx M.2.2.1 host ∈ nwl
def MV (M : Mth) (n : Nat) : Prop := Cond.instanceMethod M.2.2.1 ∈ gw ∧ Cond.selects M.2.2.1.cls M.2.2.1 M.2.2.1 ∈ gw ∧ (parseMethodDescriptor M.2.2.1.desc).map (fun d => d.parameters.length) = some n
def MS (M : Mth) (n : Nat) : Prop := Cond.static M.2.2.1 ∈ gw ∧ (parseMethodDescriptor M.2.2.1.desc).map (fun d => d.parameters.length) = some n
def MI (M : Mth) (n : Nat) : Prop := Cond.instanceMethod M.2.2.1 ∈ gw ∧ M.2.2.1.name = "<init>" ∧ M.2.2.2.2.1 = none ∧ (parseMethodDescriptor M.2.2.1.desc).map (fun d => d.parameters.length) = some n
theorem mws_good {M : Mth} (h : mcw M ∈ gw) : GoodIn gw (mws M) := fun w hw => (List.mem_cons.mp hw).elim (fun e => by rw [e]; exact gw_good _ h) (fun h => gw_good w h)
theorem mws_code {M : Mth} (h : M.2.2.2.2.2 = []) : mws M = Cond.code M.2.2.1 M.2.1 M.2.2.2.1 M.2.2.2.2.1 :: gw := by
  unfold mws mcw
  rw [h]
theorem mws_codeW {M : Mth} (h : M.2.2.2.2.2 ≠ []) : mws M = Cond.codeWith M.2.2.1 M.2.1 M.2.2.2.1 M.2.2.2.2.1 M.2.2.2.2.2 :: gw := by
  unfold mws mcw
  split
  · exact absurd (by assumption) h
  · rename_i h0 t0 e
    rw [e]
theorem PcA.blind {D : va_G} {cy : Nat → ClassId} {base : Nat} {As : List Value} {hp : Hp} : FrameBlind (PcA D cy base As hp) := by
  intro a U g mk ⟨e, hc, hh, hb⟩
  exact ⟨e, Cx.warm (U := U.calling g mk a) (State.WarmedH.refl U) hc, hh, hb⟩
section CALLS
variable {l : Launch} {D : va_G} {cy : Nat → ClassId} {base : Nat} {M : Mth} {d bc bs pc : Nat} {lv : List (Nat × Value)} {st : List Value} {hp : Hp} {Q : Oc → Hp → Prop}
/-- a body gives the call: methods without a table -/
theorem Mt.of {mc ms : Nat} {As : List Value} (hl : l.stackTraces = false) (mf : MF M) (h0 : M.2.2.2.2.2 = []) (hlen : (lg_sl As).length ≤ M.2.2.2.1) (k : E l D cy base M d mc ms 0 (lv_args 0 As) [] hp Q) : Mt l D cy base M d mc ms As hp Q := by
  refine vx_ofW (cc := M.2.1) (maxL := M.2.2.2.1) (ret := M.2.2.2.2.1) mf.2.1 (mws_code h0) ?_
  intro p e s m args below meth c s₁ B hml ht hv
  obtain ⟨rfl, hC, hH, hb⟩ := hv
  have hts := atoms_spec (ws := mws M) B.pre
  have hB : Bd l D cy base M p s m As.toArray meth c := ⟨B.exec, B.bytes, hml, by rw [mf.2.2.2.2.1]; exact findClass_of_methodNamed B.named, fun w hw => hts w (List.mem_cons_of_mem _ hw), B.returns, B.notSynchronized, by
    rw [h0]
    cases hx : c.exceptionTable.toList with
    | nil => rfl
    | cons x t => exact (ht x (by rw [hx]; exact List.mem_cons_self)).elim, hl, hC, hb, fun h => by rw [← h]; exact (name_of_methodNamed B.named B.method).1⟩
  have hlv := lv_entry As (n := M.2.2.2.1) hlen
  rw [lg_entry_eq]
  exact k p e s m As.toArray below meth c s.heap [] 0 0 mc ms _ hB hlv hH va_S.rf (by omega) (by omega)
/-- the same of methods with a table -/
theorem Mt.ofH {mc ms : Nat} {As : List Value} (hl : l.stackTraces = false) (mf : MF M) (h0 : M.2.2.2.2.2 ≠ []) (hlen : (lg_sl As).length ≤ M.2.2.2.1) (k : E l D cy base M d mc ms 0 (lv_args 0 As) [] hp Q) : Mt l D cy base M d mc ms As hp Q := by
  refine vx_ofWH (cc := M.2.1) (maxL := M.2.2.2.1) (ret := M.2.2.2.2.1) (hh := M.2.2.2.2.2) mf.2.1 (mws_codeW h0) ?_
  intro p e s m args below meth c s₁ B hml hv
  obtain ⟨rfl, hC, hH, hb⟩ := hv
  have hts := atoms_spec (ws := mws M) B.pre
  have hB : Bd l D cy base M p s m As.toArray meth c := ⟨B.exec, B.bytes, hml, by rw [mf.2.2.2.2.1]; exact findClass_of_methodNamed B.named, fun w hw => hts w (List.mem_cons_of_mem _ hw), B.returns, B.notSynchronized, by
    have hw := hts (Cond.codeWith M.2.2.1 M.2.1 M.2.2.2.1 M.2.2.2.2.1 M.2.2.2.2.2) (by rw [mws_codeW h0]; exact List.mem_cons_self)
    exact vx_table (x := M.2.2.1) B hw, hl, hC, hb, fun h => by rw [← h]; exact (name_of_methodNamed B.named B.method).1⟩
  have hlv := lv_entry As (n := M.2.2.2.1) hlen
  rw [lg_entry_eq]
  exact k p e s m As.toArray below meth c s.heap [] 0 0 mc ms _ hB hlv hH va_S.rf (by omega) (by omega)
theorem Mt.post {mc ms : Nat} {As : List Value} {Q' : Oc → Hp → Prop} (h : ∀ o hp, Q' o hp → Q o hp) (k : Mt l D cy base M d mc ms As hp Q') : Mt l D cy base M d mc ms As hp Q := by
  refine MetFree.mono k (fun _ _ hp => hp) (fun _ _ _ _ _ h => h) (fun a s o t _ hq => ?_)
  rcases hq with ⟨⟨v, hp', e1, hq, hr⟩, hF⟩ | ⟨q, e1, X, ce, L, ⟨hp', hq, hr⟩, hF⟩
  · exact Or.inl ⟨⟨v, hp', e1, h _ _ hq, hr⟩, hF⟩
  · exact Or.inr ⟨q, e1, X, ce, L, ⟨hp', h _ _ hq, hr⟩, hF⟩
/-- a call that doesn't throw, as the kit has it -/
theorem Mt.met {mc ms : Nat} {As : List Value} (hno : ∀ X hp, ¬ Q (.inr X) hp) (k : Mt l D cy base M d mc ms As hp Q) : Met l M.2.2.1 (mws M) (rmd d mc ms) (PcA D cy base As hp) (QcA D base Q) mc ms (Abv base) := by
  refine MetFree.mono k (fun _ _ hp => hp) (fun _ _ _ _ _ h => h) (fun a s o t _ hq => ?_)
  rcases hq with h | ⟨q, e1, X, ce, L, ⟨hp', hq, hr⟩, hF⟩
  · exact h
  · exact absurd hq (hno _ _)
/-- behind a run of a callee -/
theorem E.run {Q' : Oc → Hp → Prop} {mc' ms' : Nat} {rest : List Value}
    (hr : ∀ (p : Program) (e : Env) (s : State) (m : MethodId) (args : Array Value) (below : List Frame) (meth : Method) (c : Code) (H : Heap) (locs : List Loc) (cells slots mc ms : Nat) (ls : Array Slot), Bd l D cy base M p s m args meth c → lv_has ls M.2.2.2.1 lv → HpA D base hp H → va_S (Abv base) s.heap H locs → cells + mc' ≤ mc → slots + ms' ≤ ms → ∃ a9 : Array Value,
      vx_Run p l e (rmd d mc ms) s m args below meth c H locs cells slots mc' ms' (F0 m pc ls st) rest (QcA D base Q' a9) (XcA D base Q') (Abv base))
    (kk : ∀ v hp', Q' (.inl v) hp' → E l D cy base M d bc bs (pc + 3) lv (v.toList ++ rest) hp' Q) (kx : ∀ X hp', Q' (.inr X) hp' → EX l D cy base M d bc bs pc lv X hp' Q) : E l D cy base M d (bc + mc') (bs + ms') pc lv st hp Q := by
  intro p e s m args below meth c H locs cells slots mc ms ls B hv hH hS g1 g2 T hT X
  obtain ⟨a9, hr⟩ := hr p e s m args below meth c H locs cells slots mc ms ls B hv hH hS (by omega) (by omega)
  rcases hr T hT X with ⟨v, st₀, t, T', L, h0, X', hL, e1, e2, ⟨v', hp', ev, hq, hH', hF⟩, go⟩ | ⟨q, st₀, t, T', L, E9, ce, h0, X', hL, e1, e2, ⟨hp', hq, hH', hF⟩, hce, hcv, hcl, stp⟩
  · cases ev
    obtain ⟨k1, k2, k3⟩ := vx_keep (A0 := Abv base) (A1 := Abv base) (free := Abv base) h0 e1 hS (fun _ _ h => h) (fun _ h => h) hL hF
    obtain ⟨t2, a1, b1⟩ := kk _ hp' hq p e s m args below meth c T'.heap (locs ++ L) (cells + mc') (slots + ms') mc ms ls B hv (by rw [e1]; exact hH') k3 (by omega) (by omega) T' rfl X'
    exact ⟨t2, go t2 a1, b1⟩
  · obtain ⟨k1, k2, k3⟩ := vx_keep (A0 := Abv base) (A1 := Abv base) (free := Abv base) h0 e1 hS (fun _ _ h => h) (fun _ h => h) hL hF
    obtain ⟨t2, a1, b1⟩ := kx _ hp' hq p e s m args below meth c T'.heap (locs ++ L) (cells + mc') (slots + ms') mc ms ls rest q ce B hv (by rw [e1]; exact hH') k3 (by omega) (by omega) (by rw [e1]; exact hce) hcv hcl T' rfl X'
    exact ⟨t2, stp.trans a1, b1⟩
/-- behind a run of a callee that doesn't throw -/
theorem E.runN {Q' : Oc → Hp → Prop} {mc' ms' : Nat} {rest : List Value}
    (hr : ∀ (p : Program) (e : Env) (s : State) (m : MethodId) (args : Array Value) (below : List Frame) (meth : Method) (c : Code) (H : Heap) (locs : List Loc) (cells slots mc ms : Nat) (ls : Array Slot), Bd l D cy base M p s m args meth c → lv_has ls M.2.2.2.1 lv → HpA D base hp H → va_S (Abv base) s.heap H locs → cells + mc' ≤ mc → slots + ms' ≤ ms → ∃ a9 : Array Value,
      va_Run p l e (rmd d mc ms) s m args below meth c H locs cells slots mc' ms' (F0 m pc ls st) rest (QcA D base Q' a9) (Abv base))
    (kk : ∀ v hp', Q' (.inl v) hp' → E l D cy base M d bc bs (pc + 3) lv (v.toList ++ rest) hp' Q) : E l D cy base M d (bc + mc') (bs + ms') pc lv st hp Q := by
  intro p e s m args below meth c H locs cells slots mc ms ls B hv hH hS g1 g2 T hT X
  obtain ⟨a9, hr⟩ := hr p e s m args below meth c H locs cells slots mc ms ls B hv hH hS (by omega) (by omega)
  obtain ⟨v, st₀, t, T', L, h0, X', hL, e1, e2, ⟨v', hp', ev, hq, hH', hF⟩, go⟩ := hr T hT X
  cases ev
  obtain ⟨k1, k2, k3⟩ := vx_keep (A0 := Abv base) (A1 := Abv base) (free := Abv base) h0 e1 hS (fun _ _ h => h) (fun _ h => h) hL hF
  obtain ⟨t2, a1, b1⟩ := kk _ hp' hq p e s m args below meth c T'.heap (locs ++ L) (cells + mc') (slots + ms') mc ms ls B hv (by rw [e1]; exact hH') k3 (by omega) (by omega) T' rfl X'
  exact ⟨t2, go t2 a1, b1⟩
theorem Bd.pre {p : Program} {s : State} {m : MethodId} {args : Array Value} {meth : Method} {c : Code} {H : Heap} {locs : List Loc} {As : List Value} (B : Bd l D cy base M p s m args meth c) (hH : HpA D base hp H) (hS : va_S (Abv base) s.heap H locs) : ∀ U : State, U.heap = H → s.WarmedH U.vm → PcA D cy base As hp As.toArray U := by
  intro U hU hW
  refine ⟨rfl, ?_, by rw [hU]; exact hH, by rw [hU]; exact Nat.le_trans B.2.2.2.2.2.2.2.2.2.2.1 hS.1⟩
  rw [hU]
  exact Cx.warm hW (Cx.kept B.2.2.2.2.2.2.2.2.2.1 hS.2.1)
theorem callB_m {R : Room} {s : State} {args : Array Value} {M' : Mth} {idx d' mc' ms' n : Nat} {own : String} (hts : ∀ w ∈ gw, w.before args s = true) (mf : MF M') (h0 : M'.2.2.2.2.2 = []) (ml : ML own idx M') (hn : (parseMethodDescriptor M'.2.2.1.desc).map (fun d => d.parameters.length) = some n) (hR : d' + 1 ≤ R.frames ∧ 8 + (M'.2.2.2.1 + 11) + 40 * d' ≤ R.locals) : CallB R s args own idx M'.2.2.1 M'.2.1 M'.2.2.2.1 M'.2.2.2.2.1 (mws M') (rmd d' mc' ms') mc' ms' n :=
  callB_of n hts (mws_good mf.1) (mws_code h0) rfl rfl (hts _ mf.2.2.2.1) (hts _ ml) ⟨mf.2.2.1.1, mf.2.2.1.2, hn⟩ hR
/-- invokevirtual -/
theorem E.callV {M' : Mth} {idx d' mc' ms' n b ci : Nat} {As rest : List Value} {fs : List Value} {Q' : Oc → Hp → Prop} (hM : Mt l D cy base M' d' mc' ms' (.ref b :: As) hp Q') (mf : MF M') (h0 : M'.2.2.2.2.2 = []) (ml : ML M.1 idx M') (mv : MV M' n) (hd : d' < d) (hdg : decode M.2.1 pc = .ok (.invokevirtual idx, 3)) (hst : st = As.reverse ++ .ref b :: rest) (hn : As.length = n) (hb : hp b = some (.inr (ci, fs))) (hc : clx[ci]?.map (fun q => q.1) = some M'.2.2.1.cls) (hw : (rest.map fun v => v.category).sum ≤ 8)
    (kk : ∀ v hp', Q' (.inl v) hp' → E l D cy base M d bc bs (pc + 3) lv (v.toList ++ rest) hp' Q) (kx : ∀ X hp', Q' (.inr X) hp' → EX l D cy base M d bc bs pc lv X hp' Q) : E l D cy base M d (bc + mc') (bs + ms') pc lv st hp Q := by
  refine E.run (fun p e s m args below meth c H locs cells slots mc ms ls B hv hH hS g1 g2 => ⟨(Value.ref b :: As).toArray, ?_⟩) kk kx
  obtain ⟨L, f, q0, h1, hP, hD, h4, h5, he, he2⟩ := hH.get hb
  cases hx : clx[ci]? with
  | none => rw [hx] at hc; cases hc
  | some r =>
    rw [hx] at hc
    have hc : r.1 = M'.2.2.1.cls := Option.some.inj hc
    have hrc := va_recv B.2.2.2.2.2.2.2.2.2.1.1 hP hx he
    rw [hc] at hrc
    have hts := B.2.2.2.2.1
    refine vx_runV (As := As) (C := M'.2.2.1.cls) ⟨B.1, B.2.1, B.2.2.1, B.2.2.2.1, hts⟩ hM ⟨callB_m hts mf h0 ml mv.2.2 ⟨hd, ?_⟩, hts _ mv.1, hts _ mv.2.1⟩ ⟨PcA.blind, hrc, Bd.pre B hH hS⟩ rfl hn hv.1 hst (lv_room hw) hdg ⟨g1, g2⟩
    have := mf.2.2.2.2.2
    show 8 + (M'.2.2.2.1 + 11) + 40 * d' ≤ 40 * d
    omega
/-- invokestatic -/
theorem E.callS {M' : Mth} {idx d' mc' ms' n : Nat} {As rest : List Value} {Q' : Oc → Hp → Prop} (hM : Mt l D cy base M' d' mc' ms' As hp Q') (mf : MF M') (h0 : M'.2.2.2.2.2 = []) (ml : ML M.1 idx M') (mv : MS M' n) (hd : d' < d) (hdg : decode M.2.1 pc = .ok (.invokestatic idx, 3)) (hst : st = As.reverse ++ rest) (hn : As.length = n) (hw : (rest.map fun v => v.category).sum ≤ 8)
    (kk : ∀ v hp', Q' (.inl v) hp' → E l D cy base M d bc bs (pc + 3) lv (v.toList ++ rest) hp' Q) (kx : ∀ X hp', Q' (.inr X) hp' → EX l D cy base M d bc bs pc lv X hp' Q) : E l D cy base M d (bc + mc') (bs + ms') pc lv st hp Q := by
  refine E.run (fun p e s m args below meth c H locs cells slots mc ms ls B hv hH hS g1 g2 => ⟨As.toArray, ?_⟩) kk kx
  have hts := B.2.2.2.2.1
  refine vx_runS (As := As) ⟨B.1, B.2.1, B.2.2.1, B.2.2.2.1, hts⟩ hM ⟨callB_m hts mf h0 ml mv.2 ⟨hd, ?_⟩, hts _ mv.1⟩ ⟨PcA.blind, Bd.pre B hH hS⟩ rfl hn hv.1 hst (lv_room hw) hdg ⟨g1, g2⟩
  have := mf.2.2.2.2.2
  show 8 + (M'.2.2.2.1 + 11) + 40 * d' ≤ 40 * d
  omega
/-- invokestatic of a nest mate's private method -/
theorem E.callSN {M' : Mth} {idx d' mc' ms' n : Nat} {As rest : List Value} {Q' : Oc → Hp → Prop} (hM : Mt l D cy base M' d' mc' ms' As hp Q') (mf : MF M') (h0 : M'.2.2.2.2.2 = []) (ml : MN M.1 idx M') (mv : MS M' n) (hd : d' < d) (hdg : decode M.2.1 pc = .ok (.invokestatic idx, 3)) (hst : st = As.reverse ++ rest) (hn : As.length = n) (hw : (rest.map fun v => v.category).sum ≤ 8) (hno : ∀ X hp, ¬ Q' (.inr X) hp)
    (kk : ∀ v hp', Q' (.inl v) hp' → E l D cy base M d bc bs (pc + 3) lv (v.toList ++ rest) hp' Q) : E l D cy base M d (bc + mc') (bs + ms') pc lv st hp Q := by
  obtain ⟨host, ml⟩ := ml
  refine E.runN (fun p e s m args below meth c H locs cells slots mc ms ls B hv hH hS g1 g2 => ⟨As.toArray, ?_⟩) kk
  have hts := B.2.2.2.2.1
  refine va_runSN (As := As) (host := host) ⟨B.1, B.2.1, B.2.2.1, B.2.2.2.1, hts⟩ (hM.met hno) ⟨va_cnB n hts (mws_good mf.1) (mws_code h0) rfl rfl (B.2.2.2.2.2.2.2.2.2.1.2.1 _ ml) (hts _ mf.2.2.2.1) ⟨mf.2.2.1.1, mf.2.2.1.2, mv.2⟩ ⟨hd, ?_⟩, hts _ mv.1, trivial⟩ ⟨PcA.blind, Bd.pre B hH hS⟩ rfl hn hv.1 hst (lv_room hw) hdg ⟨g1, g2⟩
  have := mf.2.2.2.2.2
  show 8 + (M'.2.2.2.1 + 11) + 40 * d' ≤ 40 * d
  omega
/-- invokespecial of a constructor -/
theorem E.callI {M' : Mth} {idx d' mc' ms' n b : Nat} {As rest : List Value} {Q' : Oc → Hp → Prop} (hM : Mt l D cy base M' d' mc' ms' (.ref b :: As) hp Q') (mf : MF M') (h0 : M'.2.2.2.2.2 = []) (ml : ML M.1 idx M' ∨ MN M.1 idx M') (mv : MI M' n) (hd : d' < d) (hdg : decode M.2.1 pc = .ok (.invokespecial idx, 3)) (hst : st = As.reverse ++ .ref b :: rest) (hn : As.length = n) (hw : (rest.map fun v => v.category).sum ≤ 8) (hno : ∀ X hp, ¬ Q' (.inr X) hp)
    (kk : ∀ v hp', Q' (.inl v) hp' → E l D cy base M d bc bs (pc + 3) lv (v.toList ++ rest) hp' Q) : E l D cy base M d (bc + mc') (bs + ms') pc lv st hp Q := by
  refine E.runN (fun p e s m args below meth c H locs cells slots mc ms ls B hv hH hS g1 g2 => ⟨(Value.ref b :: As).toArray, ?_⟩) kk
  have hts := B.2.2.2.2.1
  have hR : d' + 1 ≤ (rmd d mc ms).frames ∧ 8 + (M'.2.2.2.1 + 11) + 40 * d' ≤ (rmd d mc ms).locals := by
    have := mf.2.2.2.2.2
    exact ⟨hd, show 8 + (M'.2.2.2.1 + 11) + 40 * d' ≤ 40 * d by omega⟩
  have hw9 : mws M' = Cond.code M'.2.2.1 M'.2.1 M'.2.2.2.1 none :: gw := by rw [mws_code h0, mv.2.2.1]
  rcases ml with ml | ⟨host, ml⟩
  · have hcb : CallB (rmd d mc ms) s args M.1 idx M'.2.2.1 M'.2.1 M'.2.2.2.1 none (mws M') (rmd d' mc' ms') mc' ms' n := callB_of n hts (mws_good mf.1) hw9 rfl rfl (hts _ mf.2.2.2.1) (hts _ ml) ⟨mf.2.2.1.1, mf.2.2.1.2, mv.2.2.2⟩ hR
    exact va_runI (As := As) ⟨B.1, B.2.1, B.2.2.1, B.2.2.2.1, hts⟩ (hM.met hno) ⟨hcb, mv.2.1, hts _ mv.1⟩ ⟨PcA.blind, Bd.pre B hH hS⟩ rfl hn hv.1 hst (lv_room hw) hdg ⟨g1, g2⟩
  · exact va_runIN (As := As) (host := host) ⟨B.1, B.2.1, B.2.2.1, B.2.2.2.1, hts⟩ (hM.met hno) ⟨va_cnB n hts (mws_good mf.1) hw9 rfl rfl (B.2.2.2.2.2.2.2.2.2.1.2.1 _ ml) (hts _ mf.2.2.2.1) ⟨mf.2.2.1.1, mf.2.2.1.2, mv.2.2.2⟩ hR, mv.2.1, hts _ mv.1⟩ ⟨PcA.blind, Bd.pre B hH hS⟩ rfl hn hv.1 hst (lv_room hw) hdg ⟨g1, g2⟩
/-- Object's constructor -/
theorem E.objInit {idx a : Nat} (hl : Cond.methodLink M.1 idx Lib.objectInit ∈ gw ∧ Cond.instanceMethod Lib.objectInit ∈ gw ∧ Cond.code Lib.objectInit ⟨#[0xb1]⟩ 1 none ∈ gw) (hd : 0 < d) (hdg : decode M.2.1 pc = .ok (.invokespecial idx, 3)) (hw : (st.map fun v => v.category).sum ≤ 8) (k : E l D cy base M d bc bs (pc + 3) lv st hp Q) : E l D cy base M d bc bs pc lv (.ref a :: st) hp Q := by
  intro p e s m args below meth c H locs cells slots mc ms ls B hv hH hS g1 g2
  have hts := B.2.2.2.2.1
  refine W.objInit B.1 B.2.1 B.2.2.2.1 (hts _ hl.1) (hts _ hl.2.1) (hts _ hl.2.2) rfl (by rw [B.2.2.1]; exact hv.1) rfl hdg hd ?_ (k p e s m args below meth c H locs cells slots mc ms ls B hv hH hS g1 g2)
  show 2 * 0 + (st.map fun v => v.category).sum + 12 ≤ 40 * d
  omega
/-- Math.min -/
theorem E.mmin {idx : Nat} {x y : Int32} (hl : Cond.methodLink M.1 idx Lib.Math.min.name ∈ gw ∧ Cond.static Lib.Math.min.name ∈ gw ∧ Cond.initialized "java/lang/Math" ∈ gw ∧ Cond.code Lib.Math.min.name Lib.Math.min.code 2 (some .int) ∈ gw) (hd : 0 < d) (hdg : decode M.2.1 pc = .ok (.invokestatic idx, 3)) (hw : (st.map fun v => v.category).sum ≤ 8) (k : E l D cy base M d bc bs (pc + 3) lv (.int (if y < x then y else x) :: st) hp Q) : E l D cy base M d bc bs pc lv (.int y :: .int x :: st) hp Q := by
  intro p e s m args below meth c H locs cells slots mc ms ls B hv hH hS g1 g2
  have hts := B.2.2.2.2.1
  exact va_mmin (R := rmd d mc ms) B.1 B.2.1 (by rw [B.2.2.1]; exact hv.1.symm) B.2.2.2.1 (hts _ hl.1) (hts _ hl.2.1) (hts _ hl.2.2.1) (hts _ hl.2.2.2) (show 1 ≤ d from hd) (show (st.map fun v => v.category).sum + 13 ≤ 40 * d by omega) (show cells ≤ mc by omega) (show slots ≤ ms by omega) hdg (k p e s m args below meth c H locs cells slots mc ms ls B hv hH hS g1 g2)
/-- an exception that nobody here catches leaves the method -/
theorem EX.out {X : String} (h0 : M.2.2.2.2.2 = []) (hq : Q (.inr X) hp) : EX l D cy base M d bc bs pc lv X hp Q := by
  intro p e s m args below meth c H locs cells slots mc ms ls rest q ce B hv hH hS g1 g2 h1 h2 h3
  refine vx_out (by rw [B.2.2.2.2.2.2.2.1, h0]; intro x hx; cases hx) B.2.2.2.2.2.2.1 h1 h2 h3 (fun t ht _ => ⟨hp, hq, by rw [ht]; exact hH, hS.F ht⟩) hS.2.2 (by omega) (by omega)
/-- throw new X("text") -/
theorem E.throwS {cls text : String} {ik is ic : Nat} (h0 : M.2.2.2.2.2 = []) (hcls : Bundle.fit cls = true) (hk : Cond.classLink M.1 ik cls ∈ gw) (hini : Cond.initialized cls ∈ gw) (hstr : (M.1, is, text) ∈ strl)
    (hat1 : ∀ w ∈ (vx_atS M.1 ic cls ["java/lang/RuntimeException", "java/lang/Exception"]).filter goodWord, w ∈ gw) (hat2 : ∀ w ∈ (vx_atS M.1 ic cls ["java/lang/RuntimeException", "java/lang/Exception"]).filter (fun w => !goodWord w), w ∈ nwl ∧ w.onTables = true)
    (hgood : ∀ w ∈ Cond.classLink M.1 ik cls :: Cond.initialized cls :: vx_atS M.1 ic cls ["java/lang/RuntimeException", "java/lang/Exception"], vx_ot w = true)
    (d0 : decode M.2.1 pc = .ok (.new ik, 3)) (d3 : decode M.2.1 (pc + 3) = .ok (.dup, 1)) (d4 : decode M.2.1 (pc + 4) = .ok (.ldc is, 2)) (d6 : decode M.2.1 (pc + 6) = .ok (.invokespecial ic, 3)) (d9 : decode M.2.1 (pc + 9) = .ok (.athrow, 1))
    (hd : 8 ≤ d) (hw : (st.map fun v => v.category).sum ≤ 8) (hq : Q (.inr cls) hp) : E l D cy base M d (bc + 1) (bs + 6) pc lv st hp Q := by
  intro p e s m args below meth c H locs cells slots mc ms ls B hv hH hS g1 g2
  have hts := B.2.2.2.2.1
  have hC := B.2.2.2.2.2.2.2.2.2.1
  obtain ⟨sa, hsa⟩ := hC.2.2.1 _ hstr
  refine vx_throwS (names := ["java/lang/RuntimeException", "java/lang/Exception"]) B.1 B.2.1 B.2.2.2.2.2.2.2.2.1 B.2.2.2.1 hcls (by decide +kernel) (hts _ hk) (hts _ hini) hsa
    (vx_hat (fun w hw => hts w (hat1 w hw)) (fun w hw => hw) (fun w hw => va_Nw.use (hat2 w hw).2 (hC.2.1 _ (hat2 w hw).1))) hgood hC.2.2.2.2.1 hC.2.2.2.2.2.1 hS (by rw [B.2.2.1]; exact hv.1) d0 d3 d4 d6 d9
    (by rw [B.2.2.2.2.2.2.2.1, h0]; intro x hx; cases hx) ?_ ?_ (show cells + 1 ≤ mc by omega) (show slots + 6 ≤ ms by omega) B.2.2.2.2.2.2.1 (fun t _ hz ho => ?_) hS.2.2 (by omega) (by omega)
  · show 2 + 3 < d
    omega
  · show (st.map fun v => v.category).sum + (13 * (2 + 1) + 43) ≤ 40 * d
    omega
  · obtain ⟨L, f, h1, hP, hD⟩ := hH
    exact ⟨hp, hq, ⟨L, f, h1, hP.kept (fun k q hk => ho q.1 ((hP k q hk).lt)), hD⟩, Nat.le_trans hS.1 hz, fun q g3 g4 => by rw [ho q (Nat.lt_of_lt_of_le g3 hS.1)]; exact hS.2.1 q g3 g4⟩
end CALLS
