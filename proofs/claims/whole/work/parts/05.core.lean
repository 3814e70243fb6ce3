/-! The judgement of this proof: E M d bc bs pc lv st hp Q: the method M, with d frames and bc cells of bs slots still free to it, stands at pc with the locals lv, the stack st and the heap hp (an address gives what its cell is, if it is ours); it comes to an end of which Q holds. Mt: the same of a whole call. Rows turn a goal at an instruction into one at the next. -/
abbrev Mth : Type := String × ByteArray × MethodName × Nat × Option FieldType × List (Nat × Nat × Nat × Nat)
/-- how a call ends: with a value or none, or by an exception of the class named -/
abbrev Oc : Type := Option Value ⊕ String
abbrev Hp : Type := Nat → Option va_E
def gw : List Cond := lw_tbl.filter goodWord
theorem gw_of {w : Cond} (h : w ∈ lw_tbl) (hg : goodWord w = true) : w ∈ gw := List.mem_filter.mpr ⟨h, hg⟩
theorem gw_t {w : Cond} (i : Nat) (h : tables_1[i]? = some w) (hg : goodWord w = true) : w ∈ gw := gw_of (List.mem_append_right _ (List.mem_of_getElem? h)) hg
theorem gw_s {w : Cond} (i : Nat) (h : (k2_sels lw_privs)[i]? = some w) (hg : goodWord w = true) : w ∈ gw := gw_of (List.mem_append_left _ (List.mem_of_getElem? h)) hg
theorem gw_good : GoodIn gw gw := fun w h => ⟨h, good_of_word (List.mem_filter.mp h).2⟩
def mcw (M : Mth) : Cond := match M.2.2.2.2.2 with
  | [] => .code M.2.2.1 M.2.1 M.2.2.2.1 M.2.2.2.2.1
  | h :: t => .codeWith M.2.2.1 M.2.1 M.2.2.2.1 M.2.2.2.2.1 (h :: t)
def mws (M : Mth) : List Cond := mcw M :: gw
/-- the classes of our objects -/
abbrev clx : List vw_C := [(RX0, TX0, 2), (RX1, TX1, 2), (RX2, TX2, 2), (RX3, TX3, 5), (RX4, TX4, 3), (RX5, TX5, 8), (RX6, TX6, 4), (RX7, TX7, 2), (RX8, TX8, 7), (RX9, TX9, 43)]
abbrev tyx (cy : Nat → ClassId) : List (ClassId × FieldType) := [(cy 0, .byte), (cy 1, .char), (cy 2, .int), (cy 3, .boolean), (cy 4, .long), (cy 5, .object "ChoiceParser$Expression"), (cy 6, .array .int)]
def Abv (base : Nat) : Nat → Prop := fun q => base ≤ q
/-- the heap holds what hp says -/
def HpA (D : va_G) (base : Nat) (hp : Hp) (H : Heap) : Prop := ∃ (L : List Nat) (f : Nat → va_E), (∀ a c, hp a = some c → a ∈ L ∧ f a = c) ∧ va_P D clx (va_pl L f) H ∧ va_D (Abv base) (va_pl L f)
def sgB : List Int32 := [61, 47, 38, 33, 42, 43, 63, 46, 91, 45, 93, 40, 41]
def strl : List (String × Nat × String) := [("ChoiceParser", 108, "it is no letter"), ("ChoiceParser", 113, "the input is full"), ("ChoiceParser", 119, "there is no such rule, or it has no expression"), ("ChoiceParser", 125, "a rule that stands in one has no expression"), ("ChoiceParser", 141, "there is no such place"), ("ChoiceParser", 143, "the grammar is not sound"), ("ChoiceParser", 159, "there is no such rule or place"), ("ChoiceParser", 170, "there is no such node or what"), ("ChoiceParser", 183, "none of the counts"), ("ChoiceParser", 94, "there is no such rule"), ("ChoiceParser$Matcher", 46, "a rule would have to be worked out too deep")]
/-- the text of the signs, and that texts are held in bytes -/
def SgA (cy : Nat → ClassId) (base : Nat) (U : State) (H : Heap) : Prop := vk_R "ChoiceParser" 189 "=/&!*+?.[-]()" (cy 1000) U ∧ va_O "java/lang/String" (cy 1000) (Abv base) U H ∧ va_OF "java/lang/String" "coder" "B" (.int 0) (cy 1000) (Abv base) U H ∧ va_OF "java/lang/String" "value" "[B" (.ref (cy 1001)) (cy 1000) (Abv base) U H ∧ va_T .byte (cy 1001) 13 (fun j => .int (sgB.getD j 0)) (Abv base) U H ∧ va_Z "java/lang/String" "COMPACT_STRINGS" "Z" (.int 1) (Abv base) U H
def nwl : List Cond := lw_tbl.filter (fun w => match w with
  | .fieldLinkNest .. => true
  | .methodLinkNest .. => true
  | .castable .. => true
  | .declares .. => true
  | _ => false)
/-- exceptions that a catch of the other doesn't take -/
def ncl : List (String × String) := [("java/lang/IllegalStateException", "java/lang/IllegalArgumentException"), ("java/lang/IllegalStateException", "java/util/NoSuchElementException"), ("java/lang/IllegalArgumentException", "java/util/NoSuchElementException")]
/-- the class of arrays of int arrays is there -/
def AOI (U : State) : Prop := (Cond.arrayOver (.array .int)).before #[] U = true
theorem AOI.moved {u U : State} (hvm : u.vm.Alike U.vm) (h : AOI u) : AOI U := by
  unfold AOI Cond.before Cond.holds at h ⊢
  simp only [Cond.value, beq_iff_eq] at h ⊢
  cases hx : u.vm.findClass (FieldType.array .int).toString with
  | none => simp [hx] at h
  | some comp =>
    simp only [hx, Option.bind_some, Option.bind_eq_some_iff, Option.map_eq_some_iff] at h
    obtain ⟨c, hi, k, hk, hb⟩ := h
    obtain ⟨k', hk', he⟩ := hvm.2.2 _ _ hk
    have hkd : k'.kind = k.kind := by rw [he]
    have hx' : U.vm.findClass (FieldType.array .int).toString = some comp := by rw [hvm.findClass]; exact hx
    have hi2 : (U.vm.classes.findIdx? fun (x : Class) => match x.kind with | .array component _ => component == comp | _ => false) = some c := by
      refine (va_idx_bare U.vm comp).symm.trans ?_
      first | rw [hvm.bare_eq] | rw [← hvm.bare_eq]
      exact (va_idx_bare u.vm comp).trans hi
    simp only [hx', Option.bind_some, Option.bind_eq_some_iff, Option.map_eq_some_iff]
    exact ⟨c, hi2, k', hk', by rw [hkd, hvm.findClass]; exact hb⟩
/-- all that stays as it is while the law runs -/
def Cx (D : va_G) (cy : Nat → ClassId) (base : Nat) (U : State) (H : Heap) : Prop :=
  va_K D clx (tyx cy) U ∧ (∀ w ∈ nwl, va_Nw w U) ∧ (∀ q ∈ strl, ∃ sa, vk_R q.1 q.2.1 q.2.2 sa U) ∧ va_AO "ChoiceParser$Expression" U ∧ vx_Zq Bundle.tN "UNASSIGNED_STACK" Bundle.steD (Abv base) U H ∧ vx_Zq Bundle.tN "SUPPRESSED_SENTINEL" Bundle.listD (Abv base) U H ∧ SgA cy base U H ∧ (∀ q ∈ ncl, va_Nc q.1 q.2 U) ∧ AOI U ∧ va_X (cy 1002) (cy 1003) (fun j => nI (cy (2000 + j))) U H ∧ ¬ Abv base (cy 1002)
theorem nwl_warm {s U : State} (hW : s.WarmedH U.vm) (h : ∀ w ∈ nwl, va_Nw w s) : ∀ w ∈ nwl, va_Nw w U := by
  intro w hw
  have h1 := h w hw
  have h2 := (List.mem_filter.mp hw).2
  cases w <;> first | exact va_Nw.warmF hW h1 | exact va_Nw.warmM hW h1 | exact va_Nw.warmC hW h1 | exact va_Nw.warmD hW h1 | exact absurd h2 Bool.false_ne_true
theorem SgA.warm {cy : Nat → ClassId} {base : Nat} {s U : State} {H : Heap} (hW : s.WarmedH U.vm) (h : SgA cy base s H) : SgA cy base U H := by
  obtain ⟨h1, h2, h3, h4, h5, h6⟩ := h
  exact ⟨vk_R.warm hW h1, va_O.moved hW.alike h2, va_OF.moved hW.alike h3, va_OF.moved hW.alike h4, va_T.moved hW.alike h5, va_Z.moved hW.alike h6⟩
theorem SgA.kept {cy : Nat → ClassId} {base : Nat} {U : State} {H H1 : Heap} (h : SgA cy base U H) (hq : ∀ a : Nat, a < H.size → ¬ Abv base a → H1[a]? = H[a]?) : SgA cy base U H1 := by
  obtain ⟨h1, h2, h3, h4, h5, h6⟩ := h
  exact ⟨h1, h2.kept hq, h3.kept hq, h4.kept hq, h5.kept hq, h6.kept hq⟩
theorem Cx.warm {D : va_G} {cy : Nat → ClassId} {base : Nat} {s U : State} {H : Heap} (hW : s.WarmedH U.vm) (h : Cx D cy base s H) : Cx D cy base U H :=
  ⟨va_K.moved hW.alike h.1, nwl_warm hW h.2.1, fun q hq => (h.2.2.1 q hq).elim (fun sa hs => ⟨sa, vk_R.warm hW hs⟩), va_AO.moved hW.alike h.2.2.2.1, vx_Zq.moved hW.alike h.2.2.2.2.1, vx_Zq.moved hW.alike h.2.2.2.2.2.1, SgA.warm hW h.2.2.2.2.2.2.1, fun q hq => va_Nc.moved hW.alike (h.2.2.2.2.2.2.2.1 q hq), AOI.moved hW.alike h.2.2.2.2.2.2.2.2.1, va_X.moved hW.alike h.2.2.2.2.2.2.2.2.2.1, h.2.2.2.2.2.2.2.2.2.2⟩
theorem Cx.kept {D : va_G} {cy : Nat → ClassId} {base : Nat} {U : State} {H H1 : Heap} (h : Cx D cy base U H) (hq : ∀ a : Nat, a < H.size → ¬ Abv base a → H1[a]? = H[a]?) : Cx D cy base U H1 :=
  ⟨h.1, h.2.1, h.2.2.1, h.2.2.2.1, vx_Zq.kept h.2.2.2.2.1 hq, vx_Zq.kept h.2.2.2.2.2.1 hq, SgA.kept h.2.2.2.2.2.2.1 hq, h.2.2.2.2.2.2.2.1, h.2.2.2.2.2.2.2.2.1, va_X.kept h.2.2.2.2.2.2.2.2.2.1 (hq _ (by obtain ⟨scr, g, -⟩ := h.2.2.2.2.2.2.2.2.2.1; exact (Array.getElem?_eq_some_iff.mp g).1) h.2.2.2.2.2.2.2.2.2.2), h.2.2.2.2.2.2.2.2.2.2⟩
/-- the room of a method with d frames -/
def rmd (d mc ms : Nat) : Room := { frames := d, cells := mc, slots := ms, locals := 40 * d }
def PcA (D : va_G) (cy : Nat → ClassId) (base : Nat) (As : List Value) (hp : Hp) : Array Value → State → Prop := va_Pc As (fun U => Cx D cy base U U.heap ∧ HpA D base hp U.heap ∧ base ≤ U.heap.size)
def QcA (D : va_G) (base : Nat) (Q : Oc → Hp → Prop) : Array Value → State → Outcome → State → Prop := fun _ st o t => ∃ (v : Option Value) (hp : Hp), o = .returned v ∧ Q (.inl v) hp ∧ HpA D base hp t.heap ∧ va_F (Abv base) st t
def XcA (D : va_G) (base : Nat) (Q : Oc → Hp → Prop) : String → State → State → Prop := fun E st t => ∃ hp : Hp, Q (.inr E) hp ∧ HpA D base hp t.heap ∧ va_F (Abv base) st t
/-- a call of M with the arguments As, over the heap hp, ends as Q says -/
def Mt (l : Launch) (D : va_G) (cy : Nat → ClassId) (base : Nat) (M : Mth) (d mc ms : Nat) (As : List Value) (hp : Hp) (Q : Oc → Hp → Prop) : Prop :=
  vx_Met l M.2.2.1 (mws M) (rmd d mc ms) (PcA D cy base As hp) (QcA D base Q) (XcA D base Q) mc ms (Abv base)
/-- what a walk of M's body knows of the machine -/
def Bd (l : Launch) (D : va_G) (cy : Nat → ClassId) (base : Nat) (M : Mth) (p : Program) (s : State) (m : MethodId) (args : Array Value) (meth : Method) (c : Code) : Prop :=
  p.tables.exec = Jvm.exec ∧ c.code = M.2.1 ∧ c.maxLocals = M.2.2.2.1 ∧ s.vm.findClass M.1 = some m.cls ∧ (∀ w ∈ gw, w.before args s = true) ∧ meth.sig.returnType = M.2.2.2.2.1 ∧ meth.locks = false ∧ c.exceptionTable.toList = tableOf M.2.2.2.2.2 ∧ l.stackTraces = false ∧ Cx D cy base s s.heap ∧ base ≤ s.heap.size ∧ (M.2.2.1.name = "<init>" → meth.name = "<init>")
def E (l : Launch) (D : va_G) (cy : Nat → ClassId) (base : Nat) (M : Mth) (d bc bs : Nat) (pc : Nat) (lv : List (Nat × Value)) (st : List Value) (hp : Hp) (Q : Oc → Hp → Prop) : Prop :=
  ∀ (p : Program) (e : Env) (s : State) (m : MethodId) (args : Array Value) (below : List Frame) (meth : Method) (c : Code) (H : Heap) (locs : List Loc) (cells slots mc ms : Nat) (ls : Array Slot),
    Bd l D cy base M p s m args meth c → lv_has ls M.2.2.2.1 lv → HpA D base hp H → va_S (Abv base) s.heap H locs → cells + bc ≤ mc → slots + bs ≤ ms →
    W p l e (rmd d mc ms) s m args below meth c H locs cells slots (vx_MQ below (QcA D base Q) (XcA D base Q) args s mc ms (Abv base)) (F0 m pc ls st)
/-- the exception q, of class X, on its way out of the instruction at pc -/
def EX (l : Launch) (D : va_G) (cy : Nat → ClassId) (base : Nat) (M : Mth) (d bc bs : Nat) (pc : Nat) (lv : List (Nat × Value)) (X : String) (hp : Hp) (Q : Oc → Hp → Prop) : Prop :=
  ∀ (p : Program) (e : Env) (s : State) (m : MethodId) (args : Array Value) (below : List Frame) (meth : Method) (c : Code) (H : Heap) (locs : List Loc) (cells slots mc ms : Nat) (ls : Array Slot) (rest : List Value) (q : Nat) (ce : Cell),
    Bd l D cy base M p s m args meth c → lv_has ls M.2.2.2.1 lv → HpA D base hp H → va_S (Abv base) s.heap H locs → cells + bc ≤ mc → slots + bs ≤ ms → H[q]? = some ce → ce.vm = .none → s.vm.findClass X = some ce.cls →
    vx_W p l e (rmd d mc ms) s m args below meth c H locs cells slots (vx_MQ below (QcA D base Q) (XcA D base Q) args s mc ms (Abv base)) (F0 m pc ls rest) q
theorem HpA.get {D : va_G} {base : Nat} {hp : Hp} {H : Heap} (h : HpA D base hp H) {a : Nat} {c : va_E} (ha : hp a = some c) : ∃ (L : List Nat) (f : Nat → va_E) (k : Nat), (∀ a c, hp a = some c → a ∈ L ∧ f a = c) ∧ va_P D clx (va_pl L f) H ∧ va_D (Abv base) (va_pl L f) ∧ a ∈ L ∧ f a = c ∧ (va_pl L f)[k]? = some (a, c) ∧ (va_pl L f)[k]? = some (a, f a) := by
  obtain ⟨L, f, h1, h2, h3⟩ := h
  obtain ⟨h4, h5⟩ := h1 a c ha
  obtain ⟨k, hk⟩ := va_pl_get (X := []) (f := f) h4
  have hk : (va_pl L f)[k]? = some (a, f a) := hk
  exact ⟨L, f, k, h1, h2, h3, h4, h5, by rw [← h5]; exact hk, hk⟩
theorem HpA.set {D : va_G} {base : Nat} {hp : Hp} {H1 : Heap} {L : List Nat} {f : Nat → va_E} {a k : Nat} {c : va_E} (h : ∀ a c, hp a = some c → a ∈ L ∧ f a = c) (hD0 : va_D (Abv base) (va_pl L f)) (ha : a ∈ L) (hk : (va_pl L f)[k]? = some (a, f a)) (hP : va_P D clx ((va_pl L f).set k (a, c)) H1) (hD : va_D (Abv base) ((va_pl L f).set k (a, c))) : HpA D base (va_up hp a (some c)) H1 := by
  have e := va_pl_set (X := []) (e := c) hD0 ha hk
  have e : (va_pl L f).set k (a, c) = va_pl L (va_up f a c) := e
  rw [e] at hP hD
  refine ⟨L, va_up f a c, fun b c' hb => ?_, hP, hD⟩
  by_cases hba : b = a
  · subst hba
    rw [va_up_self] at hb ⊢
    exact ⟨ha, Option.some.inj hb⟩
  · rw [va_up_ne _ _ hba] at hb ⊢
    exact h b c' hb
theorem HpA.new {D : va_G} {base : Nat} {hp : Hp} {H1 : Heap} {L : List Nat} {f : Nat → va_E} {q : Nat} {c : va_E} (h : ∀ a c, hp a = some c → a ∈ L ∧ f a = c) (hP : va_P D clx (va_pl L f ++ [(q, c)]) H1) (hD : va_D (Abv base) (va_pl L f ++ [(q, c)])) : hp q = none ∧ HpA D base (va_up hp q (some c)) H1 := by
  have hq : q ∉ L := va_pl_fresh2 (X := []) hD
  have e := va_pl_push (f := f) (e := c) hq
  rw [e] at hP hD
  refine ⟨?_, L ++ [q], va_up f q c, fun b c' hb => ?_, hP, hD⟩
  · cases hx : hp q with
    | none => rfl
    | some c' => exact absurd (h q c' hx).1 hq
  · by_cases hba : b = q
    · subst hba
      rw [va_up_self] at hb ⊢
      exact ⟨List.mem_append_right _ (List.mem_singleton.mpr rfl), Option.some.inj hb⟩
    · rw [va_up_ne _ _ hba] at hb ⊢
      exact ⟨List.mem_append_left _ (h b c' hb).1, (h b c' hb).2⟩
section CORE
variable {l : Launch} {D : va_G} {cy : Nat → ClassId} {base : Nat} {M : Mth} {d bc bs pc : Nat} {lv : List (Nat × Value)} {st : List Value} {hp : Hp} {Q : Oc → Hp → Prop}
/-- fewer locals -/
theorem E.sub {lv' : List (Nat × Value)} (hl : ∀ q ∈ lv', q ∈ lv) (k : E l D cy base M d bc bs pc lv' st hp Q) : E l D cy base M d bc bs pc lv st hp Q :=
  fun p e s m args below meth c H locs cells slots mc ms ls B hv hH hS h1 h2 => k p e s m args below meth c H locs cells slots mc ms ls B ⟨hv.1, hv.2.1, fun q hq => hv.2.2 q (hl q hq)⟩ hH hS h1 h2
/-- more room than is wanted -/
theorem E.more {bc' bs' : Nat} (h1 : bc' ≤ bc) (h2 : bs' ≤ bs) (k : E l D cy base M d bc' bs' pc lv st hp Q) : E l D cy base M d bc bs pc lv st hp Q :=
  fun p e s m args below meth c H locs cells slots mc ms ls B hv hH hS g1 g2 => k p e s m args below meth c H locs cells slots mc ms ls B hv hH hS (by omega) (by omega)
theorem E.post {Q' : Oc → Hp → Prop} (h : ∀ o hp, Q' o hp → Q o hp) (k : E l D cy base M d bc bs pc lv st hp Q') : E l D cy base M d bc bs pc lv st hp Q := by
  intro p e s m args below meth c H locs cells slots mc ms ls B hv hH hS g1 g2 T hT X
  obtain ⟨t, a1, o, b1, b2, b3⟩ := k p e s m args below meth c H locs cells slots mc ms ls B hv hH hS g1 g2 T hT X
  refine ⟨t, a1, o, b1, b2, ?_⟩
  rcases b3 with ⟨⟨v, hp', e1, hq, hr⟩, hF⟩ | ⟨q, e1, X, ce, L, ⟨hp', hq, hr⟩, hF⟩
  · exact Or.inl ⟨⟨v, hp', e1, h _ _ hq, hr⟩, hF⟩
  · exact Or.inr ⟨q, e1, X, ce, L, ⟨hp', h _ _ hq, hr⟩, hF⟩
end CORE
