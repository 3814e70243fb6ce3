def yAt (own : String) (ic : Nat) (X : String) (ix : Nat) (rx : ByteArray) (Y : String) (r : List String) : List Cond := (yAll own ic X ix rx Y r).filter vx_no
section NSE2
variable {y : MethodName} {bytes cc : ByteArray} {maxL nL mc ms n index : Nat} {ret : Option FieldType} {ws : List Cond} {rm : Room} {Pc : Array Value → State → Prop} {Qc : Array Value → State → Outcome → State → Prop} {XC : String → State → State → Prop} {free : Addr → Prop} {Ts : List Cond} {own C : String} {b : Addr} {As rest : List Value} {g : JFrame}
variable {p : Program} {l : Launch} {e : Env} {R : Room} {s : State} {m : MethodId} {args : Array Value} {below : List Frame} {meth : Method} {c : Code} {H : Heap} {locs : List Loc} {cells slots : Nat} {Q : State → Prop}
variable {mc ms : Nat} {free : Addr → Prop} {A0 A1 : Nat → Prop} {H0 : Heap} {a : Array Value} {pc : Nat} {ls : Array Slot} {st0 rest : List Value}
variable {p : Program} {l : Launch} {e : Env} {R : Room} {s : State} {m : MethodId} {args : Array Value} {below : List Frame} {meth : Method} {c : Code} {H : Heap} {locs : List Loc} {cells slots : Nat} {Q : State → Prop}
variable {mc ms : Nat} {free : Addr → Prop} {A0 A1 : Nat → Prop} {H0 : Heap} {a : Array Value} {ls : Array Slot} {st0 rest : List Value}
variable {Qc : Array Value → State → Outcome → State → Prop} {XC : String → State → State → Prop}
theorem y_throwS {cc : ByteArray} {pc : Nat} (hexec : p.tables.exec = Jvm.exec) (hb : c.code = cc) (hl : l.stackTraces = false) {own cls text : String} {Y0 : String} {r0 : List String} {ix : Nat} {rx : ByteArray} {ik is ic mc ms sa : Nat} {A : Nat → Prop}
    (hown : s.vm.findClass own = some m.cls) (hcls : Bundle.fit cls = true) (hnames : ∀ n ∈ Y0 :: r0, Bundle.fit n = true) (x0 : decode rx 0 = .ok (.aload_n 0, 1)) (x1 : decode rx 1 = .ok (.aload_n 1, 1)) (x2 : decode rx 2 = .ok (.invokespecial ix, 3)) (x5 : decode rx 5 = .ok (.return_, 1))
    (hk : (Cond.classLink own ik cls).before args s = true) (hini : (Cond.initialized cls).before args s = true) (hstr : vk_R own is text sa s) (hat : ∀ w ∈ yAt own ic cls ix rx Y0 r0, w.before args s = true)
    (hgood : ∀ w ∈ Cond.classLink own ik cls :: Cond.initialized cls :: yAt own ic cls ix rx Y0 r0, vx_ot w = true)
    (hU : vx_Zq Bundle.tN "UNASSIGNED_STACK" Bundle.steD A s s.heap) (hN : vx_Zq Bundle.tN "SUPPRESSED_SENTINEL" Bundle.listD A s s.heap) (hS : va_S A s.heap H locs) (hsize : ls.size = c.maxLocals)
    (d0 : decode cc pc = .ok (.new ik, 3)) (d3 : decode cc (pc + 3) = .ok (.dup, 1)) (d4 : decode cc (pc + 4) = .ok (.ldc is, 2)) (d6 : decode cc (pc + 6) = .ok (.invokespecial ic, 3)) (d9 : decode cc (pc + 9) = .ok (.athrow, 1))
    (hout : ∀ x ∈ c.exceptionTable.toList, covers x (pc + 9) = false)
    (hRframes : (Y0 :: r0).length + 3 < R.frames) (hRlocals : (rest.map fun v => v.category).sum + (13 * ((Y0 :: r0).length + 1) + 43) ≤ R.locals) (hRcells : cells + 1 ≤ R.cells) (hRslots : slots + 6 ≤ R.slots) (hlocks : meth.locks = false)
    (hx : ∀ t : State, s.vm.Alike t.vm → H.size ≤ t.heap.size → (∀ q : Nat, q < H.size → t.heap[q]? = H[q]?) → XC cls s t)
    (hf : ∀ z ∈ locs, free z.base) (hc : cells + 1 ≤ mc) (hs : slots + 6 ≤ ms) :
    W p l e R s m args below meth c H locs cells slots (vx_MQ below Qc XC args s mc ms free) (F0 m pc ls rest) := by
  intro T hT X
  have htr : e.platform.stackTraces = false := (show e.platform.stackTraces = l.stackTraces by rw [X.admits.platform]).trans hl
  have Y := vx_rebase X (R' := { frames := R.frames, locals := R.locals, cells := 1, slots := 6 }) (Nat.le_refl _) (Nat.le_refl _) hRcells hRslots
  obtain ⟨s', hA⟩ : ∃ z, z = (T.setVm s.vm).setFrames (.invoking m args :: below) := ⟨_, rfl⟩
  rw [← hA] at Y
  have hvm : s'.vm = s.vm := by rw [hA]; rfl
  have hhp : s'.heap = H := by rw [hA]; exact hT
  have hW0 : s.WarmedH s'.vm := by rw [hvm]; exact State.WarmedH.refl s
  have hat' : ∀ w ∈ yAt own ic cls ix rx Y0 r0, w.before args s' = true := fun w hw => vx_ot_at hW0 hvm.symm (hgood w (List.mem_cons_of_mem _ (List.mem_cons_of_mem _ hw))) (hat w hw)
  have hk' : (Cond.classLink own ik cls).before args s' = true := vx_ot_at hW0 hvm.symm (hgood _ List.mem_cons_self) hk
  have hini' : (Cond.initialized cls).before args s' = true := vx_ot_at hW0 hvm.symm (hgood _ (List.mem_cons_of_mem _ List.mem_cons_self)) hini
  have hU' : vx_Zq Bundle.tN "UNASSIGNED_STACK" Bundle.steD A s' s'.heap := by rw [hhp]; exact vx_Zq.moved hW0.alike (hU.kept hS.2.1)
  have hN' : vx_Zq Bundle.tN "SUPPRESSED_SENTINEL" Bundle.listD A s' s'.heap := by rw [hhp]; exact vx_Zq.moved hW0.alike (hN.kept hS.2.1)
  have h : ∀ w ∈ yAll own ic cls ix rx Y0 r0, w.before args s' = true := vx_own hat' (vx_isRefq hU'.1) (vx_isRefq hN'.1) hU'.2.word hN'.2.word
  have hown' : s'.vm.findClass own = some m.cls := by rw [hvm]; exact hown
  have hins : (Cond.instantiable cls 6).before args s' = true := h _ (by simp [yAll, yTail])
  obtain ⟨vm₁, cX, kX, hfX, hkX, -, -, X₁, st1⟩ := Y.newCold hexec (own := own) (C := cls) (index := ik) (n := 6) hown' hk' hins hini'
    (g := F0 m pc ls rest) rfl (by rw [hb]; exact d0) (Nat.le_refl _) (Nat.le_refl _)
  generalize hT1 : (T.setVm vm₁).pushCell { cls := cX, slots := kX.instanceTypes.map defaultValue, vm := .none } = T1 at X₁ st1
  have hcat : (Value.ref T.heap.size).category = 1 := rfl
  have hcellA : T1.heap[T.heap.size]? = some (freshCell cX kX) := by rw [← hT1]; exact State.heap_pushCell_size _ _
  have d3' : decode c.code (pc + 3) = .ok (.dup, 1) := by rw [hb]; exact d3
  have d4' : decode c.code (pc + 4) = .ok (.ldc is, 2) := by rw [hb]; exact d4
  have hstr' : vk_R own is text sa s' := vk_R.warm hW0 hstr
  obtain ⟨U, hsteps, hrun, hend, hW, hsame, ce, hce, hO1, hO2⟩ := y_ctor X₁ hexec htr (own := own) (cls := cls) (Y0 := Y0) (r0 := r0) (ic := ic) x0 x1 x2 x5 hown' hcls hnames h hfX hkX hcellA (by rw [hhp, hT]; exact Nat.le_refl _) rfl (msg := .ref sa) rfl
    (g := { method := m, pc := pc + 6, locals := ls, stack := .ref sa :: .ref T.heap.size :: .ref T.heap.size :: rest, locked := none }) rfl hsize rfl rfl (rest := rest) rfl
    (by rw [hb]; exact d6) (by rw [hb]; exact d9) hout hRframes (by simp only [List.map_cons, List.sum_cons, hcat]; omega) hlocks
  obtain ⟨f1, f2⟩ := vx_frame hsame
  rw [hhp] at f1 f2
  have hWs : s.WarmedH U.vm := State.WarmedH.trans hW0 hW
  have hcl : s.vm.findClass cls = some ce.cls := by
    have h9 := hO1
    rw [hvm] at h9
    exact h9
  have hall : s.sameButNew ({ U with vm := s.vm } : State) locs mc ms := by
    subst hA
    obtain ⟨e1, e2⟩ := hsame
    rw [State.setFrames_setFrames] at e1
    have h2 : (T.setVm s.vm).sameButNew ({ U with vm := s.vm } : State) [] (0 + 1) (0 + 6) := ⟨e1, e2⟩
    have h3 := X.same.trans h2
    rw [List.append_nil] at h3
    exact h3.mono hc hs
  refine ⟨U, ?_, .threw T.heap.size, hrun, hend, Or.inr ⟨T.heap.size, rfl, cls, ce, locs, hx U hWs.alike f1 (fun q hq => f2 q hq (fun z hz => nomatch hz)), hce, hO2, hcl, hWs, hall, hf⟩⟩
  refine st1 _ ?_
  show Steps p.tables e below (T1.setTop { method := m, pc := pc + 3, locals := ls, stack := .ref T.heap.size :: rest, locked := none }) _
  jvm_step X₁.here [X₁.here.top, hexec, d3', Value.category]
  exact X₁.ldcString hexec (own := own) (text := text) (index := is) (a := sa) hown' hstr'.1 hstr'.2
    (g := { method := m, pc := pc + 4, locals := ls, stack := .ref T.heap.size :: .ref T.heap.size :: rest, locked := none }) rfl d4' _ hsteps
end NSE2
section NSE3
variable {l : Launch} {D : va_G} {cy : Nat → ClassId} {base : Nat} {M : Mth} {d bc bs pc : Nat} {lv : List (Nat × Value)} {st : List Value} {hp : Hp} {Q : Oc → Hp → Prop}
abbrev yCls : String := "java/util/NoSuchElementException"
def yRx : ByteArray := ⟨#[42, 43, 183, 0, 13, 177]⟩
abbrev yA (own : String) (ic : Nat) : List Cond := yAt own ic yCls 13 yRx "java/lang/RuntimeException" ["java/lang/Exception"]
def TY (own : String) (ik is ic : Nat) (text : String) : Prop := Cond.classLink own ik yCls ∈ gw ∧ Cond.initialized yCls ∈ gw ∧ (own, is, text) ∈ strl ∧ (∀ w ∈ (yA own ic).filter goodWord, w ∈ gw) ∧ (∀ w ∈ (yA own ic).filter (fun w => !goodWord w), w ∈ nwl ∧ w.onTables = true) ∧ (∀ w ∈ Cond.classLink own ik yCls :: Cond.initialized yCls :: yA own ic, vx_ot w = true)
theorem E.throwY {text : String} {ik is ic : Nat} (h0 : M.2.2.2.2.2 = []) (ty : TY M.1 ik is ic text)
    (d0 : decode M.2.1 pc = .ok (.new ik, 3)) (d3 : decode M.2.1 (pc + 3) = .ok (.dup, 1)) (d4 : decode M.2.1 (pc + 4) = .ok (.ldc is, 2)) (d6 : decode M.2.1 (pc + 6) = .ok (.invokespecial ic, 3)) (d9 : decode M.2.1 (pc + 9) = .ok (.athrow, 1))
    (hd : 8 ≤ d) (hw : (st.map fun v => v.category).sum ≤ 8) (hq : Q (.inr yCls) hp) : E l D cy base M d (bc + 1) (bs + 6) pc lv st hp Q := by
  intro p e s m args below meth c H locs cells slots mc ms ls B hv hH hS g1 g2
  obtain ⟨hk, hini, hstr, hat1, hat2, hgood⟩ := ty
  have hts := B.2.2.2.2.1
  have hC := B.2.2.2.2.2.2.2.2.2.1
  obtain ⟨sa, hsa⟩ := hC.2.2.1 _ hstr
  refine y_throwS (Y0 := "java/lang/RuntimeException") (r0 := ["java/lang/Exception"]) (ix := 13) (rx := yRx) B.1 B.2.1 B.2.2.2.2.2.2.2.2.1 B.2.2.2.1 (by decide +kernel) (by decide +kernel) (by decide +kernel) (by decide +kernel) (by decide +kernel) (by decide +kernel) (hts _ hk) (hts _ hini) hsa
    (vx_hat (fun w hw => hts w (hat1 w hw)) (fun w hw => hw) (fun w hw => va_Nw.use (hat2 w hw).2 (hC.2.1 _ (hat2 w hw).1))) hgood hC.2.2.2.2.1 hC.2.2.2.2.2.1 hS (by rw [B.2.2.1]; exact hv.1) d0 d3 d4 d6 d9
    (by rw [B.2.2.2.2.2.2.2.1, h0]; intro x hx; cases hx) ?_ ?_ (show cells + 1 ≤ mc by omega) (show slots + 6 ≤ ms by omega) B.2.2.2.2.2.2.1 (fun t _ hz ho => ?_) hS.2.2 (by omega) (by omega)
  · show 2 + 3 < d
    omega
  · show (st.map fun v => v.category).sum + (13 * (2 + 1) + 43) ≤ 40 * d
    omega
  · obtain ⟨L, f, h1, hP, hD⟩ := hH
    exact ⟨hp, hq, ⟨L, f, h1, hP.kept (fun k q hk => ho q.1 ((hP k q hk).lt)), hD⟩, Nat.le_trans hS.1 hz, fun q g3 g4 => by rw [ho q (Nat.lt_of_lt_of_le g3 hS.1)]; exact hS.2.1 q g3 g4⟩
theorem EW.throwY {S : Type} {I : S → Hp → Prop} {M : Mth} {d bc bs pc : Nat} {lv : List (Nat × Value)} {st : List Value} {s : S} {Q : Oc → S → Prop} {text : String} {ik is ic : Nat} (ty : TY M.1 ik is ic text) (h0 : M.2.2.2.2.2 = [])
    (d0 : decode M.2.1 pc = .ok (.new ik, 3)) (d3 : decode M.2.1 (pc + 3) = .ok (.dup, 1)) (d4 : decode M.2.1 (pc + 4) = .ok (.ldc is, 2)) (d6 : decode M.2.1 (pc + 6) = .ok (.invokespecial ic, 3)) (d9 : decode M.2.1 (pc + 9) = .ok (.athrow, 1))
    (hd : 8 ≤ d) (hw : (st.map fun v => v.category).sum ≤ 8) (hq : Q (.inr yCls) s) : EW I l D cy base M d (bc + 1) (bs + 6) pc lv st s Q := fun hp8 h8 =>
  E.throwY h0 ty d0 d3 d4 d6 d9 hd hw ⟨s, hq, h8⟩
theorem ya_X8 : ∀ w ∈ (yA RX8 96).filter goodWord, w ∈ gw := gw_ix [18, 549, 558, 563, 566, 568, 550, 551, 31, 32, 552, 557, 564, 584, 539, 585, 541, 586, 543, 553, 555, 545, 580, 581, 583, 545, 571, 572, 573, 574, 574, 575, 576, 577, 577, 578, 579, 580, 570, 528, 536, 537, 538, 540, 542, 544, 548, 547, 546] (by decide +kernel)
theorem yb_X8 : ∀ w ∈ (yA RX8 96).filter (fun w => !goodWord w), w ∈ nwl ∧ w.onTables = true := nwl_ix [531, 533, 535, 529] (by decide +kernel) (by decide +kernel)
theorem yc_X8 : ∀ w ∈ Cond.classLink RX8 92 yCls :: Cond.initialized yCls :: yA RX8 96, vx_ot w = true := by decide +kernel
theorem ty_94 : TY RX8 92 94 96 "there is no such rule" := ⟨gw_t 527 (by decide +kernel) rfl, gw_t 21 (by decide +kernel) rfl, by decide +kernel, ya_X8, yb_X8, yc_X8⟩
theorem ty_119 : TY RX8 92 119 96 "there is no such rule, or it has no expression" := ⟨gw_t 527 (by decide +kernel) rfl, gw_t 21 (by decide +kernel) rfl, by decide +kernel, ya_X8, yb_X8, yc_X8⟩
end NSE3
