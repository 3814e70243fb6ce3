section CXS
theorem AOI.spec {U : State} (h : AOI U) : ∃ c k comp, U.vm.findClass ("[" ++ (FieldType.array .int).toString) = some c ∧ U.vm.classes[c]? = some k ∧ k.kind = .array comp (.array .int) := by
  unfold AOI Cond.before Cond.holds at h
  simp only [Cond.value, beq_iff_eq] at h
  cases hx : U.vm.findClass (FieldType.array .int).toString with
  | none => simp [hx] at h
  | some comp =>
    simp only [hx, Option.bind_some, Option.bind_eq_some_iff, Option.map_eq_some_iff] at h
    obtain ⟨c, hi, k, hk, hb⟩ := h
    cases hkind : k.kind with
    | array component ty =>
      rw [hkind] at hb
      simp at hb
      exact ⟨c, k, component, hb.2, hk, by rw [hkind, hb.1]⟩
    | _ => rw [hkind] at hb; simp at hb
theorem arr_at {s : State} {args : Array Value} {ty : FieldType} (h : (Cond.arrayClass ty).before args s = true) : ∃ cA : ClassId, ArrOfT s cA ty ∧ s.vm.findClass ("[" ++ ty.toString) = some cA := by
  obtain ⟨c, k, comp, h1, h2, h3⟩ := Cond.arrayClass_spec (args := args) (first := s) (o := none) (s := s) (idx := []) h
  exact ⟨c, fun n z => ⟨fun k h => (by cases h), k, h2, comp, h3⟩, h1⟩
theorem uk {s : State} {args : Array Value} {C : String} {T : u_T} {N ci : Nat} {ty : Nat → FieldType} (hg : ∀ w ∈ gw, w.before args s = true) (cf : CF ci C T N ty) (hi : Cond.instantiable C N ∈ gw) : ∃ q : ClassId × (Nat → Nat), ∀ x, clx[ci]? = some x → u_Kn s x.1 x.2.1 x.2.2 q.1 q.2 := by
  obtain ⟨cC, iS, h⟩ := u_known (ws := gw) hg cf.2.1 (hg _ hi)
  exact ⟨(cC, iS), fun x hx => by rw [cf.1] at hx; cases hx; exact h⟩
theorem ukn {s : State} {args : Array Value} (hg : ∀ w ∈ gw, w.before args s = true) : ∃ D : va_G, ∀ (c : Nat) (q : vw_C), clx[c]? = some q → u_Kn s q.1 q.2.1 q.2.2 (D.1 c) (D.2 c) := by
  have h : ∀ c : Nat, ∃ q : ClassId × (Nat → Nat), ∀ x, clx[c]? = some x → u_Kn s x.1 x.2.1 x.2.2 q.1 q.2 := by
    intro c
    match c with
    | 0 => exact uk hg cf0 n_X8_9.2.1
    | 1 => exact uk hg cf1 n_X6_15.2.1
    | 2 => exact uk hg cf2 n_X8_30.2.1
    | 3 => exact uk hg cf3 n_X8_44.2.1
    | 4 => exact uk hg cf4 n_X8_37.2.1
    | 5 => exact uk hg cf5 n_X1_9.2.1
    | 6 => exact uk hg cf6 n_X8_21.2.1
    | 7 => exact uk hg cf7 n_X8_53.2.1
    | 8 => exact uk hg cf8 n_L_8.2.1
    | 9 => exact uk hg cf9 n_L_43.2.1
    | c + 10 => exact ⟨(0, fun _ => 0), fun x hx => by cases hx⟩
  obtain ⟨F, hF⟩ := Classical.axiomOfChoice h
  exact ⟨(fun c => (F c).1, fun c => (F c).2), fun c q hq => hF c q hq⟩
theorem ofN (x : Int32) : nI x.toBitVec.toNat = x := by
  apply Int32.toBitVec_inj.mp
  apply BitVec.eq_of_toNat_eq
  show (BitVec.ofNat 32 x.toBitVec.toNat).toNat = _
  rw [BitVec.toNat_ofNat, Nat.mod_eq_of_lt x.toBitVec.isLt]
theorem cy_ex (c0 c1 c2 c3 c4 c5 c6 sK sV b L : Nat) (xs : Nat → Int32) : ∃ cy : Nat → ClassId, cy 0 = c0 ∧ cy 1 = c1 ∧ cy 2 = c2 ∧ cy 3 = c3 ∧ cy 4 = c4 ∧ cy 5 = c5 ∧ cy 6 = c6 ∧ cy 1000 = sK ∧ cy 1001 = sV ∧ cy 1002 = b ∧ cy 1003 = L ∧ ∀ j, nI (cy (2000 + j)) = xs j := by
  refine ⟨fun k => if k = 0 then c0 else if k = 1 then c1 else if k = 2 then c2 else if k = 3 then c3 else if k = 4 then c4 else if k = 5 then c5 else if k = 6 then c6 else if k = 1000 then sK else if k = 1001 then sV else if k = 1002 then b else if k = 1003 then L else (xs (k - 2000)).toBitVec.toNat, rfl, rfl, rfl, rfl, rfl, rfl, rfl, rfl, rfl, rfl, rfl, fun j => ?_⟩
  dsimp only
  rw [if_neg (by omega), if_neg (by omega), if_neg (by omega), if_neg (by omega), if_neg (by omega), if_neg (by omega), if_neg (by omega), if_neg (by omega), if_neg (by omega), if_neg (by omega), if_neg (by omega), Nat.add_sub_cancel_left]
  exact ofN (xs j)
theorem str_at {own tx : String} {k : Nat} {args : Array Value} {s : State} (h1 : (Cond.stringRef own k tx).before args s = true) (h2 : (Cond.exactly (.string own k) "java/lang/String").before args s = true) : ∃ sa, vk_R own k tx sa s := by
  obtain ⟨a, c, cA, kA, q1, -⟩ := Cond.exactly_spec (args := args) (first := s) (o := none) (s := s) (idx := []) (t := .string own k) (cls := "java/lang/String") h2
  exact ⟨a, vk_R.of h1 q1⟩
theorem tbw {w : Cond} (i : Nat) (h : tables_1[i]? = some w) : w ∈ lw_tbl := List.mem_append_right _ (List.mem_of_getElem? h)
theorem strl_at {args : Array Value} {s : State} (hts : ∀ w ∈ lw_tbl, w.before args s = true) (hgv : ∀ w ∈ flatC (Jvm.Cond.and given_1 narrow_1), w.before args s = true) : ∀ q ∈ strl, ∃ sa, vk_R q.1 q.2.1 q.2.2 sa s := by
  intro q hq
  simp only [strl, List.mem_cons, List.not_mem_nil, or_false] at hq
  rcases hq with rfl | rfl | rfl | rfl | rfl | rfl | rfl | rfl | rfl | rfl | rfl
  · exact str_at (hts _ (tbw 614 (by decide +kernel))) (hgv _ (by decide +kernel))
  · exact str_at (hts _ (tbw 630 (by decide +kernel))) (hgv _ (by decide +kernel))
  · exact str_at (hts _ (tbw 644 (by decide +kernel))) (hgv _ (by decide +kernel))
  · exact str_at (hts _ (tbw 649 (by decide +kernel))) (hgv _ (by decide +kernel))
  · exact str_at (hts _ (tbw 666 (by decide +kernel))) (hgv _ (by decide +kernel))
  · exact str_at (hts _ (tbw 667 (by decide +kernel))) (hgv _ (by decide +kernel))
  · exact str_at (hts _ (tbw 783 (by decide +kernel))) (hgv _ (by decide +kernel))
  · exact str_at (hts _ (tbw 799 (by decide +kernel))) (hgv _ (by decide +kernel))
  · exact str_at (hts _ (tbw 820 (by decide +kernel))) (hgv _ (by decide +kernel))
  · exact str_at (hts _ (tbw 569 (by decide +kernel))) (hgv _ (by decide +kernel))
  · exact str_at (hts _ (tbw 688 (by decide +kernel))) (hgv _ (by decide +kernel))
theorem sg_el {args : Array Value} {s : State} (hgv : ∀ w ∈ flatC (Jvm.Cond.and given_1 narrow_1), w.before args s = true) : ∀ j : Nat, j < 13 → (Cond.eq (.elem (.field (.string "ChoiceParser" 189) "java/lang/String" "value" "[B") (.int (Int32.ofNat j))) (.int (sgB.getD j 0))).before args s = true := by
  intro j hj
  match j, hj with
  | 0, _ => exact hgv _ (by decide +kernel)
  | 1, _ => exact hgv _ (by decide +kernel)
  | 2, _ => exact hgv _ (by decide +kernel)
  | 3, _ => exact hgv _ (by decide +kernel)
  | 4, _ => exact hgv _ (by decide +kernel)
  | 5, _ => exact hgv _ (by decide +kernel)
  | 6, _ => exact hgv _ (by decide +kernel)
  | 7, _ => exact hgv _ (by decide +kernel)
  | 8, _ => exact hgv _ (by decide +kernel)
  | 9, _ => exact hgv _ (by decide +kernel)
  | 10, _ => exact hgv _ (by decide +kernel)
  | 11, _ => exact hgv _ (by decide +kernel)
  | 12, _ => exact hgv _ (by decide +kernel)
  | n + 13, h => exact absurd h (by omega)
theorem sg_at {args : Array Value} {s : State} (hts : ∀ w ∈ lw_tbl, w.before args s = true) (hgv : ∀ w ∈ flatC (Jvm.Cond.and given_1 narrow_1), w.before args s = true) : ∃ sK sV : Nat, vk_R "ChoiceParser" 189 "=/&!*+?.[-]()" sK s ∧ va_O "java/lang/String" sK (Abv s.heap.size) s s.heap ∧ va_OF "java/lang/String" "coder" "B" (.int 0) sK (Abv s.heap.size) s s.heap ∧ va_OF "java/lang/String" "value" "[B" (.ref sV) sK (Abv s.heap.size) s s.heap ∧ va_T .byte sV 13 (fun j => .int (sgB.getD j 0)) (Abv s.heap.size) s s.heap ∧ va_Z "java/lang/String" "COMPACT_STRINGS" "Z" (.int 1) (Abv s.heap.size) s s.heap := by
  have hA : ∀ a : Nat, a < s.heap.size → ¬ Abv s.heap.size a := fun a h q => Nat.lt_irrefl _ (Nat.lt_of_lt_of_le h q)
  have hex : (Cond.exactly (.string "ChoiceParser" 189) "java/lang/String").before args s = true := hgv _ (by decide +kernel)
  have hco : (Cond.eq (.field (.string "ChoiceParser" 189) "java/lang/String" "coder" "B") (.int 0)).before args s = true := hgv _ (by decide +kernel)
  have har : (Cond.arrayOf (.field (.string "ChoiceParser" 189) "java/lang/String" "value" "[B") .byte).before args s = true := hgv _ (by decide +kernel)
  have hle : (Cond.eq (.length (.field (.string "ChoiceParser" 189) "java/lang/String" "value" "[B")) (.int (Int32.ofNat 13))).before args s = true := hgv _ (by decide +kernel)
  have hcs : (Cond.eq (.static "java/lang/String" "COMPACT_STRINGS" "Z") (.int 1)).before args s = true := hgv _ (by decide +kernel)
  obtain ⟨a, c, cA, kA, q1, q2, q3, q4, q5, q6, -⟩ := Cond.exactly_spec (args := args) (first := s) (o := none) (s := s) (idx := []) (t := .string "ChoiceParser" 189) (cls := "java/lang/String") hex
  obtain ⟨t, ht, hT⟩ := va_Tof (f := fun j => .int (sgB.getD j 0)) (A := Abv s.heap.size) (by decide) har (va_eqt hle) (fun j hj => va_eqt (sg_el hgv j hj)) hA
  exact ⟨a, t, vk_R.of (hts _ (tbw 189 (by decide +kernel))) q1, va_Oof hex q1 hA, vk_OFof q1 (va_eqt hco) hA, vk_OFof q1 ht hA, hT, va_Zof (hts _ (tbw 203 (by decide +kernel))) (hts _ (tbw 11 (by decide +kernel))) (va_eqt hcs) hA⟩
theorem ncl_at {args : Array Value} {s : State} (hgv : ∀ w ∈ flatC (Jvm.Cond.and given_1 narrow_1), w.before args s = true) : ∀ q ∈ ncl, va_Nc q.1 q.2 s := by
  intro q hq
  simp only [ncl, List.mem_cons, List.not_mem_nil, or_false] at hq
  rcases hq with rfl | rfl | rfl
  · exact va_Nc.of (hgv _ (by decide +kernel))
  · exact va_Nc.of (hgv _ (by decide +kernel))
  · exact va_Nc.of (hgv _ (by decide +kernel))
theorem nwl_at {args : Array Value} {s : State} (hts : ∀ w ∈ lw_tbl, w.before args s = true) : ∀ w ∈ nwl, va_Nw w s := by
  intro w hw
  have h1 := hts w (List.mem_filter.mp hw).1
  have h2 := (List.mem_filter.mp hw).2
  cases w <;> first | exact va_Nw.of rfl h1 | exact absurd h2 Bool.false_ne_true
theorem Cx_start {args : Array Value} {s : State} {b L : Nat} {xs : Nat → Int32} (hts : ∀ w ∈ lw_tbl, w.before args s = true) (hgv : (Jvm.Cond.and given_1 narrow_1).before args s = true) (hX : va_X b L xs s s.heap) (hb : b < s.heap.size) : ∃ (D : va_G) (cy : Nat → ClassId), cy 1002 = b ∧ cy 1003 = L ∧ Cx D cy s.heap.size s s.heap := by
  have hgv := flat_of_before _ hgv
  have hA : ∀ a : Nat, a < s.heap.size → ¬ Abv s.heap.size a := fun a h q => Nat.lt_irrefl _ (Nat.lt_of_lt_of_le h q)
  have hg : ∀ w ∈ gw, w.before args s = true := fun w hw => hts w (List.mem_filter.mp hw).1
  obtain ⟨D, hD⟩ := ukn hg
  obtain ⟨c0, a0, b0⟩ := arr_at (hg _ w_arrB)
  obtain ⟨c1, a1, b1⟩ := arr_at (hg _ w_arrC)
  obtain ⟨c2, a2, b2⟩ := arr_at (hg _ w_arrI)
  obtain ⟨c3, a3, b3⟩ := arr_at (hg _ w_arrZ)
  obtain ⟨c4, a4, b4⟩ := arr_at (hg _ w_arrL)
  have hao : (Cond.arrayOver (.object "ChoiceParser$Expression")).before args s = true := hts _ (tbw 88 (by decide +kernel))
  have hai0 : (Cond.arrayOver (.array .int)).before args s = true := hts _ (tbw 146 (by decide +kernel))
  have hai : AOI s := hai0
  obtain ⟨comp5, c5, k5, p1, p2, p3, p4, p5⟩ := Cond.arrayOver_spec (args := args) (first := s) (o := none) (s := s) (idx := []) hao
  obtain ⟨c6, k6, comp6, r1, r2, r3⟩ := hai.spec
  obtain ⟨sK, sV, s1, s2, s3, s4, s5, s6⟩ := sg_at hts hgv
  obtain ⟨cy, e0, e1, e2, e3, e4, e5, e6, eK, eV, eb, eL, ex⟩ := cy_ex c0 c1 c2 c3 c4 c5 c6 sK sV b L xs
  refine ⟨D, cy, eb, eL, ⟨hD, fun k q hq => ?_⟩, nwl_at hts, strl_at hts hgv, va_AO.of hao, vx_Zqof (hts _ (tbw 554 (by decide +kernel))) (hts _ (tbw 18 (by decide +kernel))) (hgv _ (by decide +kernel)) hA, vx_Zqof (hts _ (tbw 556 (by decide +kernel))) (hts _ (tbw 18 (by decide +kernel))) (hgv _ (by decide +kernel)) hA, ?_, ncl_at hgv, hai, ?_, ?_⟩
  · have hk : k < 7 := lst_lt hq
    have hor : k = 0 ∨ k = 1 ∨ k = 2 ∨ k = 3 ∨ k = 4 ∨ k = 5 ∨ k = 6 := by omega
    rcases hor with rfl | rfl | rfl | rfl | rfl | rfl | rfl
    · cases hq; dsimp only; rw [e0]; exact ⟨a0, b0⟩
    · cases hq; dsimp only; rw [e1]; exact ⟨a1, b1⟩
    · cases hq; dsimp only; rw [e2]; exact ⟨a2, b2⟩
    · cases hq; dsimp only; rw [e3]; exact ⟨a3, b3⟩
    · cases hq; dsimp only; rw [e4]; exact ⟨a4, b4⟩
    · cases hq; dsimp only; rw [e5]; exact ⟨fun n z => ⟨fun k h => (by cases h), k5, p3, comp5, p4⟩, k5, comp5, p3, p4, p1, p5⟩
    · cases hq; dsimp only; rw [e6]; exact ⟨fun n z => ⟨fun k h => (by cases h), k6, r2, comp6, r3⟩, r1⟩
  · unfold SgA
    rw [eK, eV]
    exact ⟨s1, s2, s3, s4, s5, s6⟩
  · rw [eb, eL, show (fun j => nI (cy (2000 + j))) = xs from funext ex]
    exact hX
  · rw [eb]
    exact hA b hb
end CXS
