/-! A world for constructors: the cells that are made, in a list; the rest of the heap as in hp0. -/
abbrev LSt : Type := List (Nat × va_E)
def IL (hp0 : Hp) (C : LSt) (hp : Hp) : Prop := (∀ x ∈ C, hp x.1 = some x.2 ∧ hp0 x.1 = none) ∧ (C.map (fun x => x.1)).Nodup ∧ ∀ b, b ∉ C.map (fun x => x.1) → hp b = hp0 b
theorem IL.cons {hp0 hp : Hp} {C : LSt} {q : Nat} {e : va_E} (h : IL hp0 C hp) (hq : hp q = none) : IL hp0 ((q, e) :: C) (va_up hp q (some e)) := by
  obtain ⟨h1, h2, h3⟩ := h
  have hn : q ∉ C.map (fun x => x.1) := fun hc => by
    obtain ⟨x, hx, rfl⟩ := List.mem_map.mp hc
    rw [(h1 x hx).1] at hq
    cases hq
  refine ⟨fun x hx => ?_, ?_, fun b hb => ?_⟩
  · rcases List.mem_cons.mp hx with rfl | hx
    · exact ⟨va_up_self _ _ _, by rw [← h3 _ hn]; exact hq⟩
    · have hne : x.1 ≠ q := fun e => hn (by rw [← e]; exact List.mem_map.mpr ⟨x, hx, rfl⟩)
      rw [va_up_ne _ _ hne]
      exact h1 x hx
  · show (q :: C.map (fun x => x.1)).Nodup
    exact List.nodup_cons.mpr ⟨hn, h2⟩
  · have hb : b ∉ q :: C.map (fun x => x.1) := hb
    rw [va_up_ne _ _ (fun e => hb (by rw [e]; exact List.mem_cons_self))]
    exact h3 b (fun hc => hb (List.mem_cons_of_mem _ hc))
theorem IL.set {hp0 hp : Hp} {C : LSt} {j a : Nat} {e e' : va_E} (h : IL hp0 C hp) (hj : C[j]? = some (a, e)) : IL hp0 (C.set j (a, e')) (va_up hp a (some e')) := by
  obtain ⟨h1, h2, h3⟩ := h
  have hlt := lst_lt hj
  have hm : (C.set j (a, e')).map (fun x => x.1) = C.map (fun x => x.1) := by
    rw [List.map_set]
    refine List.ext_getElem? (fun i => ?_)
    rw [List.getElem?_set]
    split
    · rename_i e1
      subst e1
      rw [List.length_map, if_pos hlt, List.getElem?_map, hj]
      rfl
    · rfl
  have hja : (C.map (fun x => x.1))[j]? = some a := by rw [List.getElem?_map, hj]; rfl
  refine ⟨fun x hx => ?_, by rw [hm]; exact h2, fun b hb => ?_⟩
  · obtain ⟨i, hi⟩ := List.mem_iff_getElem?.mp hx
    rw [List.getElem?_set] at hi
    by_cases e1 : j = i
    · subst e1
      rw [if_pos rfl, if_pos hlt] at hi
      cases hi
      exact ⟨va_up_self _ _ _, (h1 _ (List.mem_of_getElem? hj)).2⟩
    · rw [if_neg e1] at hi
      have hne : x.1 ≠ a := fun e2 => by
        have hia : (C.map (fun x => x.1))[i]? = some a := by rw [List.getElem?_map, hi, ← e2]; rfl
        have l1 := lst_lt hja
        have l2 := lst_lt hia
        have e3 : (C.map (fun x => x.1))[j] = (C.map (fun x => x.1))[i] := by
          rw [List.getElem?_eq_getElem l1] at hja
          rw [List.getElem?_eq_getElem l2] at hia
          rw [Option.some.inj hja, Option.some.inj hia]
        rcases Nat.lt_trichotomy j i with hji | hji | hji
        · exact List.pairwise_iff_getElem.mp h2 j i l1 l2 hji e3
        · exact e1 hji
        · exact List.pairwise_iff_getElem.mp h2 i j l2 l1 hji e3.symm
      rw [va_up_ne _ _ hne]
      exact h1 x (List.mem_of_getElem? hi)
  · rw [hm] at hb
    have hne : b ≠ a := fun e1 => hb (by rw [e1]; exact List.mem_of_getElem? hja)
    rw [va_up_ne _ _ hne]
    exact h3 b hb
section LST
variable {cy : Nat → ClassId} {hp0 : Hp} {l : Launch} {D : va_G} {base : Nat} {M : Mth} {d bc bs pc : Nat} {lv : List (Nat × Value)} {st : List Value} {C : LSt} {Q : Oc → LSt → Prop}
theorem EL.get {idx ci k j a : Nat} {ty : FieldType} {fin : Bool} {fs : List Value} {v : Value} (hf : FLD M.1 idx ci k ty fin) (hdg : decode M.2.1 pc = .ok (.getfield idx, 3)) (hj : C[j]? = some (a, .inr (ci, fs))) (hv : fs[k]? = some v) (kk : EW (IL hp0) l D cy base M d bc bs (pc + 3) lv (v :: st) C Q) : EW (IL hp0) l D cy base M d bc bs pc lv (.ref a :: st) C Q :=
  fun hp h => E.get hf hdg (h.1 _ (List.mem_of_getElem? hj)).1 hv (kk hp h)
theorem EL.put {idx ci k j a : Nat} {ty : FieldType} {fs : List Value} {v : Value} (hf : FLD M.1 idx ci k ty false) (hdg : decode M.2.1 pc = .ok (.putfield idx, 3)) (hj : C[j]? = some (a, .inr (ci, fs))) (hl9 : k < fs.length) (hn : narrow ty v = v) (hfit : fits ty v = true) (kk : EW (IL hp0) l D cy base M d bc bs (pc + 3) lv st (C.set j (a, .inr (ci, fs.set k v))) Q) : EW (IL hp0) l D cy base M d bc bs pc lv (v :: .ref a :: st) C Q :=
  fun hp h => E.put hf hdg (h.1 _ (List.mem_of_getElem? hj)).1 hl9 hn hfit (kk _ (h.set hj))
theorem EL.putF {idx ci k j a : Nat} {ty : FieldType} {fs : List Value} {v : Value} (hf : FLF M.1 idx ci k ty) (hin : M.2.2.1.name = "<init>") (hdg : decode M.2.1 pc = .ok (.putfield idx, 3)) (hj : C[j]? = some (a, .inr (ci, fs))) (hl9 : k < fs.length) (hn : narrow ty v = v) (hfit : fits ty v = true) (kk : EW (IL hp0) l D cy base M d bc bs (pc + 3) lv st (C.set j (a, .inr (ci, fs.set k v))) Q) : EW (IL hp0) l D cy base M d bc bs pc lv (v :: .ref a :: st) C Q :=
  fun hp h => E.putF hf hin hdg (h.1 _ (List.mem_of_getElem? hj)).1 hl9 hn hfit (kk _ (h.set hj))
theorem EL.new {idx ci N : Nat} {Cn : String} {T : u_T} {ty : Nat → FieldType} {fs : List Value} (cf : CF ci Cn T N ty) (hw : Cond.classLink M.1 idx Cn ∈ gw ∧ Cond.instantiable Cn N ∈ gw ∧ Cond.initialized Cn ∈ gw) (hdg : decode M.2.1 pc = .ok (.new idx, 3)) (hfs : ∀ j, j < N → defaultValue (ty j) = vp_V fs j) (kk : ∀ q, EW (IL hp0) l D cy base M d bc bs (pc + 3) lv (.ref q :: st) ((q, .inr (ci, fs)) :: C) Q) : EW (IL hp0) l D cy base M d (bc + 1) (bs + N) pc lv st C Q :=
  fun hp h => E.new cf hw hdg hfs (fun q hq => kk q _ (h.cons hq))
theorem EL.newa {at9 : ArrayType} {t0 : Nat} (N : Nat) {ty : FieldType} {a0 : vp_A} (hty : newarray.typeOf at9 = ty) (ht : (tyx cy)[t0]? = some (cy t0, ty)) (hra : ∀ U cA, va_RA U cA ty = (U.vm.findClass ("[" ++ ty.toString) = some cA)) (hw : Cond.arrayClass ty ∈ gw) (hdg : decode M.2.1 pc = .ok (.newarray at9, 2)) (ha0 : ∀ cA : ClassId, vp_cell cA a0 = arrV cA N (fun _ => defaultValue ty)) (hN : N < 2 ^ 31) (hby : N * componentBytes ty ≤ 536870912) (kk : ∀ q, EW (IL hp0) l D cy base M d bc bs (pc + 2) lv (.ref q :: st) ((q, .inl (cy t0, a0)) :: C) Q) : EW (IL hp0) l D cy base M d (bc + 1) (bs + N) pc lv (.int (nI N) :: st) C Q :=
  fun hp h => E.newa hty ht hra hw hdg ha0 (nI_pos hN) (nI_clamp hN) hby (fun q hq => kk q _ (h.cons hq))
theorem E.newE {hp : Hp} {Q : Oc → Hp → Prop} {idx : Nat} (N : Nat) (hc : Cond.classLink M.1 idx "ChoiceParser$Expression" ∈ gw) (hdg : decode M.2.1 pc = .ok (.anewarray idx, 3)) (hN : N < 2 ^ 31) (hby : N * 4 ≤ 536870912) (kk : ∀ q, hp q = none → E l D cy base M d bc bs (pc + 3) lv (.ref q :: st) (va_up hp q (some (.inl (cy 5, N, .inr (.inr (.inr (.inr (fun _ => none)))))))) Q) : E l D cy base M d (bc + 1) (bs + N) pc lv (.int (nI N) :: st) hp Q := by
  intro p e s m args below meth c H locs cells slots mc ms ls B hv hH hS g1 g2
  obtain ⟨L, f, h1, hP, hD⟩ := hH
  have hA : ∀ q, s.heap.size ≤ q → Abv base q := fun q h => Nat.le_trans B.2.2.2.2.2.2.2.2.2.2.1 h
  have hts := B.2.2.2.2.1
  have hCx := B.2.2.2.2.2.2.2.2.2.1
  have hK := hCx.1
  refine va_newq (D := D) (tys := tyx cy) B.1 B.2.1 B.2.2.2.1 (hts _ hc) hCx.2.2.2.1 hK hP hD hS hA (nI_pos hN) (nI_clamp hN) hby (show cells + 1 ≤ mc by omega) (show slots + N ≤ ms by omega) hdg (fun q cA H1 hK1 hP1 hD1 hS1 => ?_)
  obtain ⟨_, _, _, _, _, e1⟩ := (hK1.2 7 (cA, .object "ChoiceParser$Expression") rfl).2
  obtain ⟨_, _, _, _, _, e2⟩ := (hK.2 5 (cy 5, .object "ChoiceParser$Expression") rfl).2
  have e3 : cA = cy 5 := Option.some.inj (e1.symm.trans e2)
  subst e3
  obtain ⟨h2, h3⟩ := HpA.new h1 hP1 hD1
  exact kk q h2 p e s m args below meth c H1 locs (cells + 1) (slots + N) mc ms ls B hv h3 hS1 (by omega) (by omega)
theorem EL.newE {idx : Nat} (N : Nat) (hc : Cond.classLink M.1 idx "ChoiceParser$Expression" ∈ gw) (hdg : decode M.2.1 pc = .ok (.anewarray idx, 3)) (hN : N < 2 ^ 31) (hby : N * 4 ≤ 536870912) (kk : ∀ q, EW (IL hp0) l D cy base M d bc bs (pc + 3) lv (.ref q :: st) ((q, .inl (cy 5, N, .inr (.inr (.inr (.inr (fun _ => none)))))) :: C) Q) : EW (IL hp0) l D cy base M d (bc + 1) (bs + N) pc lv (.int (nI N) :: st) C Q :=
  fun hp h => E.newE N hc hdg hN hby (fun q hq => kk q _ (h.cons hq))
/-- four rows of sixty ints -/
theorem E.mna {hp : Hp} {Q : Oc → Hp → Prop} {idx : Nat} (hc : Cond.classLink M.1 idx "[[I" ∈ gw) (hac : Cond.arrayClass .int ∈ gw) (hdg : decode M.2.1 pc = .ok (.multianewarray idx 2, 4)) (kk : ∀ (q : Nat) (r : Nat → Nat), (∀ i j, i < 4 → j < 4 → r i = r j → i = j) → (∀ i, i < 4 → hp (r i) = none) → va_up (va_up (va_up (va_up hp (r 0) (some (.inl (cy 2, 60, .inl (fun _ => 0))))) (r 1) (some (.inl (cy 2, 60, .inl (fun _ => 0))))) (r 2) (some (.inl (cy 2, 60, .inl (fun _ => 0))))) (r 3) (some (.inl (cy 2, 60, .inl (fun _ => 0)))) q = none → E l D cy base M d bc bs (pc + 4) lv (.ref q :: st) (va_up (va_up (va_up (va_up (va_up hp (r 0) (some (.inl (cy 2, 60, .inl (fun _ => 0))))) (r 1) (some (.inl (cy 2, 60, .inl (fun _ => 0))))) (r 2) (some (.inl (cy 2, 60, .inl (fun _ => 0))))) (r 3) (some (.inl (cy 2, 60, .inl (fun _ => 0))))) q (some (.inl (cy 6, 4, .inr (.inr (.inr (.inr (fun i => if i < 4 then some (r i) else none)))))))) Q) : E l D cy base M d (bc + 5) (bs + 244) pc lv (.int (nI 60) :: .int (nI 4) :: st) hp Q := by
  intro p e s m args below meth c H locs cells slots mc ms ls B hv hH hS g1 g2
  obtain ⟨L, f, h1, hP, hD⟩ := hH
  have hA : ∀ q, s.heap.size ≤ q → Abv base q := fun q h => Nat.le_trans B.2.2.2.2.2.2.2.2.2.2.1 h
  have hts := B.2.2.2.2.1
  have hCx := B.2.2.2.2.2.2.2.2.2.1
  have hK := hCx.1
  have hcy : s.vm.findClass (FieldType.array .int).toString = some (cy 2) := (hK.2 2 (cy 2, .int) rfl).2
  refine va_mna (D := D) (tys := tyx cy) (X := []) (L := L) (f := f) (ty := .int) (N' := 4) (K' := 60) (z := (60, .inl (fun _ => 0))) B.1 B.2.1 B.2.2.2.1 (hts _ hc) hCx.2.2.2.2.2.2.2.2.1 (hts _ hac) hcy hK hP hD hS hA (nI_pos (by decide)) (nI_pos (by decide)) (nI_clamp (by decide)) (nI_clamp (by decide)) (by decide) (by decide) (by decide) (by decide +kernel) (by decide +kernel) (show cells + (1 + 4) ≤ mc by omega) (show slots + (4 + 4 * 60) ≤ ms by omega) (fun c => rfl) hdg (fun q r cA H1 hr1 hr2 hK1 hP1 hD1 hS1 => ?_)
  have e1 : s.vm.findClass ("[" ++ (FieldType.array .int).toString) = some cA := (hK1.2 7 (cA, .array .int) rfl).2
  have e2 : s.vm.findClass ("[" ++ (FieldType.array .int).toString) = some (cy 6) := (hK.2 6 (cy 6, .array .int) rfl).2
  have e3 : cA = cy 6 := Option.some.inj (e1.symm.trans e2)
  subst e3
  have hmm : (List.range 4).map r = [r 0, r 1, r 2, r 3] := rfl
  rw [hmm] at hP1 hD1
  have hnone : ∀ i, i < 4 → hp (r i) = none := fun i hi => by
    cases hx : hp (r i) with
    | none => rfl
    | some y => exact absurd (h1 _ y hx).1 (hr2 i hi)
  have h1' : ∀ a c, va_up (va_up (va_up (va_up hp (r 0) (some (.inl (cy 2, 60, .inl (fun _ => 0))))) (r 1) (some (.inl (cy 2, 60, .inl (fun _ => 0))))) (r 2) (some (.inl (cy 2, 60, .inl (fun _ => 0))))) (r 3) (some (.inl (cy 2, 60, .inl (fun _ => 0)))) a = some c → a ∈ L ++ [r 0, r 1, r 2, r 3] ∧ vr_up f [r 0, r 1, r 2, r 3] (.inl (cy 2, 60, .inl (fun _ => 0))) a = c := fun a c ha => by
    by_cases hin : a ∈ [r 0, r 1, r 2, r 3]
    · refine ⟨List.mem_append_right _ hin, ?_⟩
      rw [vr_up_in hin]
      have : va_up (va_up (va_up (va_up hp (r 0) (some (.inl (cy 2, 60, .inl (fun _ => 0))))) (r 1) (some (.inl (cy 2, 60, .inl (fun _ => 0))))) (r 2) (some (.inl (cy 2, 60, .inl (fun _ => 0))))) (r 3) (some (.inl (cy 2, 60, .inl (fun _ => 0)))) a = some (.inl (cy 2, 60, .inl (fun _ => 0))) := by
        simp only [List.mem_cons, List.not_mem_nil, or_false] at hin
        by_cases a3 : a = r 3
        · rw [a3, va_up_self]
        · rw [va_up_ne _ _ a3]
          by_cases a2 : a = r 2
          · rw [a2, va_up_self]
          · rw [va_up_ne _ _ a2]
            by_cases a1 : a = r 1
            · rw [a1, va_up_self]
            · rw [va_up_ne _ _ a1]
              have a0 : a = r 0 := by
                rcases hin with h | h | h | h
                · exact h
                · exact absurd h a1
                · exact absurd h a2
                · exact absurd h a3
              rw [a0, va_up_self]
      rw [this] at ha
      exact Option.some.inj ha
    · have hn := hin
      simp only [List.mem_cons, List.not_mem_nil, or_false, not_or] at hn
      rw [va_up_ne _ _ hn.2.2.2, va_up_ne _ _ hn.2.2.1, va_up_ne _ _ hn.2.1, va_up_ne _ _ hn.1] at ha
      obtain ⟨k1, k2⟩ := h1 a c ha
      exact ⟨List.mem_append_left _ k1, by rw [vr_up_ne hin]; exact k2⟩
  obtain ⟨h2, h3⟩ := HpA.new h1' (va_P.swap hP1) (va_D.swap hD1)
  exact kk q r hr1 hnone h2 p e s m args below meth c H1 locs (cells + 1 + 4) (slots + 4 + 4 * 60) mc ms ls B hv h3 hS1 (by omega) (by omega)
theorem EL.mna {idx : Nat} (hc : Cond.classLink M.1 idx "[[I" ∈ gw) (hac : Cond.arrayClass .int ∈ gw) (hdg : decode M.2.1 pc = .ok (.multianewarray idx 2, 4)) (kk : ∀ q r0 r1 r2 r3, EW (IL hp0) l D cy base M d bc bs (pc + 4) lv (.ref q :: st) ((q, .inl (cy 6, 4, .inr (.inr (.inr (.inr (fun i => if i < 4 then some (([r0, r1, r2, r3] : List Nat).getD i 0) else none)))))) :: (r3, .inl (cy 2, 60, .inl (fun _ => 0))) :: (r2, .inl (cy 2, 60, .inl (fun _ => 0))) :: (r1, .inl (cy 2, 60, .inl (fun _ => 0))) :: (r0, .inl (cy 2, 60, .inl (fun _ => 0))) :: C) Q) : EW (IL hp0) l D cy base M d (bc + 5) (bs + 244) pc lv (.int (nI 60) :: .int (nI 4) :: st) C Q :=
  fun hp h => E.mna hc hac hdg (fun q r hr hn hq => by
    have e : (fun i => if i < 4 then some (r i) else none) = (fun i => if i < 4 then some (([r 0, r 1, r 2, r 3] : List Nat).getD i 0) else none) := by
      funext i
      by_cases hi : i < 4
      · rw [if_pos hi, if_pos hi]
        have : i = 0 ∨ i = 1 ∨ i = 2 ∨ i = 3 := by omega
        rcases this with rfl | rfl | rfl | rfl <;> rfl
      · rw [if_neg hi, if_neg hi]
    rw [e]
    have i0 := h.cons (e := .inl (cy 2, 60, .inl (fun _ => 0))) (hn 0 (by decide))
    have i1 := i0.cons (q := r 1) (e := .inl (cy 2, 60, .inl (fun _ => 0))) (by rw [va_up_ne _ _ (fun c => by have := hr 1 0 (by decide) (by decide) c; omega)]; exact hn 1 (by decide))
    have i2 := i1.cons (q := r 2) (e := .inl (cy 2, 60, .inl (fun _ => 0))) (by rw [va_up_ne _ _ (fun c => by have := hr 2 1 (by decide) (by decide) c; omega), va_up_ne _ _ (fun c => by have := hr 2 0 (by decide) (by decide) c; omega)]; exact hn 2 (by decide))
    have i3 := i2.cons (q := r 3) (e := .inl (cy 2, 60, .inl (fun _ => 0))) (by rw [va_up_ne _ _ (fun c => by have := hr 3 2 (by decide) (by decide) c; omega), va_up_ne _ _ (fun c => by have := hr 3 1 (by decide) (by decide) c; omega), va_up_ne _ _ (fun c => by have := hr 3 0 (by decide) (by decide) c; omega)]; exact hn 3 (by decide))
    exact kk q (r 0) (r 1) (r 2) (r 3) _ (i3.cons hq))
/-- a constructor's call -/
theorem EL.callI {M' : Mth} {idx d' mc' ms' n b : Nat} {As rest : List Value} {Q' : Oc → LSt → Prop} (hM : MtW (IL hp0) l D cy base M' d' mc' ms' (.ref b :: As) C Q') (mf : MF M') (h0 : M'.2.2.2.2.2 = []) (ml : ML M.1 idx M' ∨ MN M.1 idx M') (mv : MI M' n) (hd : d' < d) (hdg : decode M.2.1 pc = .ok (.invokespecial idx, 3)) (hst : st = As.reverse ++ .ref b :: rest) (hn : As.length = n) (hw : (rest.map fun v => v.category).sum ≤ 8) (hno : ∀ o C', Q' o C' → o = .inl none) (kk : ∀ C', Q' (.inl none) C' → EW (IL hp0) l D cy base M d bc bs (pc + 3) lv rest C' Q) : EW (IL hp0) l D cy base M d (bc + mc') (bs + ms') pc lv st C Q :=
  fun hp h => E.callI (hM hp h) mf h0 ml mv hd hdg hst hn hw (fun X hp ⟨s, q, _⟩ => by cases hno _ _ q) (fun v hp1 ⟨s, q, i⟩ => by
    have e := hno _ _ q
    cases e
    exact kk s q hp1 i)
end LST
