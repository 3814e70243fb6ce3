theorem lt2 {P : Nat → Prop} (h0 : P 0) (h1 : P 1) : ∀ j, j < 2 → P j
  | 0, _ => h0
  | 1, _ => h1
theorem lt3 {P : Nat → Prop} (h0 : P 0) (h1 : P 1) (h2 : P 2) : ∀ j, j < 3 → P j
  | 0, _ => h0
  | 1, _ => h1
  | 2, _ => h2
theorem lt4 {P : Nat → Prop} (h0 : P 0) (h1 : P 1) (h2 : P 2) (h3 : P 3) : ∀ j, j < 4 → P j
  | 0, _ => h0
  | 1, _ => h1
  | 2, _ => h2
  | 3, _ => h3
theorem lt5 {P : Nat → Prop} (h0 : P 0) (h1 : P 1) (h2 : P 2) (h3 : P 3) (h4 : P 4) : ∀ j, j < 5 → P j
  | 0, _ => h0
  | 1, _ => h1
  | 2, _ => h2
  | 3, _ => h3
  | 4, _ => h4
section CTOR
variable {cy : Nat → ClassId} {hp0 : Hp} {l : Launch} {D : va_G} {base : Nat} {C : LSt}
theorem w_arrC : Cond.arrayClass .char ∈ gw := gw_t 46 (by decide +kernel) rfl
theorem w_arrI : Cond.arrayClass .int ∈ gw := gw_t 115 (by decide +kernel) rfl
theorem w_arrB : Cond.arrayClass .byte ∈ gw := gw_t 116 (by decide +kernel) rfl
theorem w_arrZ : Cond.arrayClass .boolean ∈ gw := gw_t 961 (by decide +kernel) rfl
theorem w_arrL : Cond.arrayClass .long ∈ gw := gw_t 1139 (by decide +kernel) rfl
theorem w_tree : Cond.classLink RX7 11 "[[I" ∈ gw := gw_t 145 (by decide +kernel) rfl
theorem K_chars (hl : l.stackTraces = false) (q N : Nat) (hN : N < 2 ^ 16) : MtW (IL hp0) l D cy base mX0_init 5 1 (0 + N) [.ref q, .int (nI N)] ((q, .inr (0, [va_rf none, .int 0])) :: C) (fun o C' => o = .inl none ∧ ∃ r, C' = (r, .inl (cy 1, N, .inl (fun _ => 0))) :: (q, .inr (0, [.ref r, .int 0])) :: C) := by
  refine MtW.of hl mfX0_init rfl (Nat.le_of_ble_eq_true rfl) ?_
  refine EW.aload_n dX0_init_0 rfl rfl ?_
  refine EW.objInit o_X0_3 (by omega) dX0_init_1 (Nat.le_of_ble_eq_true rfl) ?_
  refine EW.aload_n dX0_init_4 rfl rfl ?_
  refine EW.iload_n dX0_init_5 rfl rfl ?_
  refine EW.if_lt 13 dX0_init_6 (by decide) (fun c => absurd c (nI_pos (by omega))) (fun _ => ?_)
  refine EW.iload_n dX0_init_9 rfl rfl ?_
  refine EW.goto 14 dX0_init_10 (by decide) ?_
  refine EL.newa (t0 := 1) (ty := .char) (a0 := (N, .inl (fun _ => 0))) N rfl rfl (fun _ _ => rfl) w_arrC dX0_init_14 (fun _ => rfl) (by omega) (by show N * 2 ≤ _; omega) (fun r => ?_)
  refine EL.putF (j := 1) ff_X0_9 rfl dX0_init_16 rfl (Nat.le_of_ble_eq_true rfl) rfl rfl ?_
  refine EW.vret rfl dX0_init_19 ?_
  exact ⟨rfl, r, rfl⟩
theorem K_expr (hl : l.stackTraces = false) (q : Nat) : MtW (IL hp0) l D cy base mX1_init 3 0 0 [.ref q] C (fun o C' => o = .inl none ∧ C' = C) := by
  refine MtW.of hl mfX1_init rfl (Nat.le_of_ble_eq_true rfl) ?_
  refine EW.aload_n dX1_init_0 rfl rfl ?_
  refine EW.objInit o_X1_3 (by omega) dX1_init_1 (Nat.le_of_ble_eq_true rfl) ?_
  refine EW.vret rfl dX1_init_4 ?_
  exact ⟨rfl, rfl⟩
theorem K_reader (hl : l.stackTraces = false) (q t : Nat) : MtW (IL hp0) l D cy base mX6_init 5 1 2 [.ref q, .ref t] ((q, .inr (6, [va_rf none, va_rf none, .int 0, .int 0])) :: C) (fun o C' => o = .inl none ∧ ∃ x, C' = (x, .inr (1, [va_rf none, va_rf none])) :: (q, .inr (6, [.ref t, .ref x, .int 0, .int 0])) :: C) := by
  refine MtW.of hl mfX6_init rfl (Nat.le_of_ble_eq_true rfl) ?_
  refine EW.aload_n dX6_init_0 rfl rfl ?_
  refine EW.objInit o_X6_3 (by omega) dX6_init_1 (Nat.le_of_ble_eq_true rfl) ?_
  refine EW.aload_n dX6_init_4 rfl rfl ?_
  refine EW.aload_n dX6_init_5 rfl rfl ?_
  refine EL.putF (j := 0) ff_X6_9 rfl dX6_init_6 rfl (Nat.le_of_ble_eq_true rfl) rfl rfl ?_
  refine EW.aload_n dX6_init_9 rfl rfl ?_
  refine EL.new (fs := [va_rf none, va_rf none]) cf1 n_X6_15 dX6_init_10 (lt2 rfl rfl) (fun x => ?_)
  refine EW.dup dX6_init_13 rfl ?_
  refine EL.callI (bc := 0) (bs := 0) (K_expr hl x) mfX1_init rfl (Or.inr l_X6_17) mvX1_init (by omega) dX6_init_14 rfl rfl (Nat.le_of_ble_eq_true rfl) (fun _ _ q => q.1) (fun C' q9 => ?_)
  obtain ⟨_, rfl⟩ := q9
  refine EL.put (j := 1) f_X6_18 dX6_init_17 rfl (Nat.le_of_ble_eq_true rfl) rfl rfl ?_
  refine EW.vret rfl dX6_init_20 ?_
  exact ⟨rfl, x, rfl⟩
theorem K_gram (hl : l.stackTraces = false) (q : Nat) : MtW (IL hp0) l D cy base mX2_init 5 1 6 [.ref q] ((q, .inr (2, [va_rf none, .int 0])) :: C) (fun o C' => o = .inl none ∧ ∃ r, C' = (r, .inl (cy 5, 6, .inr (.inr (.inr (.inr (fun _ => none)))))) :: (q, .inr (2, [.ref r, .int (nI 1)])) :: C) := by
  refine MtW.of hl mfX2_init rfl (Nat.le_of_ble_eq_true rfl) ?_
  refine EW.aload_n dX2_init_0 rfl rfl ?_
  refine EW.objInit o_X2_3 (by omega) dX2_init_1 (Nat.le_of_ble_eq_true rfl) ?_
  refine EW.aload_n dX2_init_4 rfl rfl ?_
  refine EW.bp 6 dX2_init_5 ?_
  refine EL.newE 6 n_X2_9.1 dX2_init_7 (by decide) (by decide) (fun r => ?_)
  refine EL.putF (j := 1) ff_X2_11 rfl dX2_init_10 rfl (Nat.le_of_ble_eq_true rfl) rfl rfl ?_
  refine EW.aload_n dX2_init_13 rfl rfl ?_
  refine EW.ic 1 dX2_init_14 ?_
  refine EL.put (j := 1) f_X2_17 dX2_init_15 rfl (Nat.le_of_ble_eq_true rfl) rfl rfl ?_
  refine EW.vret rfl dX2_init_18 ?_
  exact ⟨rfl, r, rfl⟩
theorem K_mat (hl : l.stackTraces = false) (q a b c : Nat) : MtW (IL hp0) l D cy base mX3_init 5 0 0 [.ref q, .ref a, .ref b, .ref c] ((q, .inr (3, [va_rf none, va_rf none, va_rf none, .int 0, .int 0])) :: C) (fun o C' => o = .inl none ∧ C' = (q, .inr (3, [.ref a, .ref b, .ref c, .int 0, .int 0])) :: C) := by
  refine MtW.of hl mfX3_init rfl (Nat.le_of_ble_eq_true rfl) ?_
  refine EW.aload_n dX3_init_0 rfl rfl ?_
  refine EW.objInit o_X3_3 (by omega) dX3_init_1 (Nat.le_of_ble_eq_true rfl) ?_
  refine EW.aload_n dX3_init_4 rfl rfl ?_
  refine EW.aload_n dX3_init_5 rfl rfl ?_
  refine EL.putF (j := 0) ff_X3_9 rfl dX3_init_6 rfl (Nat.le_of_ble_eq_true rfl) rfl rfl ?_
  refine EW.aload_n dX3_init_9 rfl rfl ?_
  refine EW.aload_n dX3_init_10 rfl rfl ?_
  refine EL.putF (j := 0) ff_X3_15 rfl dX3_init_11 rfl (Nat.le_of_ble_eq_true rfl) rfl rfl ?_
  refine EW.aload_n dX3_init_14 rfl rfl ?_
  refine EW.aload_n dX3_init_15 rfl rfl ?_
  refine EL.putF (j := 0) ff_X3_19 rfl dX3_init_16 rfl (Nat.le_of_ble_eq_true rfl) rfl rfl ?_
  refine EW.vret rfl dX3_init_19 ?_
  exact ⟨rfl, rfl⟩
theorem K_tree (hl : l.stackTraces = false) (q : Nat) : MtW (IL hp0) l D cy base mX7_init 5 5 244 [.ref q] ((q, .inr (7, [va_rf none, .int 0])) :: C) (fun o C' => o = .inl none ∧ ∃ t r0 r1 r2 r3, C' = (t, .inl (cy 6, 4, .inr (.inr (.inr (.inr (fun i => if i < 4 then some (([r0, r1, r2, r3] : List Nat).getD i 0) else none)))))) :: (r3, .inl (cy 2, 60, .inl (fun _ => 0))) :: (r2, .inl (cy 2, 60, .inl (fun _ => 0))) :: (r1, .inl (cy 2, 60, .inl (fun _ => 0))) :: (r0, .inl (cy 2, 60, .inl (fun _ => 0))) :: (q, .inr (7, [.ref t, .int 0])) :: C) := by
  refine MtW.of hl mfX7_init rfl (Nat.le_of_ble_eq_true rfl) ?_
  refine EW.aload_n dX7_init_0 rfl rfl ?_
  refine EW.objInit o_X7_3 (by omega) dX7_init_1 (Nat.le_of_ble_eq_true rfl) ?_
  refine EW.aload_n dX7_init_4 rfl rfl ?_
  refine EW.ic 4 dX7_init_5 ?_
  refine EW.bp 60 dX7_init_6 ?_
  refine EL.mna (bc := 0) (bs := 0) w_tree w_arrI dX7_init_8 (fun t r0 r1 r2 r3 => ?_)
  refine EL.putF (j := 5) ff_X7_13 rfl dX7_init_12 rfl (Nat.le_of_ble_eq_true rfl) rfl rfl ?_
  refine EW.vret rfl dX7_init_15 ?_
  exact ⟨rfl, t, r0, r1, r2, r3, rfl⟩
theorem EL.alen {M : Mth} {d bc bs pc : Nat} {lv : List (Nat × Value)} {st : List Value} {Q : Oc → LSt → Prop} {j a t0 : Nat} {x : vp_A} {ty : FieldType} {v : Int32} (ht : (tyx cy)[t0]? = some (cy t0, ty)) (hdg : decode M.2.1 pc = .ok (.arraylength, 1)) (hj : C[j]? = some (a, .inl (cy t0, x))) (hv9 : Int32.ofNat x.1 = v) (kk : EW (IL hp0) l D cy base M d bc bs (pc + 1) lv (.int v :: st) C Q) : EW (IL hp0) l D cy base M d bc bs pc lv (.ref a :: st) C Q :=
  fun hp h => E.alen ht hdg (h.1 _ (List.mem_of_getElem? hj)).1 hv9 (kk hp h)
theorem EL.iast {M : Mth} {d bc bs pc : Nat} {lv : List (Nat × Value)} {st : List Value} {Q : Oc → LSt → Prop} {j a n : Nat} {f : Nat → Int32} {i x : Int32} (hdg : decode M.2.1 pc = .ok (.iastore, 1)) (hj : C[j]? = some (a, .inl (cy 2, n, .inl f))) (hin : vp_in i n) (kk : EW (IL hp0) l D cy base M d bc bs (pc + 1) lv st (C.set j (a, .inl (cy 2, n, .inl (upd f i.toNatClampNeg x)))) Q) : EW (IL hp0) l D cy base M d bc bs pc lv (.int x :: .int i :: .ref a :: st) C Q :=
  fun hp h => E.iast hdg (h.1 _ (List.mem_of_getElem? hj)).1 hin (kk _ (h.set hj))
theorem K_fill_loop (d : Nat) (v : Int32) (a : Nat) (C0 C1 : LSt) : ∀ (n i : Nat) (f : Nat → Int32), i + n = 126 → (∀ j, j < i → f j = v) → EW (IL hp0) l D cy base mJ7_fill_53178 d 0 0 5 [(0, .ref a), (1, .int v), (2, .int (nI i)), (3, .int (nI 126))] [] (C0 ++ (a, .inl (cy 2, 126, .inl f)) :: C1) (fun o s2 => ∃ f, o = .inl none ∧ s2 = C0 ++ (a, .inl (cy 2, 126, .inl f)) :: C1 ∧ ∀ j, j < 126 → f j = v) := by
  intro n
  induction n with
  | zero =>
    intro i s hi hv
    refine EW.iload_n dJ7_fill_53178_5 rfl rfl ?_
    refine EW.iload_n dJ7_fill_53178_6 rfl rfl ?_
    refine EW.icmp_ge 20 dJ7_fill_53178_7 (by decide) (fun c7 => ?_) (fun c7 => ?_)
    · have c7 : 126 ≤ i := (nI_leI (by omega) (by omega)).mp c7
      refine EW.vret rfl dJ7_fill_53178_20 ?_
      exact ⟨s, rfl, rfl, fun j hj => hv j (by omega)⟩
    · have c7 : ¬ (126 ≤ i) := fun h => c7 ((nI_leI (by omega) (by omega)).mpr h); omega
  | succ n ih =>
    intro i f hi hv
    refine EW.iload_n dJ7_fill_53178_5 rfl rfl ?_
    refine EW.iload_n dJ7_fill_53178_6 rfl rfl ?_
    refine EW.icmp_ge 20 dJ7_fill_53178_7 (by decide) (fun c7 => ?_) (fun c7 => ?_)
    · have c7 : 126 ≤ i := (nI_leI (by omega) (by omega)).mp c7; omega
    · have c7 : ¬ (126 ≤ i) := fun h => c7 ((nI_leI (by omega) (by omega)).mpr h)
      refine EW.aload_n dJ7_fill_53178_10 rfl rfl ?_
      refine EW.iload_n dJ7_fill_53178_11 rfl rfl ?_
      refine EW.iload_n dJ7_fill_53178_12 rfl rfl ?_
      have hcl : (nI i).toNatClampNeg = i := nI_clamp (by omega)
      refine EL.iast (j := C0.length) (n := 126) (f := f) dJ7_fill_53178_13 (by rw [List.getElem?_append_right (Nat.le_refl _), Nat.sub_self]; rfl) (vp_in_nI (by omega) (by decide)) ?_
      rw [hcl]
      have e9 : (C0 ++ (a, .inl (cy 2, 126, .inl f)) :: C1).set C0.length (a, .inl (cy 2, 126, .inl (upd f i v))) = C0 ++ (a, .inl (cy 2, 126, .inl (upd f i v))) :: C1 := by
        rw [List.set_append_right _ _ (Nat.le_refl _), Nat.sub_self]
        rfl
      refine EW.eqs e9 ?_
      refine EW.iinc dJ7_fill_53178_14 rfl (nI_inc _) (by decide) ?_
      refine EW.goto 5 dJ7_fill_53178_17 (by decide) ?_
      refine EW.loc (lv' := [(0, .ref a), (1, .int v), (2, .int (nI (i + 1))), (3, .int (nI 126))]) ⟨rfl, rfl, rfl, rfl, trivial⟩ ?_
      refine ih (i + 1) _ (by omega) (fun j hj => ?_)
      by_cases h : j = i
      · subst h; exact pk_us
      · rw [pk_un h]; exact hv j (by omega)
theorem K_fill (hl : l.stackTraces = false) (d : Nat) (v : Int32) (a : Nat) (C0 C1 : LSt) (f : Nat → Int32) : MtW (IL hp0) l D cy base mJ7_fill_53178 d 0 0 [.ref a, .int v] (C0 ++ (a, .inl (cy 2, 126, .inl f)) :: C1) (fun o s2 => ∃ f, o = .inl none ∧ s2 = C0 ++ (a, .inl (cy 2, 126, .inl f)) :: C1 ∧ ∀ j, j < 126 → f j = v) := by
  refine MtW.of hl mfJ7_fill_53178 rfl (Nat.le_of_ble_eq_true rfl) ?_
  refine EW.ic 0 dJ7_fill_53178_0 ?_
  refine EW.istore_n dJ7_fill_53178_1 rfl (by decide) ?_
  refine EW.aload_n dJ7_fill_53178_2 rfl rfl ?_
  refine EL.alen (j := C0.length) (t0 := 2) (ty := .int) (x := (126, .inl f)) (v := nI 126) rfl dJ7_fill_53178_3 (by rw [List.getElem?_append_right (Nat.le_refl _), Nat.sub_self]; rfl) rfl ?_
  refine EW.istore_n dJ7_fill_53178_4 rfl (by decide) ?_
  exact EW.loc (lv' := [(0, .ref a), (1, .int v), (2, .int (nI 0)), (3, .int (nI 126))]) ⟨rfl, rfl, rfl, rfl, trivial⟩ (K_fill_loop d v a C0 C1 126 0 f rfl (fun j hj => absurd hj (Nat.not_lt_zero j)))
theorem K_mem (hl : l.stackTraces = false) (q : Nat) : MtW (IL hp0) l D cy base mX4_init 5 3 7812 [.ref q] ((q, .inr (4, [va_rf none, va_rf none, va_rf none])) :: C) (fun o C' => o = .inl none ∧ ∃ r9 r10 r11 f, (∀ j, j < 126 → f j = -2) ∧ C' = (r11, .inl (cy 0, 7560, .inl (fun _ => 0))) :: (r10, .inl (cy 2, 126, .inl (fun _ => 0))) :: (r9, .inl (cy 2, 126, .inl f)) :: (q, .inr (4, [.ref r9, .ref r10, .ref r11])) :: C) := by
  refine MtW.of hl mfX4_init rfl (Nat.le_of_ble_eq_true rfl) ?_
  refine EW.aload_n dX4_init_0 rfl rfl ?_
  refine EW.objInit o_X4_3 (by omega) dX4_init_1 (Nat.le_of_ble_eq_true rfl) ?_
  refine EW.aload_n dX4_init_4 rfl rfl ?_
  refine EW.bp 126 dX4_init_5 ?_
  refine EL.newa (t0 := 2) (ty := .int) (a0 := (126, .inl (fun _ => 0))) 126 rfl rfl (fun _ _ => rfl) w_arrI dX4_init_7 (fun _ => rfl) (by decide) (by decide) (fun r9 => ?_)
  refine EL.putF (j := 1) ff_X4_9 rfl dX4_init_9 rfl (Nat.le_of_ble_eq_true rfl) rfl rfl ?_
  refine EW.aload_n dX4_init_12 rfl rfl ?_
  refine EW.bp 126 dX4_init_13 ?_
  refine EL.newa (t0 := 2) (ty := .int) (a0 := (126, .inl (fun _ => 0))) 126 rfl rfl (fun _ _ => rfl) w_arrI dX4_init_15 (fun _ => rfl) (by decide) (by decide) (fun r10 => ?_)
  refine EL.putF (j := 2) ff_X4_15 rfl dX4_init_17 rfl (Nat.le_of_ble_eq_true rfl) rfl rfl ?_
  refine EW.aload_n dX4_init_20 rfl rfl ?_
  refine EW.sp 7560 dX4_init_21 ?_
  refine EL.newa (t0 := 0) (ty := .byte) (a0 := (7560, .inl (fun _ => 0))) 7560 rfl rfl (fun _ _ => rfl) w_arrB dX4_init_24 (fun _ => rfl) (by decide) (by decide) (fun r11 => ?_)
  refine EL.putF (j := 3) ff_X4_18 rfl dX4_init_26 rfl (Nat.le_of_ble_eq_true rfl) rfl rfl ?_
  refine EW.aload_n dX4_init_29 rfl rfl ?_
  refine EL.get (j := 3) f_X4_9 dX4_init_30 rfl rfl ?_
  refine EW.bipush (v := -2) dX4_init_33 (by decide +kernel) ?_
  refine EW.eqs (s' := [(r11, .inl (cy 0, 7560, .inl (fun _ => 0))), (r10, .inl (cy 2, 126, .inl (fun _ => 0)))] ++ (r9, .inl (cy 2, 126, .inl (fun _ => 0))) :: (q, .inr (4, [.ref r9, .ref r10, .ref r11])) :: C) rfl ?_
  refine EW.callS (bc := 0) (bs := 0) (mc' := 0) (ms' := 0) (K_fill hl 3 (-2) r9 _ _ (fun _ => 0)) mfJ7_fill_53178 rfl l_X4_22 mvJ7_fill_53178 (by omega) dX4_init_35 rfl rfl (Nat.le_of_ble_eq_true rfl) (fun v6 s6 q6 => ?_) (fun _ _ q => by obtain ⟨f, e, _⟩ := q; cases e)
  obtain ⟨f, h1, h2, h3⟩ := q6
  cases h1
  refine EW.eqs h2 ?_
  refine EW.vret rfl dX4_init_38 ?_
  exact ⟨rfl, r9, r10, r11, f, h3, rfl⟩
/-- the names of the cells of the class, as they are made -/
def axL (q0 q1 r2 q3 r4 q5 q6 r7 q8 r9 r10 r11 q12 q13 q14 r15 r16 r17 r18 : Nat) (k : Nat) : Nat := ([q0, q1, r2, q3, r4, q5, q6, r7, q8, r9, r10, r11, q12, q13, q14, r15, r16, r17, r18] : List Nat).getD k 0
/-- the class's state at its start -/
def cS0 (x : Nat) (f : Nat → Int32) : CSt := (va_up (fun _ => 0) 4 (nI 1), va_up (fun _ _ => 0) 9 f, some x, fun _ => none, fun _ => none, va_up (fun _ => none) x (some (none, none)))
def cLst (cy : Nat → ClassId) (ax : Nat → Nat) (x : Nat) (f : Nat → Int32) : LSt :=
  [(ax 14, cCell cy ax (cS0 x f) 14), (ax 18, cCell cy ax (cS0 x f) 18), (ax 17, cCell cy ax (cS0 x f) 17), (ax 16, cCell cy ax (cS0 x f) 16), (ax 15, cCell cy ax (cS0 x f) 15), (ax 13, cCell cy ax (cS0 x f) 13), (ax 12, cCell cy ax (cS0 x f) 12), (ax 11, cCell cy ax (cS0 x f) 11), (ax 10, cCell cy ax (cS0 x f) 10), (ax 9, cCell cy ax (cS0 x f) 9), (ax 8, cCell cy ax (cS0 x f) 8), (ax 7, cCell cy ax (cS0 x f) 7), (ax 6, cCell cy ax (cS0 x f) 6), (x, .inr (1, [va_rf none, va_rf none])), (ax 5, cCell cy ax (cS0 x f) 5), (ax 4, cCell cy ax (cS0 x f) 4), (ax 3, cCell cy ax (cS0 x f) 3), (ax 2, cCell cy ax (cS0 x f) 2), (ax 1, cCell cy ax (cS0 x f) 1), (ax 0, cCell cy ax (cS0 x f) 0)]
set_option maxHeartbeats 4000000 in
theorem K_init (hl : l.stackTraces = false) (q : Nat) : MtW (IL hp0) l D cy base mX8_init 10 19 8128 [.ref q] [(q, .inr (8, [va_rf none, va_rf none, va_rf none, va_rf none, va_rf none, va_rf none, va_rf none]))] (fun o C' => o = .inl none ∧ ∃ ax x f, (∀ j, j < 126 → f j = -2) ∧ ax 0 = q ∧ C' = cLst cy ax x f) := by
  refine MtW.of hl mfX8_init rfl (Nat.le_of_ble_eq_true rfl) ?_
  refine EW.aload_n dX8_init_0 rfl rfl ?_
  refine EW.objInit o_X8_3 (by omega) dX8_init_1 (Nat.le_of_ble_eq_true rfl) ?_
  refine EW.aload_n dX8_init_4 rfl rfl ?_
  refine EL.new (fs := [va_rf none, .int 0]) cf0 n_X8_9 dX8_init_5 (lt2 rfl rfl) (fun q1 => ?_)
  refine EW.dup dX8_init_8 rfl ?_
  refine EW.bp 24 dX8_init_9 ?_
  refine EL.callI (mc' := 1) (ms' := 0 + 24) (K_chars hl q1 24 (by decide)) mfX0_init rfl (Or.inl l_X8_11) mvX0_init (by omega) dX8_init_11 rfl rfl (Nat.le_of_ble_eq_true rfl) (fun _ _ q => q.1) (fun C' q9 => ?_)
  obtain ⟨_, r2, rfl⟩ := q9
  refine EL.putF (j := 2) ff_X8_14 rfl dX8_init_14 rfl (Nat.le_of_ble_eq_true rfl) rfl rfl ?_
  refine EW.aload_n dX8_init_17 rfl rfl ?_
  refine EL.new (fs := [va_rf none, .int 0]) cf0 n_X8_9 dX8_init_18 (lt2 rfl rfl) (fun q3 => ?_)
  refine EW.dup dX8_init_21 rfl ?_
  refine EW.bp 20 dX8_init_22 ?_
  refine EL.callI (mc' := 1) (ms' := 0 + 20) (K_chars hl q3 20 (by decide)) mfX0_init rfl (Or.inl l_X8_11) mvX0_init (by omega) dX8_init_24 rfl rfl (Nat.le_of_ble_eq_true rfl) (fun _ _ q => q.1) (fun C' q9 => ?_)
  obtain ⟨_, r4, rfl⟩ := q9
  refine EL.putF (j := 4) ff_X8_18 rfl dX8_init_27 rfl (Nat.le_of_ble_eq_true rfl) rfl rfl ?_
  refine EW.aload_n dX8_init_30 rfl rfl ?_
  refine EL.new (fs := [va_rf none, va_rf none, .int 0, .int 0]) cf6 n_X8_21 dX8_init_31 (lt4 rfl rfl rfl rfl) (fun q5 => ?_)
  refine EW.dup dX8_init_34 rfl ?_
  refine EW.aload_n dX8_init_35 rfl rfl ?_
  refine EL.get (j := 5) f_X8_14 dX8_init_36 rfl rfl ?_
  refine EL.callI (mc' := 1) (ms' := 2) (K_reader hl q5 q1) mfX6_init rfl (Or.inl l_X8_23) mvX6_init (by omega) dX8_init_39 rfl rfl (Nat.le_of_ble_eq_true rfl) (fun _ _ q => q.1) (fun C' q9 => ?_)
  obtain ⟨_, x, rfl⟩ := q9
  refine EL.putF (j := 6) ff_X8_26 rfl dX8_init_42 rfl (Nat.le_of_ble_eq_true rfl) rfl rfl ?_
  refine EW.aload_n dX8_init_45 rfl rfl ?_
  refine EL.new (fs := [va_rf none, .int 0]) cf2 n_X8_30 dX8_init_46 (lt2 rfl rfl) (fun q6 => ?_)
  refine EW.dup dX8_init_49 rfl ?_
  refine EL.callI (mc' := 1) (ms' := 6) (K_gram hl q6) mfX2_init rfl (Or.inr l_X8_32) mvX2_init (by omega) dX8_init_50 rfl rfl (Nat.le_of_ble_eq_true rfl) (fun _ _ q => q.1) (fun C' q9 => ?_)
  obtain ⟨_, r7, rfl⟩ := q9
  refine EL.putF (j := 8) ff_X8_33 rfl dX8_init_53 rfl (Nat.le_of_ble_eq_true rfl) rfl rfl ?_
  refine EW.aload_n dX8_init_56 rfl rfl ?_
  refine EL.new (fs := [va_rf none, va_rf none, va_rf none]) cf4 n_X8_37 dX8_init_57 (lt3 rfl rfl rfl) (fun q8 => ?_)
  refine EW.dup dX8_init_60 rfl ?_
  refine EL.callI (mc' := 3) (ms' := 7812) (K_mem hl q8) mfX4_init rfl (Or.inl l_X8_39) mvX4_init (by omega) dX8_init_61 rfl rfl (Nat.le_of_ble_eq_true rfl) (fun _ _ q => q.1) (fun C' q9 => ?_)
  obtain ⟨_, r9, r10, r11, f, hf, rfl⟩ := q9
  refine EL.putF (j := 12) ff_X8_40 rfl dX8_init_64 rfl (Nat.le_of_ble_eq_true rfl) rfl rfl ?_
  refine EW.aload_n dX8_init_67 rfl rfl ?_
  refine EL.new (fs := [va_rf none, va_rf none, va_rf none, .int 0, .int 0]) cf3 n_X8_44 dX8_init_68 (lt5 rfl rfl rfl rfl rfl) (fun q12 => ?_)
  refine EW.dup dX8_init_71 rfl ?_
  refine EW.aload_n dX8_init_72 rfl rfl ?_
  refine EL.get (j := 13) f_X8_33 dX8_init_73 rfl rfl ?_
  refine EW.aload_n dX8_init_76 rfl rfl ?_
  refine EL.get (j := 13) f_X8_18 dX8_init_77 rfl rfl ?_
  refine EW.aload_n dX8_init_80 rfl rfl ?_
  refine EL.get (j := 13) f_X8_40 dX8_init_81 rfl rfl ?_
  refine EL.callI (mc' := 0) (ms' := 0) (K_mat hl q12 q6 q3 q8) mfX3_init rfl (Or.inl l_X8_46) mvX3_init (by omega) dX8_init_84 rfl rfl (Nat.le_of_ble_eq_true rfl) (fun _ _ q => q.1) (fun C' q9 => ?_)
  obtain ⟨_, rfl⟩ := q9
  refine EL.putF (j := 13) ff_X8_49 rfl dX8_init_87 rfl (Nat.le_of_ble_eq_true rfl) rfl rfl ?_
  refine EW.aload_n dX8_init_90 rfl rfl ?_
  refine EL.new (fs := [va_rf none, .int 0]) cf7 n_X8_53 dX8_init_91 (lt2 rfl rfl) (fun q13 => ?_)
  refine EW.dup dX8_init_94 rfl ?_
  refine EL.callI (mc' := 5) (ms' := 244) (K_tree hl q13) mfX7_init rfl (Or.inr l_X8_55) mvX7_init (by omega) dX8_init_95 rfl rfl (Nat.le_of_ble_eq_true rfl) (fun _ _ q => q.1) (fun C' q9 => ?_)
  obtain ⟨_, q14, r15, r16, r17, r18, rfl⟩ := q9
  refine EL.putF (j := 19) ff_X8_56 rfl dX8_init_98 rfl (Nat.le_of_ble_eq_true rfl) rfl rfl ?_
  refine EW.vret rfl dX8_init_101 ?_
  refine ⟨rfl, axL q q1 r2 q3 r4 q5 q6 r7 q8 r9 r10 r11 q12 q13 q14 r15 r16 r17 r18, x, f, hf, rfl, ?_⟩
  have e : (fun i => if i < 4 then some (([r15, r16, r17, r18] : List Nat).getD i 0) else none) = (fun i => if i < 4 then some (axL q q1 r2 q3 r4 q5 q6 r7 q8 r9 r10 r11 q12 q13 q14 r15 r16 r17 r18 (15 + i)) else none) := by
    funext i
    by_cases hi : i < 4
    · rw [if_pos hi, if_pos hi]
      have : i = 0 ∨ i = 1 ∨ i = 2 ∨ i = 3 := by omega
      rcases this with rfl | rfl | rfl | rfl <;> rfl
    · rw [if_neg hi, if_neg hi]
  rw [e]
  rfl
end CTOR
