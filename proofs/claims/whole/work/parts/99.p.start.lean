section START
variable {cy : Nat → ClassId} {ax ad : Nat → Nat} {l : Launch} {D : va_G} {base : Nat}
def cPos (k : Nat) : Nat := match k with
  | 14 => 0
  | 18 => 1
  | 17 => 2
  | 16 => 3
  | 15 => 4
  | 13 => 5
  | 12 => 6
  | 11 => 7
  | 10 => 8
  | 9 => 9
  | 8 => 10
  | 7 => 11
  | 6 => 12
  | 5 => 14
  | 4 => 15
  | 3 => 16
  | 2 => 17
  | 1 => 18
  | 0 => 19
  | _ => 13
theorem cLst_at (ax : Nat → Nat) (x : Nat) (f : Nat → Int32) : ∀ k, k < 19 → (cLst cy ax x f)[cPos k]? = some (ax k, cCell cy ax (cS0 x f) k) := by
  intro k hk
  match k, hk with
  | 0, _ => rfl
  | 1, _ => rfl
  | 2, _ => rfl
  | 3, _ => rfl
  | 4, _ => rfl
  | 5, _ => rfl
  | 6, _ => rfl
  | 7, _ => rfl
  | 8, _ => rfl
  | 9, _ => rfl
  | 10, _ => rfl
  | 11, _ => rfl
  | 12, _ => rfl
  | 13, _ => rfl
  | 14, _ => rfl
  | 15, _ => rfl
  | 16, _ => rfl
  | 17, _ => rfl
  | 18, _ => rfl
  | n + 19, h => exact absurd h (by omega)
theorem cLst_nm (ax : Nat → Nat) (x : Nat) (f : Nat → Int32) : ∀ k, k < 19 → ((cLst cy ax x f).map (fun y => y.1))[cPos k]? = some (ax k) := fun k hk => by rw [List.getElem?_map, cLst_at ax x f k hk]; rfl
theorem cPos_inj : ∀ i, i < 19 → ∀ j, j < 19 → cPos i = cPos j → i = j := by decide +kernel
theorem cLst_of (ax : Nat → Nat) (x : Nat) (f : Nat → Int32) : ∀ a ∈ (cLst cy ax x f).map (fun y => y.1), a = x ∨ ∃ k, k < 19 ∧ a = ax k := by
  intro a ha
  have ha : a ∈ [ax 14, ax 18, ax 17, ax 16, ax 15, ax 13, ax 12, ax 11, ax 10, ax 9, ax 8, ax 7, ax 6, x, ax 5, ax 4, ax 3, ax 2, ax 1, ax 0] := ha
  simp only [List.mem_cons, List.not_mem_nil, or_false] at ha
  rcases ha with rfl | rfl | rfl | rfl | rfl | rfl | rfl | rfl | rfl | rfl | rfl | rfl | rfl | rfl | rfl | rfl | rfl | rfl | rfl | rfl
  · exact Or.inr ⟨14, by decide, rfl⟩
  · exact Or.inr ⟨18, by decide, rfl⟩
  · exact Or.inr ⟨17, by decide, rfl⟩
  · exact Or.inr ⟨16, by decide, rfl⟩
  · exact Or.inr ⟨15, by decide, rfl⟩
  · exact Or.inr ⟨13, by decide, rfl⟩
  · exact Or.inr ⟨12, by decide, rfl⟩
  · exact Or.inr ⟨11, by decide, rfl⟩
  · exact Or.inr ⟨10, by decide, rfl⟩
  · exact Or.inr ⟨9, by decide, rfl⟩
  · exact Or.inr ⟨8, by decide, rfl⟩
  · exact Or.inr ⟨7, by decide, rfl⟩
  · exact Or.inr ⟨6, by decide, rfl⟩
  · exact Or.inl rfl
  · exact Or.inr ⟨5, by decide, rfl⟩
  · exact Or.inr ⟨4, by decide, rfl⟩
  · exact Or.inr ⟨3, by decide, rfl⟩
  · exact Or.inr ⟨2, by decide, rfl⟩
  · exact Or.inr ⟨1, by decide, rfl⟩
  · exact Or.inr ⟨0, by decide, rfl⟩
theorem IL.nil : IL (fun _ => none) [] (fun _ => none) := ⟨fun x hx => absurd hx List.not_mem_nil, List.nodup_nil, fun _ _ => rfl⟩
/-- both objects and the row are there -/
theorem LW_start {x o : Nat} {f g : Nat → Int32} {hp : Hp} (h : IL (fun _ => none) ((o, .inl (cy 4, 1, .inr (.inl (fun _ => 0)))) :: (mLst cy ad (mS0 g) ++ cLst cy ax x f)) hp) : LW cy ax ad o (cS0 x f, mS0 g, fun _ => 0) hp := by
  obtain ⟨h1, h2, h3⟩ := h
  have h2 : (o :: ((mLst cy ad (mS0 g) ++ cLst cy ax x f).map (fun y => y.1))).Nodup := h2
  rw [List.map_append] at h2
  obtain ⟨n1, n2⟩ := List.nodup_cons.mp h2
  obtain ⟨n3, n4, n5⟩ := List.nodup_append.mp n2
  have ho : o ∉ (cLst cy ax x f).map (fun y => y.1) := fun q => n1 (List.mem_append_right _ q)
  have c1 : ∀ y ∈ cLst cy ax x f, hp y.1 = some y.2 := fun y hy => (h1 y (List.mem_cons_of_mem _ (List.mem_append_right _ hy))).1
  have m1 : ∀ y ∈ mLst cy ad (mS0 g), hp y.1 = some y.2 := fun y hy => (h1 y (List.mem_cons_of_mem _ (List.mem_append_left _ hy))).1
  have hax : ∀ k, k < 19 → ax k ∈ (cLst cy ax x f).map (fun y => y.1) := fun k hk => List.mem_of_getElem? (cLst_nm ax x f k hk)
  have hxx : x ∈ (cLst cy ax x f).map (fun y => y.1) := List.mem_of_getElem? (i := 13) rfl
  refine ⟨fun a => if a ∈ (cLst cy ax x f).map (fun y => y.1) then none else hp a, ⟨fun k hk => ?_, fun i j hi hj e => ?_, fun a n ha => (nomatch ha), fun a e ha => ?_, fun a ha _ g2 => ?_, fun a ha => ⟨rfl, ?_⟩⟩, fun k hk => if_pos (hax k hk), mLst_MW n3 (fun y hy => ?_), ?_⟩
  · exact c1 _ (List.mem_of_getElem? (cLst_at ax x f k hk))
  · have e1 := cLst_nm (cy := cy) ax x f i hi
    have e2 := cLst_nm (cy := cy) ax x f j hj
    rw [← e] at e2
    exact cPos_inj i hi j hj (nodup_at n4 e1 e2)
  · have ha : va_up (fun _ => none) x (some (none, none)) a = some e := ha
    by_cases q : a = x
    · subst q
      rw [va_up_self] at ha
      cases ha
      exact c1 (a, .inr (1, [va_rf none, va_rf none])) (List.mem_of_getElem? (i := 13) rfl)
    · rw [va_up_ne _ _ q] at ha
      cases ha
  · have g2 : va_up (fun _ => none) x (some (none, none)) a = none := g2
    refine (if_neg (fun q => ?_)).symm
    rcases cLst_of ax x f a q with rfl | ⟨k, hk, rfl⟩
    · rw [va_up_self] at g2; cases g2
    · exact ha k hk rfl
  · show va_up (fun _ => none) x (some (none, none)) a = none
    by_cases q : a = x
    · exact absurd (if_pos (by rw [q]; exact hxx)) ha
    · rw [va_up_ne _ _ q]
  · have hn : y.1 ∉ (cLst cy ax x f).map (fun y => y.1) := fun q => n5 _ (List.mem_map.mpr ⟨y, hy, rfl⟩) _ q rfl
    exact (if_neg hn).trans (m1 y hy)
  · exact (if_neg ho).trans (h1 _ List.mem_cons_self).1
/-- and they agree -/
theorem J_start {x : Nat} {f g : Nat → Int32} (hf : ∀ j, j < 126 → f j = -2) (hg : ∀ j, j < 126 → g j = -2) : J (cS0 x f) (mS0 g) := by
  refine ⟨0, fun _ => 0, 0, fun _ => 0, fun _ => none, fun _ => 0, fun _ => [], fun _ => .nil, fun _ => 0, ⟨nI_0v.symm, by decide, fun j hj => by omega, fun _ => Nat.zero_lt_succ 127, fun _ _ => rfl⟩, ⟨nI_0v.symm, by decide, fun j hj => by omega, fun _ => Nat.zero_lt_succ 127, fun _ _ => rfl⟩, ⟨nI_0v.symm, by decide, fun j hj => by omega, nI_0v.symm, fun j hj => by omega⟩, ⟨fun _ _ => rfl, fun r _ x hx => (nomatch hx), fun r _ hx => absurd rfl hx, fun r q _ _ hx => absurd rfl hx, fun _ _ => rfl, fun r hr => ⟨nI_0v.symm, rfl⟩, fun r t ht => (nomatch ht)⟩, ⟨Or.inl ⟨fun _ _ => rfl, rfl⟩, fun _ ⟨r, _, hx⟩ => absurd rfl hx⟩, JM.emp 0 _ _ (fun j hj => ?_) (fun j hj => ?_) rfl rfl (by decide), JTr.nil nI_0v.symm nI_0v.symm, ⟨nI_0v.symm, nI_0v.symm⟩⟩
  · show va_up (fun _ _ => 0) 9 f 9 j = -2
    rw [va_up_self]
    exact hf j hj
  · show va_up (fun _ _ => 0) 13 g 13 j = -2
    rw [va_up_self]
    exact hg j hj
theorem lt7 {P : Nat → Prop} (h0 : P 0) (h1 : P 1) (h2 : P 2) (h3 : P 3) (h4 : P 4) (h5 : P 5) (h6 : P 6) : ∀ j, j < 7 → P j
  | 0, _ => h0
  | 1, _ => h1
  | 2, _ => h2
  | 3, _ => h3
  | 4, _ => h4
  | 5, _ => h5
  | 6, _ => h6
theorem mNul_ok : ∀ j, j < 43 → defaultValue (tyX9 j) = vp_V mNul j := by
  intro j hj
  match j, hj with
  | 0, _ => rfl
  | 1, _ => rfl
  | 2, _ => rfl
  | 3, _ => rfl
  | 4, _ => rfl
  | 5, _ => rfl
  | 6, _ => rfl
  | 7, _ => rfl
  | 8, _ => rfl
  | 9, _ => rfl
  | 10, _ => rfl
  | 11, _ => rfl
  | 12, _ => rfl
  | 13, _ => rfl
  | 14, _ => rfl
  | 15, _ => rfl
  | 16, _ => rfl
  | 17, _ => rfl
  | 18, _ => rfl
  | 19, _ => rfl
  | 20, _ => rfl
  | 21, _ => rfl
  | 22, _ => rfl
  | 23, _ => rfl
  | 24, _ => rfl
  | 25, _ => rfl
  | 26, _ => rfl
  | 27, _ => rfl
  | 28, _ => rfl
  | 29, _ => rfl
  | 30, _ => rfl
  | 31, _ => rfl
  | 32, _ => rfl
  | 33, _ => rfl
  | 34, _ => rfl
  | 35, _ => rfl
  | 36, _ => rfl
  | 37, _ => rfl
  | 38, _ => rfl
  | 39, _ => rfl
  | 40, _ => rfl
  | 41, _ => rfl
  | 42, _ => rfl
  | n + 43, h => exact absurd h (by omega)
set_option maxHeartbeats 4000000 in
theorem L_all (hl : l.stackTraces = false) (hL : cy 1003 ≤ 192) : E l D cy base mL_law 2000 9652 93612 0 [(0, .ref (cy 1002))] [] (fun _ => none) (fun oc _ => oc = .inl (some (.int (nI 1)))) := by
  refine E.new (fs := [va_rf none, va_rf none, va_rf none, va_rf none, va_rf none, va_rf none, va_rf none]) cf8 n_L_8 dL_law_0 (lt7 rfl rfl rfl rfl rfl rfl rfl) (fun q hq => ?_)
  refine E.dup dL_law_3 rfl ?_
  refine E.callI (mc' := 19) (ms' := 8128) (K_init hl q _ (IL.nil.cons hq)) mfX8_init rfl (Or.inl l_L_42) mvX8_init (by omega) dL_law_4 rfl rfl (Nat.le_of_ble_eq_true rfl) (fun X hp ⟨C', ⟨e, _⟩, _⟩ => nomatch e) (fun v hp1 q9 => ?_)
  obtain ⟨C1, ⟨e1, ax, x, f, hf, hq0, hC1⟩, i1⟩ := q9
  cases e1
  subst hC1
  refine E.astore_n dL_law_7 rfl (by decide) ?_
  refine E.new (fs := mNul) cf9 n_L_43 dL_law_8 mNul_ok (fun a43 hq2 => ?_)
  refine E.dup dL_law_11 rfl ?_
  refine E.callI (mc' := 30) (ms' := 8633) (K_init9 hl a43 _ (i1.cons hq2)) mfX9_init rfl (Or.inl l_L_45) mvX9_init (by omega) dL_law_12 rfl rfl (Nat.le_of_ble_eq_true rfl) (fun X hp ⟨C', ⟨e, _⟩, _⟩ => nomatch e) (fun v hp2 q9 => ?_)
  obtain ⟨C2, ⟨e2, ad, g, hg, ha43, hC2⟩, i2⟩ := q9
  cases e2
  subst hC2
  refine E.astore_n dL_law_15 rfl (by decide) ?_
  refine E.iconst dL_law_16 (i_ofNat 1) ?_
  refine E.newa (N := 1) (bc := 9600) (bs := 76800) (t0 := 4) (ty := .long) (a0 := (1, .inr (.inl (fun _ => 0)))) rfl rfl (fun _ _ => rfl) w_arrL dL_law_17 (fun _ => rfl) (nI_pos (by decide)) (nI_clamp (by decide)) (by decide) (fun o ho => ?_)
  refine E.astore_n dL_law_19 rfl (by decide) ?_
  refine E.iconst dL_law_20 (i_ofNat 0) ?_
  refine E.istore dL_law_21 (by decide) ?_
  subst hq0
  subst ha43
  refine E.loc (lv' := lvL cy ax ad o 0) ⟨rfl, rfl, rfl, rfl, rfl, trivial⟩ ?_
  exact E.post (fun oc hp ⟨s', q, _⟩ => q) (L_loop hl hL 192 0 (cS0 x f) (mS0 g) (fun _ => 0) (J_start hf hg) (by decide) (Nat.le_trans hL (by decide)) _ (LW_start (i2.cons ho)))
end START
