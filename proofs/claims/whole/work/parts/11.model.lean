/-! The reference: its int fields g and its arrays h, by the slots of the fields: 0 thrown, 1 typed, 2 pad, 3 letters, 4 input, 5 kind, 6 first, 7 second, 8 deep, 9 goesOn, 10 size, 11 outcome, 12 good, 13 memory, 14 worked, 15 had, 16 height, 17 waits, 18 places, 19 marks, 20 again, 21 ahead, 22 depth, 23 recording, 24 records, 25 recordRule, 26 recordFrom, 27 recordTo, 28 nodes, 29 nodeRule, 30 nodeFrom, 31 nodeTo, 32 nodeLevel, 33 pathNode, 34 pathChild, 35 open, 36 parts, 37 part, 38 rows, 39 row, 40 partsBefore, 41 rowsBefore, 42 sign; 43 is the object. -/
abbrev MSt : Type := (Nat → Int32) × (Nat → Nat → Int32)
def mFld (ad : Nat → Nat) (g : Nat → Int32) : List Value := [.int (g 0), .int (g 1), .ref (ad 2), .int (g 3), .ref (ad 4), .ref (ad 5), .ref (ad 6), .ref (ad 7), .ref (ad 8), .ref (ad 9), .ref (ad 10), .ref (ad 11), .ref (ad 12), .ref (ad 13), .int (g 14), .int (g 15), .int (g 16), .ref (ad 17), .ref (ad 18), .ref (ad 19), .ref (ad 20), .ref (ad 21), .int (g 22), .int (g 23), .int (g 24), .ref (ad 25), .ref (ad 26), .ref (ad 27), .int (g 28), .ref (ad 29), .ref (ad 30), .ref (ad 31), .ref (ad 32), .ref (ad 33), .ref (ad 34), .int (g 35), .int (g 36), .ref (ad 37), .int (g 38), .ref (ad 39), .ref (ad 40), .ref (ad 41), .ref (ad 42)]
def mLen (k : Nat) : Nat := match k with
  | 2 => 24
  | 4 => 20
  | 5 => 448
  | 6 => 448
  | 7 => 448
  | 8 => 448
  | 9 => 448
  | 10 => 7
  | 11 => 384
  | 12 => 384
  | 13 => 126
  | 17 => 960
  | 18 => 960
  | 19 => 960
  | 20 => 960
  | 21 => 960
  | 25 => 64
  | 26 => 64
  | 27 => 64
  | 29 => 60
  | 30 => 60
  | 31 => 60
  | 32 => 60
  | 33 => 64
  | 34 => 64
  | 37 => 32
  | 39 => 32
  | 40 => 8
  | 41 => 8
  | 42 => 8
  | _ => 0
def mTy (k : Nat) : Nat := match k with
  | 2 => 1
  | 9 => 3
  | 12 => 3
  | 20 => 3
  | 42 => 1
  | _ => 2
def mArr (k : Nat) : Bool := match k with
  | 2 => true
  | 4 => true
  | 5 => true
  | 6 => true
  | 7 => true
  | 8 => true
  | 9 => true
  | 10 => true
  | 11 => true
  | 12 => true
  | 13 => true
  | 17 => true
  | 18 => true
  | 19 => true
  | 20 => true
  | 21 => true
  | 25 => true
  | 26 => true
  | 27 => true
  | 29 => true
  | 30 => true
  | 31 => true
  | 32 => true
  | 33 => true
  | 34 => true
  | 37 => true
  | 39 => true
  | 40 => true
  | 41 => true
  | 42 => true
  | _ => false
def mInt (k : Nat) : Bool := match k with
  | 0 => true
  | 1 => true
  | 3 => true
  | 14 => true
  | 15 => true
  | 16 => true
  | 22 => true
  | 23 => true
  | 24 => true
  | 28 => true
  | 35 => true
  | 36 => true
  | 38 => true
  | _ => false
def mSlot (k : Nat) : Bool := mArr k || k == 43
def MW (cy : Nat → ClassId) (ad : Nat → Nat) (s : MSt) (hp : Hp) : Prop := hp (ad 43) = some (.inr (9, mFld ad s.1)) ∧ (∀ k, mArr k = true → hp (ad k) = some (.inl (cy (mTy k), mLen k, .inl (s.2 k)))) ∧ ∀ i j, mSlot i = true → mSlot j = true → ad i = ad j → i = j
/-- the reference's world, the rest of the heap as in hp0 -/
def IM (cy : Nat → ClassId) (ad : Nat → Nat) (hp0 : Hp) (s : MSt) (hp : Hp) : Prop := MW cy ad s hp ∧ ∀ a, (∀ k, mSlot k = true → a ≠ ad k) → hp a = hp0 a
theorem mFld_set (ad : Nat → Nat) (g : Nat → Int32) (v : Int32) : ∀ k, mInt k = true → (mFld ad g).set k (.int v) = mFld ad (va_up g k v) := by
  intro k hk
  match k, hk with
  | 0, _ => rfl
  | 1, _ => rfl
  | 3, _ => rfl
  | 14, _ => rfl
  | 15, _ => rfl
  | 16, _ => rfl
  | 22, _ => rfl
  | 23, _ => rfl
  | 24, _ => rfl
  | 28, _ => rfl
  | 35, _ => rfl
  | 36, _ => rfl
  | 38, _ => rfl
theorem mFld_len (ad : Nat → Nat) (g : Nat → Int32) : (mFld ad g).length = 43 := rfl
theorem mInt_lt : ∀ k, mInt k = true → k < 43 := by
  intro k hk
  match k, hk with
  | 0, _ => decide
  | 1, _ => decide
  | 3, _ => decide
  | 14, _ => decide
  | 15, _ => decide
  | 16, _ => decide
  | 22, _ => decide
  | 23, _ => decide
  | 24, _ => decide
  | 28, _ => decide
  | 35, _ => decide
  | 36, _ => decide
  | 38, _ => decide
theorem IM.put {cy : Nat → ClassId} {ad : Nat → Nat} {hp0 hp : Hp} {s : MSt} (h : IM cy ad hp0 s hp) {k : Nat} (hk : mInt k = true) (v : Int32) : IM cy ad hp0 (va_up s.1 k v, s.2) (va_up hp (ad 43) (some (.inr (9, (mFld ad s.1).set k (.int v))))) := by
  obtain ⟨⟨h1, h2, h3⟩, h4⟩ := h
  refine ⟨⟨?_, fun j hj => ?_, h3⟩, fun a ha => ?_⟩
  · rw [va_up_self, mFld_set ad s.1 v k hk]
  · have hne : ad j ≠ ad 43 := fun e => by
      have := h3 j 43 (by simp [mSlot, hj]) rfl e
      subst this
      cases hj
    rw [va_up_ne _ _ hne]
    exact h2 j hj
  · rw [va_up_ne _ _ (ha 43 rfl)]
    exact h4 a ha
theorem IM.arr {cy : Nat → ClassId} {ad : Nat → Nat} {hp0 hp : Hp} {s : MSt} (h : IM cy ad hp0 s hp) {k : Nat} (hk : mArr k = true) (f : Nat → Int32) : IM cy ad hp0 (s.1, va_up s.2 k f) (va_up hp (ad k) (some (.inl (cy (mTy k), mLen k, .inl f)))) := by
  obtain ⟨⟨h1, h2, h3⟩, h4⟩ := h
  have hs : mSlot k = true := by simp [mSlot, hk]
  refine ⟨⟨?_, fun j hj => ?_, h3⟩, fun a ha => ?_⟩
  · have hne : ad 43 ≠ ad k := fun e => by
      have := h3 43 k rfl hs e
      subst this
      cases hk
    rw [va_up_ne _ _ hne]
    exact h1
  · by_cases hjk : j = k
    · subst hjk
      rw [va_up_self]
      simp [va_up]
    · have hne : ad j ≠ ad k := fun e => hjk (h3 j k (by simp [mSlot, hj]) hs e)
      rw [va_up_ne _ _ hne, h2 j hj]
      simp [va_up, hjk]
  · rw [va_up_ne _ _ (ha k hs)]
    exact h4 a ha
section MODEL
variable {cy : Nat → ClassId} {ad : Nat → Nat} {hp0 : Hp} {l : Launch} {D : va_G} {base : Nat} {M : Mth} {d pc : Nat} {lv : List (Nat × Value)} {st : List Value} {s : MSt} {Q : Oc → MSt → Prop}
theorem EM.get {idx k : Nat} {ty : FieldType} {fin : Bool} {v : Value} (hf : FLD M.1 idx 9 k ty fin) (hdg : decode M.2.1 pc = .ok (.getfield idx, 3)) (hv9 : (mFld ad s.1)[k]? = some v) (kk : EW (IM cy ad hp0) l D cy base M d 0 0 (pc + 3) lv (v :: st) s Q) : EW (IM cy ad hp0) l D cy base M d 0 0 pc lv (.ref (ad 43) :: st) s Q :=
  fun hp h => E.get hf hdg h.1.1 hv9 (kk hp h)
theorem EM.put {idx k : Nat} {v : Int32} (hf : FLD M.1 idx 9 k .int false) (hdg : decode M.2.1 pc = .ok (.putfield idx, 3)) (hk : mInt k = true) (kk : EW (IM cy ad hp0) l D cy base M d 0 0 (pc + 3) lv st (va_up s.1 k v, s.2) Q) : EW (IM cy ad hp0) l D cy base M d 0 0 pc lv (.int v :: .ref (ad 43) :: st) s Q :=
  fun hp h => E.put hf hdg h.1.1 (mInt_lt k hk) rfl rfl (kk _ (h.put hk v))
theorem EM.putz {idx k : Nat} {v : Int32} (hf : FLD M.1 idx 9 k .boolean false) (hdg : decode M.2.1 pc = .ok (.putfield idx, 3)) (hk : mInt k = true) (hv : v = 0 ∨ v = 1) (kk : EW (IM cy ad hp0) l D cy base M d 0 0 (pc + 3) lv st (va_up s.1 k v, s.2) Q) : EW (IM cy ad hp0) l D cy base M d 0 0 pc lv (.int v :: .ref (ad 43) :: st) s Q :=
  fun hp h => E.put hf hdg h.1.1 (mInt_lt k hk) (by rcases hv with rfl | rfl <;> decide +kernel) (by rcases hv with rfl | rfl <;> decide +kernel) (kk _ (h.put hk v))
theorem EM.iald {k : Nat} {i : Int32} (hdg : decode M.2.1 pc = .ok (.iaload, 1)) (hk : mArr k = true) (ht : mTy k = 2) (hin : vp_in i (mLen k)) (kk : EW (IM cy ad hp0) l D cy base M d 0 0 (pc + 1) lv (.int (s.2 k i.toNatClampNeg) :: st) s Q) : EW (IM cy ad hp0) l D cy base M d 0 0 pc lv (.int i :: .ref (ad k) :: st) s Q :=
  fun hp h => E.iald hdg (by rw [← ht]; exact h.1.2.1 k hk) hin (kk hp h)
theorem EM.cald {k : Nat} {i : Int32} (hdg : decode M.2.1 pc = .ok (.caload, 1)) (hk : mArr k = true) (ht : mTy k = 1) (hin : vp_in i (mLen k)) (kk : EW (IM cy ad hp0) l D cy base M d 0 0 (pc + 1) lv (.int (s.2 k i.toNatClampNeg) :: st) s Q) : EW (IM cy ad hp0) l D cy base M d 0 0 pc lv (.int i :: .ref (ad k) :: st) s Q :=
  fun hp h => E.cald hdg (by rw [← ht]; exact h.1.2.1 k hk) hin (kk hp h)
theorem EM.zald {k : Nat} {i : Int32} (hdg : decode M.2.1 pc = .ok (.baload, 1)) (hk : mArr k = true) (ht : mTy k = 3) (hin : vp_in i (mLen k)) (kk : EW (IM cy ad hp0) l D cy base M d 0 0 (pc + 1) lv (.int (s.2 k i.toNatClampNeg) :: st) s Q) : EW (IM cy ad hp0) l D cy base M d 0 0 pc lv (.int i :: .ref (ad k) :: st) s Q :=
  fun hp h => E.zald hdg (by rw [← ht]; exact h.1.2.1 k hk) hin (kk hp h)
theorem EM.iast {k : Nat} {i x : Int32} (hdg : decode M.2.1 pc = .ok (.iastore, 1)) (hk : mArr k = true) (ht : mTy k = 2) (hin : vp_in i (mLen k)) (kk : EW (IM cy ad hp0) l D cy base M d 0 0 (pc + 1) lv st (s.1, va_up s.2 k (upd (s.2 k) i.toNatClampNeg x)) Q) : EW (IM cy ad hp0) l D cy base M d 0 0 pc lv (.int x :: .int i :: .ref (ad k) :: st) s Q :=
  fun hp h => E.iast hdg (by rw [← ht]; exact h.1.2.1 k hk) hin (kk _ (by rw [← ht]; exact h.arr hk _))
theorem EM.cast {k : Nat} {i x : Int32} (hdg : decode M.2.1 pc = .ok (.castore, 1)) (hk : mArr k = true) (ht : mTy k = 1) (hin : vp_in i (mLen k)) (kk : EW (IM cy ad hp0) l D cy base M d 0 0 (pc + 1) lv st (s.1, va_up s.2 k (upd (s.2 k) i.toNatClampNeg (vp_nar .char x))) Q) : EW (IM cy ad hp0) l D cy base M d 0 0 pc lv (.int x :: .int i :: .ref (ad k) :: st) s Q :=
  fun hp h => E.cast hdg (by rw [← ht]; exact h.1.2.1 k hk) hin (kk _ (by rw [← ht]; exact h.arr hk _))
theorem EM.zast {k : Nat} {i x : Int32} (hdg : decode M.2.1 pc = .ok (.bastore, 1)) (hk : mArr k = true) (ht : mTy k = 3) (hin : vp_in i (mLen k)) (kk : EW (IM cy ad hp0) l D cy base M d 0 0 (pc + 1) lv st (s.1, va_up s.2 k (upd (s.2 k) i.toNatClampNeg (vp_nar .boolean x))) Q) : EW (IM cy ad hp0) l D cy base M d 0 0 pc lv (.int x :: .int i :: .ref (ad k) :: st) s Q :=
  fun hp h => E.zast hdg (by rw [← ht]; exact h.1.2.1 k hk) hin (kk _ (by rw [← ht]; exact h.arr hk _))
theorem EM.alen {k t0 : Nat} {ty : FieldType} {v : Int32} (ht : (tyx cy)[mTy k]? = some (cy (mTy k), ty)) (hdg : decode M.2.1 pc = .ok (.arraylength, 1)) (hk : mArr k = true) (hv9 : Int32.ofNat (mLen k) = v) (kk : EW (IM cy ad hp0) l D cy base M d 0 0 (pc + 1) lv (.int v :: st) s Q) : EW (IM cy ad hp0) l D cy base M d 0 0 pc lv (.ref (ad k) :: st) s Q :=
  fun hp h => E.alen ht hdg (h.1.2.1 k hk) hv9 (kk hp h)
/-- a call of one of the reference's own methods -/
theorem EM.callV {M' : Mth} {idx d' n : Nat} {As rest : List Value} {Q' : Oc → MSt → Prop} (hM : MtW (IM cy ad hp0) l D cy base M' d' 0 0 (.ref (ad 43) :: As) s Q') (mf : MF M') (ml : ML M.1 idx M') (mv : MV M' n) (hd : d' < d) (hdg : decode M.2.1 pc = .ok (.invokevirtual idx, 3)) (hst : st = As.reverse ++ .ref (ad 43) :: rest) (hn : As.length = n) (hc : RX9 = M'.2.2.1.cls) (h0 : M'.2.2.2.2.2 = []) (hw : (rest.map fun v => v.category).sum ≤ 8) (hno : ∀ X s, ¬ Q' (.inr X) s)
    (kk : ∀ v s', Q' (.inl v) s' → EW (IM cy ad hp0) l D cy base M d 0 0 (pc + 3) lv (v.toList ++ rest) s' Q) : EW (IM cy ad hp0) l D cy base M d 0 0 pc lv st s Q :=
  EW.callV (bc := 0) (bs := 0) (ci := 9) hM mf h0 ml mv hd hdg hst hn (fun hp h => ⟨_, h.1.1⟩) (by rw [← hc]; rfl) hw kk (fun X s' q => absurd q (hno X s'))
end MODEL
