/-! Fields and arrays over the judgement. CF: a class of ours and its words; FLD: what a class file's place names a field. -/
def CF (ci : Nat) (C : String) (T : u_T) (N : Nat) (ty : Nat → FieldType) : Prop := clx[ci]? = some (C, T, N) ∧ (∀ w ∈ u_ws C T N, w ∈ gw) ∧ (∀ j, j < N → parseFieldDescriptor (T j).2.2.1 = some (ty j)) ∧ (∀ a, a < N → ∀ b, b < N → a ≠ b → (T a).2.1 ≠ (T b).2.1)
def FLD (own : String) (idx ci k : Nat) (ty : FieldType) (fin : Bool) : Prop := ∃ (C : String) (T : u_T) (N : Nat) (ty0 : Nat → FieldType), CF ci C T N ty0 ∧ k < N ∧ (Cond.fieldLink own idx (T k).1 (T k).2.1 (T k).2.2.1 ∈ gw ∨ ∃ host, Cond.fieldLinkNest own idx (T k).1 (T k).2.1 (T k).2.2.1 host ∈ nwl) ∧ ty0 k = ty ∧ (T k).2.2.2 = fin
/-- a final field, written by its own class's constructor -/
def FLF (own : String) (idx ci k : Nat) (ty : FieldType) : Prop := ∃ (C : String) (T : u_T) (N : Nat) (ty0 : Nat → FieldType), CF ci C T N ty0 ∧ k < N ∧ Cond.fieldLink own idx (T k).1 (T k).2.1 (T k).2.2.1 ∈ gw ∧ ty0 k = ty ∧ (T k).2.2.2 = true ∧ (T k).1 = own
section HEAP
variable {l : Launch} {D : va_G} {cy : Nat → ClassId} {base : Nat} {M : Mth} {d bc bs pc : Nat} {lv : List (Nat × Value)} {st : List Value} {hp : Hp} {Q : Oc → Hp → Prop}
theorem E.get {idx ci k a : Nat} {ty : FieldType} {fin : Bool} {fs : List Value} {v : Value} (hf : FLD M.1 idx ci k ty fin) (hdg : decode M.2.1 pc = .ok (.getfield idx, 3)) (ha : hp a = some (.inr (ci, fs))) (hv9 : fs[k]? = some v) (kk : E l D cy base M d bc bs (pc + 3) lv (v :: st) hp Q) : E l D cy base M d bc bs pc lv (.ref a :: st) hp Q := by
  intro p e s m args below meth c H locs cells slots mc ms ls B hv hH hS g1 g2
  obtain ⟨C, T, N, ty0, ⟨c1, c2, c3, c4⟩, hk, hl, -, -⟩ := hf
  obtain ⟨L, f, q0, h1, hP, hD, h4, h5, he, he2⟩ := hH.get ha
  have K := kk p e s m args below meth c H locs cells slots mc ms ls B hv hH hS g1 g2
  rcases hl with hl | ⟨host, hl⟩
  · exact va_get (D := D) B.1 B.2.1 B.2.2.2.2.1 c2 B.2.2.2.1 B.2.2.2.2.2.2.2.2.2.1.1 hP q0 he c1 k hk (B.2.2.2.2.1 _ hl) (fun _ h => h) hv9 hdg K
  · exact va_getN (D := D) B.1 B.2.1 B.2.2.2.2.1 c2 B.2.2.2.1 B.2.2.2.2.2.2.2.2.2.1.1 hP q0 he c1 k hk (va_Nw.use rfl (B.2.2.2.2.2.2.2.2.2.1.2.1 _ hl)) (fun _ h => h) hv9 hdg K
theorem E.put {idx ci k a : Nat} {ty : FieldType} {fs : List Value} {v : Value} (hf : FLD M.1 idx ci k ty false) (hdg : decode M.2.1 pc = .ok (.putfield idx, 3)) (ha : hp a = some (.inr (ci, fs))) (hl9 : k < fs.length) (hn : narrow ty v = v) (hfit : fits ty v = true) (kk : E l D cy base M d bc bs (pc + 3) lv st (va_up hp a (some (.inr (ci, fs.set k v)))) Q) : E l D cy base M d bc bs pc lv (v :: .ref a :: st) hp Q := by
  intro p e s m args below meth c H locs cells slots mc ms ls B hv hH hS g1 g2
  obtain ⟨C, T, N, ty0, ⟨c1, c2, c3, c4⟩, hk, hl, h6, h7⟩ := hf
  obtain ⟨L, f, q0, h1, hP, hD, h4, h5, he, he2⟩ := hH.get ha
  have hd := c3 k hk
  rw [h6] at hd
  rcases hl with hl | ⟨host, hl⟩
  · exact va_put (D := D) B.1 B.2.1 B.2.2.2.2.1 c2 ty0 c3 c4 B.2.2.2.1 B.2.2.2.2.2.2.2.2.2.1.1 hP hD hS q0 he c1 k hk (B.2.2.2.2.1 _ hl) (fun _ h => h) h7 hd hn hfit hl9 hdg (fun H1 locs1 hP1 hD1 hS1 => kk p e s m args below meth c H1 locs1 cells slots mc ms ls B hv (HpA.set h1 hD h4 he2 hP1 hD1) hS1 g1 g2)
  · exact va_putN (D := D) B.1 B.2.1 B.2.2.2.2.1 c2 ty0 c3 c4 B.2.2.2.1 B.2.2.2.2.2.2.2.2.2.1.1 hP hD hS q0 he c1 k hk (va_Nw.use rfl (B.2.2.2.2.2.2.2.2.2.1.2.1 _ hl)) (fun _ h => h) h7 hd hn hfit hl9 hdg (fun H1 locs1 hP1 hD1 hS1 => kk p e s m args below meth c H1 locs1 cells slots mc ms ls B hv (HpA.set h1 hD h4 he2 hP1 hD1) hS1 g1 g2)
theorem E.putF {idx ci k a : Nat} {ty : FieldType} {fs : List Value} {v : Value} (hf : FLF M.1 idx ci k ty) (hin : M.2.2.1.name = "<init>") (hdg : decode M.2.1 pc = .ok (.putfield idx, 3)) (ha : hp a = some (.inr (ci, fs))) (hl9 : k < fs.length) (hn : narrow ty v = v) (hfit : fits ty v = true) (kk : E l D cy base M d bc bs (pc + 3) lv st (va_up hp a (some (.inr (ci, fs.set k v)))) Q) : E l D cy base M d bc bs pc lv (v :: .ref a :: st) hp Q := by
  intro p e s m args below meth c H locs cells slots mc ms ls B hv hH hS g1 g2
  obtain ⟨C, T, N, ty0, ⟨c1, c2, c3, c4⟩, hk, hl, h6, h7, h8⟩ := hf
  obtain ⟨L, f, q0, h1, hP, hD, h4, h5, he, he2⟩ := hH.get ha
  have hd := c3 k hk
  rw [h6] at hd
  exact va_putF (D := D) B.1 B.2.1 B.2.2.2.2.1 c2 ty0 c3 c4 B.2.2.2.1 B.2.2.2.2.2.2.2.2.2.1.1 hP hD hS q0 he c1 k hk (B.2.2.2.2.1 _ hl) (fun _ h => h) h7 (B.2.2.2.2.2.2.2.2.2.2.2 hin) h8 hd hn hfit hl9 hdg (fun H1 locs1 hP1 hD1 hS1 => kk p e s m args below meth c H1 locs1 cells slots mc ms ls B hv (HpA.set h1 hD h4 he2 hP1 hD1) hS1 g1 g2)
theorem E.ald {t0 a n : Nat} {f : Nat → Int32} {i : Int32} (ha : hp a = some (.inl (cy t0, n, .inl f))) (hin : vp_in i n) (hdg : (t0 = 2 ∧ decode M.2.1 pc = .ok (.iaload, 1)) ∨ (t0 = 1 ∧ decode M.2.1 pc = .ok (.caload, 1)) ∨ (t0 = 0 ∧ decode M.2.1 pc = .ok (.baload, 1)) ∨ (t0 = 3 ∧ decode M.2.1 pc = .ok (.baload, 1))) (kk : E l D cy base M d bc bs (pc + 1) lv (.int (f i.toNatClampNeg) :: st) hp Q) : E l D cy base M d bc bs pc lv (.int i :: .ref a :: st) hp Q := by
  intro p e s m args below meth c H locs cells slots mc ms ls B hv hH hS g1 g2
  obtain ⟨L, f0, q0, h1, hP, hD, h4, h5, he, he2⟩ := hH.get ha
  have K := kk p e s m args below meth c H locs cells slots mc ms ls B hv hH hS g1 g2
  have hK := B.2.2.2.2.2.2.2.2.2.1.1
  rcases hdg with ⟨rfl, hdg⟩ | ⟨rfl, hdg⟩ | ⟨rfl, hdg⟩ | ⟨rfl, hdg⟩
  · exact va_iald (D := D) B.1 B.2.1 hK hP q0 2 he rfl hin hdg K
  · exact va_cald (D := D) B.1 B.2.1 hK hP q0 1 he rfl hin hdg K
  · exact va_bald (D := D) B.1 B.2.1 hK hP q0 0 he rfl hin hdg K
  · exact va_zald (D := D) B.1 B.2.1 hK hP q0 3 he rfl hin hdg K
theorem E.iald {a n : Nat} {f : Nat → Int32} {i : Int32} (hdg : decode M.2.1 pc = .ok (.iaload, 1)) (ha : hp a = some (.inl (cy 2, n, .inl f))) (hin : vp_in i n) (kk : E l D cy base M d bc bs (pc + 1) lv (.int (f i.toNatClampNeg) :: st) hp Q) : E l D cy base M d bc bs pc lv (.int i :: .ref a :: st) hp Q := E.ald ha hin (Or.inl ⟨rfl, hdg⟩) kk
theorem E.cald {a n : Nat} {f : Nat → Int32} {i : Int32} (hdg : decode M.2.1 pc = .ok (.caload, 1)) (ha : hp a = some (.inl (cy 1, n, .inl f))) (hin : vp_in i n) (kk : E l D cy base M d bc bs (pc + 1) lv (.int (f i.toNatClampNeg) :: st) hp Q) : E l D cy base M d bc bs pc lv (.int i :: .ref a :: st) hp Q := E.ald ha hin (Or.inr (Or.inl ⟨rfl, hdg⟩)) kk
theorem E.bald {a n : Nat} {f : Nat → Int32} {i : Int32} (hdg : decode M.2.1 pc = .ok (.baload, 1)) (ha : hp a = some (.inl (cy 0, n, .inl f))) (hin : vp_in i n) (kk : E l D cy base M d bc bs (pc + 1) lv (.int (f i.toNatClampNeg) :: st) hp Q) : E l D cy base M d bc bs pc lv (.int i :: .ref a :: st) hp Q := E.ald ha hin (Or.inr (Or.inr (Or.inl ⟨rfl, hdg⟩))) kk
theorem E.zald {a n : Nat} {f : Nat → Int32} {i : Int32} (hdg : decode M.2.1 pc = .ok (.baload, 1)) (ha : hp a = some (.inl (cy 3, n, .inl f))) (hin : vp_in i n) (kk : E l D cy base M d bc bs (pc + 1) lv (.int (f i.toNatClampNeg) :: st) hp Q) : E l D cy base M d bc bs pc lv (.int i :: .ref a :: st) hp Q := E.ald ha hin (Or.inr (Or.inr (Or.inr ⟨rfl, hdg⟩))) kk
theorem E.iast {a n : Nat} {f : Nat → Int32} {i x : Int32} (hdg : decode M.2.1 pc = .ok (.iastore, 1)) (ha : hp a = some (.inl (cy 2, n, .inl f))) (hin : vp_in i n) (kk : E l D cy base M d bc bs (pc + 1) lv st (va_up hp a (some (.inl (cy 2, n, .inl (upd f i.toNatClampNeg x))))) Q) : E l D cy base M d bc bs pc lv (.int x :: .int i :: .ref a :: st) hp Q := by
  intro p e s m args below meth c H locs cells slots mc ms ls B hv hH hS g1 g2
  obtain ⟨L, f0, q0, h1, hP, hD, h4, h5, he, he2⟩ := hH.get ha
  exact va_iast (D := D) B.1 B.2.1 B.2.2.2.2.2.2.2.2.2.1.1 hP hD hS q0 2 he rfl hin hdg (fun H1 locs1 hP1 hD1 hS1 => kk p e s m args below meth c H1 locs1 cells slots mc ms ls B hv (HpA.set h1 hD h4 he2 hP1 hD1) hS1 g1 g2)
theorem E.cast {a n : Nat} {f : Nat → Int32} {i x : Int32} (hdg : decode M.2.1 pc = .ok (.castore, 1)) (ha : hp a = some (.inl (cy 1, n, .inl f))) (hin : vp_in i n) (kk : E l D cy base M d bc bs (pc + 1) lv st (va_up hp a (some (.inl (cy 1, n, .inl (upd f i.toNatClampNeg (vp_nar .char x)))))) Q) : E l D cy base M d bc bs pc lv (.int x :: .int i :: .ref a :: st) hp Q := by
  intro p e s m args below meth c H locs cells slots mc ms ls B hv hH hS g1 g2
  obtain ⟨L, f0, q0, h1, hP, hD, h4, h5, he, he2⟩ := hH.get ha
  exact va_cast (D := D) B.1 B.2.1 B.2.2.2.2.2.2.2.2.2.1.1 hP hD hS q0 1 he rfl hin hdg (fun H1 locs1 hP1 hD1 hS1 => kk p e s m args below meth c H1 locs1 cells slots mc ms ls B hv (HpA.set h1 hD h4 he2 hP1 hD1) hS1 g1 g2)
theorem E.bast {a n : Nat} {f : Nat → Int32} {i x : Int32} (hdg : decode M.2.1 pc = .ok (.bastore, 1)) (ha : hp a = some (.inl (cy 0, n, .inl f))) (hin : vp_in i n) (kk : E l D cy base M d bc bs (pc + 1) lv st (va_up hp a (some (.inl (cy 0, n, .inl (upd f i.toNatClampNeg (vp_nar .byte x)))))) Q) : E l D cy base M d bc bs pc lv (.int x :: .int i :: .ref a :: st) hp Q := by
  intro p e s m args below meth c H locs cells slots mc ms ls B hv hH hS g1 g2
  obtain ⟨L, f0, q0, h1, hP, hD, h4, h5, he, he2⟩ := hH.get ha
  exact va_bast (D := D) B.1 B.2.1 B.2.2.2.2.2.2.2.2.2.1.1 hP hD hS q0 0 he rfl hin hdg (fun H1 locs1 hP1 hD1 hS1 => kk p e s m args below meth c H1 locs1 cells slots mc ms ls B hv (HpA.set h1 hD h4 he2 hP1 hD1) hS1 g1 g2)
theorem E.zast {a n : Nat} {f : Nat → Int32} {i x : Int32} (hdg : decode M.2.1 pc = .ok (.bastore, 1)) (ha : hp a = some (.inl (cy 3, n, .inl f))) (hin : vp_in i n) (kk : E l D cy base M d bc bs (pc + 1) lv st (va_up hp a (some (.inl (cy 3, n, .inl (upd f i.toNatClampNeg (vp_nar .boolean x)))))) Q) : E l D cy base M d bc bs pc lv (.int x :: .int i :: .ref a :: st) hp Q := by
  intro p e s m args below meth c H locs cells slots mc ms ls B hv hH hS g1 g2
  obtain ⟨L, f0, q0, h1, hP, hD, h4, h5, he, he2⟩ := hH.get ha
  exact va_zast (D := D) B.1 B.2.1 B.2.2.2.2.2.2.2.2.2.1.1 hP hD hS q0 3 he rfl hin hdg (fun H1 locs1 hP1 hD1 hS1 => kk p e s m args below meth c H1 locs1 cells slots mc ms ls B hv (HpA.set h1 hD h4 he2 hP1 hD1) hS1 g1 g2)
theorem E.lald {a n : Nat} {f : Nat → Int64} {i : Int32} (hdg : decode M.2.1 pc = .ok (.laload, 1)) (ha : hp a = some (.inl (cy 4, n, .inr (.inl f)))) (hin : vp_in i n) (kk : E l D cy base M d bc bs (pc + 1) lv (.long (f i.toNatClampNeg) :: st) hp Q) : E l D cy base M d bc bs pc lv (.int i :: .ref a :: st) hp Q := by
  intro p e s m args below meth c H locs cells slots mc ms ls B hv hH hS g1 g2
  obtain ⟨L, f0, q0, h1, hP, hD, h4, h5, he, he2⟩ := hH.get ha
  exact va_lald (D := D) B.1 B.2.1 B.2.2.2.2.2.2.2.2.2.1.1 hP q0 4 he rfl hin hdg (kk p e s m args below meth c H locs cells slots mc ms ls B hv hH hS g1 g2)
theorem E.last {a n : Nat} {f : Nat → Int64} {i : Int32} {x : Int64} (hdg : decode M.2.1 pc = .ok (.lastore, 1)) (ha : hp a = some (.inl (cy 4, n, .inr (.inl f)))) (hin : vp_in i n) (kk : E l D cy base M d bc bs (pc + 1) lv st (va_up hp a (some (.inl (cy 4, n, .inr (.inl (vp_updL f i.toNatClampNeg x)))))) Q) : E l D cy base M d bc bs pc lv (.long x :: .int i :: .ref a :: st) hp Q := by
  intro p e s m args below meth c H locs cells slots mc ms ls B hv hH hS g1 g2
  obtain ⟨L, f0, q0, h1, hP, hD, h4, h5, he, he2⟩ := hH.get ha
  exact va_last (D := D) B.1 B.2.1 B.2.2.2.2.2.2.2.2.2.1.1 hP hD hS q0 4 he rfl hin hdg (fun H1 locs1 hP1 hD1 hS1 => kk p e s m args below meth c H1 locs1 cells slots mc ms ls B hv (HpA.set h1 hD h4 he2 hP1 hD1) hS1 g1 g2)
theorem E.alen {a t0 : Nat} {x : vp_A} {ty : FieldType} {v : Int32} (ht : (tyx cy)[t0]? = some (cy t0, ty)) (hdg : decode M.2.1 pc = .ok (.arraylength, 1)) (ha : hp a = some (.inl (cy t0, x))) (hv9 : Int32.ofNat x.1 = v) (kk : E l D cy base M d bc bs (pc + 1) lv (.int v :: st) hp Q) : E l D cy base M d bc bs pc lv (.ref a :: st) hp Q := by
  intro p e s m args below meth c H locs cells slots mc ms ls B hv hH hS g1 g2
  obtain ⟨L, f0, q0, h1, hP, hD, h4, h5, he, he2⟩ := hH.get ha
  exact va_alen (D := D) B.1 B.2.1 B.2.2.2.2.2.2.2.2.2.1.1 hP q0 t0 he ht hv9 hdg (kk p e s m args below meth c H locs cells slots mc ms ls B hv hH hS g1 g2)
theorem E.aldE {a n : Nat} {f : Nat → Option Nat} {i : Int32} (hdg : decode M.2.1 pc = .ok (.aaload, 1)) (ha : hp a = some (.inl (cy 5, n, .inr (.inr (.inr (.inr f)))))) (hin : vp_in i n) (kk : E l D cy base M d bc bs (pc + 1) lv (va_rf (f i.toNatClampNeg) :: st) hp Q) : E l D cy base M d bc bs pc lv (.int i :: .ref a :: st) hp Q := by
  intro p e s m args below meth c H locs cells slots mc ms ls B hv hH hS g1 g2
  obtain ⟨L, f0, q0, h1, hP, hD, h4, h5, he, he2⟩ := hH.get ha
  exact va_aldq (D := D) B.1 B.2.1 B.2.2.2.2.2.2.2.2.2.1.1 hP q0 5 he rfl hin hdg (kk p e s m args below meth c H locs cells slots mc ms ls B hv hH hS g1 g2)
theorem E.aldI {a n : Nat} {f : Nat → Option Nat} {i : Int32} (hdg : decode M.2.1 pc = .ok (.aaload, 1)) (ha : hp a = some (.inl (cy 6, n, .inr (.inr (.inr (.inr f)))))) (hin : vp_in i n) (kk : E l D cy base M d bc bs (pc + 1) lv (va_rf (f i.toNatClampNeg) :: st) hp Q) : E l D cy base M d bc bs pc lv (.int i :: .ref a :: st) hp Q := by
  intro p e s m args below meth c H locs cells slots mc ms ls B hv hH hS g1 g2
  obtain ⟨L, f0, q0, h1, hP, hD, h4, h5, he, he2⟩ := hH.get ha
  have hlt : i.toNatClampNeg < n := Nat.not_le.mp fun q => hin (Or.inr q)
  exact W.aald (v := va_rf (f i.toNatClampNeg)) (ty := .array .int) B.1 B.2.1 (hP q0 _ he) ((B.2.2.2.2.2.2.2.2.2.1.1.2 6 _ rfl).1 n (fun j => va_rf (f j))) rfl (fun q => by cases q) (by show ¬ (i < 0 ∨ (arrV _ _ _).slots.size ≤ _); rw [arrV_size]; exact hin) (by show (arrV _ _ _).slots[_]? = _; rw [arrV_read _ _ hlt]) rfl rfl hdg (kk p e s m args below meth c H locs cells slots mc ms ls B hv hH hS g1 g2)
theorem E.astE {a n : Nat} {f : Nat → Option Nat} {i : Int32} {r : Option Nat} (hdg : decode M.2.1 pc = .ok (.aastore, 1)) (ha : hp a = some (.inl (cy 5, n, .inr (.inr (.inr (.inr f)))))) (hr : ∀ b, r = some b → ∃ fs, hp b = some (.inr (1, fs))) (hin : vp_in i n) (kk : E l D cy base M d bc bs (pc + 1) lv st (va_up hp a (some (.inl (cy 5, n, .inr (.inr (.inr (.inr (va_up f i.toNatClampNeg r)))))))) Q) : E l D cy base M d bc bs pc lv (va_rf r :: .int i :: .ref a :: st) hp Q := by
  intro p e s m args below meth c H locs cells slots mc ms ls B hv hH hS g1 g2
  obtain ⟨L, f0, q0, h1, hP, hD, h4, h5, he, he2⟩ := hH.get ha
  cases r with
  | none => exact va_astqN (D := D) B.1 B.2.1 B.2.2.2.2.2.2.2.2.2.1.1 hP hD hS q0 5 he rfl hin hdg (fun H1 locs1 hP1 hD1 hS1 => kk p e s m args below meth c H1 locs1 cells slots mc ms ls B hv (HpA.set h1 hD h4 he2 hP1 hD1) hS1 g1 g2)
  | some b =>
    obtain ⟨fs, hb⟩ := hr b rfl
    obtain ⟨h6, h7⟩ := h1 b _ hb
    obtain ⟨qk, hk⟩ := va_pl_get (X := []) (f := f0) h6
    have hk : (va_pl L f0)[qk]? = some (b, f0 b) := hk
    rw [h7] at hk
    exact va_astq (D := D) B.1 B.2.1 B.2.2.2.2.2.2.2.2.2.1.1 hP hD hS q0 5 qk 1 (r := (RX1, TX1, 2)) he rfl hk rfl hin hdg (fun H1 locs1 hP1 hD1 hS1 => kk p e s m args below meth c H1 locs1 cells slots mc ms ls B hv (HpA.set h1 hD h4 he2 hP1 hD1) hS1 g1 g2)
/-- a new object of our class ci -/
theorem E.new {idx ci N : Nat} {C : String} {T : u_T} {ty : Nat → FieldType} {fs : List Value} (cf : CF ci C T N ty) (hw : Cond.classLink M.1 idx C ∈ gw ∧ Cond.instantiable C N ∈ gw ∧ Cond.initialized C ∈ gw) (hdg : decode M.2.1 pc = .ok (.new idx, 3)) (hfs : ∀ j, j < N → defaultValue (ty j) = vp_V fs j) (kk : ∀ q, hp q = none → E l D cy base M d bc bs (pc + 3) lv (.ref q :: st) (va_up hp q (some (.inr (ci, fs)))) Q) : E l D cy base M d (bc + 1) (bs + N) pc lv st hp Q := by
  intro p e s m args below meth c H locs cells slots mc ms ls B hv hH hS g1 g2
  obtain ⟨L, f, h1, hP, hD⟩ := hH
  have hA : ∀ q, s.heap.size ≤ q → Abv base q := fun q h => Nat.le_trans B.2.2.2.2.2.2.2.2.2.2.1 h
  have hts := B.2.2.2.2.1
  refine va_new (D := D) (ci := ci) (fs := fs) B.1 B.2.1 hts cf.2.1 ty cf.2.2.1 B.2.2.2.1 (hts _ hw.1) (hts _ hw.2.1) (hts _ hw.2.2) B.2.2.2.2.2.2.2.2.2.1.1 hP hD hS hA cf.1 hfs (show cells + 1 ≤ mc by omega) (show slots + N ≤ ms by omega) hdg (fun q H1 hP1 hD1 hS1 => ?_)
  obtain ⟨h2, h3⟩ := HpA.new h1 hP1 hD1
  exact kk q h2 p e s m args below meth c H1 locs (cells + 1) (slots + N) mc ms ls B hv h3 hS1 (by omega) (by omega)
/-- a new array of numbers -/
theorem E.newa {at9 : ArrayType} {t0 N : Nat} {ty : FieldType} {n : Int32} {a0 : vp_A} (hty : newarray.typeOf at9 = ty) (ht : (tyx cy)[t0]? = some (cy t0, ty)) (hra : ∀ U cA, va_RA U cA ty = (U.vm.findClass ("[" ++ ty.toString) = some cA)) (hw : Cond.arrayClass ty ∈ gw) (hdg : decode M.2.1 pc = .ok (.newarray at9, 2)) (ha0 : ∀ cA : ClassId, vp_cell cA a0 = arrV cA N (fun _ => defaultValue ty)) (hn : ¬ n < 0) (hN : n.toNatClampNeg = N) (hby : N * componentBytes ty ≤ 536870912) (kk : ∀ q, hp q = none → E l D cy base M d bc bs (pc + 2) lv (.ref q :: st) (va_up hp q (some (.inl (cy t0, a0)))) Q) : E l D cy base M d (bc + 1) (bs + N) pc lv (.int n :: st) hp Q := by
  intro p e s m args below meth c H locs cells slots mc ms ls B hv hH hS g1 g2
  obtain ⟨L, f, h1, hP, hD⟩ := hH
  have hA : ∀ q, s.heap.size ≤ q → Abv base q := fun q h => Nat.le_trans B.2.2.2.2.2.2.2.2.2.2.1 h
  have hts := B.2.2.2.2.1
  have hK := B.2.2.2.2.2.2.2.2.2.1.1
  refine va_newa (D := D) (tys := tyx cy) B.1 B.2.1 (by rw [hty]; exact hts _ hw) hty hK hP hD hS hA ha0 hn hN hby (show cells + 1 ≤ mc by omega) (show slots + N ≤ ms by omega) hdg (fun q cA H1 hK1 hP1 hD1 hS1 => ?_)
  have e1 := (hK1.2 7 (cA, ty) rfl).2
  have e2 := (hK.2 t0 _ ht).2
  rw [hra] at e1 e2
  have e3 : cA = cy t0 := Option.some.inj (e1.symm.trans e2)
  subst e3
  obtain ⟨h2, h3⟩ := HpA.new h1 hP1 hD1
  exact kk q h2 p e s m args below meth c H1 locs (cells + 1) (slots + N) mc ms ls B hv h3 hS1 (by omega) (by omega)
end HEAP
