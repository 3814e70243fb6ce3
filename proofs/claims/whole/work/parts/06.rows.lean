def lget : List (Nat × Value) → Nat → Option Value
  | [], _ => none
  | (j, v) :: t, i => bif Nat.beq j i then some v else lget t i
theorem lget_mem : ∀ {lv : List (Nat × Value)} {i : Nat} {v : Value}, lget lv i = some v → (i, v) ∈ lv
  | (j, w) :: t, i, v, h => by
    unfold lget at h
    cases hb : Nat.beq j i with
    | true =>
      rw [hb] at h
      have hj : j = i := Nat.eq_of_beq_eq_true hb
      have hw : w = v := Option.some.inj h
      subst hj; subst hw
      exact List.mem_cons_self
    | false =>
      rw [hb] at h
      exact List.mem_cons_of_mem _ (lget_mem h)
def lset (lv : List (Nat × Value)) (i : Nat) (v : Value) : List (Nat × Value) := (i, v) :: lv.filter (fun q => !(q.1 == i) && !(q.1 + 1 == i && q.2.category == 2))
def lset2 (lv : List (Nat × Value)) (i : Nat) (v : Value) : List (Nat × Value) := (i, v) :: lv.filter (fun q => !(q.1 == i) && (!(q.1 == i + 1) && !(q.1 + 1 == i && q.2.category == 2)))
def lsubs (lv : List (Nat × Value)) : List (Nat × Value) → Prop
  | [] => True
  | (i, v) :: t => lget lv i = some v ∧ lsubs lv t
theorem lsubs_mem {lv : List (Nat × Value)} : ∀ {lv' : List (Nat × Value)}, lsubs lv lv' → ∀ q ∈ lv', q ∈ lv
  | [], _, q, h => by cases h
  | (i, v) :: t, hs, q, h => by
    rcases List.mem_cons.mp h with h | h
    · rw [h]; exact lget_mem hs.1
    · exact lsubs_mem hs.2 q h
section ROWS
variable {l : Launch} {D : va_G} {cy : Nat → ClassId} {base : Nat} {M : Mth} {d bc bs pc : Nat} {lv : List (Nat × Value)} {st : List Value} {hp : Hp} {Q : Oc → Hp → Prop}
theorem E.loc {lv' : List (Nat × Value)} (h : lsubs lv lv') (k : E l D cy base M d bc bs pc lv' st hp Q) : E l D cy base M d bc bs pc lv st hp Q := E.sub (lsubs_mem h) k
theorem E.iadd {x y : Int32} (hdg : decode M.2.1 pc = .ok (.iadd, 1))  (k : E l D cy base M d bc bs (pc + 1) lv (.int (x + y) :: st) hp Q) : E l D cy base M d bc bs (pc) lv (.int y :: .int x :: st) hp Q :=
  fun p e s m args below meth c H locs cells slots mc ms ls B hv hH hS g1 g2 => lv_iadd B.1 B.2.1 hdg  (k p e s m args below meth c H locs cells slots mc ms ls B hv hH hS g1 g2)
theorem E.isub {x y : Int32} (hdg : decode M.2.1 pc = .ok (.isub, 1))  (k : E l D cy base M d bc bs (pc + 1) lv (.int (x - y) :: st) hp Q) : E l D cy base M d bc bs (pc) lv (.int y :: .int x :: st) hp Q :=
  fun p e s m args below meth c H locs cells slots mc ms ls B hv hH hS g1 g2 => lv_isub B.1 B.2.1 hdg  (k p e s m args below meth c H locs cells slots mc ms ls B hv hH hS g1 g2)
theorem E.imul {x y : Int32} (hdg : decode M.2.1 pc = .ok (.imul, 1))  (k : E l D cy base M d bc bs (pc + 1) lv (.int (x * y) :: st) hp Q) : E l D cy base M d bc bs (pc) lv (.int y :: .int x :: st) hp Q :=
  fun p e s m args below meth c H locs cells slots mc ms ls B hv hH hS g1 g2 => lv_imul B.1 B.2.1 hdg  (k p e s m args below meth c H locs cells slots mc ms ls B hv hH hS g1 g2)
theorem E.iand {x y : Int32} (hdg : decode M.2.1 pc = .ok (.iand, 1))  (k : E l D cy base M d bc bs (pc + 1) lv (.int (x &&& y) :: st) hp Q) : E l D cy base M d bc bs (pc) lv (.int y :: .int x :: st) hp Q :=
  fun p e s m args below meth c H locs cells slots mc ms ls B hv hH hS g1 g2 => lv_iand B.1 B.2.1 hdg  (k p e s m args below meth c H locs cells slots mc ms ls B hv hH hS g1 g2)
theorem E.ior {x y : Int32} (hdg : decode M.2.1 pc = .ok (.ior, 1))  (k : E l D cy base M d bc bs (pc + 1) lv (.int (x ||| y) :: st) hp Q) : E l D cy base M d bc bs (pc) lv (.int y :: .int x :: st) hp Q :=
  fun p e s m args below meth c H locs cells slots mc ms ls B hv hH hS g1 g2 => lv_ior B.1 B.2.1 hdg  (k p e s m args below meth c H locs cells slots mc ms ls B hv hH hS g1 g2)
theorem E.ixor {x y : Int32} (hdg : decode M.2.1 pc = .ok (.ixor, 1))  (k : E l D cy base M d bc bs (pc + 1) lv (.int (x ^^^ y) :: st) hp Q) : E l D cy base M d bc bs (pc) lv (.int y :: .int x :: st) hp Q :=
  fun p e s m args below meth c H locs cells slots mc ms ls B hv hH hS g1 g2 => lv_ixor B.1 B.2.1 hdg  (k p e s m args below meth c H locs cells slots mc ms ls B hv hH hS g1 g2)
theorem E.ishl {x y : Int32} (hdg : decode M.2.1 pc = .ok (.ishl, 1))  (k : E l D cy base M d bc bs (pc + 1) lv (.int (x <<< (y &&& 31)) :: st) hp Q) : E l D cy base M d bc bs (pc) lv (.int y :: .int x :: st) hp Q :=
  fun p e s m args below meth c H locs cells slots mc ms ls B hv hH hS g1 g2 => lv_ishl B.1 B.2.1 hdg  (k p e s m args below meth c H locs cells slots mc ms ls B hv hH hS g1 g2)
theorem E.idiv {x y : Int32} (hdg : decode M.2.1 pc = .ok (.idiv, 1)) (hne : ¬ y = 0) (k : E l D cy base M d bc bs (pc + 1) lv (.int (x / y) :: st) hp Q) : E l D cy base M d bc bs (pc) lv (.int y :: .int x :: st) hp Q :=
  fun p e s m args below meth c H locs cells slots mc ms ls B hv hH hS g1 g2 => lv_idiv B.1 B.2.1 hdg hne (k p e s m args below meth c H locs cells slots mc ms ls B hv hH hS g1 g2)
theorem E.irem {x y : Int32} (hdg : decode M.2.1 pc = .ok (.irem, 1)) (hne : ¬ y = 0) (k : E l D cy base M d bc bs (pc + 1) lv (.int (x - x / y * y) :: st) hp Q) : E l D cy base M d bc bs (pc) lv (.int y :: .int x :: st) hp Q :=
  fun p e s m args below meth c H locs cells slots mc ms ls B hv hH hS g1 g2 => lv_irem B.1 B.2.1 hdg hne (k p e s m args below meth c H locs cells slots mc ms ls B hv hH hS g1 g2)
theorem E.iconst {n : Int} {v : Int32} (hdg : decode M.2.1 pc = .ok (.iconst n, 1)) (hv9 : Int32.ofInt n = v) (k : E l D cy base M d bc bs (pc + 1) lv (.int v :: st) hp Q) : E l D cy base M d bc bs (pc) lv (st) hp Q :=
  fun p e s m args below meth c H locs cells slots mc ms ls B hv hH hS g1 g2 => lv_iconst B.1 B.2.1 hdg hv9 (k p e s m args below meth c H locs cells slots mc ms ls B hv hH hS g1 g2)
theorem E.bipush {n : Int} {v : Int32} (hdg : decode M.2.1 pc = .ok (.bipush n, 2)) (hv9 : (Int8.ofInt n).toInt32 = v) (k : E l D cy base M d bc bs (pc + 2) lv (.int v :: st) hp Q) : E l D cy base M d bc bs (pc) lv (st) hp Q :=
  fun p e s m args below meth c H locs cells slots mc ms ls B hv hH hS g1 g2 => lv_bipush B.1 B.2.1 hdg hv9 (k p e s m args below meth c H locs cells slots mc ms ls B hv hH hS g1 g2)
theorem E.sipush {n : Int} {v : Int32} (hdg : decode M.2.1 pc = .ok (.sipush n, 3)) (hv9 : (Int16.ofInt n).toInt32 = v) (k : E l D cy base M d bc bs (pc + 3) lv (.int v :: st) hp Q) : E l D cy base M d bc bs (pc) lv (st) hp Q :=
  fun p e s m args below meth c H locs cells slots mc ms ls B hv hH hS g1 g2 => lv_sipush B.1 B.2.1 hdg hv9 (k p e s m args below meth c H locs cells slots mc ms ls B hv hH hS g1 g2)
theorem E.lconst {n : Fin 2} {v : Int64} (hdg : decode M.2.1 pc = .ok (.lconst n, 1)) (hv9 : Int64.ofNat (n : Nat) = v) (k : E l D cy base M d bc bs (pc + 1) lv (.long v :: st) hp Q) : E l D cy base M d bc bs (pc) lv (st) hp Q :=
  fun p e s m args below meth c H locs cells slots mc ms ls B hv hH hS g1 g2 => lv_lconst B.1 B.2.1 hdg hv9 (k p e s m args below meth c H locs cells slots mc ms ls B hv hH hS g1 g2)
theorem E.i2b {x v : Int32} (hdg : decode M.2.1 pc = .ok (.i2b, 1)) (hv9 : x.toInt8.toInt32 = v) (k : E l D cy base M d bc bs (pc + 1) lv (.int v :: st) hp Q) : E l D cy base M d bc bs (pc) lv (.int x :: st) hp Q :=
  fun p e s m args below meth c H locs cells slots mc ms ls B hv hH hS g1 g2 => lv_i2b B.1 B.2.1 hdg hv9 (k p e s m args below meth c H locs cells slots mc ms ls B hv hH hS g1 g2)
theorem E.i2c {x v : Int32} (hdg : decode M.2.1 pc = .ok (.i2c, 1)) (hv9 : (x.toUInt32 % 65536).toInt32 = v) (k : E l D cy base M d bc bs (pc + 1) lv (.int v :: st) hp Q) : E l D cy base M d bc bs (pc) lv (.int x :: st) hp Q :=
  fun p e s m args below meth c H locs cells slots mc ms ls B hv hH hS g1 g2 => lv_i2c B.1 B.2.1 hdg hv9 (k p e s m args below meth c H locs cells slots mc ms ls B hv hH hS g1 g2)
theorem E.i2l {x : Int32} {v : Int64} (hdg : decode M.2.1 pc = .ok (.i2l, 1)) (hv9 : x.toInt64 = v) (k : E l D cy base M d bc bs (pc + 1) lv (.long v :: st) hp Q) : E l D cy base M d bc bs (pc) lv (.int x :: st) hp Q :=
  fun p e s m args below meth c H locs cells slots mc ms ls B hv hH hS g1 g2 => lv_i2l B.1 B.2.1 hdg hv9 (k p e s m args below meth c H locs cells slots mc ms ls B hv hH hS g1 g2)
theorem E.i2f {x : Int32} (hdg : decode M.2.1 pc = .ok (.i2f, 1))  (k : E l D cy base M d bc bs (pc + 1) lv (.float (FP.i2f x) :: st) hp Q) : E l D cy base M d bc bs (pc) lv (.int x :: st) hp Q :=
  fun p e s m args below meth c H locs cells slots mc ms ls B hv hH hS g1 g2 => lv_i2f B.1 B.2.1 hdg  (k p e s m args below meth c H locs cells slots mc ms ls B hv hH hS g1 g2)
theorem E.fdiv {x y : UInt32} (hdg : decode M.2.1 pc = .ok (.fdiv, 1)) (hne : vf_n32 (FP.fdiv x y)) (k : E l D cy base M d bc bs (pc + 1) lv (.float (FP.fdiv x y) :: st) hp Q) : E l D cy base M d bc bs (pc) lv (.float y :: .float x :: st) hp Q :=
  fun p e s m args below meth c H locs cells slots mc ms ls B hv hH hS g1 g2 => lv_fdiv B.1 B.2.1 hdg hne (k p e s m args below meth c H locs cells slots mc ms ls B hv hH hS g1 g2)
theorem E.f2d {x : UInt32} (hdg : decode M.2.1 pc = .ok (.f2d, 1)) (hne : vf_n64 (FP.f2d x)) (k : E l D cy base M d bc bs (pc + 1) lv (.double (FP.f2d x) :: st) hp Q) : E l D cy base M d bc bs (pc) lv (.float x :: st) hp Q :=
  fun p e s m args below meth c H locs cells slots mc ms ls B hv hH hS g1 g2 => lv_f2d B.1 B.2.1 hdg hne (k p e s m args below meth c H locs cells slots mc ms ls B hv hH hS g1 g2)
theorem E.fconst0  (hdg : decode M.2.1 pc = .ok (.fconst 0, 1))  (k : E l D cy base M d bc bs (pc + 1) lv (.float FP.fconst0 :: st) hp Q) : E l D cy base M d bc bs (pc) lv (st) hp Q :=
  fun p e s m args below meth c H locs cells slots mc ms ls B hv hH hS g1 g2 => lv_fconst0 B.1 B.2.1 hdg  (k p e s m args below meth c H locs cells slots mc ms ls B hv hH hS g1 g2)
theorem E.dcmp {x y : UInt64} {op : CmpOp} (hdg : decode M.2.1 pc = .ok (.dcmp op, 1))  (k : E l D cy base M d bc bs (pc + 1) lv (.int (Op.cmpValue (FP.dcmp x y) op) :: st) hp Q) : E l D cy base M d bc bs (pc) lv (.double y :: .double x :: st) hp Q :=
  fun p e s m args below meth c H locs cells slots mc ms ls B hv hH hS g1 g2 => lv_dcmp B.1 B.2.1 hdg  (k p e s m args below meth c H locs cells slots mc ms ls B hv hH hS g1 g2)
theorem E.lcmp {x y : Int64} (hdg : decode M.2.1 pc = .ok (.lcmp, 1)) (k : E l D cy base M d bc bs (pc + 1) lv (.int (lg_cmp x y) :: st) hp Q) : E l D cy base M d bc bs (pc) lv (.long y :: .long x :: st) hp Q :=
  fun p e s m args below meth c H locs cells slots mc ms ls B hv hH hS g1 g2 => W.lcmp B.1 B.2.1 hdg (k p e s m args below meth c H locs cells slots mc ms ls B hv hH hS g1 g2)
theorem E.dup {va : Value} (hdg : decode M.2.1 pc = .ok (.dup, 1)) (h1 : va.category = 1) (k : E l D cy base M d bc bs (pc + 1) lv (va :: va :: st) hp Q) : E l D cy base M d bc bs (pc) lv (va :: st) hp Q :=
  fun p e s m args below meth c H locs cells slots mc ms ls B hv hH hS g1 g2 => lv_dup B.1 B.2.1 hdg h1 (k p e s m args below meth c H locs cells slots mc ms ls B hv hH hS g1 g2)
theorem E.pop {va : Value} (hdg : decode M.2.1 pc = .ok (.pop, 1)) (h1 : va.category = 1) (k : E l D cy base M d bc bs (pc + 1) lv (st) hp Q) : E l D cy base M d bc bs (pc) lv (va :: st) hp Q :=
  fun p e s m args below meth c H locs cells slots mc ms ls B hv hH hS g1 g2 => lv_pop B.1 B.2.1 hdg h1 (k p e s m args below meth c H locs cells slots mc ms ls B hv hH hS g1 g2)
theorem E.dup_x1 {va vb : Value} (hdg : decode M.2.1 pc = .ok (.dup_x1, 1)) (h1 : va.category = 1) (h2 : vb.category = 1) (k : E l D cy base M d bc bs (pc + 1) lv (va :: vb :: va :: st) hp Q) : E l D cy base M d bc bs (pc) lv (va :: vb :: st) hp Q :=
  fun p e s m args below meth c H locs cells slots mc ms ls B hv hH hS g1 g2 => lv_dup_x1 B.1 B.2.1 hdg h1 h2 (k p e s m args below meth c H locs cells slots mc ms ls B hv hH hS g1 g2)
theorem E.dup_x2 {va vb vd : Value} (hdg : decode M.2.1 pc = .ok (.dup_x2, 1)) (h1 : va.category = 1) (h2 : vb.category = 1) (h3 : vd.category = 1) (k : E l D cy base M d bc bs (pc + 1) lv (va :: vb :: vd :: va :: st) hp Q) : E l D cy base M d bc bs (pc) lv (va :: vb :: vd :: st) hp Q :=
  fun p e s m args below meth c H locs cells slots mc ms ls B hv hH hS g1 g2 => lv_dup_x2 B.1 B.2.1 hdg h1 h2 h3 (k p e s m args below meth c H locs cells slots mc ms ls B hv hH hS g1 g2)
theorem E.dup2 {va vb : Value} (hdg : decode M.2.1 pc = .ok (.dup2, 1)) (h1 : va.category = 1) (h2 : vb.category = 1) (k : E l D cy base M d bc bs (pc + 1) lv (va :: vb :: va :: vb :: st) hp Q) : E l D cy base M d bc bs (pc) lv (va :: vb :: st) hp Q :=
  fun p e s m args below meth c H locs cells slots mc ms ls B hv hH hS g1 g2 => lv_dup2_11 B.1 B.2.1 hdg h1 h2 (k p e s m args below meth c H locs cells slots mc ms ls B hv hH hS g1 g2)
theorem E.iload_n {k9 : Fin 4} {i : Nat} {x : Int32} (hdg : decode M.2.1 pc = .ok (.iload_n k9, 1)) (hi : (k9 : Nat) = i) (hg : lget lv i = some (.int x)) (k : E l D cy base M d bc bs (pc + 1) lv (.int x :: st) hp Q) : E l D cy base M d bc bs (pc) lv (st) hp Q :=
  fun p e s m args below meth c H locs cells slots mc ms ls B hv hH hS g1 g2 => lv_iload_n B.1 B.2.1 hdg hi (hv.2.2 _ (lget_mem hg)) (k p e s m args below meth c H locs cells slots mc ms ls B hv hH hS g1 g2)
theorem E.iload {i : Nat} {x : Int32} (hdg : decode M.2.1 pc = .ok (.iload i, 2)) (hg : lget lv i = some (.int x)) (k : E l D cy base M d bc bs (pc + 2) lv (.int x :: st) hp Q) : E l D cy base M d bc bs (pc) lv (st) hp Q :=
  fun p e s m args below meth c H locs cells slots mc ms ls B hv hH hS g1 g2 => lv_iload B.1 B.2.1 hdg (hv.2.2 _ (lget_mem hg)) (k p e s m args below meth c H locs cells slots mc ms ls B hv hH hS g1 g2)
theorem E.aload_n {k9 : Fin 4} {i : Nat} {x : Nat} (hdg : decode M.2.1 pc = .ok (.aload_n k9, 1)) (hi : (k9 : Nat) = i) (hg : lget lv i = some (.ref x)) (k : E l D cy base M d bc bs (pc + 1) lv (.ref x :: st) hp Q) : E l D cy base M d bc bs (pc) lv (st) hp Q :=
  fun p e s m args below meth c H locs cells slots mc ms ls B hv hH hS g1 g2 => lv_aload_n B.1 B.2.1 hdg hi (hv.2.2 _ (lget_mem hg)) (k p e s m args below meth c H locs cells slots mc ms ls B hv hH hS g1 g2)
theorem E.aload {i : Nat} {x : Nat} (hdg : decode M.2.1 pc = .ok (.aload i, 2)) (hg : lget lv i = some (.ref x)) (k : E l D cy base M d bc bs (pc + 2) lv (.ref x :: st) hp Q) : E l D cy base M d bc bs (pc) lv (st) hp Q :=
  fun p e s m args below meth c H locs cells slots mc ms ls B hv hH hS g1 g2 => lv_aload B.1 B.2.1 hdg (hv.2.2 _ (lget_mem hg)) (k p e s m args below meth c H locs cells slots mc ms ls B hv hH hS g1 g2)
theorem E.dload_n {k9 : Fin 4} {i : Nat} {x : UInt64} (hdg : decode M.2.1 pc = .ok (.dload_n k9, 1)) (hi : (k9 : Nat) = i) (hg : lget lv i = some (.double x)) (k : E l D cy base M d bc bs (pc + 1) lv (.double x :: st) hp Q) : E l D cy base M d bc bs (pc) lv (st) hp Q :=
  fun p e s m args below meth c H locs cells slots mc ms ls B hv hH hS g1 g2 => lv_dload_n B.1 B.2.1 hdg hi (hv.2.2 _ (lget_mem hg)) (k p e s m args below meth c H locs cells slots mc ms ls B hv hH hS g1 g2)
theorem E.dload {i : Nat} {x : UInt64} (hdg : decode M.2.1 pc = .ok (.dload i, 2)) (hg : lget lv i = some (.double x)) (k : E l D cy base M d bc bs (pc + 2) lv (.double x :: st) hp Q) : E l D cy base M d bc bs (pc) lv (st) hp Q :=
  fun p e s m args below meth c H locs cells slots mc ms ls B hv hH hS g1 g2 => lv_dload B.1 B.2.1 hdg (hv.2.2 _ (lget_mem hg)) (k p e s m args below meth c H locs cells slots mc ms ls B hv hH hS g1 g2)
theorem E.aloadq_n {k9 : Fin 4} {i : Nat} {r : Option Nat} (hdg : decode M.2.1 pc = .ok (.aload_n k9, 1)) (hi : (k9 : Nat) = i) (hg : lget lv i = some (va_rf r)) (k : E l D cy base M d bc bs (pc + 1) lv (va_rf r :: st) hp Q) : E l D cy base M d bc bs (pc) lv (st) hp Q := by
  intro p e s m args below meth c H locs cells slots mc ms ls B hv hH hS g1 g2
  have h1 := hv.2.2 _ (lget_mem hg)
  have h2 := k p e s m args below meth c H locs cells slots mc ms ls B hv hH hS g1 g2
  cases r with
  | none => exact lv_aload_nN B.1 B.2.1 hdg hi h1 h2
  | some x => exact lv_aload_n B.1 B.2.1 hdg hi h1 h2
theorem E.aloadq {i : Nat} {r : Option Nat} (hdg : decode M.2.1 pc = .ok (.aload i, 2)) (hg : lget lv i = some (va_rf r)) (k : E l D cy base M d bc bs (pc + 2) lv (va_rf r :: st) hp Q) : E l D cy base M d bc bs (pc) lv (st) hp Q := by
  intro p e s m args below meth c H locs cells slots mc ms ls B hv hH hS g1 g2
  have h1 := hv.2.2 _ (lget_mem hg)
  have h2 := k p e s m args below meth c H locs cells slots mc ms ls B hv hH hS g1 g2
  cases r with
  | none => exact lv_aloadN B.1 B.2.1 hdg h1 h2
  | some x => exact lv_aload B.1 B.2.1 hdg h1 h2
theorem E.istore_n {k9 : Fin 4} {i : Nat} {x : Int32} (hdg : decode M.2.1 pc = .ok (.istore_n k9, 1)) (hi : (k9 : Nat) = i) (hn : i < M.2.2.2.1) (k : E l D cy base M d bc bs (pc + 1) (lset lv i (.int x)) (st) hp Q) : E l D cy base M d bc bs (pc) lv (.int x :: st) hp Q :=
  fun p e s m args below meth c H locs cells slots mc ms ls B hv hH hS g1 g2 => lv_istore_n B.1 B.2.1 hdg hi hv hn rfl (fun ls hv => k p e s m args below meth c H locs cells slots mc ms ls B hv hH hS g1 g2)
theorem E.istore {i : Nat} {x : Int32} (hdg : decode M.2.1 pc = .ok (.istore i, 2)) (hn : i < M.2.2.2.1) (k : E l D cy base M d bc bs (pc + 2) (lset lv i (.int x)) (st) hp Q) : E l D cy base M d bc bs (pc) lv (.int x :: st) hp Q :=
  fun p e s m args below meth c H locs cells slots mc ms ls B hv hH hS g1 g2 => lv_istore B.1 B.2.1 hdg hv hn rfl (fun ls hv => k p e s m args below meth c H locs cells slots mc ms ls B hv hH hS g1 g2)
theorem E.astore_n {k9 : Fin 4} {i : Nat} {x : Nat} (hdg : decode M.2.1 pc = .ok (.astore_n k9, 1)) (hi : (k9 : Nat) = i) (hn : i < M.2.2.2.1) (k : E l D cy base M d bc bs (pc + 1) (lset lv i (.ref x)) (st) hp Q) : E l D cy base M d bc bs (pc) lv (.ref x :: st) hp Q :=
  fun p e s m args below meth c H locs cells slots mc ms ls B hv hH hS g1 g2 => lv_astore_n B.1 B.2.1 hdg hi hv hn rfl (fun ls hv => k p e s m args below meth c H locs cells slots mc ms ls B hv hH hS g1 g2)
theorem E.astore {i : Nat} {x : Nat} (hdg : decode M.2.1 pc = .ok (.astore i, 2)) (hn : i < M.2.2.2.1) (k : E l D cy base M d bc bs (pc + 2) (lset lv i (.ref x)) (st) hp Q) : E l D cy base M d bc bs (pc) lv (.ref x :: st) hp Q :=
  fun p e s m args below meth c H locs cells slots mc ms ls B hv hH hS g1 g2 => lv_astore B.1 B.2.1 hdg hv hn rfl (fun ls hv => k p e s m args below meth c H locs cells slots mc ms ls B hv hH hS g1 g2)
theorem E.dstore_n {k9 : Fin 4} {i : Nat} {x : UInt64} (hdg : decode M.2.1 pc = .ok (.dstore_n k9, 1)) (hi : (k9 : Nat) = i) (hn : i + 1 < M.2.2.2.1) (k : E l D cy base M d bc bs (pc + 1) (lset2 lv i (.double x)) (st) hp Q) : E l D cy base M d bc bs (pc) lv (.double x :: st) hp Q :=
  fun p e s m args below meth c H locs cells slots mc ms ls B hv hH hS g1 g2 => lv_dstore_n B.1 B.2.1 hdg hi hv hn rfl (fun ls hv => k p e s m args below meth c H locs cells slots mc ms ls B hv hH hS g1 g2)
theorem E.dstore {i : Nat} {x : UInt64} (hdg : decode M.2.1 pc = .ok (.dstore i, 2)) (hn : i + 1 < M.2.2.2.1) (k : E l D cy base M d bc bs (pc + 2) (lset2 lv i (.double x)) (st) hp Q) : E l D cy base M d bc bs (pc) lv (.double x :: st) hp Q :=
  fun p e s m args below meth c H locs cells slots mc ms ls B hv hH hS g1 g2 => lv_dstore B.1 B.2.1 hdg hv hn rfl (fun ls hv => k p e s m args below meth c H locs cells slots mc ms ls B hv hH hS g1 g2)
theorem E.astoreq_n {k9 : Fin 4} {i : Nat} {r : Option Nat} (hdg : decode M.2.1 pc = .ok (.astore_n k9, 1)) (hi : (k9 : Nat) = i) (hn : i < M.2.2.2.1) (k : E l D cy base M d bc bs (pc + 1) (lset lv i (va_rf r)) (st) hp Q) : E l D cy base M d bc bs (pc) lv (va_rf r :: st) hp Q := by
  intro p e s m args below meth c H locs cells slots mc ms ls B hv hH hS g1 g2
  cases r with
  | none => exact lv_astore_nN B.1 B.2.1 hdg hi hv hn rfl (fun ls hv => k p e s m args below meth c H locs cells slots mc ms ls B hv hH hS g1 g2)
  | some x => exact lv_astore_n B.1 B.2.1 hdg hi hv hn rfl (fun ls hv => k p e s m args below meth c H locs cells slots mc ms ls B hv hH hS g1 g2)
theorem E.astoreq {i : Nat} {r : Option Nat} (hdg : decode M.2.1 pc = .ok (.astore i, 2)) (hn : i < M.2.2.2.1) (k : E l D cy base M d bc bs (pc + 2) (lset lv i (va_rf r)) (st) hp Q) : E l D cy base M d bc bs (pc) lv (va_rf r :: st) hp Q := by
  intro p e s m args below meth c H locs cells slots mc ms ls B hv hH hS g1 g2
  cases r with
  | none => exact lv_astoreN B.1 B.2.1 hdg hv hn rfl (fun ls hv => k p e s m args below meth c H locs cells slots mc ms ls B hv hH hS g1 g2)
  | some x => exact lv_astore B.1 B.2.1 hdg hv hn rfl (fun ls hv => k p e s m args below meth c H locs cells slots mc ms ls B hv hH hS g1 g2)
theorem E.iinc {i : Nat} {n : Int} {x v : Int32} (hdg : decode M.2.1 pc = .ok (.iinc i n, 3)) (hg : lget lv i = some (.int x)) (hv9 : x + Int32.ofInt n = v) (hn : i < M.2.2.2.1) (k : E l D cy base M d bc bs (pc + 3) (lset lv i (.int v)) (st) hp Q) : E l D cy base M d bc bs (pc) lv (st) hp Q := by
  intro p e s m args below meth c H locs cells slots mc ms ls B hv hH hS g1 g2
  obtain ⟨k9, hk9⟩ := List.getElem?_of_mem (lget_mem hg)
  exact lv_iinc (k := k9) B.1 B.2.1 hdg hv hk9 hv9 hn rfl (fun ls hv => k p e s m args below meth c H locs cells slots mc ms ls B hv hH hS g1 g2)
theorem E.if_eq {x : Int32} {off : Int} (tgt : Nat) (hdg : decode M.2.1 pc = .ok (.ifCond .eq off, 3)) (ht : (pc : Int) + off = (tgt : Int)) (kt : x = 0 → E l D cy base M d bc bs (tgt) lv (st) hp Q) (kf : ¬ x = 0 → E l D cy base M d bc bs (pc + 3) lv (st) hp Q) : E l D cy base M d bc bs (pc) lv (.int x :: st) hp Q :=
  fun p e s m args below meth c H locs cells slots mc ms ls B hv hH hS g1 g2 => lv_if_eq B.1 B.2.1 hdg ht (fun h => kt h p e s m args below meth c H locs cells slots mc ms ls B hv hH hS g1 g2) (fun h => kf h p e s m args below meth c H locs cells slots mc ms ls B hv hH hS g1 g2)
theorem E.icmp_eq {x y : Int32} {off : Int} (tgt : Nat) (hdg : decode M.2.1 pc = .ok (.if_icmp .eq off, 3)) (ht : (pc : Int) + off = (tgt : Int)) (kt : x = y → E l D cy base M d bc bs (tgt) lv (st) hp Q) (kf : ¬ x = y → E l D cy base M d bc bs (pc + 3) lv (st) hp Q) : E l D cy base M d bc bs (pc) lv (.int y :: .int x :: st) hp Q :=
  fun p e s m args below meth c H locs cells slots mc ms ls B hv hH hS g1 g2 => lv_icmp_eq B.1 B.2.1 hdg ht (fun h => kt h p e s m args below meth c H locs cells slots mc ms ls B hv hH hS g1 g2) (fun h => kf h p e s m args below meth c H locs cells slots mc ms ls B hv hH hS g1 g2)
theorem E.if_ne {x : Int32} {off : Int} (tgt : Nat) (hdg : decode M.2.1 pc = .ok (.ifCond .ne off, 3)) (ht : (pc : Int) + off = (tgt : Int)) (kt : ¬ x = 0 → E l D cy base M d bc bs (tgt) lv (st) hp Q) (kf : x = 0 → E l D cy base M d bc bs (pc + 3) lv (st) hp Q) : E l D cy base M d bc bs (pc) lv (.int x :: st) hp Q :=
  fun p e s m args below meth c H locs cells slots mc ms ls B hv hH hS g1 g2 => lv_if_ne B.1 B.2.1 hdg ht (fun h => kt h p e s m args below meth c H locs cells slots mc ms ls B hv hH hS g1 g2) (fun h => kf h p e s m args below meth c H locs cells slots mc ms ls B hv hH hS g1 g2)
theorem E.icmp_ne {x y : Int32} {off : Int} (tgt : Nat) (hdg : decode M.2.1 pc = .ok (.if_icmp .ne off, 3)) (ht : (pc : Int) + off = (tgt : Int)) (kt : ¬ x = y → E l D cy base M d bc bs (tgt) lv (st) hp Q) (kf : x = y → E l D cy base M d bc bs (pc + 3) lv (st) hp Q) : E l D cy base M d bc bs (pc) lv (.int y :: .int x :: st) hp Q :=
  fun p e s m args below meth c H locs cells slots mc ms ls B hv hH hS g1 g2 => lv_icmp_ne B.1 B.2.1 hdg ht (fun h => kt h p e s m args below meth c H locs cells slots mc ms ls B hv hH hS g1 g2) (fun h => kf h p e s m args below meth c H locs cells slots mc ms ls B hv hH hS g1 g2)
theorem E.if_lt {x : Int32} {off : Int} (tgt : Nat) (hdg : decode M.2.1 pc = .ok (.ifCond .lt off, 3)) (ht : (pc : Int) + off = (tgt : Int)) (kt : x < 0 → E l D cy base M d bc bs (tgt) lv (st) hp Q) (kf : ¬ x < 0 → E l D cy base M d bc bs (pc + 3) lv (st) hp Q) : E l D cy base M d bc bs (pc) lv (.int x :: st) hp Q :=
  fun p e s m args below meth c H locs cells slots mc ms ls B hv hH hS g1 g2 => lv_if_lt B.1 B.2.1 hdg ht (fun h => kt h p e s m args below meth c H locs cells slots mc ms ls B hv hH hS g1 g2) (fun h => kf h p e s m args below meth c H locs cells slots mc ms ls B hv hH hS g1 g2)
theorem E.icmp_lt {x y : Int32} {off : Int} (tgt : Nat) (hdg : decode M.2.1 pc = .ok (.if_icmp .lt off, 3)) (ht : (pc : Int) + off = (tgt : Int)) (kt : x < y → E l D cy base M d bc bs (tgt) lv (st) hp Q) (kf : ¬ x < y → E l D cy base M d bc bs (pc + 3) lv (st) hp Q) : E l D cy base M d bc bs (pc) lv (.int y :: .int x :: st) hp Q :=
  fun p e s m args below meth c H locs cells slots mc ms ls B hv hH hS g1 g2 => lv_icmp_lt B.1 B.2.1 hdg ht (fun h => kt h p e s m args below meth c H locs cells slots mc ms ls B hv hH hS g1 g2) (fun h => kf h p e s m args below meth c H locs cells slots mc ms ls B hv hH hS g1 g2)
theorem E.if_ge {x : Int32} {off : Int} (tgt : Nat) (hdg : decode M.2.1 pc = .ok (.ifCond .ge off, 3)) (ht : (pc : Int) + off = (tgt : Int)) (kt : 0 ≤ x → E l D cy base M d bc bs (tgt) lv (st) hp Q) (kf : ¬ 0 ≤ x → E l D cy base M d bc bs (pc + 3) lv (st) hp Q) : E l D cy base M d bc bs (pc) lv (.int x :: st) hp Q :=
  fun p e s m args below meth c H locs cells slots mc ms ls B hv hH hS g1 g2 => lv_if_ge B.1 B.2.1 hdg ht (fun h => kt h p e s m args below meth c H locs cells slots mc ms ls B hv hH hS g1 g2) (fun h => kf h p e s m args below meth c H locs cells slots mc ms ls B hv hH hS g1 g2)
theorem E.icmp_ge {x y : Int32} {off : Int} (tgt : Nat) (hdg : decode M.2.1 pc = .ok (.if_icmp .ge off, 3)) (ht : (pc : Int) + off = (tgt : Int)) (kt : y ≤ x → E l D cy base M d bc bs (tgt) lv (st) hp Q) (kf : ¬ y ≤ x → E l D cy base M d bc bs (pc + 3) lv (st) hp Q) : E l D cy base M d bc bs (pc) lv (.int y :: .int x :: st) hp Q :=
  fun p e s m args below meth c H locs cells slots mc ms ls B hv hH hS g1 g2 => lv_icmp_ge B.1 B.2.1 hdg ht (fun h => kt h p e s m args below meth c H locs cells slots mc ms ls B hv hH hS g1 g2) (fun h => kf h p e s m args below meth c H locs cells slots mc ms ls B hv hH hS g1 g2)
theorem E.if_gt {x : Int32} {off : Int} (tgt : Nat) (hdg : decode M.2.1 pc = .ok (.ifCond .gt off, 3)) (ht : (pc : Int) + off = (tgt : Int)) (kt : 0 < x → E l D cy base M d bc bs (tgt) lv (st) hp Q) (kf : ¬ 0 < x → E l D cy base M d bc bs (pc + 3) lv (st) hp Q) : E l D cy base M d bc bs (pc) lv (.int x :: st) hp Q :=
  fun p e s m args below meth c H locs cells slots mc ms ls B hv hH hS g1 g2 => lv_if_gt B.1 B.2.1 hdg ht (fun h => kt h p e s m args below meth c H locs cells slots mc ms ls B hv hH hS g1 g2) (fun h => kf h p e s m args below meth c H locs cells slots mc ms ls B hv hH hS g1 g2)
theorem E.icmp_gt {x y : Int32} {off : Int} (tgt : Nat) (hdg : decode M.2.1 pc = .ok (.if_icmp .gt off, 3)) (ht : (pc : Int) + off = (tgt : Int)) (kt : y < x → E l D cy base M d bc bs (tgt) lv (st) hp Q) (kf : ¬ y < x → E l D cy base M d bc bs (pc + 3) lv (st) hp Q) : E l D cy base M d bc bs (pc) lv (.int y :: .int x :: st) hp Q :=
  fun p e s m args below meth c H locs cells slots mc ms ls B hv hH hS g1 g2 => lv_icmp_gt B.1 B.2.1 hdg ht (fun h => kt h p e s m args below meth c H locs cells slots mc ms ls B hv hH hS g1 g2) (fun h => kf h p e s m args below meth c H locs cells slots mc ms ls B hv hH hS g1 g2)
theorem E.if_le {x : Int32} {off : Int} (tgt : Nat) (hdg : decode M.2.1 pc = .ok (.ifCond .le off, 3)) (ht : (pc : Int) + off = (tgt : Int)) (kt : x ≤ 0 → E l D cy base M d bc bs (tgt) lv (st) hp Q) (kf : ¬ x ≤ 0 → E l D cy base M d bc bs (pc + 3) lv (st) hp Q) : E l D cy base M d bc bs (pc) lv (.int x :: st) hp Q :=
  fun p e s m args below meth c H locs cells slots mc ms ls B hv hH hS g1 g2 => lv_if_le B.1 B.2.1 hdg ht (fun h => kt h p e s m args below meth c H locs cells slots mc ms ls B hv hH hS g1 g2) (fun h => kf h p e s m args below meth c H locs cells slots mc ms ls B hv hH hS g1 g2)
theorem E.icmp_le {x y : Int32} {off : Int} (tgt : Nat) (hdg : decode M.2.1 pc = .ok (.if_icmp .le off, 3)) (ht : (pc : Int) + off = (tgt : Int)) (kt : x ≤ y → E l D cy base M d bc bs (tgt) lv (st) hp Q) (kf : ¬ x ≤ y → E l D cy base M d bc bs (pc + 3) lv (st) hp Q) : E l D cy base M d bc bs (pc) lv (.int y :: .int x :: st) hp Q :=
  fun p e s m args below meth c H locs cells slots mc ms ls B hv hH hS g1 g2 => lv_icmp_le B.1 B.2.1 hdg ht (fun h => kt h p e s m args below meth c H locs cells slots mc ms ls B hv hH hS g1 g2) (fun h => kf h p e s m args below meth c H locs cells slots mc ms ls B hv hH hS g1 g2)
theorem E.acmp_ne {rx ry : Option Nat} {off : Int} (tgt : Nat) (hdg : decode M.2.1 pc = .ok (.if_acmp .ne off, 3)) (ht : (pc : Int) + off = (tgt : Int)) (kt : ¬ rx = ry → E l D cy base M d bc bs (tgt) lv (st) hp Q) (kf : rx = ry → E l D cy base M d bc bs (pc + 3) lv (st) hp Q) : E l D cy base M d bc bs (pc) lv (va_rf ry :: va_rf rx :: st) hp Q :=
  fun p e s m args below meth c H locs cells slots mc ms ls B hv hH hS g1 g2 => lv_acmp_ne B.1 B.2.1 hdg ht (fun h => kt h p e s m args below meth c H locs cells slots mc ms ls B hv hH hS g1 g2) (fun h => kf h p e s m args below meth c H locs cells slots mc ms ls B hv hH hS g1 g2)
theorem E.goto {off : Int} (tgt : Nat) (hdg : decode M.2.1 pc = .ok (.goto off, 3)) (ht : (pc : Int) + off = (tgt : Int)) (k : E l D cy base M d bc bs (tgt) lv (st) hp Q) : E l D cy base M d bc bs (pc) lv (st) hp Q :=
  fun p e s m args below meth c H locs cells slots mc ms ls B hv hH hS g1 g2 => lv_goto B.1 B.2.1 hdg ht (k p e s m args below meth c H locs cells slots mc ms ls B hv hH hS g1 g2)
theorem E.ifnull {r : Option Nat} {off : Int} (tgt : Nat) (hdg : decode M.2.1 pc = .ok (.ifnull off, 3)) (ht : (pc : Int) + off = (tgt : Int)) (kt : r = none → E l D cy base M d bc bs (tgt) lv (st) hp Q) (kf : ∀ a, r = some a → E l D cy base M d bc bs (pc + 3) lv (st) hp Q) : E l D cy base M d bc bs (pc) lv (va_rf r :: st) hp Q := by
  intro p e s m args below meth c H locs cells slots mc ms ls B hv hH hS g1 g2
  cases r with
  | none => exact lv_ifnullN B.1 B.2.1 hdg ht (kt rfl p e s m args below meth c H locs cells slots mc ms ls B hv hH hS g1 g2)
  | some a => exact lv_ifnull B.1 B.2.1 hdg (kf a rfl p e s m args below meth c H locs cells slots mc ms ls B hv hH hS g1 g2)
theorem E.ifnonnull {r : Option Nat} {off : Int} (tgt : Nat) (hdg : decode M.2.1 pc = .ok (.ifnonnull off, 3)) (ht : (pc : Int) + off = (tgt : Int)) (kt : ∀ a, r = some a → E l D cy base M d bc bs (tgt) lv (st) hp Q) (kf : r = none → E l D cy base M d bc bs (pc + 3) lv (st) hp Q) : E l D cy base M d bc bs (pc) lv (va_rf r :: st) hp Q := by
  intro p e s m args below meth c H locs cells slots mc ms ls B hv hH hS g1 g2
  cases r with
  | none => exact lv_ifnonnullN B.1 B.2.1 hdg (kf rfl p e s m args below meth c H locs cells slots mc ms ls B hv hH hS g1 g2)
  | some a => exact lv_ifnonnull B.1 B.2.1 hdg ht (kt a rfl p e s m args below meth c H locs cells slots mc ms ls B hv hH hS g1 g2)
theorem E.null (hdg : decode M.2.1 pc = .ok (.aconst_null, 1)) (k : E l D cy base M d bc bs (pc + 1) lv (va_rf none :: st) hp Q) : E l D cy base M d bc bs (pc) lv (st) hp Q :=
  fun p e s m args below meth c H locs cells slots mc ms ls B hv hH hS g1 g2 => lv_null B.1 B.2.1 hdg (k p e s m args below meth c H locs cells slots mc ms ls B hv hH hS g1 g2)
theorem E.tableIn {dflt lo hi : Int} {offs : Array Int} {len : Nat} {x : Int32} {off : Int} (tgt : Nat) (hdg : decode M.2.1 pc = .ok (.tableswitch dflt lo hi offs, len)) (h1 : ¬ x.toInt < lo) (h2 : ¬ hi < x.toInt) (ho : offs[(x.toInt - lo).toNat]? = some off) (ht : (pc : Int) + off = (tgt : Int)) (k : E l D cy base M d bc bs (tgt) lv (st) hp Q) : E l D cy base M d bc bs (pc) lv (.int x :: st) hp Q :=
  fun p e s m args below meth c H locs cells slots mc ms ls B hv hH hS g1 g2 => lv_tableIn B.1 B.2.1 hdg h1 h2 ho ht (k p e s m args below meth c H locs cells slots mc ms ls B hv hH hS g1 g2)
theorem E.tableOut {dflt lo hi : Int} {offs : Array Int} {len : Nat} {x : Int32} (tgt : Nat) (hdg : decode M.2.1 pc = .ok (.tableswitch dflt lo hi offs, len)) (h : x.toInt < lo ∨ hi < x.toInt) (ht : (pc : Int) + dflt = (tgt : Int)) (k : E l D cy base M d bc bs (tgt) lv (st) hp Q) : E l D cy base M d bc bs (pc) lv (.int x :: st) hp Q :=
  fun p e s m args below meth c H locs cells slots mc ms ls B hv hH hS g1 g2 => lv_tableOut B.1 B.2.1 hdg h ht (k p e s m args below meth c H locs cells slots mc ms ls B hv hH hS g1 g2)
theorem E.lookup {dflt : Int} {ps : Array (Int × Int)} {len : Nat} {x : Int32} {off : Int} (tgt : Nat) (hdg : decode M.2.1 pc = .ok (.lookupswitch dflt ps, len)) (hp9 : (ps.toList.zip (ps.toList.drop 1)).all (fun (a, next) => a.1 < next.1) = true) (ho : Op.lookupswitch.offset ps.toList dflt x.toInt = off) (ht : (pc : Int) + off = (tgt : Int)) (k : E l D cy base M d bc bs (tgt) lv (st) hp Q) : E l D cy base M d bc bs (pc) lv (.int x :: st) hp Q :=
  fun p e s m args below meth c H locs cells slots mc ms ls B hv hH hS g1 g2 => lv_lookup B.1 B.2.1 hdg hp9 ho ht (k p e s m args below meth c H locs cells slots mc ms ls B hv hH hS g1 g2)
theorem E.fload_n {k9 : Fin 4} {i : Nat} {x : UInt32} (hdg : decode M.2.1 pc = .ok (.fload_n k9, 1)) (hi : (k9 : Nat) = i) (hg : lget lv i = some (.float x)) (k : E l D cy base M d bc bs (pc + 1) lv (.float x :: st) hp Q) : E l D cy base M d bc bs (pc) lv (st) hp Q :=
  fun p e s m args below meth c H locs cells slots mc ms ls B hv hH hS g1 g2 => lv_fload_n B.1 B.2.1 hdg hi (hv.2.2 _ (lget_mem hg)) (k p e s m args below meth c H locs cells slots mc ms ls B hv hH hS g1 g2)
theorem E.fstore_n {k9 : Fin 4} {i : Nat} {x : UInt32} (hdg : decode M.2.1 pc = .ok (.fstore_n k9, 1)) (hi : (k9 : Nat) = i) (hn : i < M.2.2.2.1) (k : E l D cy base M d bc bs (pc + 1) (lset lv i (.float x)) (st) hp Q) : E l D cy base M d bc bs (pc) lv (.float x :: st) hp Q :=
  fun p e s m args below meth c H locs cells slots mc ms ls B hv hH hS g1 g2 => lv_fstore_n B.1 B.2.1 hdg hi hv hn rfl (fun ls hv => k p e s m args below meth c H locs cells slots mc ms ls B hv hH hS g1 g2)
theorem E.iret {v : Int32} (hr : M.2.2.2.2.1 = some .int) (hdg : decode M.2.1 pc = .ok (.ireturn, 1)) (hq : Q (.inl (some (.int v))) hp) : E l D cy base M d bc bs pc lv [.int v] hp Q := by
  intro p e s m args below meth c H locs cells slots mc ms ls B hv hH hS g1 g2
  refine W.widen (k := mc) (n := ms) (by omega) (by omega) (vx_ret ?_)
  exact W.iret B.1 B.2.1 (B.2.2.2.2.2.1.trans hr)  (fun t ht hW => ⟨_, hp, rfl, hq, by rw [ht]; exact hH, hS.F ht⟩) hS.2.2 hdg B.2.2.2.2.2.2.1
theorem E.fret {v : UInt32} (hr : M.2.2.2.2.1 = some .float) (hdg : decode M.2.1 pc = .ok (.freturn, 1)) (hq : Q (.inl (some (.float v))) hp) : E l D cy base M d bc bs pc lv [.float v] hp Q := by
  intro p e s m args below meth c H locs cells slots mc ms ls B hv hH hS g1 g2
  refine W.widen (k := mc) (n := ms) (by omega) (by omega) (vx_ret ?_)
  exact W.fret B.1 B.2.1 (B.2.2.2.2.2.1.trans hr)  (fun t ht hW => ⟨_, hp, rfl, hq, by rw [ht]; exact hH, hS.F ht⟩) hS.2.2 hdg B.2.2.2.2.2.2.1
theorem E.zret {v : Int32} {ty : FieldType} (hr : M.2.2.2.2.1 = some ty) (hn : narrow ty (.int v) = .int v) (hdg : decode M.2.1 pc = .ok (.ireturn, 1)) (hq : Q (.inl (some (.int v))) hp) : E l D cy base M d bc bs pc lv [.int v] hp Q := by
  intro p e s m args below meth c H locs cells slots mc ms ls B hv hH hS g1 g2
  refine W.widen (k := mc) (n := ms) (by omega) (by omega) (vx_ret ?_)
  exact W.zret B.1 B.2.1 (B.2.2.2.2.2.1.trans hr) hn (fun t ht hW => ⟨_, hp, rfl, hq, by rw [ht]; exact hH, hS.F ht⟩) hS.2.2 hdg B.2.2.2.2.2.2.1
theorem E.vret (hr : M.2.2.2.2.1 = none) (hdg : decode M.2.1 pc = .ok (.return_, 1)) (hq : Q (.inl none) hp) : E l D cy base M d bc bs pc lv [] hp Q := by
  intro p e s m args below meth c H locs cells slots mc ms ls B hv hH hS g1 g2
  refine W.widen (k := mc) (n := ms) (by omega) (by omega) (vx_ret ?_)
  exact W.vret B.1 B.2.1 (B.2.2.2.2.2.1.trans hr) (fun t ht hW => ⟨_, hp, rfl, hq, by rw [ht]; exact hH, hS.F ht⟩) hS.2.2 hdg B.2.2.2.2.2.2.1
theorem E.aret {r : Option Nat} {nm : String} (hr : M.2.2.2.2.1 = some (.object nm)) (hdg : decode M.2.1 pc = .ok (.areturn, 1)) (hq : Q (.inl (some (va_rf r))) hp) : E l D cy base M d bc bs pc lv [va_rf r] hp Q := by
  intro p e s m args below meth c H locs cells slots mc ms ls B hv hH hS g1 g2
  refine W.widen (k := mc) (n := ms) (by omega) (by omega) (vx_ret ?_)
  exact W.aret B.1 B.2.1 (B.2.2.2.2.2.1.trans hr) (Or.inl ⟨_, rfl⟩) (va_rf_or r) (fun t ht hW => ⟨_, hp, rfl, hq, by rw [ht]; exact hH, hS.F ht⟩) hS.2.2 hdg B.2.2.2.2.2.2.1
end ROWS
