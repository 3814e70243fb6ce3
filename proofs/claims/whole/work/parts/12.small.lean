theorem i_ofNat (n : Nat) : Int32.ofInt (n : Int) = nI n := by
  apply Int32.toBitVec_inj.mp
  show BitVec.ofInt 32 (n : Int) = BitVec.ofNat 32 n
  exact BitVec.ofInt_natCast 32 n
theorem nI_inc (a : Nat) : nI a + Int32.ofInt 1 = nI (a + 1) := by
  rw [show Int32.ofInt 1 = (1 : Int32) by decide +kernel]
  exact nI_1 a
theorem nI_dec {a : Nat} (h : 1 ≤ a) : nI a + Int32.ofInt (-1) = nI (a - 1) := by
  rw [show Int32.ofInt (-1) = (-1 : Int32) by decide +kernel]
  exact sb_m1 h
theorem i_8 {n : Nat} (h : n < 128) : (Int8.ofInt (n : Int)).toInt32 = nI n := by
  have : ∀ n : Nat, n < 128 → (Int8.ofInt (n : Int)).toInt32 = nI n := by decide +kernel
  exact this n h
theorem i_16 {n : Nat} (h : n < 32768) : (Int16.ofInt (n : Int)).toInt32 = nI n := by
  apply Int32.toInt_inj.mp
  rw [nI_toInt (by omega)]
  rw [Int16.toInt_toInt32, Int16.toInt_ofInt]
  rw [Int.bmod_def, show Int16.size = 65536 from rfl]
  omega
theorem nI_eq0 {n : Nat} (h : n < 2 ^ 31) : nI n = 0 ↔ n = 0 := by
  rw [← nI_0]
  exact nI_eq h (by decide)
theorem nI_gt0 {n : Nat} (h : n < 2 ^ 31) : 0 < nI n ↔ 0 < n := by
  rw [← nI_0]
  exact nI_ltI (by decide) h
theorem nI_le0 {n : Nat} (h : n < 2 ^ 31) : nI n ≤ 0 ↔ n = 0 := by
  rw [← nI_0, nI_leI h (by decide)]
  omega
section SMALL
variable {S : Type} {I : S → Hp → Prop} {cy : Nat → ClassId} {ad : Nat → Nat} {hp0 : Hp} {l : Launch} {D : va_G} {base : Nat} {M : Mth} {d bc bs pc : Nat} {lv : List (Nat × Value)} {st : List Value}
theorem EW.ic {s : S} {Q : Oc → S → Prop} (n : Nat) (hdg : decode M.2.1 pc = .ok (.iconst (n : Int), 1)) (k : EW I l D cy base M d bc bs (pc + 1) lv (.int (nI n) :: st) s Q) : EW I l D cy base M d bc bs pc lv st s Q := EW.iconst hdg (i_ofNat n) k
theorem EW.bp {s : S} {Q : Oc → S → Prop} (n : Nat) (hdg : decode M.2.1 pc = .ok (.bipush (n : Int), 2)) (k : EW I l D cy base M d bc bs (pc + 2) lv (.int (nI n) :: st) s Q) (hn : n < 128 := by decide) : EW I l D cy base M d bc bs pc lv st s Q := EW.bipush hdg (i_8 hn) k
theorem EW.sp {s : S} {Q : Oc → S → Prop} (n : Nat) (hdg : decode M.2.1 pc = .ok (.sipush (n : Int), 3)) (k : EW I l D cy base M d bc bs (pc + 3) lv (.int (nI n) :: st) s Q) (hn : n < 32768 := by decide) : EW I l D cy base M d bc bs pc lv st s Q := EW.sipush hdg (i_16 hn) k
variable {s : MSt} {Q : Oc → MSt → Prop}
theorem EM.ialdN {k : Nat} (i : Nat) (hdg : decode M.2.1 pc = .ok (.iaload, 1)) (hk : mArr k = true) (ht : mTy k = 2) (hin : i < mLen k ∧ mLen k < 2000) (kk : EW (IM cy ad hp0) l D cy base M d 0 0 (pc + 1) lv (.int (s.2 k i) :: st) s Q) : EW (IM cy ad hp0) l D cy base M d 0 0 pc lv (.int (nI i) :: .ref (ad k) :: st) s Q :=
  EM.iald hdg hk ht (vp_in_nI hin.1 (by omega)) (by rw [nI_clamp (by omega)]; exact kk)
theorem EM.caldN {k : Nat} (i : Nat) (hdg : decode M.2.1 pc = .ok (.caload, 1)) (hk : mArr k = true) (ht : mTy k = 1) (hin : i < mLen k ∧ mLen k < 2000) (kk : EW (IM cy ad hp0) l D cy base M d 0 0 (pc + 1) lv (.int (s.2 k i) :: st) s Q) : EW (IM cy ad hp0) l D cy base M d 0 0 pc lv (.int (nI i) :: .ref (ad k) :: st) s Q :=
  EM.cald hdg hk ht (vp_in_nI hin.1 (by omega)) (by rw [nI_clamp (by omega)]; exact kk)
theorem EM.zaldN {k : Nat} (i : Nat) (hdg : decode M.2.1 pc = .ok (.baload, 1)) (hk : mArr k = true) (ht : mTy k = 3) (hin : i < mLen k ∧ mLen k < 2000) (kk : EW (IM cy ad hp0) l D cy base M d 0 0 (pc + 1) lv (.int (s.2 k i) :: st) s Q) : EW (IM cy ad hp0) l D cy base M d 0 0 pc lv (.int (nI i) :: .ref (ad k) :: st) s Q :=
  EM.zald hdg hk ht (vp_in_nI hin.1 (by omega)) (by rw [nI_clamp (by omega)]; exact kk)
theorem EM.iastN {k : Nat} {x : Int32} (i : Nat) (hdg : decode M.2.1 pc = .ok (.iastore, 1)) (hk : mArr k = true) (ht : mTy k = 2) (hin : i < mLen k ∧ mLen k < 2000) (kk : EW (IM cy ad hp0) l D cy base M d 0 0 (pc + 1) lv st (s.1, va_up s.2 k (upd (s.2 k) i x)) Q) : EW (IM cy ad hp0) l D cy base M d 0 0 pc lv (.int x :: .int (nI i) :: .ref (ad k) :: st) s Q :=
  EM.iast hdg hk ht (vp_in_nI hin.1 (by omega)) (by rw [nI_clamp (by omega)]; exact kk)
theorem EM.castN {k : Nat} {x : Int32} (i : Nat) (hdg : decode M.2.1 pc = .ok (.castore, 1)) (hk : mArr k = true) (ht : mTy k = 1) (hin : i < mLen k ∧ mLen k < 2000) (kk : EW (IM cy ad hp0) l D cy base M d 0 0 (pc + 1) lv st (s.1, va_up s.2 k (upd (s.2 k) i (vp_nar .char x))) Q) : EW (IM cy ad hp0) l D cy base M d 0 0 pc lv (.int x :: .int (nI i) :: .ref (ad k) :: st) s Q :=
  EM.cast hdg hk ht (vp_in_nI hin.1 (by omega)) (by rw [nI_clamp (by omega)]; exact kk)
theorem EM.zastN {k : Nat} {x : Int32} (i : Nat) (hdg : decode M.2.1 pc = .ok (.bastore, 1)) (hk : mArr k = true) (ht : mTy k = 3) (hin : i < mLen k ∧ mLen k < 2000) (kk : EW (IM cy ad hp0) l D cy base M d 0 0 (pc + 1) lv st (s.1, va_up s.2 k (upd (s.2 k) i (vp_nar .boolean x))) Q) : EW (IM cy ad hp0) l D cy base M d 0 0 pc lv (.int x :: .int (nI i) :: .ref (ad k) :: st) s Q :=
  EM.zast hdg hk ht (vp_in_nI hin.1 (by omega)) (by rw [nI_clamp (by omega)]; exact kk)
end SMALL
