section LAWF
variable {cy : Nat → ClassId} {ax ad : Nat → Nat} {l : Launch} {D : va_G} {base : Nat} {c : CSt} {m : MSt}
abbrev mL_law : Mth := (RL, cL_law, yL_law, 9, Option.some .boolean, [])
theorem E.sld {M : Mth} {d bc bs pc : Nat} {lv : List (Nat × Value)} {st : List Value} {hp : Hp} {Q : Oc → Hp → Prop} {i : Int32} (hdg : decode M.2.1 pc = .ok (.iaload, 1)) (hin : vp_in i (cy 1003)) (kk : E l D cy base M d bc bs (pc + 1) lv (.int (nI (cy (2000 + i.toNatClampNeg))) :: st) hp Q) : E l D cy base M d bc bs pc lv (.int i :: .ref (cy 1002) :: st) hp Q := by
  intro p e s m args below meth c H locs cells slots mc ms ls B hv hH hS g1 g2
  have hX := B.2.2.2.2.2.2.2.2.2.1.2.2.2.2.2.2.2.2.2
  have hlt : cy 1002 < s.heap.size := by
    obtain ⟨scr, g, -⟩ := hX.1
    exact (Array.getElem?_eq_some_iff.mp g).1
  exact va_sld B.1 B.2.1 hX.1 hlt hX.2 hS hin hdg (kk p e s m args below meth c H locs cells slots mc ms ls B hv hH hS g1 g2)
theorem E.slen {M : Mth} {d bc bs pc : Nat} {lv : List (Nat × Value)} {st : List Value} {hp : Hp} {Q : Oc → Hp → Prop} (hdg : decode M.2.1 pc = .ok (.arraylength, 1)) (kk : E l D cy base M d bc bs (pc + 1) lv (.int (nI (cy 1003)) :: st) hp Q) : E l D cy base M d bc bs pc lv (.ref (cy 1002) :: st) hp Q := by
  intro p e s m args below meth c H locs cells slots mc ms ls B hv hH hS g1 g2
  have hX := B.2.2.2.2.2.2.2.2.2.1.2.2.2.2.2.2.2.2.2
  have hlt : cy 1002 < s.heap.size := by
    obtain ⟨scr, g, -⟩ := hX.1
    exact (Array.getElem?_eq_some_iff.mp g).1
  exact va_slen B.1 B.2.1 hX.1 hlt hX.2 hS hdg (kk p e s m args below meth c H locs cells slots mc ms ls B hv hH hS g1 g2)
section WR
variable {S : Type} {I : S → Hp → Prop} {M : Mth} {d bc bs pc : Nat} {lv : List (Nat × Value)} {st : List Value} {s : S} {Q : Oc → S → Prop}
theorem EW.sld (j : Nat) (hdg : decode M.2.1 pc = .ok (.iaload, 1)) (hj : j < cy 1003) (hL : cy 1003 ≤ 192) (kk : EW I l D cy base M d bc bs (pc + 1) lv (.int (nI (cy (2000 + j))) :: st) s Q) : EW I l D cy base M d bc bs pc lv (.int (nI j) :: .ref (cy 1002) :: st) s Q := fun hp h => E.sld hdg (vp_in_nI hj (Nat.lt_of_le_of_lt hL (by decide))) (by rw [nI_clamp (Nat.lt_trans (Nat.lt_of_lt_of_le hj hL) (by decide))]; exact kk hp h)
theorem EW.slen (hdg : decode M.2.1 pc = .ok (.arraylength, 1)) (kk : EW I l D cy base M d bc bs (pc + 1) lv (.int (nI (cy 1003)) :: st) s Q) : EW I l D cy base M d bc bs pc lv (.ref (cy 1002) :: st) s Q := fun hp h => E.slen hdg (kk hp h)
end WR
theorem lg_self (x : Int64) : lg_cmp x x = 0 := by
  unfold lg_cmp
  have h : ¬ x > x := fun q => Int64.lt_irrefl q
  rw [if_neg h, if_pos rfl]
theorem inc3 (i : Nat) : nI i + Int32.ofInt 3 = nI (i + 3) := by
  rw [show Int32.ofInt 3 = nI 3 by decide +kernel]
  exact nI_add i 3
theorem len3 : ∀ k : Fin 193, (nI k.val - nI 3).toInt = (k.val : Int) - 3 := by decide +kernel
theorem i2c_nI (x : Int32) : ∃ k, k < 65536 ∧ (x.toUInt32 % 65536).toInt32 = nI k := by
  refine ⟨x.toUInt32.toNat % 65536, Nat.mod_lt _ (by decide), ?_⟩
  apply Int32.toBitVec_inj.mp
  apply BitVec.eq_of_toNat_eq
  show (x.toUInt32 % 65536).toNat = _
  rw [UInt32.toNat_mod]
  show _ = (BitVec.ofNat 32 (x.toUInt32.toNat % 65536)).toNat
  rw [BitVec.toNat_ofNat, Nat.mod_eq_of_lt (Nat.lt_trans (Nat.mod_lt _ (by decide)) (by decide))]
  rfl
theorem and15 (x : Int32) : ∃ k, k < 16 ∧ x &&& nI 15 = nI k := by
  refine ⟨x.toBitVec.toNat &&& 15, Nat.lt_succ_of_le Nat.and_le_right, ?_⟩
  apply Int32.toBitVec_inj.mp
  apply BitVec.eq_of_toNat_eq
  rw [Int32.toBitVec_and, BitVec.toNat_and]
  show x.toBitVec.toNat &&& 15 = (BitVec.ofNat 32 (x.toBitVec.toNat &&& 15)).toNat
  rw [BitVec.toNat_ofNat, Nat.mod_eq_of_lt]
  exact Nat.lt_of_le_of_lt Nat.and_le_right (by decide)
/-- a float that may be made a double and compared with itself -/
def FDK (x : UInt32) : Prop := FP.f2d x &&& 0x7fffffffffffffff ≤ 0x7ff0000000000000 ∧ Op.cmpValue (FP.dcmp (FP.f2d x) (FP.f2d x)) .l = 0
theorem FDK_of {x : UInt32} (h : vf_n32 x) : FDK x := by
  have h1 : FP.Core.fIsNaN x = false := by
    refine Bool.eq_false_iff.mpr (fun q => ?_)
    have q2 := (FP.Core.isNaN_bits32 x).mp q
    have h2 : (x &&& 0x7fffffff).toNat ≤ (0x7f800000 : UInt32).toNat := UInt32.le_iff_toNat_le.mp h
    rw [UInt32.toNat_and, show (0x7fffffff : UInt32).toNat = 2 ^ 31 - 1 from rfl, Nat.and_two_pow_sub_one_eq_mod] at h2
    have e : (0x7f800000 : UInt32).toNat = 2139095040 := rfl
    omega
  have h3 : FP.Core.dIsNaN (FP.f2d x) = false := (FP.f2d_nan x).trans h1
  refine ⟨?_, ?_⟩
  · rw [UInt64.le_iff_toNat_le, UInt64.toNat_and, show (0x7fffffffffffffff : UInt64).toNat = 2 ^ 63 - 1 from rfl, Nat.and_two_pow_sub_one_eq_mod]
    have e : (0x7ff0000000000000 : UInt64).toNat = 9218868437227405312 := rfl
    rcases Nat.lt_or_ge 9218868437227405312 ((FP.f2d x).toNat % 2 ^ 63) with q | q
    · exact absurd ((FP.Core.isNaN_bits (FP.f2d x)).mpr q) (by rw [h3]; exact Bool.false_ne_true)
    · rw [e]; exact q
  · have h4 : FP.dcmp (FP.f2d x) (FP.f2d x) = some .eq := FP.Core.dcmp_self ((FP.Core.notNaN_iff _).mp h3)
    rw [h4]
    rfl
theorem O_full2 (hl : l.stackTraces = false) (hJ : J c m) : ∃ P Q, BC cy ax l D base mX8_full [.ref (ax 0)] c P ∧ BM cy ad l D base mX9_full [.ref (ad 43)] m Q ∧ (∀ o c', P o c' → ∃ x, FDK x ∧ o = .inl (some (.float x))) ∧ ∀ o c' o' m', P o c' → Q o' m' → (∃ x, o = .inl (some (.float x)) ∧ o' = .inl (some (.float x))) ∧ J c' m' := by
  obtain ⟨hz, hz6⟩ := J_sz hJ
  have hJ0 := hJ
  obtain ⟨N, tx, n, w, rl, rt, ps, tt, zs, h1, h2, h3, h4, h5, h6, h7, h8⟩ := hJ
  by_cases h0 : rlF (m.2 10) 6 0 0 = 0
  · refine ⟨_, _, BC.of0 (fun hp0 => C_full0 hl 1799 c n h3.1 h3.2.1 (by rw [hz]; exact h0)), (fun hp0 => M_full0 hl 1798 m h0), fun o c' h => ⟨_, FDK_of (by unfold vf_n32; decide +kernel), h.1⟩, fun o c' o' m' ⟨a1, a2⟩ ⟨b1, b2⟩ => ?_⟩
    subst a2 b2
    exact ⟨⟨FP.fconst0, a1, b1⟩, hJ0.fm0 (FM0.f m _)⟩
  · have hmz : mzF (c.2.1 9) 126 0 0 = mzF (m.2 13) 126 0 0 := mzF_cg 126 0 0 (fun j _ hj => h6.1 j (by omega))
    have hle : mzF (m.2 13) 126 0 0 ≤ 126 := by have := mzF_le (f := m.2 13) 126 0 0; omega
    have hn := h3.2.1
    have hb : rlF (m.2 10) 6 0 0 * (n + 1) ≤ 126 := Nat.le_trans (Nat.mul_le_mul hz6 (show n + 1 ≤ 21 by omega)) (by decide)
    have hb1 : ¬ rlF (m.2 10) 6 0 0 * (n + 1) = 0 := by
      intro e
      rcases Nat.mul_eq_zero.mp e with q | q
      · exact h0 q
      · omega
    have hne : vf_n32 (FP.fdiv (FP.i2f (nI (mzF (m.2 13) 126 0 0))) (FP.i2f (nI (rlF (m.2 10) 6 0 0 * (n + 1))))) := (fd_ok ⟨_, Nat.lt_succ_of_le hle⟩ ⟨_, Nat.lt_succ_of_le hb⟩).resolve_left hb1
    have hn2 : FDK (FP.fdiv (FP.i2f (nI (mzF (m.2 13) 126 0 0))) (FP.i2f (nI (rlF (m.2 10) 6 0 0 * (n + 1))))) := FDK_of hne
    refine ⟨_, _, BC.of0 (fun hp0 => C_full1 hl 1799 c n h3.1 h3.2.1 (by rw [hz]; exact h0) (by rw [hz, hmz]; exact hne)), (fun hp0 => M_full1 hl 1798 m n h3.2.2.2.1 h3.2.1 h0 hne), fun o c' h => ⟨_, hn2, by rw [h.1, hz, hmz]⟩, fun o c' o' m' ⟨a1, a2⟩ ⟨b1, b2⟩ => ?_⟩
    subst a2 b2
    exact ⟨⟨_, by rw [a1, hz, hmz], b1⟩, hJ0.fm0 (FM0.f m _)⟩
theorem HT_eq {xs : List String} {o1 : Oc} {k k' : Nat} {g0 : Int64} {b : Int32} {F : Int32 → Int64} (hn : xs.Nodup) (h1 : (k = 0 ∧ ∃ a : Int32, o1 = .inl (some (.int a)) ∧ g0 = F a) ∨ ∃ X, xs[k - 1]? = some X ∧ 0 < k ∧ o1 = .inr X) (h2 : (k' = 0 ∧ o1 = .inl (some (.int b))) ∨ ∃ X, xs[k' - 1]? = some X ∧ 0 < k' ∧ o1 = .inr X) : k = k' ∧ (k = 0 → g0 = F b) := by
  rcases h1 with ⟨rfl, a, rfl, h3⟩ | ⟨X, h3, h4, rfl⟩
  · rcases h2 with ⟨rfl, h5⟩ | ⟨X, -, -, h5⟩
    · cases h5
      exact ⟨rfl, fun _ => h3⟩
    · cases h5
  · rcases h2 with ⟨-, h5⟩ | ⟨X', h6, h7, h5⟩
    · cases h5
    · cases h5
      have := nodup_at hn h3 h6
      exact ⟨by omega, fun q => by omega⟩
end LAWF
