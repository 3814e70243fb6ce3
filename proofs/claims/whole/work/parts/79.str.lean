/-! Rows for the one text constant that the class asks (its signs): its cells are older than the law's, so they are in no heap of ours. -/
section STR
variable {l : Launch} {D : va_G} {cy : Nat → ClassId} {base : Nat} {M : Mth} {d bc bs pc : Nat} {lv : List (Nat × Value)} {st : List Value} {hp : Hp} {Q : Oc → Hp → Prop}
theorem E.ishr {x y : Int32} (hdg : decode M.2.1 pc = .ok (.ishr, 1)) (k : E l D cy base M d bc bs (pc + 1) lv (.int (x >>> (y &&& 31)) :: st) hp Q) : E l D cy base M d bc bs (pc) lv (.int y :: .int x :: st) hp Q :=
  fun p e s m args below meth c H locs cells slots mc ms ls B hv hH hS g1 g2 => lv_ishr B.1 B.2.1 hdg (k p e s m args below meth c H locs cells slots mc ms ls B hv hH hS g1 g2)
theorem E.sgLdc (hM : M.1 = RX8) (hdg : decode M.2.1 pc = .ok (.ldc 189, 2)) (k : E l D cy base M d bc bs (pc + 2) lv (.ref (cy 1000) :: st) hp Q) : E l D cy base M d bc bs pc lv st hp Q :=
  fun p e s m args below meth c H locs cells slots mc ms ls B hv hH hS g1 g2 => va_ldcS (own := RX8) B.1 B.2.1 (hM ▸ B.2.2.2.1) B.2.2.2.2.2.2.2.2.2.1.2.2.2.2.2.2.1.1 hdg (k p e s m args below meth c H locs cells slots mc ms ls B hv hH hS g1 g2)
theorem E.sgVal (hM : M.1 = RJ0) (hdg : decode M.2.1 pc = .ok (.getfield 9, 3)) (k : E l D cy base M d bc bs (pc + 3) lv (.ref (cy 1001) :: st) hp Q) : E l D cy base M d bc bs pc lv (.ref (cy 1000) :: st) hp Q :=
  fun p e s m args below meth c H locs cells slots mc ms ls B hv hH hS g1 g2 => vk_getf (own := RJ0) B.1 B.2.1 B.2.2.2.2.2.2.2.2.2.1.2.2.2.2.2.2.1.2.2.2.1 hS (hM ▸ B.2.2.2.1) (B.2.2.2.2.1 _ sf_9) (fun _ h => h) hdg (k p e s m args below meth c H locs cells slots mc ms ls B hv hH hS g1 g2)
theorem E.sgCod (hM : M.1 = RJ0) (hdg : decode M.2.1 pc = .ok (.getfield 15, 3)) (k : E l D cy base M d bc bs (pc + 3) lv (.int 0 :: st) hp Q) : E l D cy base M d bc bs pc lv (.ref (cy 1000) :: st) hp Q :=
  fun p e s m args below meth c H locs cells slots mc ms ls B hv hH hS g1 g2 => vk_getf (own := RJ0) B.1 B.2.1 B.2.2.2.2.2.2.2.2.2.1.2.2.2.2.2.2.1.2.2.1 hS (hM ▸ B.2.2.2.1) (B.2.2.2.2.1 _ sf_15) (fun _ h => h) hdg (k p e s m args below meth c H locs cells slots mc ms ls B hv hH hS g1 g2)
theorem E.sgCom (hM : M.1 = RJ0) (hdg : decode M.2.1 pc = .ok (.getstatic 38, 3)) (k : E l D cy base M d bc bs (pc + 3) lv (.int 1 :: st) hp Q) : E l D cy base M d bc bs pc lv st hp Q :=
  fun p e s m args below meth c H locs cells slots mc ms ls B hv hH hS g1 g2 => va_gets (own := RJ0) B.1 B.2.1 B.2.2.2.2.2.2.2.2.2.1.2.2.2.2.2.2.1.2.2.2.2.2 hS (hM ▸ B.2.2.2.1) (B.2.2.2.2.1 _ sf_38) (fun _ h => h) hdg (k p e s m args below meth c H locs cells slots mc ms ls B hv hH hS g1 g2)
theorem E.sgLen (hdg : decode M.2.1 pc = .ok (.arraylength, 1)) (k : E l D cy base M d bc bs (pc + 1) lv (.int (nI 13) :: st) hp Q) : E l D cy base M d bc bs pc lv (.ref (cy 1001) :: st) hp Q :=
  fun p e s m args below meth c H locs cells slots mc ms ls B hv hH hS g1 g2 => va_tlen B.1 B.2.1 B.2.2.2.2.2.2.2.2.2.1.2.2.2.2.2.2.1.2.2.2.2.1 hS (by decide +kernel) hdg (k p e s m args below meth c H locs cells slots mc ms ls B hv hH hS g1 g2)
theorem E.sgAld {i : Nat} (hi : i < 13) (hdg : decode M.2.1 pc = .ok (.baload, 1)) (k : E l D cy base M d bc bs (pc + 1) lv (.int (sgB.getD i 0) :: st) hp Q) : E l D cy base M d bc bs pc lv (.int (nI i) :: .ref (cy 1001) :: st) hp Q :=
  fun p e s m args below meth c H locs cells slots mc ms ls B hv hH hS g1 g2 => va_tb B.1 B.2.1 B.2.2.2.2.2.2.2.2.2.1.2.2.2.2.2.2.1.2.2.2.2.1 hS (i := nI i) (fun q => by
    rcases q with q | q
    · exact nI_pos (by omega) q
    · rw [nI_clamp (by omega)] at q; omega) (v := .int (sgB.getD i 0)) (by rw [nI_clamp (by omega)]) hdg (k p e s m args below meth c H locs cells slots mc ms ls B hv hH hS g1 g2)
theorem E.mmax {idx : Nat} {x y : Int32} (hl : Cond.methodLink M.1 idx Lib.Math.max.name ∈ gw ∧ Cond.static Lib.Math.max.name ∈ gw ∧ Cond.initialized "java/lang/Math" ∈ gw ∧ Cond.code Lib.Math.max.name Lib.Math.max.code 2 (some .int) ∈ gw) (hd : 0 < d) (hdg : decode M.2.1 pc = .ok (.invokestatic idx, 3)) (hw : (st.map fun v => v.category).sum ≤ 8) (k : E l D cy base M d bc bs (pc + 3) lv (.int (if x < y then y else x) :: st) hp Q) : E l D cy base M d bc bs pc lv (.int y :: .int x :: st) hp Q := by
  intro p e s m args below meth c H locs cells slots mc ms ls B hv hH hS g1 g2
  have hts := B.2.2.2.2.1
  exact va_mmax (R := rmd d mc ms) B.1 B.2.1 (by rw [B.2.2.1]; exact hv.1.symm) B.2.2.2.1 (hts _ hl.1) (hts _ hl.2.1) (hts _ hl.2.2.1) (hts _ hl.2.2.2) (show 1 ≤ d from hd) (show (st.map fun v => v.category).sum + 13 ≤ 40 * d by omega) (show cells ≤ mc by omega) (show slots ≤ ms by omega) hdg (k p e s m args below meth c H locs cells slots mc ms ls B hv hH hS g1 g2)
/-- invokevirtual on the text -/
theorem E.sgCall {M' : Mth} {idx d' mc' ms' n : Nat} {As rest : List Value} {Q' : Oc → Hp → Prop} (hM : Mt l D cy base M' d' mc' ms' (.ref (cy 1000) :: As) hp Q') (mf : MF M') (h0 : M'.2.2.2.2.2 = []) (ml : ML M.1 idx M') (mv : MV M' n) (hd : d' < d) (hdg : decode M.2.1 pc = .ok (.invokevirtual idx, 3)) (hst : st = As.reverse ++ .ref (cy 1000) :: rest) (hn : As.length = n) (hc : M'.2.2.1.cls = "java/lang/String") (hw : (rest.map fun v => v.category).sum ≤ 8)
    (kk : ∀ v hp', Q' (.inl v) hp' → E l D cy base M d bc bs (pc + 3) lv (v.toList ++ rest) hp' Q) (kx : ∀ X hp', Q' (.inr X) hp' → EX l D cy base M d bc bs pc lv X hp' Q) : E l D cy base M d (bc + mc') (bs + ms') pc lv st hp Q := by
  refine E.run (fun p e s m args below meth c H locs cells slots mc ms ls B hv hH hS g1 g2 => ⟨(Value.ref (cy 1000) :: As).toArray, ?_⟩) kk kx
  obtain ⟨cell, h1, h2, h3, -⟩ := B.2.2.2.2.2.2.2.2.2.1.2.2.2.2.2.2.1.2.1.kept hS.2.1
  have hrc : ∃ cell : Cell, H[cy 1000]? = some cell ∧ cell.vm.isStatics = false ∧ s.vm.findClass M'.2.2.1.cls = some cell.cls := ⟨cell, h1, h2, by rw [hc]; exact h3⟩
  have hts := B.2.2.2.2.1
  refine vx_runV (As := As) (C := M'.2.2.1.cls) ⟨B.1, B.2.1, B.2.2.1, B.2.2.2.1, hts⟩ hM ⟨callB_m hts mf h0 ml mv.2.2 ⟨hd, ?_⟩, hts _ mv.1, hts _ mv.2.1⟩ ⟨PcA.blind, hrc, Bd.pre B hH hS⟩ rfl hn hv.1 hst (lv_room hw) hdg ⟨g1, g2⟩
  have := mf.2.2.2.2.2
  show 8 + (M'.2.2.2.1 + 11) + 40 * d' ≤ 40 * d
  omega
end STR
section STRW
variable {S : Type} {I : S → Hp → Prop} {l : Launch} {D : va_G} {cy : Nat → ClassId} {base : Nat} {M : Mth} {d bc bs pc : Nat} {lv : List (Nat × Value)} {st : List Value} {s : S} {Q : Oc → S → Prop}
theorem EW.ishr {x y : Int32} (hdg : decode M.2.1 pc = .ok (.ishr, 1)) (k : EW I l D cy base M d bc bs (pc + 1) lv (.int (x >>> (y &&& 31)) :: st) s Q) : EW I l D cy base M d bc bs (pc) lv (.int y :: .int x :: st) s Q := fun hp8 h8 => E.ishr hdg (k hp8 h8)
theorem EW.sgLdc (hM : M.1 = RX8) (hdg : decode M.2.1 pc = .ok (.ldc 189, 2)) (k : EW I l D cy base M d bc bs (pc + 2) lv (.ref (cy 1000) :: st) s Q) : EW I l D cy base M d bc bs pc lv st s Q := fun hp8 h8 => E.sgLdc hM hdg (k hp8 h8)
theorem EW.sgVal (hM : M.1 = RJ0) (hdg : decode M.2.1 pc = .ok (.getfield 9, 3)) (k : EW I l D cy base M d bc bs (pc + 3) lv (.ref (cy 1001) :: st) s Q) : EW I l D cy base M d bc bs pc lv (.ref (cy 1000) :: st) s Q := fun hp8 h8 => E.sgVal hM hdg (k hp8 h8)
theorem EW.sgCod (hM : M.1 = RJ0) (hdg : decode M.2.1 pc = .ok (.getfield 15, 3)) (k : EW I l D cy base M d bc bs (pc + 3) lv (.int 0 :: st) s Q) : EW I l D cy base M d bc bs pc lv (.ref (cy 1000) :: st) s Q := fun hp8 h8 => E.sgCod hM hdg (k hp8 h8)
theorem EW.sgCom (hM : M.1 = RJ0) (hdg : decode M.2.1 pc = .ok (.getstatic 38, 3)) (k : EW I l D cy base M d bc bs (pc + 3) lv (.int 1 :: st) s Q) : EW I l D cy base M d bc bs pc lv st s Q := fun hp8 h8 => E.sgCom hM hdg (k hp8 h8)
theorem EW.sgLen (hdg : decode M.2.1 pc = .ok (.arraylength, 1)) (k : EW I l D cy base M d bc bs (pc + 1) lv (.int (nI 13) :: st) s Q) : EW I l D cy base M d bc bs pc lv (.ref (cy 1001) :: st) s Q := fun hp8 h8 => E.sgLen hdg (k hp8 h8)
theorem EW.sgAld {i : Nat} (hi : i < 13) (hdg : decode M.2.1 pc = .ok (.baload, 1)) (k : EW I l D cy base M d bc bs (pc + 1) lv (.int (sgB.getD i 0) :: st) s Q) : EW I l D cy base M d bc bs pc lv (.int (nI i) :: .ref (cy 1001) :: st) s Q := fun hp8 h8 => E.sgAld hi hdg (k hp8 h8)
theorem EW.sgCall {M' : Mth} {idx d' n : Nat} {As rest : List Value} {Q' : Oc → S → Prop} (hM : MtW I l D cy base M' d' 0 0 (.ref (cy 1000) :: As) s Q') (mf : MF M') (h0 : M'.2.2.2.2.2 = []) (ml : ML M.1 idx M') (mv : MV M' n) (hd : d' < d) (hdg : decode M.2.1 pc = .ok (.invokevirtual idx, 3)) (hst : st = As.reverse ++ .ref (cy 1000) :: rest) (hn : As.length = n) (hc : M'.2.2.1.cls = "java/lang/String") (hw : (rest.map fun v => v.category).sum ≤ 8) (hno : ∀ X s, ¬ Q' (.inr X) s)
    (kk : ∀ v s', Q' (.inl v) s' → EW I l D cy base M d bc bs (pc + 3) lv (v.toList ++ rest) s' Q) : EW I l D cy base M d bc bs pc lv st s Q := fun hp8 h8 =>
  E.sgCall (mc' := 0) (ms' := 0) (hM hp8 h8) mf h0 ml mv hd hdg hst hn hc hw (fun v hp' ⟨s', q, i⟩ => kk v s' q hp' i) (fun X hp' ⟨s', q, _⟩ => absurd q (hno X s'))
theorem EW.mmax {idx : Nat} {x y : Int32} (hl : Cond.methodLink M.1 idx Lib.Math.max.name ∈ gw ∧ Cond.static Lib.Math.max.name ∈ gw ∧ Cond.initialized "java/lang/Math" ∈ gw ∧ Cond.code Lib.Math.max.name Lib.Math.max.code 2 (some .int) ∈ gw) (hd : 0 < d) (hdg : decode M.2.1 pc = .ok (.invokestatic idx, 3)) (hw : (st.map fun v => v.category).sum ≤ 8) (k : EW I l D cy base M d bc bs (pc + 3) lv (.int (if x < y then y else x) :: st) s Q) : EW I l D cy base M d bc bs pc lv (.int y :: .int x :: st) s Q := fun hp8 h8 => E.mmax hl hd hdg hw (k hp8 h8)
variable (I)
theorem J_isLatin1 (hl : l.stackTraces = false) (d : Nat) (s : S) : MtW I l D cy base mJ0_isLatin1_aae02 d 0 0 [.ref (cy 1000)] s (fun o s2 => o = .inl (some (.int (nI 1))) ∧ s2 = s) := by
  refine MtW.of hl mfJ0_isLatin1_aae02 rfl (Nat.le_of_ble_eq_true rfl) ?_
  refine EW.sgCom rfl dJ0_isLatin1_aae02_0 ?_
  refine EW.if_eq 17 dJ0_isLatin1_aae02_3 (by decide) (fun c => absurd c (by decide +kernel)) (fun _ => ?_)
  refine EW.aload_n dJ0_isLatin1_aae02_6 rfl rfl ?_
  refine EW.sgCod rfl dJ0_isLatin1_aae02_7 ?_
  refine EW.if_ne 17 dJ0_isLatin1_aae02_10 (by decide) (fun c => absurd rfl c) (fun _ => ?_)
  refine EW.ic 1 dJ0_isLatin1_aae02_13 ?_
  refine EW.goto 18 dJ0_isLatin1_aae02_14 (by decide) ?_
  refine EW.zret (ty := .boolean) rfl (by decide +kernel) dJ0_isLatin1_aae02_18 ?_
  exact ⟨rfl, rfl⟩
theorem J_coder (hl : l.stackTraces = false) (d : Nat) (s : S) : MtW I l D cy base mJ0_coder_7d493 d 0 0 [.ref (cy 1000)] s (fun o s2 => o = .inl (some (.int 0)) ∧ s2 = s) := by
  refine MtW.of hl mfJ0_coder_7d493 rfl (Nat.le_of_ble_eq_true rfl) ?_
  refine EW.sgCom rfl dJ0_coder_7d493_0 ?_
  refine EW.if_eq 13 dJ0_coder_7d493_3 (by decide) (fun c => absurd c (by decide +kernel)) (fun _ => ?_)
  refine EW.aload_n dJ0_coder_7d493_6 rfl rfl ?_
  refine EW.sgCod rfl dJ0_coder_7d493_7 ?_
  refine EW.goto 14 dJ0_coder_7d493_10 (by decide) ?_
  refine EW.zret (ty := .byte) rfl (by decide +kernel) dJ0_coder_7d493_14 ?_
  exact ⟨rfl, rfl⟩
theorem J_length (hl : l.stackTraces = false) (d : Nat) (s : S) : MtW I l D cy base mJ0_length_8abf5 (d + 1) 0 0 [.ref (cy 1000)] s (fun o s2 => o = .inl (some (.int (nI 13))) ∧ s2 = s) := by
  refine MtW.of hl mfJ0_length_8abf5 rfl (Nat.le_of_ble_eq_true rfl) ?_
  refine EW.aload_n dJ0_length_8abf5_0 rfl rfl ?_
  refine EW.sgVal rfl dJ0_length_8abf5_1 ?_
  refine EW.sgLen dJ0_length_8abf5_4 ?_
  refine EW.aload_n dJ0_length_8abf5_5 rfl rfl ?_
  refine EW.sgCall (J_coder I hl d s) mfJ0_coder_7d493 rfl l_J0_335 mvJ0_coder_7d493 (by omega) dJ0_length_8abf5_6 rfl rfl rfl (Nat.le_of_ble_eq_true rfl) (fun _ _ q => nomatch q.1) (fun v6 s6 q6 => ?_)
  obtain ⟨e6, h6⟩ := q6; cases e6; replace h6 := h6.symm; subst h6
  refine EW.ishr dJ0_length_8abf5_9 ?_
  refine EW.top (y := nI 13) (by decide +kernel) ?_
  refine EW.iret rfl dJ0_length_8abf5_10 ?_
  exact ⟨rfl, rfl⟩
theorem J_canEncode (hl : l.stackTraces = false) (d : Nat) (s : S) (c : Nat) (hc : c < 65536) : MtW I l D cy base mJ1_canEncode_9a6ad d 0 0 [.int (nI c)] s (fun o s2 => o = .inl (some (.int (nI (if c ≤ 255 then 1 else 0)))) ∧ s2 = s) := by
  refine MtW.of hl mfJ1_canEncode_9a6ad rfl (Nat.le_of_ble_eq_true rfl) ?_
  refine EW.iload_n dJ1_canEncode_9a6ad_0 rfl rfl ?_
  refine EW.if_lt 15 dJ1_canEncode_9a6ad_1 (by decide) (fun h => absurd h (nI_pos (by omega))) (fun _ => ?_)
  refine EW.iload_n dJ1_canEncode_9a6ad_4 rfl rfl ?_
  refine EW.sp 255 dJ1_canEncode_9a6ad_5 ?_
  refine EW.icmp_gt 15 dJ1_canEncode_9a6ad_8 (by decide) (fun h => ?_) (fun h => ?_)
  · have h : 255 < c := (nI_ltI (by decide) (by omega)).mp h
    refine EW.ic 0 dJ1_canEncode_9a6ad_15 ?_
    refine EW.zret (ty := .boolean) rfl (by decide +kernel) dJ1_canEncode_9a6ad_16 ?_
    rw [if_neg (by omega)]
    exact ⟨rfl, rfl⟩
  · have h : ¬ 255 < c := fun g => h ((nI_ltI (by decide) (by omega)).mpr g)
    refine EW.ic 1 dJ1_canEncode_9a6ad_11 ?_
    refine EW.goto 16 dJ1_canEncode_9a6ad_12 (by decide) ?_
    refine EW.zret (ty := .boolean) rfl (by decide +kernel) dJ1_canEncode_9a6ad_16 ?_
    rw [if_pos (by omega)]
    exact ⟨rfl, rfl⟩
/-- the place of a byte from i on -/
def sgF (x : Int32) : Nat → Nat → Option Nat
  | 0, _ => none
  | k + 1, i => if sgB.getD i 0 = x then some i else sgF x k (i + 1)
theorem J_indexOfChar_loop (d : Nat) (s : S) (x : Int32) : ∀ (k i : Nat), i + k = 13 → EW I l D cy base mJ1_indexOfChar_4cfef d 0 0 7 [(0, .ref (cy 1001)), (3, .int (nI 13)), (4, .int x), (5, .int (nI i))] [] s (fun o s2 => o = .inl (some (.int (onI (sgF x k i)))) ∧ s2 = s)
  | 0, i, hi => by
    refine EW.iload dJ1_indexOfChar_4cfef_7 rfl ?_
    refine EW.iload_n dJ1_indexOfChar_4cfef_9 rfl rfl ?_
    refine EW.icmp_ge 31 dJ1_indexOfChar_4cfef_10 (by decide) (fun _ => ?_) (fun h => absurd ((nI_leI (by omega) (by omega)).mpr (by omega)) h)
    refine EW.iconst (v := -1) dJ1_indexOfChar_4cfef_31 (by decide +kernel) ?_
    refine EW.iret rfl dJ1_indexOfChar_4cfef_32 ?_
    exact ⟨rfl, rfl⟩
  | k + 1, i, hi => by
    refine EW.iload dJ1_indexOfChar_4cfef_7 rfl ?_
    refine EW.iload_n dJ1_indexOfChar_4cfef_9 rfl rfl ?_
    refine EW.icmp_ge 31 dJ1_indexOfChar_4cfef_10 (by decide) (fun h => absurd ((nI_leI (by omega) (by omega)).mp h) (by omega)) (fun _ => ?_)
    refine EW.aload_n dJ1_indexOfChar_4cfef_13 rfl rfl ?_
    refine EW.iload dJ1_indexOfChar_4cfef_14 rfl ?_
    refine EW.sgAld (by omega) dJ1_indexOfChar_4cfef_16 ?_
    refine EW.iload dJ1_indexOfChar_4cfef_17 rfl ?_
    refine EW.icmp_ne 25 dJ1_indexOfChar_4cfef_19 (by decide) (fun h => ?_) (fun h => ?_)
    · refine EW.iinc dJ1_indexOfChar_4cfef_25 rfl (nI_inc _) (by decide) ?_
      refine EW.goto 7 dJ1_indexOfChar_4cfef_28 (by decide) ?_
      rw [sgF, if_neg h]
      exact EW.loc (lv' := [(0, .ref (cy 1001)), (3, .int (nI 13)), (4, .int x), (5, .int (nI (i + 1)))]) ⟨rfl, rfl, rfl, rfl, trivial⟩ (J_indexOfChar_loop d s x k (i + 1) (by omega))
    · refine EW.iload dJ1_indexOfChar_4cfef_22 rfl ?_
      refine EW.iret rfl dJ1_indexOfChar_4cfef_24 ?_
      rw [sgF, if_pos h]
      exact ⟨rfl, rfl⟩
theorem J_indexOfChar (hl : l.stackTraces = false) (d : Nat) (s : S) (c : Int32) : MtW I l D cy base mJ1_indexOfChar_4cfef d 0 0 [.ref (cy 1001), .int c, .int (nI 0), .int (nI 13)] s (fun o s2 => o = .inl (some (.int (onI (sgF c.toInt8.toInt32 13 0)))) ∧ s2 = s) := by
  refine MtW.of hl mfJ1_indexOfChar_4cfef rfl (Nat.le_of_ble_eq_true rfl) ?_
  refine EW.iload_n dJ1_indexOfChar_4cfef_0 rfl rfl ?_
  refine EW.i2b dJ1_indexOfChar_4cfef_1 rfl ?_
  refine EW.istore dJ1_indexOfChar_4cfef_2 (by decide) ?_
  refine EW.iload_n dJ1_indexOfChar_4cfef_4 rfl rfl ?_
  refine EW.istore dJ1_indexOfChar_4cfef_5 (by decide) ?_
  exact EW.loc (lv' := [(0, .ref (cy 1001)), (3, .int (nI 13)), (4, .int c.toInt8.toInt32), (5, .int (nI 0))]) ⟨rfl, rfl, rfl, rfl, trivial⟩ (J_indexOfChar_loop I d s c.toInt8.toInt32 13 0 rfl)
/-- what indexOf gives -/
def sgX (c : Nat) : Option Nat := if c ≤ 255 then sgF (nI c).toInt8.toInt32 13 0 else none
theorem J_indexOfL (hl : l.stackTraces = false) (d : Nat) (s : S) (c : Nat) (hc : c < 65536) : MtW I l D cy base mJ1_indexOf_4cfef (d + 1) 0 0 [.ref (cy 1001), .int (nI c), .int (nI 0), .int (nI 13)] s (fun o s2 => o = .inl (some (.int (onI (sgX c)))) ∧ s2 = s) := by
  refine MtW.of hl mfJ1_indexOf_4cfef rfl (Nat.le_of_ble_eq_true rfl) ?_
  refine EW.iload_n dJ1_indexOf_4cfef_0 rfl rfl ?_
  refine EW.callS (bc := 0) (bs := 0) (J_canEncode I hl d s c hc) mfJ1_canEncode_9a6ad rfl l_J1_88 mvJ1_canEncode_9a6ad (by omega) dJ1_indexOf_4cfef_1 rfl rfl (Nat.le_of_ble_eq_true rfl) (fun v1 s1 q1 => ?_) (fun _ _ q => nomatch q.1)
  obtain ⟨e1, h1⟩ := q1; cases e1; replace h1 := h1.symm; subst h1
  by_cases h255 : c ≤ 255
  · rw [if_pos h255]
    have ex : sgX c = sgF (nI c).toInt8.toInt32 13 0 := if_pos h255
    rw [ex]
    refine EW.if_ne 9 dJ1_indexOf_4cfef_4 (by decide) (fun _ => ?_) (fun h => absurd h (by decide +kernel))
    refine EW.iload_n dJ1_indexOf_4cfef_9 rfl rfl ?_
    refine EW.ic 0 dJ1_indexOf_4cfef_10 ?_
    refine EW.mmax mmmax_J1 (by omega) dJ1_indexOf_4cfef_11 (Nat.le_of_ble_eq_true rfl) ?_
    refine EW.top (y := nI 0) (by decide +kernel) ?_
    refine EW.istore_n dJ1_indexOf_4cfef_14 rfl (by decide) ?_
    refine EW.iload_n dJ1_indexOf_4cfef_15 rfl rfl ?_
    refine EW.aload_n dJ1_indexOf_4cfef_16 rfl rfl ?_
    refine EW.sgLen dJ1_indexOf_4cfef_17 ?_
    refine EW.mmin mmmin_J1 (by omega) dJ1_indexOf_4cfef_18 (Nat.le_of_ble_eq_true rfl) ?_
    refine EW.top (y := nI 13) (by decide +kernel) ?_
    refine EW.istore_n dJ1_indexOf_4cfef_21 rfl (by decide) ?_
    refine EW.iload_n dJ1_indexOf_4cfef_22 rfl rfl ?_
    refine EW.iload_n dJ1_indexOf_4cfef_23 rfl rfl ?_
    refine EW.icmp_lt 29 dJ1_indexOf_4cfef_24 (by decide) (fun _ => ?_) (fun h => absurd (by decide +kernel) h)
    refine EW.aload_n dJ1_indexOf_4cfef_29 rfl rfl ?_
    refine EW.iload_n dJ1_indexOf_4cfef_30 rfl rfl ?_
    refine EW.iload_n dJ1_indexOf_4cfef_31 rfl rfl ?_
    refine EW.iload_n dJ1_indexOf_4cfef_32 rfl rfl ?_
    refine EW.callS (bc := 0) (bs := 0) (J_indexOfChar I hl d s (nI c)) mfJ1_indexOfChar_4cfef rfl l_J1_95 mvJ1_indexOfChar_4cfef (by omega) dJ1_indexOf_4cfef_33 rfl rfl (Nat.le_of_ble_eq_true rfl) (fun v4 s4 q4 => ?_) (fun _ _ q => nomatch q.1)
    obtain ⟨e4, h4⟩ := q4; cases e4; replace h4 := h4.symm; subst h4
    refine EW.iret rfl dJ1_indexOf_4cfef_36 ?_
    exact ⟨rfl, rfl⟩
  · rw [if_neg h255]
    have ex : sgX c = none := if_neg h255
    rw [ex]
    refine EW.if_ne 9 dJ1_indexOf_4cfef_4 (by decide) (fun h => absurd (by decide +kernel) h) (fun _ => ?_)
    refine EW.iconst (v := -1) dJ1_indexOf_4cfef_7 (by decide +kernel) ?_
    refine EW.iret rfl dJ1_indexOf_4cfef_8 ?_
    exact ⟨rfl, rfl⟩
theorem J_indexOf2 (hl : l.stackTraces = false) (d : Nat) (s : S) (c : Nat) (hc : c < 65536) : MtW I l D cy base mJ0_indexOf_7cf53 (d + 2) 0 0 [.ref (cy 1000), .int (nI c), .int (nI 0)] s (fun o s2 => o = .inl (some (.int (onI (sgX c)))) ∧ s2 = s) := by
  refine MtW.of hl mfJ0_indexOf_7cf53 rfl (Nat.le_of_ble_eq_true rfl) ?_
  refine EW.aload_n dJ0_indexOf_7cf53_0 rfl rfl ?_
  refine EW.sgCall (J_isLatin1 I hl d s) mfJ0_isLatin1_aae02 rfl l_J0_492 mvJ0_isLatin1_aae02 (by omega) dJ0_indexOf_7cf53_1 rfl rfl rfl (Nat.le_of_ble_eq_true rfl) (fun _ _ q => nomatch q.1) (fun v1 s1 q1 => ?_)
  obtain ⟨e1, h1⟩ := q1; cases e1; replace h1 := h1.symm; subst h1
  refine EW.if_eq 23 dJ0_indexOf_7cf53_4 (by decide) (fun h => absurd h (by decide +kernel)) (fun _ => ?_)
  refine EW.aload_n dJ0_indexOf_7cf53_7 rfl rfl ?_
  refine EW.sgVal rfl dJ0_indexOf_7cf53_8 ?_
  refine EW.iload_n dJ0_indexOf_7cf53_11 rfl rfl ?_
  refine EW.iload_n dJ0_indexOf_7cf53_12 rfl rfl ?_
  refine EW.aload_n dJ0_indexOf_7cf53_13 rfl rfl ?_
  refine EW.sgCall (rest := [.int (nI 0), .int (nI c), .ref (cy 1001)]) (J_length I hl d s) mfJ0_length_8abf5 rfl l_J0_505 mvJ0_length_8abf5 (by omega) dJ0_indexOf_7cf53_14 rfl rfl rfl (Nat.le_of_ble_eq_true rfl) (fun _ _ q => nomatch q.1) (fun v2 s2 q2 => ?_)
  obtain ⟨e2, h2⟩ := q2; cases e2; replace h2 := h2.symm; subst h2
  refine EW.callS (bc := 0) (bs := 0) (J_indexOfL I hl d s c hc) mfJ1_indexOf_4cfef rfl l_J0_637 mvJ1_indexOf_4cfef (by omega) dJ0_indexOf_7cf53_17 rfl rfl (Nat.le_of_ble_eq_true rfl) (fun v3 s3 q3 => ?_) (fun _ _ q => nomatch q.1)
  obtain ⟨e3, h3⟩ := q3; cases e3; replace h3 := h3.symm; subst h3
  refine EW.goto 36 dJ0_indexOf_7cf53_20 (by decide) ?_
  refine EW.iret rfl dJ0_indexOf_7cf53_36 ?_
  exact ⟨rfl, rfl⟩
theorem J_indexOf1 (hl : l.stackTraces = false) (d : Nat) (s : S) (c : Nat) (hc : c < 65536) : MtW I l D cy base mJ0_indexOf_0f7a4 (d + 3) 0 0 [.ref (cy 1000), .int (nI c)] s (fun o s2 => o = .inl (some (.int (onI (sgX c)))) ∧ s2 = s) := by
  refine MtW.of hl mfJ0_indexOf_0f7a4 rfl (Nat.le_of_ble_eq_true rfl) ?_
  refine EW.aload_n dJ0_indexOf_0f7a4_0 rfl rfl ?_
  refine EW.iload_n dJ0_indexOf_0f7a4_1 rfl rfl ?_
  refine EW.ic 0 dJ0_indexOf_0f7a4_2 ?_
  refine EW.sgCall (As := [.int (nI c), .int (nI 0)]) (rest := []) (J_indexOf2 I hl d s c hc) mfJ0_indexOf_7cf53 rfl l_J0_633 mvJ0_indexOf_7cf53 (by omega) dJ0_indexOf_0f7a4_3 rfl rfl rfl (Nat.le_of_ble_eq_true rfl) (fun _ _ q => nomatch q.1) (fun v1 s1 q1 => ?_)
  obtain ⟨e1, h1⟩ := q1; cases e1; replace h1 := h1.symm; subst h1
  refine EW.iret rfl dJ0_indexOf_0f7a4_6 ?_
  exact ⟨rfl, rfl⟩
/-- the signs -/
theorem sgX_128 : ∀ c : Fin 256, (sgX c.val = none) ↔ ¬ (c.val = 61 ∨ c.val = 47 ∨ c.val = 38 ∨ c.val = 33 ∨ c.val = 42 ∨ c.val = 43 ∨ c.val = 63 ∨ c.val = 46 ∨ c.val = 91 ∨ c.val = 45 ∨ c.val = 93 ∨ c.val = 40 ∨ c.val = 41) := by decide +kernel
theorem sgF_lt {x : Int32} : ∀ k i q, sgF x k i = some q → q < i + k
  | 0, i, q, h => by cases h
  | k + 1, i, q, h => by
    unfold sgF at h
    split at h
    · cases h; omega
    · have := sgF_lt k (i + 1) q h; omega
theorem sgX_neg {c : Nat} : onI (sgX c) < 0 ↔ sgX c = none := by
  cases h : sgX c with
  | none => exact ⟨fun _ => rfl, fun _ => by decide +kernel⟩
  | some q =>
    refine ⟨fun g => absurd g (nI_pos ?_), fun g => by cases g⟩
    unfold sgX at h
    split at h
    · have := sgF_lt 13 0 q h; omega
    · cases h
theorem sgX_is {c : Nat} (h1 : ¬ isL c) (h2 : ¬ isR c) : sgX c = none ↔ ¬ isT c := by
  by_cases h : c ≤ 255
  · have := sgX_128 ⟨c, by omega⟩
    rw [this]
    unfold isT
    constructor
    · intro g q
      rcases q with q | q | q
      · exact h1 q
      · exact h2 q
      · exact g q
    · intro g q
      exact g (Or.inr (Or.inr q))
  · have e : sgX c = none := if_neg h
    refine ⟨fun _ => ?_, fun _ => e⟩
    unfold isT
    omega
theorem C_standsIn (hl : l.stackTraces = false) (d : Nat) (s : S) (c : Nat) (hc : c < 65536) : MtW I l D cy base mX8_standsInTexts (d + 4) 0 0 [.int (nI c)] s (fun o s2 => (isT c ∧ o = .inl (some (.int (nI 1))) ∨ ¬ isT c ∧ o = .inl (some (.int (nI 0)))) ∧ s2 = s) := by
  refine MtW.of hl mfX8_standsInTexts rfl (Nat.le_of_ble_eq_true rfl) ?_
  have yes : isT c → EW I l D cy base mX8_standsInTexts (d + 4) 0 0 23 [(0, .int (nI c))] [] s (fun o s2 => (isT c ∧ o = .inl (some (.int (nI 1))) ∨ ¬ isT c ∧ o = .inl (some (.int (nI 0)))) ∧ s2 = s) := fun h => by
    refine EW.ic 1 dX8_standsInTexts_23 ?_
    refine EW.goto 28 dX8_standsInTexts_24 (by decide) ?_
    refine EW.zret (ty := .boolean) rfl (by decide +kernel) dX8_standsInTexts_28 ?_
    exact ⟨Or.inl ⟨h, rfl⟩, rfl⟩
  refine EW.iload_n dX8_standsInTexts_0 rfl rfl ?_
  refine EW.callS (bc := 0) (bs := 0) (C_isLetter hl I 0 s (nI c)) mfX8_isLetter rfl l_X8_103 mvX8_isLetter (by omega) dX8_standsInTexts_1 rfl rfl (Nat.le_of_ble_eq_true rfl) (fun v1 s1 q1 => ?_) (fun _ _ q => nomatch q.1)
  obtain ⟨e1, h1⟩ := q1; cases e1; replace h1 := h1.symm; subst h1
  by_cases hL : isL c
  · refine EW.if_ne 23 dX8_standsInTexts_4 (by decide) (fun _ => yes (Or.inl hL)) (fun h => absurd h (by rw [if_pos (il1 hL)]; decide +kernel))
  refine EW.if_ne 23 dX8_standsInTexts_4 (by decide) (fun h => absurd (if_neg (il0 hc hL)) h) (fun _ => ?_)
  refine EW.iload_n dX8_standsInTexts_7 rfl rfl ?_
  refine EW.callS (bc := 0) (bs := 0) (C_isRuleLetter hl I 0 s (nI c)) mfX8_isRuleLetter rfl l_X8_186 mvX8_isRuleLetter (by omega) dX8_standsInTexts_8 rfl rfl (Nat.le_of_ble_eq_true rfl) (fun v2 s2 q2 => ?_) (fun _ _ q => nomatch q.1)
  obtain ⟨e2, h2⟩ := q2; cases e2; replace h2 := h2.symm; subst h2
  by_cases hR : isR c
  · refine EW.if_ne 23 dX8_standsInTexts_11 (by decide) (fun _ => yes (Or.inr (Or.inl hR))) (fun h => absurd h (by rw [if_pos (ir1 hR)]; decide +kernel))
  refine EW.if_ne 23 dX8_standsInTexts_11 (by decide) (fun h => absurd (if_neg (ir0 hc hR)) h) (fun _ => ?_)
  refine EW.sgLdc rfl dX8_standsInTexts_14 ?_
  refine EW.iload_n dX8_standsInTexts_16 rfl rfl ?_
  refine EW.sgCall (As := [.int (nI c)]) (rest := []) (J_indexOf1 I hl d s c hc) mfJ0_indexOf_0f7a4 rfl l_X8_191 mvJ0_indexOf_0f7a4 (by omega) dX8_standsInTexts_17 rfl rfl rfl (Nat.le_of_ble_eq_true rfl) (fun _ _ q => nomatch q.1) (fun v3 s3 q3 => ?_)
  obtain ⟨e3, h3⟩ := q3; cases e3; replace h3 := h3.symm; subst h3
  refine EW.if_lt 27 dX8_standsInTexts_20 (by decide) (fun h => ?_) (fun h => ?_)
  · have hn : ¬ isT c := (sgX_is hL hR).mp (sgX_neg.mp h)
    refine EW.ic 0 dX8_standsInTexts_27 ?_
    refine EW.zret (ty := .boolean) rfl (by decide +kernel) dX8_standsInTexts_28 ?_
    exact ⟨Or.inr ⟨hn, rfl⟩, rfl⟩
  · have ht : isT c := by
      by_cases q : isT c
      · exact q
      · exact absurd (sgX_neg.mpr ((sgX_is hL hR).mpr q)) h
    exact yes ht
end STRW
section C24
variable {cy : Nat → ClassId} {ax : Nat → Nat} {hp0 : Hp} {l : Launch} {D : va_G} {base : Nat}
set_option maxHeartbeats 1000000 in
theorem C_type (hl : l.stackTraces = false) (d : Nat) (s : CSt) (c n : Nat) (hc : c < 65536) (hn : s.1 0 = nI n) (hn9 : n ≤ 24) : MtW (IC cy ax hp0) l D cy base mX8_type (d + 5) 0 0 [.ref (ax 0), .int (nI c)] s (fun o s2 => (isT c ∧ n < 24 ∧ o = .inl (some (.int (nI 1))) ∧ s2 = (va_up s.1 0 (nI (n + 1)), va_up s.2.1 2 (upd (s.2.1 2) n (vp_nar .char (nI c))), s.2.2)) ∨ (¬ (isT c ∧ n < 24) ∧ o = .inl (some (.int (nI 0))) ∧ s2 = s)) := by
  refine MtW.of hl mfX8_type rfl (Nat.le_of_ble_eq_true rfl) ?_
  refine EW.iload_n dX8_type_0 rfl rfl ?_
  refine EW.callS (bc := 0) (bs := 0) (C_standsIn (IC cy ax hp0) hl d s c hc) mfX8_standsInTexts rfl l_X8_60 mvX8_standsInTexts (by omega) dX8_type_1 rfl rfl (Nat.le_of_ble_eq_true rfl) (fun v1 s1 q1 => ?_) (fun _ _ q => by rcases q.1 with ⟨_, e⟩ | ⟨_, e⟩ <;> cases e)
  obtain ⟨q1, h1⟩ := q1
  replace h1 := h1.symm
  subst h1
  rcases q1 with ⟨ht, e⟩ | ⟨ht, e⟩
  · cases e
    refine EW.if_eq 22 dX8_type_4 (by decide) (fun h => absurd h (by decide +kernel)) (fun _ => ?_)
    refine EW.aload_n dX8_type_7 rfl rfl ?_
    refine EC.get (k := 0) f_X8_14 dX8_type_8 (by decide) rfl rfl ?_
    refine EW.iload_n dX8_type_11 rfl rfl ?_
    refine EC.callV (bc := 0) (bs := 0) (mc' := 0) (ms' := 0) (k := 1) (C_add_pad hl 0 n s hn hn9 (nI c)) mfX0_add l_X8_64 mvX0_add (by omega) dX8_type_12 rfl rfl (by decide) rfl rfl rfl (Nat.le_of_ble_eq_true rfl) (fun v2 s2 q2 => ?_) (fun _ _ q => by split at q <;> cases q.1)
    by_cases h24 : n < 24
    · rw [if_pos h24] at q2
      obtain ⟨e2, h2⟩ := q2
      cases e2
      refine EW.if_eq 22 dX8_type_15 (by decide) (fun h => absurd h (by decide +kernel)) (fun _ => ?_)
      refine EW.ic 1 dX8_type_18 ?_
      refine EW.goto 23 dX8_type_19 (by decide) ?_
      refine EW.zret (ty := .boolean) rfl (by decide +kernel) dX8_type_23 ?_
      exact Or.inl ⟨ht, h24, rfl, h2⟩
    · rw [if_neg h24] at q2
      obtain ⟨e2, h2⟩ := q2
      cases e2
      refine EW.if_eq 22 dX8_type_15 (by decide) (fun _ => ?_) (fun h => absurd rfl h)
      refine EW.ic 0 dX8_type_22 ?_
      refine EW.zret (ty := .boolean) rfl (by decide +kernel) dX8_type_23 ?_
      exact Or.inr ⟨fun q => h24 q.2, rfl, h2⟩
  · cases e
    refine EW.if_eq 22 dX8_type_4 (by decide) (fun _ => ?_) (fun h => absurd (by decide +kernel) h)
    refine EW.ic 0 dX8_type_22 ?_
    refine EW.zret (ty := .boolean) rfl (by decide +kernel) dX8_type_23 ?_
    exact Or.inr ⟨fun q => ht q.1, rfl, rfl⟩
end C24
