section M22
variable {cy : Nat → ClassId} {ad : Nat → Nat} {hp0 : Hp} {l : Launch} {D : va_G} {base : Nat}
abbrev HF (cy : Nat → ClassId) (ad : Nat → Nat) (hp0 : Hp) (l : Launch) (D : va_G) (base dd B : Nat) (s : MSt) (i : Nat) (Q : Oc → MSt → Prop) : Prop := EW (IM cy ad hp0) l D cy base mX9_findDepths dd 0 0 25 [(0, .ref (ad 43)), (1, .int (nI B)), (3, .int (nI i + Int32.ofInt (-1)))] [] s Q
theorem nI_dk {k : Nat} : nI (k + 1) + Int32.ofInt (-1) = nI k := by
  rw [nI_dec (by omega)]
  rfl
set_option maxHeartbeats 4000000 in
theorem FD_l0 {dd B : Nat} {s : MSt} {Q : Oc → MSt → Prop} {k : Nat} (hB : B ≤ 320) (hBk : B ≤ k) (hk : k < 384) (hkd : s.2 5 k = nI 0) (K : HF cy ad hp0 l D base dd B s k Q) : HF cy ad hp0 l D base dd B s (k + 1) Q := by
  rw [HF, nI_dk]
  refine EW.iload_n dX9_findDepths_25 rfl rfl ?_
  refine EW.iload_n dX9_findDepths_26 rfl rfl ?_
  refine EW.icmp_lt 126 dX9_findDepths_27 (by decide) (fun c27 => ?_) (fun c27 => ?_)
  · have c27 : k < B := (nI_ltI (by omega) (by omega)).mp c27; omega
  · have c27 : ¬ (k < B) := fun h => c27 ((nI_ltI (by omega) (by omega)).mpr h)
    refine EW.aload_n dX9_findDepths_30 rfl rfl ?_
    refine EM.get f_X9_17 dX9_findDepths_31 rfl ?_
    refine EW.iload_n dX9_findDepths_34 rfl rfl ?_
    refine EM.ialdN k dX9_findDepths_35 rfl rfl (by simp only [mLen]; omega) ?_
    refine EW.top hkd ?_
    refine EW.ic 1 dX9_findDepths_36 ?_
    refine EW.icmp_le 61 dX9_findDepths_37 (by decide) (fun c37 => ?_) (fun c37 => ?_)
    · refine EW.aload_n dX9_findDepths_61 rfl rfl ?_
      refine EM.get f_X9_17 dX9_findDepths_62 rfl ?_
      refine EW.iload_n dX9_findDepths_65 rfl rfl ?_
      refine EM.ialdN k dX9_findDepths_66 rfl rfl (by simp only [mLen]; omega) ?_
      refine EW.top hkd ?_
      refine EW.ic 2 dX9_findDepths_67 ?_
      refine EW.icmp_eq 81 dX9_findDepths_68 (by decide) (fun c68 => ?_) (fun c68 => ?_)
      · exact absurd c68 (by decide +kernel)
      · refine EW.aload_n dX9_findDepths_71 rfl rfl ?_
        refine EM.get f_X9_17 dX9_findDepths_72 rfl ?_
        refine EW.iload_n dX9_findDepths_75 rfl rfl ?_
        refine EM.ialdN k dX9_findDepths_76 rfl rfl (by simp only [mLen]; omega) ?_
        refine EW.top hkd ?_
        refine EW.ic 3 dX9_findDepths_77 ?_
        refine EW.icmp_ne 120 dX9_findDepths_78 (by decide) (fun c78 => ?_) (fun c78 => ?_)
        · refine EW.iinc dX9_findDepths_120 rfl rfl (by decide) ?_
          refine EW.goto 25 dX9_findDepths_123 (by decide) ?_
          exact EW.loc (lv' := [(0, .ref (ad 43)), (1, .int (nI B)), (3, .int (nI k + Int32.ofInt (-1)))]) ⟨rfl, rfl, rfl, trivial⟩ K
        · exact absurd c78 (by decide +kernel)
    · exact absurd c37 (by decide +kernel)
set_option maxHeartbeats 4000000 in
theorem FD_l1 {dd B : Nat} {s : MSt} {Q : Oc → MSt → Prop} {k : Nat} (hB : B ≤ 320) (hBk : B ≤ k) (hk : k < 384) (hkd : s.2 5 k = nI 1) (K : HF cy ad hp0 l D base dd B s k Q) : HF cy ad hp0 l D base dd B s (k + 1) Q := by
  rw [HF, nI_dk]
  refine EW.iload_n dX9_findDepths_25 rfl rfl ?_
  refine EW.iload_n dX9_findDepths_26 rfl rfl ?_
  refine EW.icmp_lt 126 dX9_findDepths_27 (by decide) (fun c27 => ?_) (fun c27 => ?_)
  · have c27 : k < B := (nI_ltI (by omega) (by omega)).mp c27; omega
  · have c27 : ¬ (k < B) := fun h => c27 ((nI_ltI (by omega) (by omega)).mpr h)
    refine EW.aload_n dX9_findDepths_30 rfl rfl ?_
    refine EM.get f_X9_17 dX9_findDepths_31 rfl ?_
    refine EW.iload_n dX9_findDepths_34 rfl rfl ?_
    refine EM.ialdN k dX9_findDepths_35 rfl rfl (by simp only [mLen]; omega) ?_
    refine EW.top hkd ?_
    refine EW.ic 1 dX9_findDepths_36 ?_
    refine EW.icmp_le 61 dX9_findDepths_37 (by decide) (fun c37 => ?_) (fun c37 => ?_)
    · refine EW.aload_n dX9_findDepths_61 rfl rfl ?_
      refine EM.get f_X9_17 dX9_findDepths_62 rfl ?_
      refine EW.iload_n dX9_findDepths_65 rfl rfl ?_
      refine EM.ialdN k dX9_findDepths_66 rfl rfl (by simp only [mLen]; omega) ?_
      refine EW.top hkd ?_
      refine EW.ic 2 dX9_findDepths_67 ?_
      refine EW.icmp_eq 81 dX9_findDepths_68 (by decide) (fun c68 => ?_) (fun c68 => ?_)
      · exact absurd c68 (by decide +kernel)
      · refine EW.aload_n dX9_findDepths_71 rfl rfl ?_
        refine EM.get f_X9_17 dX9_findDepths_72 rfl ?_
        refine EW.iload_n dX9_findDepths_75 rfl rfl ?_
        refine EM.ialdN k dX9_findDepths_76 rfl rfl (by simp only [mLen]; omega) ?_
        refine EW.top hkd ?_
        refine EW.ic 3 dX9_findDepths_77 ?_
        refine EW.icmp_ne 120 dX9_findDepths_78 (by decide) (fun c78 => ?_) (fun c78 => ?_)
        · refine EW.iinc dX9_findDepths_120 rfl rfl (by decide) ?_
          refine EW.goto 25 dX9_findDepths_123 (by decide) ?_
          exact EW.loc (lv' := [(0, .ref (ad 43)), (1, .int (nI B)), (3, .int (nI k + Int32.ofInt (-1)))]) ⟨rfl, rfl, rfl, trivial⟩ K
        · exact absurd c78 (by decide +kernel)
    · exact absurd c37 (by decide +kernel)
set_option maxHeartbeats 4000000 in
theorem FD_s4 {dd B : Nat} {s : MSt} {Q : Oc → MSt → Prop} {k : Nat} (hB : B ≤ 320) (hBk : B ≤ k) (hk : k < 384) {f dp : Nat} (hf9 : f < 64) (hkd : s.2 5 k = nI 4) (hf : s.2 6 k = nI f) (hd : s.2 8 k = nI dp) (hne : k ≠ B + f) (K : HF cy ad hp0 l D base dd B (aU 8 (B + f) (nI (dp + 1)) s) k Q) : HF cy ad hp0 l D base dd B s (k + 1) Q := by
  rw [HF, nI_dk]
  refine EW.iload_n dX9_findDepths_25 rfl rfl ?_
  refine EW.iload_n dX9_findDepths_26 rfl rfl ?_
  refine EW.icmp_lt 126 dX9_findDepths_27 (by decide) (fun c27 => ?_) (fun c27 => ?_)
  · have c27 : k < B := (nI_ltI (by omega) (by omega)).mp c27; omega
  · have c27 : ¬ (k < B) := fun h => c27 ((nI_ltI (by omega) (by omega)).mpr h)
    refine EW.aload_n dX9_findDepths_30 rfl rfl ?_
    refine EM.get f_X9_17 dX9_findDepths_31 rfl ?_
    refine EW.iload_n dX9_findDepths_34 rfl rfl ?_
    refine EM.ialdN k dX9_findDepths_35 rfl rfl (by simp only [mLen]; omega) ?_
    refine EW.top hkd ?_
    refine EW.ic 1 dX9_findDepths_36 ?_
    refine EW.icmp_le 61 dX9_findDepths_37 (by decide) (fun c37 => ?_) (fun c37 => ?_)
    · exact absurd c37 (by decide +kernel)
    · refine EW.aload_n dX9_findDepths_40 rfl rfl ?_
      refine EM.get f_X9_26 dX9_findDepths_41 rfl ?_
      refine EW.iload_n dX9_findDepths_44 rfl rfl ?_
      refine EW.aload_n dX9_findDepths_45 rfl rfl ?_
      refine EM.get f_X9_20 dX9_findDepths_46 rfl ?_
      refine EW.iload_n dX9_findDepths_49 rfl rfl ?_
      refine EM.ialdN k dX9_findDepths_50 rfl rfl (by simp only [mLen]; omega) ?_
      refine EW.top hf ?_
      refine EW.iadd dX9_findDepths_51 ?_
      refine EW.top (nI_add _ _) ?_
      refine EW.aload_n dX9_findDepths_52 rfl rfl ?_
      refine EM.get f_X9_26 dX9_findDepths_53 rfl ?_
      refine EW.iload_n dX9_findDepths_56 rfl rfl ?_
      refine EM.ialdN k dX9_findDepths_57 rfl rfl (by simp only [mLen]; omega) ?_
      refine EW.top hd ?_
      refine EW.ic 1 dX9_findDepths_58 ?_
      refine EW.iadd dX9_findDepths_59 ?_
      refine EW.top (nI_add _ _) ?_
      refine EM.iastN (B + f) dX9_findDepths_60 rfl rfl (by simp only [mLen]; omega) ?_
      refine EW.aload_n dX9_findDepths_61 rfl rfl ?_
      refine EM.get f_X9_17 dX9_findDepths_62 rfl ?_
      refine EW.iload_n dX9_findDepths_65 rfl rfl ?_
      refine EM.ialdN k dX9_findDepths_66 rfl rfl (by simp only [mLen]; omega) ?_
      refine EW.top hkd ?_
      refine EW.ic 2 dX9_findDepths_67 ?_
      refine EW.icmp_eq 81 dX9_findDepths_68 (by decide) (fun c68 => ?_) (fun c68 => ?_)
      · exact absurd c68 (by decide +kernel)
      · refine EW.aload_n dX9_findDepths_71 rfl rfl ?_
        refine EM.get f_X9_17 dX9_findDepths_72 rfl ?_
        refine EW.iload_n dX9_findDepths_75 rfl rfl ?_
        refine EM.ialdN k dX9_findDepths_76 rfl rfl (by simp only [mLen]; omega) ?_
        refine EW.top hkd ?_
        refine EW.ic 3 dX9_findDepths_77 ?_
        refine EW.icmp_ne 120 dX9_findDepths_78 (by decide) (fun c78 => ?_) (fun c78 => ?_)
        · refine EW.iinc dX9_findDepths_120 rfl rfl (by decide) ?_
          refine EW.goto 25 dX9_findDepths_123 (by decide) ?_
          exact EW.loc (lv' := [(0, .ref (ad 43)), (1, .int (nI B)), (3, .int (nI k + Int32.ofInt (-1)))]) ⟨rfl, rfl, rfl, trivial⟩ K
        · exact absurd c78 (by decide +kernel)
set_option maxHeartbeats 4000000 in
theorem FD_s5 {dd B : Nat} {s : MSt} {Q : Oc → MSt → Prop} {k : Nat} (hB : B ≤ 320) (hBk : B ≤ k) (hk : k < 384) {f dp : Nat} (hf9 : f < 64) (hkd : s.2 5 k = nI 5) (hf : s.2 6 k = nI f) (hd : s.2 8 k = nI dp) (hne : k ≠ B + f) (K : HF cy ad hp0 l D base dd B (aU 8 (B + f) (nI (dp + 1)) s) k Q) : HF cy ad hp0 l D base dd B s (k + 1) Q := by
  rw [HF, nI_dk]
  refine EW.iload_n dX9_findDepths_25 rfl rfl ?_
  refine EW.iload_n dX9_findDepths_26 rfl rfl ?_
  refine EW.icmp_lt 126 dX9_findDepths_27 (by decide) (fun c27 => ?_) (fun c27 => ?_)
  · have c27 : k < B := (nI_ltI (by omega) (by omega)).mp c27; omega
  · have c27 : ¬ (k < B) := fun h => c27 ((nI_ltI (by omega) (by omega)).mpr h)
    refine EW.aload_n dX9_findDepths_30 rfl rfl ?_
    refine EM.get f_X9_17 dX9_findDepths_31 rfl ?_
    refine EW.iload_n dX9_findDepths_34 rfl rfl ?_
    refine EM.ialdN k dX9_findDepths_35 rfl rfl (by simp only [mLen]; omega) ?_
    refine EW.top hkd ?_
    refine EW.ic 1 dX9_findDepths_36 ?_
    refine EW.icmp_le 61 dX9_findDepths_37 (by decide) (fun c37 => ?_) (fun c37 => ?_)
    · exact absurd c37 (by decide +kernel)
    · refine EW.aload_n dX9_findDepths_40 rfl rfl ?_
      refine EM.get f_X9_26 dX9_findDepths_41 rfl ?_
      refine EW.iload_n dX9_findDepths_44 rfl rfl ?_
      refine EW.aload_n dX9_findDepths_45 rfl rfl ?_
      refine EM.get f_X9_20 dX9_findDepths_46 rfl ?_
      refine EW.iload_n dX9_findDepths_49 rfl rfl ?_
      refine EM.ialdN k dX9_findDepths_50 rfl rfl (by simp only [mLen]; omega) ?_
      refine EW.top hf ?_
      refine EW.iadd dX9_findDepths_51 ?_
      refine EW.top (nI_add _ _) ?_
      refine EW.aload_n dX9_findDepths_52 rfl rfl ?_
      refine EM.get f_X9_26 dX9_findDepths_53 rfl ?_
      refine EW.iload_n dX9_findDepths_56 rfl rfl ?_
      refine EM.ialdN k dX9_findDepths_57 rfl rfl (by simp only [mLen]; omega) ?_
      refine EW.top hd ?_
      refine EW.ic 1 dX9_findDepths_58 ?_
      refine EW.iadd dX9_findDepths_59 ?_
      refine EW.top (nI_add _ _) ?_
      refine EM.iastN (B + f) dX9_findDepths_60 rfl rfl (by simp only [mLen]; omega) ?_
      refine EW.aload_n dX9_findDepths_61 rfl rfl ?_
      refine EM.get f_X9_17 dX9_findDepths_62 rfl ?_
      refine EW.iload_n dX9_findDepths_65 rfl rfl ?_
      refine EM.ialdN k dX9_findDepths_66 rfl rfl (by simp only [mLen]; omega) ?_
      refine EW.top hkd ?_
      refine EW.ic 2 dX9_findDepths_67 ?_
      refine EW.icmp_eq 81 dX9_findDepths_68 (by decide) (fun c68 => ?_) (fun c68 => ?_)
      · exact absurd c68 (by decide +kernel)
      · refine EW.aload_n dX9_findDepths_71 rfl rfl ?_
        refine EM.get f_X9_17 dX9_findDepths_72 rfl ?_
        refine EW.iload_n dX9_findDepths_75 rfl rfl ?_
        refine EM.ialdN k dX9_findDepths_76 rfl rfl (by simp only [mLen]; omega) ?_
        refine EW.top hkd ?_
        refine EW.ic 3 dX9_findDepths_77 ?_
        refine EW.icmp_ne 120 dX9_findDepths_78 (by decide) (fun c78 => ?_) (fun c78 => ?_)
        · refine EW.iinc dX9_findDepths_120 rfl rfl (by decide) ?_
          refine EW.goto 25 dX9_findDepths_123 (by decide) ?_
          exact EW.loc (lv' := [(0, .ref (ad 43)), (1, .int (nI B)), (3, .int (nI k + Int32.ofInt (-1)))]) ⟨rfl, rfl, rfl, trivial⟩ K
        · exact absurd c78 (by decide +kernel)
set_option maxHeartbeats 4000000 in
theorem FD_s6 {dd B : Nat} {s : MSt} {Q : Oc → MSt → Prop} {k : Nat} (hB : B ≤ 320) (hBk : B ≤ k) (hk : k < 384) {f dp : Nat} (hf9 : f < 64) (hkd : s.2 5 k = nI 6) (hf : s.2 6 k = nI f) (hd : s.2 8 k = nI dp) (hne : k ≠ B + f) (K : HF cy ad hp0 l D base dd B (aU 8 (B + f) (nI (dp + 1)) s) k Q) : HF cy ad hp0 l D base dd B s (k + 1) Q := by
  rw [HF, nI_dk]
  refine EW.iload_n dX9_findDepths_25 rfl rfl ?_
  refine EW.iload_n dX9_findDepths_26 rfl rfl ?_
  refine EW.icmp_lt 126 dX9_findDepths_27 (by decide) (fun c27 => ?_) (fun c27 => ?_)
  · have c27 : k < B := (nI_ltI (by omega) (by omega)).mp c27; omega
  · have c27 : ¬ (k < B) := fun h => c27 ((nI_ltI (by omega) (by omega)).mpr h)
    refine EW.aload_n dX9_findDepths_30 rfl rfl ?_
    refine EM.get f_X9_17 dX9_findDepths_31 rfl ?_
    refine EW.iload_n dX9_findDepths_34 rfl rfl ?_
    refine EM.ialdN k dX9_findDepths_35 rfl rfl (by simp only [mLen]; omega) ?_
    refine EW.top hkd ?_
    refine EW.ic 1 dX9_findDepths_36 ?_
    refine EW.icmp_le 61 dX9_findDepths_37 (by decide) (fun c37 => ?_) (fun c37 => ?_)
    · exact absurd c37 (by decide +kernel)
    · refine EW.aload_n dX9_findDepths_40 rfl rfl ?_
      refine EM.get f_X9_26 dX9_findDepths_41 rfl ?_
      refine EW.iload_n dX9_findDepths_44 rfl rfl ?_
      refine EW.aload_n dX9_findDepths_45 rfl rfl ?_
      refine EM.get f_X9_20 dX9_findDepths_46 rfl ?_
      refine EW.iload_n dX9_findDepths_49 rfl rfl ?_
      refine EM.ialdN k dX9_findDepths_50 rfl rfl (by simp only [mLen]; omega) ?_
      refine EW.top hf ?_
      refine EW.iadd dX9_findDepths_51 ?_
      refine EW.top (nI_add _ _) ?_
      refine EW.aload_n dX9_findDepths_52 rfl rfl ?_
      refine EM.get f_X9_26 dX9_findDepths_53 rfl ?_
      refine EW.iload_n dX9_findDepths_56 rfl rfl ?_
      refine EM.ialdN k dX9_findDepths_57 rfl rfl (by simp only [mLen]; omega) ?_
      refine EW.top hd ?_
      refine EW.ic 1 dX9_findDepths_58 ?_
      refine EW.iadd dX9_findDepths_59 ?_
      refine EW.top (nI_add _ _) ?_
      refine EM.iastN (B + f) dX9_findDepths_60 rfl rfl (by simp only [mLen]; omega) ?_
      refine EW.aload_n dX9_findDepths_61 rfl rfl ?_
      refine EM.get f_X9_17 dX9_findDepths_62 rfl ?_
      refine EW.iload_n dX9_findDepths_65 rfl rfl ?_
      refine EM.ialdN k dX9_findDepths_66 rfl rfl (by simp only [mLen]; omega) ?_
      refine EW.top hkd ?_
      refine EW.ic 2 dX9_findDepths_67 ?_
      refine EW.icmp_eq 81 dX9_findDepths_68 (by decide) (fun c68 => ?_) (fun c68 => ?_)
      · exact absurd c68 (by decide +kernel)
      · refine EW.aload_n dX9_findDepths_71 rfl rfl ?_
        refine EM.get f_X9_17 dX9_findDepths_72 rfl ?_
        refine EW.iload_n dX9_findDepths_75 rfl rfl ?_
        refine EM.ialdN k dX9_findDepths_76 rfl rfl (by simp only [mLen]; omega) ?_
        refine EW.top hkd ?_
        refine EW.ic 3 dX9_findDepths_77 ?_
        refine EW.icmp_ne 120 dX9_findDepths_78 (by decide) (fun c78 => ?_) (fun c78 => ?_)
        · refine EW.iinc dX9_findDepths_120 rfl rfl (by decide) ?_
          refine EW.goto 25 dX9_findDepths_123 (by decide) ?_
          exact EW.loc (lv' := [(0, .ref (ad 43)), (1, .int (nI B)), (3, .int (nI k + Int32.ofInt (-1)))]) ⟨rfl, rfl, rfl, trivial⟩ K
        · exact absurd c78 (by decide +kernel)
set_option maxHeartbeats 4000000 in
theorem FD_s7 {dd B : Nat} {s : MSt} {Q : Oc → MSt → Prop} {k : Nat} (hB : B ≤ 320) (hBk : B ≤ k) (hk : k < 384) {f dp : Nat} (hf9 : f < 64) (hkd : s.2 5 k = nI 7) (hf : s.2 6 k = nI f) (hd : s.2 8 k = nI dp) (hne : k ≠ B + f) (K : HF cy ad hp0 l D base dd B (aU 8 (B + f) (nI (dp + 1)) s) k Q) : HF cy ad hp0 l D base dd B s (k + 1) Q := by
  rw [HF, nI_dk]
  refine EW.iload_n dX9_findDepths_25 rfl rfl ?_
  refine EW.iload_n dX9_findDepths_26 rfl rfl ?_
  refine EW.icmp_lt 126 dX9_findDepths_27 (by decide) (fun c27 => ?_) (fun c27 => ?_)
  · have c27 : k < B := (nI_ltI (by omega) (by omega)).mp c27; omega
  · have c27 : ¬ (k < B) := fun h => c27 ((nI_ltI (by omega) (by omega)).mpr h)
    refine EW.aload_n dX9_findDepths_30 rfl rfl ?_
    refine EM.get f_X9_17 dX9_findDepths_31 rfl ?_
    refine EW.iload_n dX9_findDepths_34 rfl rfl ?_
    refine EM.ialdN k dX9_findDepths_35 rfl rfl (by simp only [mLen]; omega) ?_
    refine EW.top hkd ?_
    refine EW.ic 1 dX9_findDepths_36 ?_
    refine EW.icmp_le 61 dX9_findDepths_37 (by decide) (fun c37 => ?_) (fun c37 => ?_)
    · exact absurd c37 (by decide +kernel)
    · refine EW.aload_n dX9_findDepths_40 rfl rfl ?_
      refine EM.get f_X9_26 dX9_findDepths_41 rfl ?_
      refine EW.iload_n dX9_findDepths_44 rfl rfl ?_
      refine EW.aload_n dX9_findDepths_45 rfl rfl ?_
      refine EM.get f_X9_20 dX9_findDepths_46 rfl ?_
      refine EW.iload_n dX9_findDepths_49 rfl rfl ?_
      refine EM.ialdN k dX9_findDepths_50 rfl rfl (by simp only [mLen]; omega) ?_
      refine EW.top hf ?_
      refine EW.iadd dX9_findDepths_51 ?_
      refine EW.top (nI_add _ _) ?_
      refine EW.aload_n dX9_findDepths_52 rfl rfl ?_
      refine EM.get f_X9_26 dX9_findDepths_53 rfl ?_
      refine EW.iload_n dX9_findDepths_56 rfl rfl ?_
      refine EM.ialdN k dX9_findDepths_57 rfl rfl (by simp only [mLen]; omega) ?_
      refine EW.top hd ?_
      refine EW.ic 1 dX9_findDepths_58 ?_
      refine EW.iadd dX9_findDepths_59 ?_
      refine EW.top (nI_add _ _) ?_
      refine EM.iastN (B + f) dX9_findDepths_60 rfl rfl (by simp only [mLen]; omega) ?_
      refine EW.aload_n dX9_findDepths_61 rfl rfl ?_
      refine EM.get f_X9_17 dX9_findDepths_62 rfl ?_
      refine EW.iload_n dX9_findDepths_65 rfl rfl ?_
      refine EM.ialdN k dX9_findDepths_66 rfl rfl (by simp only [mLen]; omega) ?_
      refine EW.top hkd ?_
      refine EW.ic 2 dX9_findDepths_67 ?_
      refine EW.icmp_eq 81 dX9_findDepths_68 (by decide) (fun c68 => ?_) (fun c68 => ?_)
      · exact absurd c68 (by decide +kernel)
      · refine EW.aload_n dX9_findDepths_71 rfl rfl ?_
        refine EM.get f_X9_17 dX9_findDepths_72 rfl ?_
        refine EW.iload_n dX9_findDepths_75 rfl rfl ?_
        refine EM.ialdN k dX9_findDepths_76 rfl rfl (by simp only [mLen]; omega) ?_
        refine EW.top hkd ?_
        refine EW.ic 3 dX9_findDepths_77 ?_
        refine EW.icmp_ne 120 dX9_findDepths_78 (by decide) (fun c78 => ?_) (fun c78 => ?_)
        · refine EW.iinc dX9_findDepths_120 rfl rfl (by decide) ?_
          refine EW.goto 25 dX9_findDepths_123 (by decide) ?_
          exact EW.loc (lv' := [(0, .ref (ad 43)), (1, .int (nI B)), (3, .int (nI k + Int32.ofInt (-1)))]) ⟨rfl, rfl, rfl, trivial⟩ K
        · exact absurd c78 (by decide +kernel)
set_option maxHeartbeats 4000000 in
theorem FD_s8 {dd B : Nat} {s : MSt} {Q : Oc → MSt → Prop} {k : Nat} (hB : B ≤ 320) (hBk : B ≤ k) (hk : k < 384) {f dp : Nat} (hf9 : f < 64) (hkd : s.2 5 k = nI 8) (hf : s.2 6 k = nI f) (hd : s.2 8 k = nI dp) (hne : k ≠ B + f) (K : HF cy ad hp0 l D base dd B (aU 8 (B + f) (nI (dp + 1)) s) k Q) : HF cy ad hp0 l D base dd B s (k + 1) Q := by
  rw [HF, nI_dk]
  refine EW.iload_n dX9_findDepths_25 rfl rfl ?_
  refine EW.iload_n dX9_findDepths_26 rfl rfl ?_
  refine EW.icmp_lt 126 dX9_findDepths_27 (by decide) (fun c27 => ?_) (fun c27 => ?_)
  · have c27 : k < B := (nI_ltI (by omega) (by omega)).mp c27; omega
  · have c27 : ¬ (k < B) := fun h => c27 ((nI_ltI (by omega) (by omega)).mpr h)
    refine EW.aload_n dX9_findDepths_30 rfl rfl ?_
    refine EM.get f_X9_17 dX9_findDepths_31 rfl ?_
    refine EW.iload_n dX9_findDepths_34 rfl rfl ?_
    refine EM.ialdN k dX9_findDepths_35 rfl rfl (by simp only [mLen]; omega) ?_
    refine EW.top hkd ?_
    refine EW.ic 1 dX9_findDepths_36 ?_
    refine EW.icmp_le 61 dX9_findDepths_37 (by decide) (fun c37 => ?_) (fun c37 => ?_)
    · exact absurd c37 (by decide +kernel)
    · refine EW.aload_n dX9_findDepths_40 rfl rfl ?_
      refine EM.get f_X9_26 dX9_findDepths_41 rfl ?_
      refine EW.iload_n dX9_findDepths_44 rfl rfl ?_
      refine EW.aload_n dX9_findDepths_45 rfl rfl ?_
      refine EM.get f_X9_20 dX9_findDepths_46 rfl ?_
      refine EW.iload_n dX9_findDepths_49 rfl rfl ?_
      refine EM.ialdN k dX9_findDepths_50 rfl rfl (by simp only [mLen]; omega) ?_
      refine EW.top hf ?_
      refine EW.iadd dX9_findDepths_51 ?_
      refine EW.top (nI_add _ _) ?_
      refine EW.aload_n dX9_findDepths_52 rfl rfl ?_
      refine EM.get f_X9_26 dX9_findDepths_53 rfl ?_
      refine EW.iload_n dX9_findDepths_56 rfl rfl ?_
      refine EM.ialdN k dX9_findDepths_57 rfl rfl (by simp only [mLen]; omega) ?_
      refine EW.top hd ?_
      refine EW.ic 1 dX9_findDepths_58 ?_
      refine EW.iadd dX9_findDepths_59 ?_
      refine EW.top (nI_add _ _) ?_
      refine EM.iastN (B + f) dX9_findDepths_60 rfl rfl (by simp only [mLen]; omega) ?_
      refine EW.aload_n dX9_findDepths_61 rfl rfl ?_
      refine EM.get f_X9_17 dX9_findDepths_62 rfl ?_
      refine EW.iload_n dX9_findDepths_65 rfl rfl ?_
      refine EM.ialdN k dX9_findDepths_66 rfl rfl (by simp only [mLen]; omega) ?_
      refine EW.top hkd ?_
      refine EW.ic 2 dX9_findDepths_67 ?_
      refine EW.icmp_eq 81 dX9_findDepths_68 (by decide) (fun c68 => ?_) (fun c68 => ?_)
      · exact absurd c68 (by decide +kernel)
      · refine EW.aload_n dX9_findDepths_71 rfl rfl ?_
        refine EM.get f_X9_17 dX9_findDepths_72 rfl ?_
        refine EW.iload_n dX9_findDepths_75 rfl rfl ?_
        refine EM.ialdN k dX9_findDepths_76 rfl rfl (by simp only [mLen]; omega) ?_
        refine EW.top hkd ?_
        refine EW.ic 3 dX9_findDepths_77 ?_
        refine EW.icmp_ne 120 dX9_findDepths_78 (by decide) (fun c78 => ?_) (fun c78 => ?_)
        · refine EW.iinc dX9_findDepths_120 rfl rfl (by decide) ?_
          refine EW.goto 25 dX9_findDepths_123 (by decide) ?_
          exact EW.loc (lv' := [(0, .ref (ad 43)), (1, .int (nI B)), (3, .int (nI k + Int32.ofInt (-1)))]) ⟨rfl, rfl, rfl, trivial⟩ K
        · exact absurd c78 (by decide +kernel)
set_option maxHeartbeats 4000000 in
theorem FD_b20 {dd B : Nat} {s : MSt} {Q : Oc → MSt → Prop} {k : Nat} (hB : B ≤ 320) (hBk : B ≤ k) (hk : k < 384) {f g dp : Nat} (hf9 : f < 64) (hg9 : g < 64) (hkd : s.2 5 k = nI 2) (hf : s.2 6 k = nI f) (hg : s.2 7 k = nI g) (hm : s.2 9 k = nI 0) (hd : s.2 8 k = nI dp) (hne : k ≠ B + f) (K : HF cy ad hp0 l D base dd B (aU 8 (B + g) (nI (dp + 1)) (aU 8 (B + f) (nI (dp + 1)) s)) k Q) : HF cy ad hp0 l D base dd B s (k + 1) Q := by
  rw [HF, nI_dk]
  have hd2 : (aU 8 (B + f) (nI (dp + 1)) s).2 8 k = nI dp := by rw [aU_2, if_neg (fun c => hne c.2)]; exact hd
  refine EW.iload_n dX9_findDepths_25 rfl rfl ?_
  refine EW.iload_n dX9_findDepths_26 rfl rfl ?_
  refine EW.icmp_lt 126 dX9_findDepths_27 (by decide) (fun c27 => ?_) (fun c27 => ?_)
  · have c27 : k < B := (nI_ltI (by omega) (by omega)).mp c27; omega
  · have c27 : ¬ (k < B) := fun h => c27 ((nI_ltI (by omega) (by omega)).mpr h)
    refine EW.aload_n dX9_findDepths_30 rfl rfl ?_
    refine EM.get f_X9_17 dX9_findDepths_31 rfl ?_
    refine EW.iload_n dX9_findDepths_34 rfl rfl ?_
    refine EM.ialdN k dX9_findDepths_35 rfl rfl (by simp only [mLen]; omega) ?_
    refine EW.top hkd ?_
    refine EW.ic 1 dX9_findDepths_36 ?_
    refine EW.icmp_le 61 dX9_findDepths_37 (by decide) (fun c37 => ?_) (fun c37 => ?_)
    · exact absurd c37 (by decide +kernel)
    · refine EW.aload_n dX9_findDepths_40 rfl rfl ?_
      refine EM.get f_X9_26 dX9_findDepths_41 rfl ?_
      refine EW.iload_n dX9_findDepths_44 rfl rfl ?_
      refine EW.aload_n dX9_findDepths_45 rfl rfl ?_
      refine EM.get f_X9_20 dX9_findDepths_46 rfl ?_
      refine EW.iload_n dX9_findDepths_49 rfl rfl ?_
      refine EM.ialdN k dX9_findDepths_50 rfl rfl (by simp only [mLen]; omega) ?_
      refine EW.top hf ?_
      refine EW.iadd dX9_findDepths_51 ?_
      refine EW.top (nI_add _ _) ?_
      refine EW.aload_n dX9_findDepths_52 rfl rfl ?_
      refine EM.get f_X9_26 dX9_findDepths_53 rfl ?_
      refine EW.iload_n dX9_findDepths_56 rfl rfl ?_
      refine EM.ialdN k dX9_findDepths_57 rfl rfl (by simp only [mLen]; omega) ?_
      refine EW.top hd ?_
      refine EW.ic 1 dX9_findDepths_58 ?_
      refine EW.iadd dX9_findDepths_59 ?_
      refine EW.top (nI_add _ _) ?_
      refine EM.iastN (B + f) dX9_findDepths_60 rfl rfl (by simp only [mLen]; omega) ?_
      refine EW.aload_n dX9_findDepths_61 rfl rfl ?_
      refine EM.get f_X9_17 dX9_findDepths_62 rfl ?_
      refine EW.iload_n dX9_findDepths_65 rfl rfl ?_
      refine EM.ialdN k dX9_findDepths_66 rfl rfl (by simp only [mLen]; omega) ?_
      refine EW.top hkd ?_
      refine EW.ic 2 dX9_findDepths_67 ?_
      refine EW.icmp_eq 81 dX9_findDepths_68 (by decide) (fun c68 => ?_) (fun c68 => ?_)
      · refine EW.aload_n dX9_findDepths_81 rfl rfl ?_
        refine EM.get f_X9_26 dX9_findDepths_82 rfl ?_
        refine EW.iload_n dX9_findDepths_85 rfl rfl ?_
        refine EW.aload_n dX9_findDepths_86 rfl rfl ?_
        refine EM.get f_X9_23 dX9_findDepths_87 rfl ?_
        refine EW.iload_n dX9_findDepths_90 rfl rfl ?_
        refine EM.ialdN k dX9_findDepths_91 rfl rfl (by simp only [mLen]; omega) ?_
        refine EW.top hg ?_
        refine EW.iadd dX9_findDepths_92 ?_
        refine EW.top (nI_add _ _) ?_
        refine EW.aload_n dX9_findDepths_93 rfl rfl ?_
        refine EM.get f_X9_29 dX9_findDepths_94 rfl ?_
        refine EW.iload_n dX9_findDepths_97 rfl rfl ?_
        refine EM.zaldN k dX9_findDepths_98 rfl rfl (by simp only [mLen]; omega) ?_
        refine EW.top hm ?_
        refine EW.if_eq 111 dX9_findDepths_99 (by decide) (fun c99 => ?_) (fun c99 => ?_)
        · refine EW.aload_n dX9_findDepths_111 rfl rfl ?_
          refine EM.get f_X9_26 dX9_findDepths_112 rfl ?_
          refine EW.iload_n dX9_findDepths_115 rfl rfl ?_
          refine EM.ialdN k dX9_findDepths_116 rfl rfl (by simp only [mLen]; omega) ?_
          refine EW.top hd2 ?_
          refine EW.ic 1 dX9_findDepths_117 ?_
          refine EW.iadd dX9_findDepths_118 ?_
          refine EW.top (nI_add _ _) ?_
          refine EM.iastN (B + g) dX9_findDepths_119 rfl rfl (by simp only [mLen]; omega) ?_
          refine EW.iinc dX9_findDepths_120 rfl rfl (by decide) ?_
          refine EW.goto 25 dX9_findDepths_123 (by decide) ?_
          exact EW.loc (lv' := [(0, .ref (ad 43)), (1, .int (nI B)), (3, .int (nI k + Int32.ofInt (-1)))]) ⟨rfl, rfl, rfl, trivial⟩ K
        · exact absurd c99 (by decide +kernel)
      · exact absurd c68 (by decide +kernel)
set_option maxHeartbeats 4000000 in
theorem FD_b21 {dd B : Nat} {s : MSt} {Q : Oc → MSt → Prop} {k : Nat} (hB : B ≤ 320) (hBk : B ≤ k) (hk : k < 384) {f g dp : Nat} (hf9 : f < 64) (hg9 : g < 64) (hkd : s.2 5 k = nI 2) (hf : s.2 6 k = nI f) (hg : s.2 7 k = nI g) (hm : s.2 9 k = nI 1) (hd : s.2 8 k = nI dp) (hne : k ≠ B + f) (K : HF cy ad hp0 l D base dd B (aU 8 (B + g) (nI (dp)) (aU 8 (B + f) (nI (dp + 1)) s)) k Q) : HF cy ad hp0 l D base dd B s (k + 1) Q := by
  rw [HF, nI_dk]
  have hd2 : (aU 8 (B + f) (nI (dp + 1)) s).2 8 k = nI dp := by rw [aU_2, if_neg (fun c => hne c.2)]; exact hd
  refine EW.iload_n dX9_findDepths_25 rfl rfl ?_
  refine EW.iload_n dX9_findDepths_26 rfl rfl ?_
  refine EW.icmp_lt 126 dX9_findDepths_27 (by decide) (fun c27 => ?_) (fun c27 => ?_)
  · have c27 : k < B := (nI_ltI (by omega) (by omega)).mp c27; omega
  · have c27 : ¬ (k < B) := fun h => c27 ((nI_ltI (by omega) (by omega)).mpr h)
    refine EW.aload_n dX9_findDepths_30 rfl rfl ?_
    refine EM.get f_X9_17 dX9_findDepths_31 rfl ?_
    refine EW.iload_n dX9_findDepths_34 rfl rfl ?_
    refine EM.ialdN k dX9_findDepths_35 rfl rfl (by simp only [mLen]; omega) ?_
    refine EW.top hkd ?_
    refine EW.ic 1 dX9_findDepths_36 ?_
    refine EW.icmp_le 61 dX9_findDepths_37 (by decide) (fun c37 => ?_) (fun c37 => ?_)
    · exact absurd c37 (by decide +kernel)
    · refine EW.aload_n dX9_findDepths_40 rfl rfl ?_
      refine EM.get f_X9_26 dX9_findDepths_41 rfl ?_
      refine EW.iload_n dX9_findDepths_44 rfl rfl ?_
      refine EW.aload_n dX9_findDepths_45 rfl rfl ?_
      refine EM.get f_X9_20 dX9_findDepths_46 rfl ?_
      refine EW.iload_n dX9_findDepths_49 rfl rfl ?_
      refine EM.ialdN k dX9_findDepths_50 rfl rfl (by simp only [mLen]; omega) ?_
      refine EW.top hf ?_
      refine EW.iadd dX9_findDepths_51 ?_
      refine EW.top (nI_add _ _) ?_
      refine EW.aload_n dX9_findDepths_52 rfl rfl ?_
      refine EM.get f_X9_26 dX9_findDepths_53 rfl ?_
      refine EW.iload_n dX9_findDepths_56 rfl rfl ?_
      refine EM.ialdN k dX9_findDepths_57 rfl rfl (by simp only [mLen]; omega) ?_
      refine EW.top hd ?_
      refine EW.ic 1 dX9_findDepths_58 ?_
      refine EW.iadd dX9_findDepths_59 ?_
      refine EW.top (nI_add _ _) ?_
      refine EM.iastN (B + f) dX9_findDepths_60 rfl rfl (by simp only [mLen]; omega) ?_
      refine EW.aload_n dX9_findDepths_61 rfl rfl ?_
      refine EM.get f_X9_17 dX9_findDepths_62 rfl ?_
      refine EW.iload_n dX9_findDepths_65 rfl rfl ?_
      refine EM.ialdN k dX9_findDepths_66 rfl rfl (by simp only [mLen]; omega) ?_
      refine EW.top hkd ?_
      refine EW.ic 2 dX9_findDepths_67 ?_
      refine EW.icmp_eq 81 dX9_findDepths_68 (by decide) (fun c68 => ?_) (fun c68 => ?_)
      · refine EW.aload_n dX9_findDepths_81 rfl rfl ?_
        refine EM.get f_X9_26 dX9_findDepths_82 rfl ?_
        refine EW.iload_n dX9_findDepths_85 rfl rfl ?_
        refine EW.aload_n dX9_findDepths_86 rfl rfl ?_
        refine EM.get f_X9_23 dX9_findDepths_87 rfl ?_
        refine EW.iload_n dX9_findDepths_90 rfl rfl ?_
        refine EM.ialdN k dX9_findDepths_91 rfl rfl (by simp only [mLen]; omega) ?_
        refine EW.top hg ?_
        refine EW.iadd dX9_findDepths_92 ?_
        refine EW.top (nI_add _ _) ?_
        refine EW.aload_n dX9_findDepths_93 rfl rfl ?_
        refine EM.get f_X9_29 dX9_findDepths_94 rfl ?_
        refine EW.iload_n dX9_findDepths_97 rfl rfl ?_
        refine EM.zaldN k dX9_findDepths_98 rfl rfl (by simp only [mLen]; omega) ?_
        refine EW.top hm ?_
        refine EW.if_eq 111 dX9_findDepths_99 (by decide) (fun c99 => ?_) (fun c99 => ?_)
        · exact absurd c99 (by decide +kernel)
        · refine EW.aload_n dX9_findDepths_102 rfl rfl ?_
          refine EM.get f_X9_26 dX9_findDepths_103 rfl ?_
          refine EW.iload_n dX9_findDepths_106 rfl rfl ?_
          refine EM.ialdN k dX9_findDepths_107 rfl rfl (by simp only [mLen]; omega) ?_
          refine EW.top hd2 ?_
          refine EW.goto 119 dX9_findDepths_108 (by decide) ?_
          refine EM.iastN (B + g) dX9_findDepths_119 rfl rfl (by simp only [mLen]; omega) ?_
          refine EW.iinc dX9_findDepths_120 rfl rfl (by decide) ?_
          refine EW.goto 25 dX9_findDepths_123 (by decide) ?_
          exact EW.loc (lv' := [(0, .ref (ad 43)), (1, .int (nI B)), (3, .int (nI k + Int32.ofInt (-1)))]) ⟨rfl, rfl, rfl, trivial⟩ K
      · exact absurd c68 (by decide +kernel)
set_option maxHeartbeats 4000000 in
theorem FD_b30 {dd B : Nat} {s : MSt} {Q : Oc → MSt → Prop} {k : Nat} (hB : B ≤ 320) (hBk : B ≤ k) (hk : k < 384) {f g dp : Nat} (hf9 : f < 64) (hg9 : g < 64) (hkd : s.2 5 k = nI 3) (hf : s.2 6 k = nI f) (hg : s.2 7 k = nI g) (hm : s.2 9 k = nI 0) (hd : s.2 8 k = nI dp) (hne : k ≠ B + f) (K : HF cy ad hp0 l D base dd B (aU 8 (B + g) (nI (dp + 1)) (aU 8 (B + f) (nI (dp + 1)) s)) k Q) : HF cy ad hp0 l D base dd B s (k + 1) Q := by
  rw [HF, nI_dk]
  have hd2 : (aU 8 (B + f) (nI (dp + 1)) s).2 8 k = nI dp := by rw [aU_2, if_neg (fun c => hne c.2)]; exact hd
  refine EW.iload_n dX9_findDepths_25 rfl rfl ?_
  refine EW.iload_n dX9_findDepths_26 rfl rfl ?_
  refine EW.icmp_lt 126 dX9_findDepths_27 (by decide) (fun c27 => ?_) (fun c27 => ?_)
  · have c27 : k < B := (nI_ltI (by omega) (by omega)).mp c27; omega
  · have c27 : ¬ (k < B) := fun h => c27 ((nI_ltI (by omega) (by omega)).mpr h)
    refine EW.aload_n dX9_findDepths_30 rfl rfl ?_
    refine EM.get f_X9_17 dX9_findDepths_31 rfl ?_
    refine EW.iload_n dX9_findDepths_34 rfl rfl ?_
    refine EM.ialdN k dX9_findDepths_35 rfl rfl (by simp only [mLen]; omega) ?_
    refine EW.top hkd ?_
    refine EW.ic 1 dX9_findDepths_36 ?_
    refine EW.icmp_le 61 dX9_findDepths_37 (by decide) (fun c37 => ?_) (fun c37 => ?_)
    · exact absurd c37 (by decide +kernel)
    · refine EW.aload_n dX9_findDepths_40 rfl rfl ?_
      refine EM.get f_X9_26 dX9_findDepths_41 rfl ?_
      refine EW.iload_n dX9_findDepths_44 rfl rfl ?_
      refine EW.aload_n dX9_findDepths_45 rfl rfl ?_
      refine EM.get f_X9_20 dX9_findDepths_46 rfl ?_
      refine EW.iload_n dX9_findDepths_49 rfl rfl ?_
      refine EM.ialdN k dX9_findDepths_50 rfl rfl (by simp only [mLen]; omega) ?_
      refine EW.top hf ?_
      refine EW.iadd dX9_findDepths_51 ?_
      refine EW.top (nI_add _ _) ?_
      refine EW.aload_n dX9_findDepths_52 rfl rfl ?_
      refine EM.get f_X9_26 dX9_findDepths_53 rfl ?_
      refine EW.iload_n dX9_findDepths_56 rfl rfl ?_
      refine EM.ialdN k dX9_findDepths_57 rfl rfl (by simp only [mLen]; omega) ?_
      refine EW.top hd ?_
      refine EW.ic 1 dX9_findDepths_58 ?_
      refine EW.iadd dX9_findDepths_59 ?_
      refine EW.top (nI_add _ _) ?_
      refine EM.iastN (B + f) dX9_findDepths_60 rfl rfl (by simp only [mLen]; omega) ?_
      refine EW.aload_n dX9_findDepths_61 rfl rfl ?_
      refine EM.get f_X9_17 dX9_findDepths_62 rfl ?_
      refine EW.iload_n dX9_findDepths_65 rfl rfl ?_
      refine EM.ialdN k dX9_findDepths_66 rfl rfl (by simp only [mLen]; omega) ?_
      refine EW.top hkd ?_
      refine EW.ic 2 dX9_findDepths_67 ?_
      refine EW.icmp_eq 81 dX9_findDepths_68 (by decide) (fun c68 => ?_) (fun c68 => ?_)
      · exact absurd c68 (by decide +kernel)
      · refine EW.aload_n dX9_findDepths_71 rfl rfl ?_
        refine EM.get f_X9_17 dX9_findDepths_72 rfl ?_
        refine EW.iload_n dX9_findDepths_75 rfl rfl ?_
        refine EM.ialdN k dX9_findDepths_76 rfl rfl (by simp only [mLen]; omega) ?_
        refine EW.top hkd ?_
        refine EW.ic 3 dX9_findDepths_77 ?_
        refine EW.icmp_ne 120 dX9_findDepths_78 (by decide) (fun c78 => ?_) (fun c78 => ?_)
        · exact absurd c78 (by decide +kernel)
        · refine EW.aload_n dX9_findDepths_81 rfl rfl ?_
          refine EM.get f_X9_26 dX9_findDepths_82 rfl ?_
          refine EW.iload_n dX9_findDepths_85 rfl rfl ?_
          refine EW.aload_n dX9_findDepths_86 rfl rfl ?_
          refine EM.get f_X9_23 dX9_findDepths_87 rfl ?_
          refine EW.iload_n dX9_findDepths_90 rfl rfl ?_
          refine EM.ialdN k dX9_findDepths_91 rfl rfl (by simp only [mLen]; omega) ?_
          refine EW.top hg ?_
          refine EW.iadd dX9_findDepths_92 ?_
          refine EW.top (nI_add _ _) ?_
          refine EW.aload_n dX9_findDepths_93 rfl rfl ?_
          refine EM.get f_X9_29 dX9_findDepths_94 rfl ?_
          refine EW.iload_n dX9_findDepths_97 rfl rfl ?_
          refine EM.zaldN k dX9_findDepths_98 rfl rfl (by simp only [mLen]; omega) ?_
          refine EW.top hm ?_
          refine EW.if_eq 111 dX9_findDepths_99 (by decide) (fun c99 => ?_) (fun c99 => ?_)
          · refine EW.aload_n dX9_findDepths_111 rfl rfl ?_
            refine EM.get f_X9_26 dX9_findDepths_112 rfl ?_
            refine EW.iload_n dX9_findDepths_115 rfl rfl ?_
            refine EM.ialdN k dX9_findDepths_116 rfl rfl (by simp only [mLen]; omega) ?_
            refine EW.top hd2 ?_
            refine EW.ic 1 dX9_findDepths_117 ?_
            refine EW.iadd dX9_findDepths_118 ?_
            refine EW.top (nI_add _ _) ?_
            refine EM.iastN (B + g) dX9_findDepths_119 rfl rfl (by simp only [mLen]; omega) ?_
            refine EW.iinc dX9_findDepths_120 rfl rfl (by decide) ?_
            refine EW.goto 25 dX9_findDepths_123 (by decide) ?_
            exact EW.loc (lv' := [(0, .ref (ad 43)), (1, .int (nI B)), (3, .int (nI k + Int32.ofInt (-1)))]) ⟨rfl, rfl, rfl, trivial⟩ K
          · exact absurd c99 (by decide +kernel)
set_option maxHeartbeats 4000000 in
theorem FD_b31 {dd B : Nat} {s : MSt} {Q : Oc → MSt → Prop} {k : Nat} (hB : B ≤ 320) (hBk : B ≤ k) (hk : k < 384) {f g dp : Nat} (hf9 : f < 64) (hg9 : g < 64) (hkd : s.2 5 k = nI 3) (hf : s.2 6 k = nI f) (hg : s.2 7 k = nI g) (hm : s.2 9 k = nI 1) (hd : s.2 8 k = nI dp) (hne : k ≠ B + f) (K : HF cy ad hp0 l D base dd B (aU 8 (B + g) (nI (dp)) (aU 8 (B + f) (nI (dp + 1)) s)) k Q) : HF cy ad hp0 l D base dd B s (k + 1) Q := by
  rw [HF, nI_dk]
  have hd2 : (aU 8 (B + f) (nI (dp + 1)) s).2 8 k = nI dp := by rw [aU_2, if_neg (fun c => hne c.2)]; exact hd
  refine EW.iload_n dX9_findDepths_25 rfl rfl ?_
  refine EW.iload_n dX9_findDepths_26 rfl rfl ?_
  refine EW.icmp_lt 126 dX9_findDepths_27 (by decide) (fun c27 => ?_) (fun c27 => ?_)
  · have c27 : k < B := (nI_ltI (by omega) (by omega)).mp c27; omega
  · have c27 : ¬ (k < B) := fun h => c27 ((nI_ltI (by omega) (by omega)).mpr h)
    refine EW.aload_n dX9_findDepths_30 rfl rfl ?_
    refine EM.get f_X9_17 dX9_findDepths_31 rfl ?_
    refine EW.iload_n dX9_findDepths_34 rfl rfl ?_
    refine EM.ialdN k dX9_findDepths_35 rfl rfl (by simp only [mLen]; omega) ?_
    refine EW.top hkd ?_
    refine EW.ic 1 dX9_findDepths_36 ?_
    refine EW.icmp_le 61 dX9_findDepths_37 (by decide) (fun c37 => ?_) (fun c37 => ?_)
    · exact absurd c37 (by decide +kernel)
    · refine EW.aload_n dX9_findDepths_40 rfl rfl ?_
      refine EM.get f_X9_26 dX9_findDepths_41 rfl ?_
      refine EW.iload_n dX9_findDepths_44 rfl rfl ?_
      refine EW.aload_n dX9_findDepths_45 rfl rfl ?_
      refine EM.get f_X9_20 dX9_findDepths_46 rfl ?_
      refine EW.iload_n dX9_findDepths_49 rfl rfl ?_
      refine EM.ialdN k dX9_findDepths_50 rfl rfl (by simp only [mLen]; omega) ?_
      refine EW.top hf ?_
      refine EW.iadd dX9_findDepths_51 ?_
      refine EW.top (nI_add _ _) ?_
      refine EW.aload_n dX9_findDepths_52 rfl rfl ?_
      refine EM.get f_X9_26 dX9_findDepths_53 rfl ?_
      refine EW.iload_n dX9_findDepths_56 rfl rfl ?_
      refine EM.ialdN k dX9_findDepths_57 rfl rfl (by simp only [mLen]; omega) ?_
      refine EW.top hd ?_
      refine EW.ic 1 dX9_findDepths_58 ?_
      refine EW.iadd dX9_findDepths_59 ?_
      refine EW.top (nI_add _ _) ?_
      refine EM.iastN (B + f) dX9_findDepths_60 rfl rfl (by simp only [mLen]; omega) ?_
      refine EW.aload_n dX9_findDepths_61 rfl rfl ?_
      refine EM.get f_X9_17 dX9_findDepths_62 rfl ?_
      refine EW.iload_n dX9_findDepths_65 rfl rfl ?_
      refine EM.ialdN k dX9_findDepths_66 rfl rfl (by simp only [mLen]; omega) ?_
      refine EW.top hkd ?_
      refine EW.ic 2 dX9_findDepths_67 ?_
      refine EW.icmp_eq 81 dX9_findDepths_68 (by decide) (fun c68 => ?_) (fun c68 => ?_)
      · exact absurd c68 (by decide +kernel)
      · refine EW.aload_n dX9_findDepths_71 rfl rfl ?_
        refine EM.get f_X9_17 dX9_findDepths_72 rfl ?_
        refine EW.iload_n dX9_findDepths_75 rfl rfl ?_
        refine EM.ialdN k dX9_findDepths_76 rfl rfl (by simp only [mLen]; omega) ?_
        refine EW.top hkd ?_
        refine EW.ic 3 dX9_findDepths_77 ?_
        refine EW.icmp_ne 120 dX9_findDepths_78 (by decide) (fun c78 => ?_) (fun c78 => ?_)
        · exact absurd c78 (by decide +kernel)
        · refine EW.aload_n dX9_findDepths_81 rfl rfl ?_
          refine EM.get f_X9_26 dX9_findDepths_82 rfl ?_
          refine EW.iload_n dX9_findDepths_85 rfl rfl ?_
          refine EW.aload_n dX9_findDepths_86 rfl rfl ?_
          refine EM.get f_X9_23 dX9_findDepths_87 rfl ?_
          refine EW.iload_n dX9_findDepths_90 rfl rfl ?_
          refine EM.ialdN k dX9_findDepths_91 rfl rfl (by simp only [mLen]; omega) ?_
          refine EW.top hg ?_
          refine EW.iadd dX9_findDepths_92 ?_
          refine EW.top (nI_add _ _) ?_
          refine EW.aload_n dX9_findDepths_93 rfl rfl ?_
          refine EM.get f_X9_29 dX9_findDepths_94 rfl ?_
          refine EW.iload_n dX9_findDepths_97 rfl rfl ?_
          refine EM.zaldN k dX9_findDepths_98 rfl rfl (by simp only [mLen]; omega) ?_
          refine EW.top hm ?_
          refine EW.if_eq 111 dX9_findDepths_99 (by decide) (fun c99 => ?_) (fun c99 => ?_)
          · exact absurd c99 (by decide +kernel)
          · refine EW.aload_n dX9_findDepths_102 rfl rfl ?_
            refine EM.get f_X9_26 dX9_findDepths_103 rfl ?_
            refine EW.iload_n dX9_findDepths_106 rfl rfl ?_
            refine EM.ialdN k dX9_findDepths_107 rfl rfl (by simp only [mLen]; omega) ?_
            refine EW.top hd2 ?_
            refine EW.goto 119 dX9_findDepths_108 (by decide) ?_
            refine EM.iastN (B + g) dX9_findDepths_119 rfl rfl (by simp only [mLen]; omega) ?_
            refine EW.iinc dX9_findDepths_120 rfl rfl (by decide) ?_
            refine EW.goto 25 dX9_findDepths_123 (by decide) ?_
            exact EW.loc (lv' := [(0, .ref (ad 43)), (1, .int (nI B)), (3, .int (nI k + Int32.ofInt (-1)))]) ⟨rfl, rfl, rfl, trivial⟩ K
theorem hneg {B : Nat} (h : B ≤ 320) : nI B + Int32.ofInt (-1) < nI B := by
  rw [Int32.lt_iff_toInt_lt, Int32.toInt_add, nI_toInt (by omega)]
  have : (Int32.ofInt (-1)).toInt = -1 := by decide +kernel
  rw [this, Int.bmod_def]
  omega
set_option maxHeartbeats 4000000 in
theorem FD_end {dd B : Nat} {s : MSt} {Q : Oc → MSt → Prop} (hB : B ≤ 320) (hq : Q (.inl none) s) : HF cy ad hp0 l D base dd B s B Q := by
  refine EW.iload_n dX9_findDepths_25 rfl rfl ?_
  refine EW.iload_n dX9_findDepths_26 rfl rfl ?_
  refine EW.icmp_lt 126 dX9_findDepths_27 (by decide) (fun c27 => ?_) (fun c27 => ?_)
  · refine EW.vret rfl dX9_findDepths_126 ?_
    exact hq
  · exact absurd (hneg hB) c27
/-- only depths in a part of a block have changed -/
def fr8 (a b : Nat) (s s2 : MSt) : Prop := s2.1 = s.1 ∧ ∀ k x, ¬ (k = 8 ∧ a ≤ x ∧ x < b) → s2.2 k x = s.2 k x
theorem fr8.rf {a b : Nat} {s : MSt} : fr8 a b s s := ⟨rfl, fun _ _ _ => rfl⟩
theorem fr8.tr {a b : Nat} {s s2 s3 : MSt} (f : fr8 a b s s2) (g : fr8 a b s2 s3) : fr8 a b s s3 := ⟨g.1.trans f.1, fun k x h => (g.2 k x h).trans (f.2 k x h)⟩
theorem fr8.mo {a b a' b' : Nat} {s s2 : MSt} (f : fr8 a' b' s s2) (h1 : a ≤ a') (h2 : b' ≤ b) : fr8 a b s s2 := ⟨f.1, fun k x h => f.2 k x (fun c => h ⟨c.1, by omega, by omega⟩)⟩
theorem fr8.a {a b i : Nat} {v : Int32} {s : MSt} (h1 : a ≤ i) (h2 : i < b) : fr8 a b s (aU 8 i v s) := ⟨rfl, fun k x h => by rw [aU_2, if_neg (fun c => h ⟨c.1, by omega, by omega⟩)]⟩
theorem encP_8 {a b B : Nat} {s s2 : MSt} (f : fr8 a b s s2) (t : Ex) (wt : wf t) (o : Nat) (h : encP s.2 B t o) : encP s2.2 B t o := encP_fr t wt o (fun k x hk _ _ => f.2 k _ (fun c => by unfold pk at hk; omega)) h
theorem enc_fr2 {H H' : Nat → Nat → Int32} {B : Nat} : ∀ t, wf t → ∀ o dp, (∀ k x, 5 ≤ k → k ≤ 8 → o ≤ x → x < o + sz t → H' k (B + x) = H k (B + x)) → enc H B t o dp → enc H' B t o dp := by
  refine ast_ind (fun lo hi _ _ o dp hH h => ?_) (fun r _ o dp hH h => ?_) (fun m a b _ _ wa wb ha hb o dp hH h => ?_) (fun k e _ _ we he o dp hH h => ?_)
  · have hs : sz (xR lo hi) = 1 := rfl
    rw [hs] at hH
    have q := fun k h1 h2 => hH k o h1 h2 (Nat.le_refl _) (by omega)
    obtain ⟨h1, h2, h3⟩ := h
    exact ⟨(q 5 (by decide) (by decide)).trans h1, (q 6 (by decide) (by decide)).trans h2, (q 7 (by decide) (by decide)).trans h3⟩
  · have hs : sz (xC r) = 1 := rfl
    rw [hs] at hH
    have q := fun k h1 h2 => hH k o h1 h2 (Nat.le_refl _) (by omega)
    obtain ⟨h1, h2, h3⟩ := h
    exact ⟨(q 5 (by decide) (by decide)).trans h1, (q 6 (by decide) (by decide)).trans h2, (q 8 (by decide) (by decide)).trans h3⟩
  · have hs : sz (xB m a b) = sz a + sz b + 1 := rfl
    rw [hs] at hH
    have q := fun k h1 h2 => hH k (o + sz a + sz b) h1 h2 (by omega) (by omega)
    obtain ⟨ga, gb, h1, h2, h3⟩ := h
    exact ⟨ha o _ (fun k x h4 h5 h6 h7 => hH k x h4 h5 h6 (by omega)) ga, hb _ _ (fun k x h4 h5 h6 h7 => hH k x h4 h5 (by omega) (by omega)) gb, (q 5 (by decide) (by decide)).trans h1, (q 6 (by decide) (by decide)).trans h2, (q 7 (by decide) (by decide)).trans h3⟩
  · have hs : sz (xS k e) = sz e + 1 := rfl
    rw [hs] at hH
    have q := fun k h1 h2 => hH k (o + sz e) h1 h2 (by omega) (by omega)
    obtain ⟨ge, h1, h2, h3⟩ := h
    exact ⟨he o _ (fun k x h4 h5 h6 h7 => hH k x h4 h5 h6 (by omega)) ge, (q 5 (by decide) (by decide)).trans h1, (q 6 (by decide) (by decide)).trans h2, (q 7 (by decide) (by decide)).trans h3⟩
set_option maxHeartbeats 1000000 in
theorem FD_all {dd B : Nat} (hB : B ≤ 320) (Q : Oc → MSt → Prop) : ∀ t, wf t → ∀ (o dp : Nat) (s : MSt), encP s.2 B t o → o + sz t ≤ 64 → s.2 8 (B + (o + sz t - 1)) = nI dp → (∀ s2, fr8 (B + o) (B + (o + sz t - 1)) s s2 → enc s2.2 B t o dp → HF cy ad hp0 l D base dd B s2 (B + o) Q) → HF cy ad hp0 l D base dd B s (B + (o + sz t)) Q := by
  refine ast_ind (fun lo hi _ _ o dp s h h64 hd K => ?_) (fun r _ o dp s h h64 hd K => ?_) (fun m a b hm4 _ wa wb ha hb o dp s h h64 hd K => ?_) (fun k e h4 h8 we he o dp s h h64 hd K => ?_)
  · have hs : sz (xR lo hi) = 1 := rfl
    rw [hs] at h64
    obtain ⟨h1, h2, h3⟩ := h
    exact FD_l0 (k := B + o) hB (by omega) (by omega) h1 (K s fr8.rf ⟨h1, h2, h3⟩)
  · have hs : sz (xC r) = 1 := rfl
    rw [hs] at h64 hd
    obtain ⟨h1, h2⟩ := h
    exact FD_l1 (k := B + o) hB (by omega) (by omega) h1 (K s fr8.rf ⟨h1, h2, hd⟩)
  · have hs : sz (xB m a b) = sz a + sz b + 1 := rfl
    rw [hs] at h64 hd K ⊢
    have ek : o + (sz a + sz b + 1) - 1 = o + sz a + sz b := by omega
    rw [ek] at hd K
    obtain ⟨ga, gb, h1, h2, h3, h4⟩ := h
    have pa := sz_pos a wa
    have pb := sz_pos b wb
    have ek2 : B + (o + (sz a + sz b + 1)) = B + (o + sz a + sz b) + 1 := by omega
    rw [ek2]
    have key : ∀ v, v = (if m % 2 = 1 then dp else dp + 1) → HF cy ad hp0 l D base dd B (aU 8 (B + (o + sz a + sz b - 1)) (nI v) (aU 8 (B + (o + sz a - 1)) (nI (dp + 1)) s)) (B + (o + sz a + sz b)) Q := by
      intro v hv
      generalize hs1 : aU 8 (B + (o + sz a + sz b - 1)) (nI v) (aU 8 (B + (o + sz a - 1)) (nI (dp + 1)) s) = s1
      have F1 : fr8 (B + o) (B + (o + sz a + sz b)) s s1 := by
        rw [← hs1]
        exact (fr8.a (by omega) (by omega)).tr (fr8.a (by omega) (by omega))
      have d1 : s1.2 8 (B + (o + sz a + sz b - 1)) = nI v := by rw [← hs1, aU_2, if_pos ⟨rfl, rfl⟩]
      have d2 : s1.2 8 (B + (o + sz a - 1)) = nI (dp + 1) := by rw [← hs1, aU_2, if_neg (by omega), aU_2, if_pos ⟨rfl, rfl⟩]
      refine hb (o + sz a) v s1 (encP_8 F1 b wb _ gb) (by omega) d1 (fun s2 f2 e2 => ?_)
      refine ha o (dp + 1) s2 (encP_8 (F1.tr (f2.mo (by omega) (by omega))) a wa _ ga) (by omega) ((f2.2 8 _ (by omega)).trans d2) (fun s3 f3 e3 => ?_)
      have F3 : fr8 (B + o) (B + (o + sz a + sz b)) s s3 := (F1.tr (f2.mo (by omega) (by omega))).tr (f3.mo (by omega) (by omega))
      refine K s3 F3 ⟨e3, ?_, (F3.2 5 _ (by omega)).trans h1, (F3.2 6 _ (by omega)).trans h2, (F3.2 7 _ (by omega)).trans h3⟩
      rw [← hv]
      exact enc_fr2 b wb _ _ (fun k x _ _ h6 h7 => f3.2 k _ (by omega)) e2
    have hm : m = 0 ∨ m = 1 ∨ m = 2 ∨ m = 3 := by omega
    rcases hm with rfl | rfl | rfl | rfl
    · exact FD_b20 hB (by omega) (by omega) (by omega) (by omega) h1 h2 h3 h4 hd (by omega) (key _ rfl)
    · exact FD_b21 hB (by omega) (by omega) (by omega) (by omega) h1 h2 h3 h4 hd (by omega) (key _ rfl)
    · exact FD_b30 hB (by omega) (by omega) (by omega) (by omega) h1 h2 h3 h4 hd (by omega) (key _ rfl)
    · exact FD_b31 hB (by omega) (by omega) (by omega) (by omega) h1 h2 h3 h4 hd (by omega) (key _ rfl)
  · have hs : sz (xS k e) = sz e + 1 := rfl
    rw [hs] at h64 hd K ⊢
    have ek : o + (sz e + 1) - 1 = o + sz e := by omega
    rw [ek] at hd K
    obtain ⟨ge, h1, h2, h3⟩ := h
    have pe := sz_pos e we
    have ek2 : B + (o + (sz e + 1)) = B + (o + sz e) + 1 := by omega
    rw [ek2]
    have key : HF cy ad hp0 l D base dd B (aU 8 (B + (o + sz e - 1)) (nI (dp + 1)) s) (B + (o + sz e)) Q := by
      generalize hs1 : aU 8 (B + (o + sz e - 1)) (nI (dp + 1)) s = s1
      have F1 : fr8 (B + o) (B + (o + sz e)) s s1 := by
        rw [← hs1]
        exact fr8.a (by omega) (by omega)
      refine he o (dp + 1) s1 (encP_8 F1 e we _ ge) (by omega) (by rw [← hs1, aU_2, if_pos ⟨rfl, rfl⟩]) (fun s2 f2 e2 => ?_)
      have F2 : fr8 (B + o) (B + (o + sz e)) s s2 := F1.tr (f2.mo (by omega) (by omega))
      exact K s2 F2 ⟨e2, (F2.2 5 _ (by omega)).trans h1, (F2.2 6 _ (by omega)).trans h2, (F2.2 7 _ (by omega)).trans h3⟩
    have hk : k = 4 ∨ k = 5 ∨ k = 6 ∨ k = 7 ∨ k = 8 := by omega
    rcases hk with rfl | rfl | rfl | rfl | rfl
    · exact FD_s4 hB (by omega) (by omega) (by omega) h1 h2 hd (by omega) key
    · exact FD_s5 hB (by omega) (by omega) (by omega) h1 h2 hd (by omega) key
    · exact FD_s6 hB (by omega) (by omega) (by omega) h1 h2 hd (by omega) key
    · exact FD_s7 hB (by omega) (by omega) (by omega) h1 h2 hd (by omega) key
    · exact FD_s8 hB (by omega) (by omega) (by omega) h1 h2 hd (by omega) key
set_option maxHeartbeats 4000000 in
theorem M_findDepths (hl : l.stackTraces = false) (dd r z : Nat) (s : MSt) (t : Ex) (wt : wf t) (hr : r < 6) (hz : z = sz t) (hz9 : z ≤ 64) (hsz : s.2 10 r = nI z) (he : encP s.2 (64 * r) t 0) : MtW (IM cy ad hp0) l D cy base mX9_findDepths dd 0 0 [.ref (ad 43), .int (nI (64 * r))] s (fun o s2 => o = .inl none ∧ fr8 (64 * r) (64 * r + z) s s2 ∧ enc s2.2 (64 * r) t 0 0) := by
  have hpz := sz_pos t wt
  have hz2 : s.2 10 (64 * r / 64) = nI z := by rw [show 64 * r / 64 = r by omega]; exact hsz
  refine MtW.of hl mfX9_findDepths rfl (Nat.le_of_ble_eq_true rfl) ?_
  refine EW.aload_n dX9_findDepths_0 rfl rfl ?_
  refine EM.get f_X9_33 dX9_findDepths_1 rfl ?_
  refine EW.iload_n dX9_findDepths_4 rfl rfl ?_
  refine EW.bp 64 dX9_findDepths_5 ?_
  refine EW.idiv dX9_findDepths_7 (by decide +kernel) ?_
  refine EW.top (pk_div (by omega) (by decide) (by decide)) ?_
  refine EM.ialdN ((64 * r) / 64) dX9_findDepths_8 rfl rfl (by simp only [mLen]; omega) ?_
  refine EW.top hz2 ?_
  refine EW.ic 1 dX9_findDepths_9 ?_
  refine EW.isub dX9_findDepths_10 ?_
  refine EW.top (pk_sub (by omega)) ?_
  refine EW.istore_n dX9_findDepths_11 rfl (by decide) ?_
  refine EW.aload_n dX9_findDepths_12 rfl rfl ?_
  refine EM.get f_X9_26 dX9_findDepths_13 rfl ?_
  refine EW.iload_n dX9_findDepths_16 rfl rfl ?_
  refine EW.iload_n dX9_findDepths_17 rfl rfl ?_
  refine EW.iadd dX9_findDepths_18 ?_
  refine EW.top (nI_add _ _) ?_
  refine EW.ic 0 dX9_findDepths_19 ?_
  refine EM.iastN ((64 * r) + (z - 1)) dX9_findDepths_20 rfl rfl (by simp only [mLen]; omega) ?_
  refine EW.iload_n dX9_findDepths_21 rfl rfl ?_
  refine EW.iload_n dX9_findDepths_22 rfl rfl ?_
  refine EW.iadd dX9_findDepths_23 ?_
  refine EW.top (nI_add _ _) ?_
  refine EW.istore_n dX9_findDepths_24 rfl (by decide) ?_
  refine EW.eqs (s' := aU 8 (64 * r + (z - 1)) (nI 0) s) rfl ?_
  refine EW.loc (lv' := [(0, .ref (ad 43)), (1, .int (nI (64 * r))), (3, .int (nI (64 * r + (0 + sz t)) + Int32.ofInt (-1)))]) ⟨rfl, rfl, ?_, trivial⟩ ?_
  · have e : 64 * r + (0 + sz t) = 64 * r + (z - 1) + 1 := by omega
    rw [e, nI_dk]; rfl
  have F1 : fr8 (64 * r) (64 * r + z) s (aU 8 (64 * r + (z - 1)) (nI 0) s) := fr8.a (by omega) (by omega)
  refine FD_all (by omega) _ t wt 0 0 _ (encP_8 F1 t wt _ he) (by omega) (by rw [aU_2, if_pos ⟨rfl, by omega⟩]) (fun s2 f2 e2 => FD_end (by omega) ⟨rfl, F1.tr (f2.mo (by omega) (by omega)), e2⟩)
def isT (c : Nat) : Prop := isL c ∨ isR c ∨ c = 61 ∨ c = 47 ∨ c = 38 ∨ c = 33 ∨ c = 42 ∨ c = 43 ∨ c = 63 ∨ c = 46 ∨ c = 91 ∨ c = 45 ∨ c = 93 ∨ c = 40 ∨ c = 41
set_option maxHeartbeats 4000000 in
theorem M_type103a (d : Nat) (s : MSt) (c n : Nat) (hn : s.1 1 = nI n) (hn9 : n ≤ 24) : EW (IM cy ad hp0) l D cy base mX9_type (d + 1) 0 0 103 [(0, .ref (ad 43)), (1, .int (nI c)), (2, .int (nI 0))] [] s (fun o s2 => o = .inl (some (.int (nI 0))) ∧ s2 = s) := by
  refine EW.iload_n dX9_type_103 rfl rfl ?_
  refine EW.if_eq 116 dX9_type_104 (by decide) (fun c104 => ?_) (fun c104 => ?_)
  · refine EW.ic 0 dX9_type_116 ?_
    refine EW.zret (ty := .boolean) rfl (by decide +kernel) dX9_type_117 ?_
    exact ⟨rfl, rfl⟩
  · exact absurd c104 (by decide +kernel)
set_option maxHeartbeats 4000000 in
theorem M_type103b (d : Nat) (s : MSt) (c n : Nat) (hn : s.1 1 = nI n) (hn9 : n = 24) : EW (IM cy ad hp0) l D cy base mX9_type (d + 1) 0 0 103 [(0, .ref (ad 43)), (1, .int (nI c)), (2, .int (nI 1))] [] s (fun o s2 => o = .inl (some (.int (nI 0))) ∧ s2 = s) := by
  refine EW.iload_n dX9_type_103 rfl rfl ?_
  refine EW.if_eq 116 dX9_type_104 (by decide) (fun c104 => ?_) (fun c104 => ?_)
  · exact absurd c104 (by decide +kernel)
  · refine EW.aload_n dX9_type_107 rfl rfl ?_
    refine EM.get f_X9_120 dX9_type_108 rfl ?_
    refine EW.top hn ?_
    refine EW.bp 24 dX9_type_111 ?_
    refine EW.icmp_ne 118 dX9_type_113 (by decide) (fun c113 => ?_) (fun c113 => ?_)
    · have c113 : ¬ (n = 24) := fun h => c113 ((nI_eq (by omega) (by omega)).mpr h); omega
    · have c113 : n = 24 := (nI_eq (by omega) (by omega)).mp c113
      refine EW.ic 0 dX9_type_116 ?_
      refine EW.zret (ty := .boolean) rfl (by decide +kernel) dX9_type_117 ?_
      exact ⟨rfl, rfl⟩
set_option maxHeartbeats 4000000 in
theorem M_type103c (d : Nat) (s : MSt) (c n : Nat) (hn : s.1 1 = nI n) (hn9 : n < 24) : EW (IM cy ad hp0) l D cy base mX9_type (d + 1) 0 0 103 [(0, .ref (ad 43)), (1, .int (nI c)), (2, .int (nI 1))] [] s (fun o s2 => o = .inl (some (.int (nI 1))) ∧ s2 = fU 1 (nI (n + 1)) (aU 2 n (vp_nar .char (nI c)) s)) := by
  refine EW.iload_n dX9_type_103 rfl rfl ?_
  refine EW.if_eq 116 dX9_type_104 (by decide) (fun c104 => ?_) (fun c104 => ?_)
  · exact absurd c104 (by decide +kernel)
  · refine EW.aload_n dX9_type_107 rfl rfl ?_
    refine EM.get f_X9_120 dX9_type_108 rfl ?_
    refine EW.top hn ?_
    refine EW.bp 24 dX9_type_111 ?_
    refine EW.icmp_ne 118 dX9_type_113 (by decide) (fun c113 => ?_) (fun c113 => ?_)
    · have c113 : ¬ (n = 24) := fun h => c113 ((nI_eq (by omega) (by omega)).mpr h)
      refine EW.aload_n dX9_type_118 rfl rfl ?_
      refine EM.get f_X9_7 dX9_type_119 rfl ?_
      refine EW.aload_n dX9_type_122 rfl rfl ?_
      refine EM.get f_X9_120 dX9_type_123 rfl ?_
      refine EW.top hn ?_
      refine EW.iload_n dX9_type_126 rfl rfl ?_
      refine EM.castN (n) dX9_type_127 rfl rfl (by simp only [mLen]; omega) ?_
      refine EW.aload_n dX9_type_128 rfl rfl ?_
      refine EW.dup dX9_type_129 rfl ?_
      refine EM.get f_X9_120 dX9_type_130 rfl ?_
      refine EW.top hn ?_
      refine EW.ic 1 dX9_type_133 ?_
      refine EW.iadd dX9_type_134 ?_
      refine EW.top (nI_add _ _) ?_
      refine EM.put f_X9_120 dX9_type_135 rfl ?_
      refine EW.ic 1 dX9_type_138 ?_
      refine EW.zret (ty := .boolean) rfl (by decide +kernel) dX9_type_139 ?_
      exact ⟨rfl, rfl⟩
    · have c113 : n = 24 := (nI_eq (by omega) (by omega)).mp c113; omega
set_option maxHeartbeats 4000000 in
theorem M_typeL (hl : l.stackTraces = false) (d : Nat) (s : MSt) (c : Nat) (hc : c < 65536) (Q : Oc → MSt → Prop) (h1 : isL c) (K : EW (IM cy ad hp0) l D cy base mX9_type (d + 1) 0 0 103 [(0, .ref (ad 43)), (1, .int (nI c)), (2, .int (nI 1))] [] (fU 0 (nI 0) s) Q) : MtW (IM cy ad hp0) l D cy base mX9_type (d + 1) 0 0 [.ref (ad 43), .int (nI c)] s Q := by
  refine MtW.of hl mfX9_type rfl (Nat.le_of_ble_eq_true rfl) ?_
  refine EW.aload_n dX9_type_0 rfl rfl ?_
  refine EW.ic 0 dX9_type_1 ?_
  refine EM.put f_X9_105 dX9_type_2 rfl ?_
  refine EW.iload_n dX9_type_5 rfl rfl ?_
  refine EW.callS (bc := 0) (bs := 0) (M_isLetter hl _ 0 (fU 0 (nI 0) s) _) mfX9_isLetter rfl l_X9_113 mvX9_isLetter (by omega) dX9_type_6 rfl rfl (Nat.le_of_ble_eq_true rfl) (fun v6 s6 q6 => ?_) (fun _ _ q => nomatch q.1)
  obtain ⟨e6, h6⟩ := q6; cases e6; replace h6 := h6.symm; subst h6
  refine EW.top (y := nI 1) ((if_pos (il1 h1)).trans (by decide +kernel)) ?_
  refine EW.if_ne 97 dX9_type_9 (by decide) (fun c9 => ?_) (fun c9 => ?_)
  · refine EW.ic 1 dX9_type_97 ?_
    refine EW.goto 102 dX9_type_98 (by decide) ?_
    refine EW.istore_n dX9_type_102 rfl (by decide) ?_
    exact EW.loc (lv' := [(0, .ref (ad 43)), (1, .int (nI c)), (2, .int (nI 1))]) ⟨rfl, rfl, rfl, trivial⟩ K
  · exact absurd c9 (by decide +kernel)
set_option maxHeartbeats 4000000 in
theorem M_typeR (hl : l.stackTraces = false) (d : Nat) (s : MSt) (c : Nat) (hc : c < 65536) (Q : Oc → MSt → Prop) (h1 : ¬ isL c) (h2 : isR c) (K : EW (IM cy ad hp0) l D cy base mX9_type (d + 1) 0 0 103 [(0, .ref (ad 43)), (1, .int (nI c)), (2, .int (nI 1))] [] (fU 0 (nI 0) s) Q) : MtW (IM cy ad hp0) l D cy base mX9_type (d + 1) 0 0 [.ref (ad 43), .int (nI c)] s Q := by
  refine MtW.of hl mfX9_type rfl (Nat.le_of_ble_eq_true rfl) ?_
  refine EW.aload_n dX9_type_0 rfl rfl ?_
  refine EW.ic 0 dX9_type_1 ?_
  refine EM.put f_X9_105 dX9_type_2 rfl ?_
  refine EW.iload_n dX9_type_5 rfl rfl ?_
  refine EW.callS (bc := 0) (bs := 0) (M_isLetter hl _ 0 (fU 0 (nI 0) s) _) mfX9_isLetter rfl l_X9_113 mvX9_isLetter (by omega) dX9_type_6 rfl rfl (Nat.le_of_ble_eq_true rfl) (fun v6 s6 q6 => ?_) (fun _ _ q => nomatch q.1)
  obtain ⟨e6, h6⟩ := q6; cases e6; replace h6 := h6.symm; subst h6
  refine EW.top (y := nI 0) ((if_neg (il0 hc h1)).trans (by decide +kernel)) ?_
  refine EW.if_ne 97 dX9_type_9 (by decide) (fun c9 => ?_) (fun c9 => ?_)
  · exact absurd c9 (by decide +kernel)
  · refine EW.iload_n dX9_type_12 rfl rfl ?_
    refine EW.callS (bc := 0) (bs := 0) (M_isRule hl _ 0 (fU 0 (nI 0) s) _) mfX9_isRule rfl l_X9_117 mvX9_isRule (by omega) dX9_type_13 rfl rfl (Nat.le_of_ble_eq_true rfl) (fun v13 s13 q13 => ?_) (fun _ _ q => nomatch q.1)
    obtain ⟨e13, h13⟩ := q13; cases e13; replace h13 := h13.symm; subst h13
    refine EW.top (y := nI 1) ((if_pos (ir1 h2)).trans (by decide +kernel)) ?_
    refine EW.if_ne 97 dX9_type_16 (by decide) (fun c16 => ?_) (fun c16 => ?_)
    · refine EW.ic 1 dX9_type_97 ?_
      refine EW.goto 102 dX9_type_98 (by decide) ?_
      refine EW.istore_n dX9_type_102 rfl (by decide) ?_
      exact EW.loc (lv' := [(0, .ref (ad 43)), (1, .int (nI c)), (2, .int (nI 1))]) ⟨rfl, rfl, rfl, trivial⟩ K
    · exact absurd c16 (by decide +kernel)
set_option maxHeartbeats 4000000 in
theorem M_typeN (hl : l.stackTraces = false) (d : Nat) (s : MSt) (c : Nat) (hc : c < 65536) (Q : Oc → MSt → Prop) (h1 : ¬ isL c) (h2 : ¬ isR c) (h3 : ¬ isT c) (K : EW (IM cy ad hp0) l D cy base mX9_type (d + 1) 0 0 103 [(0, .ref (ad 43)), (1, .int (nI c)), (2, .int (nI 0))] [] (fU 0 (nI 0) s) Q) : MtW (IM cy ad hp0) l D cy base mX9_type (d + 1) 0 0 [.ref (ad 43), .int (nI c)] s Q := by
  refine MtW.of hl mfX9_type rfl (Nat.le_of_ble_eq_true rfl) ?_
  refine EW.aload_n dX9_type_0 rfl rfl ?_
  refine EW.ic 0 dX9_type_1 ?_
  refine EM.put f_X9_105 dX9_type_2 rfl ?_
  refine EW.iload_n dX9_type_5 rfl rfl ?_
  refine EW.callS (bc := 0) (bs := 0) (M_isLetter hl _ 0 (fU 0 (nI 0) s) _) mfX9_isLetter rfl l_X9_113 mvX9_isLetter (by omega) dX9_type_6 rfl rfl (Nat.le_of_ble_eq_true rfl) (fun v6 s6 q6 => ?_) (fun _ _ q => nomatch q.1)
  obtain ⟨e6, h6⟩ := q6; cases e6; replace h6 := h6.symm; subst h6
  refine EW.top (y := nI 0) ((if_neg (il0 hc h1)).trans (by decide +kernel)) ?_
  refine EW.if_ne 97 dX9_type_9 (by decide) (fun c9 => ?_) (fun c9 => ?_)
  · exact absurd c9 (by decide +kernel)
  · refine EW.iload_n dX9_type_12 rfl rfl ?_
    refine EW.callS (bc := 0) (bs := 0) (M_isRule hl _ 0 (fU 0 (nI 0) s) _) mfX9_isRule rfl l_X9_117 mvX9_isRule (by omega) dX9_type_13 rfl rfl (Nat.le_of_ble_eq_true rfl) (fun v13 s13 q13 => ?_) (fun _ _ q => nomatch q.1)
    obtain ⟨e13, h13⟩ := q13; cases e13; replace h13 := h13.symm; subst h13
    refine EW.top (y := nI 0) ((if_neg (ir0 hc h2)).trans (by decide +kernel)) ?_
    refine EW.if_ne 97 dX9_type_16 (by decide) (fun c16 => ?_) (fun c16 => ?_)
    · exact absurd c16 (by decide +kernel)
    · refine EW.iload_n dX9_type_19 rfl rfl ?_
      refine EW.bp 61 dX9_type_20 ?_
      refine EW.icmp_eq 97 dX9_type_22 (by decide) (fun c22 => ?_) (fun c22 => ?_)
      · have c22 : c = 61 := (nI_eq (by omega) (by omega)).mp c22; exact absurd (by unfold isT; omega) h3
      · have c22 : ¬ (c = 61) := fun h => c22 ((nI_eq (by omega) (by omega)).mpr h)
        refine EW.iload_n dX9_type_25 rfl rfl ?_
        refine EW.bp 47 dX9_type_26 ?_
        refine EW.icmp_eq 97 dX9_type_28 (by decide) (fun c28 => ?_) (fun c28 => ?_)
        · have c28 : c = 47 := (nI_eq (by omega) (by omega)).mp c28; exact absurd (by unfold isT; omega) h3
        · have c28 : ¬ (c = 47) := fun h => c28 ((nI_eq (by omega) (by omega)).mpr h)
          refine EW.iload_n dX9_type_31 rfl rfl ?_
          refine EW.bp 38 dX9_type_32 ?_
          refine EW.icmp_eq 97 dX9_type_34 (by decide) (fun c34 => ?_) (fun c34 => ?_)
          · have c34 : c = 38 := (nI_eq (by omega) (by omega)).mp c34; exact absurd (by unfold isT; omega) h3
          · have c34 : ¬ (c = 38) := fun h => c34 ((nI_eq (by omega) (by omega)).mpr h)
            refine EW.iload_n dX9_type_37 rfl rfl ?_
            refine EW.bp 33 dX9_type_38 ?_
            refine EW.icmp_eq 97 dX9_type_40 (by decide) (fun c40 => ?_) (fun c40 => ?_)
            · have c40 : c = 33 := (nI_eq (by omega) (by omega)).mp c40; exact absurd (by unfold isT; omega) h3
            · have c40 : ¬ (c = 33) := fun h => c40 ((nI_eq (by omega) (by omega)).mpr h)
              refine EW.iload_n dX9_type_43 rfl rfl ?_
              refine EW.bp 42 dX9_type_44 ?_
              refine EW.icmp_eq 97 dX9_type_46 (by decide) (fun c46 => ?_) (fun c46 => ?_)
              · have c46 : c = 42 := (nI_eq (by omega) (by omega)).mp c46; exact absurd (by unfold isT; omega) h3
              · have c46 : ¬ (c = 42) := fun h => c46 ((nI_eq (by omega) (by omega)).mpr h)
                refine EW.iload_n dX9_type_49 rfl rfl ?_
                refine EW.bp 43 dX9_type_50 ?_
                refine EW.icmp_eq 97 dX9_type_52 (by decide) (fun c52 => ?_) (fun c52 => ?_)
                · have c52 : c = 43 := (nI_eq (by omega) (by omega)).mp c52; exact absurd (by unfold isT; omega) h3
                · have c52 : ¬ (c = 43) := fun h => c52 ((nI_eq (by omega) (by omega)).mpr h)
                  refine EW.iload_n dX9_type_55 rfl rfl ?_
                  refine EW.bp 63 dX9_type_56 ?_
                  refine EW.icmp_eq 97 dX9_type_58 (by decide) (fun c58 => ?_) (fun c58 => ?_)
                  · have c58 : c = 63 := (nI_eq (by omega) (by omega)).mp c58; exact absurd (by unfold isT; omega) h3
                  · have c58 : ¬ (c = 63) := fun h => c58 ((nI_eq (by omega) (by omega)).mpr h)
                    refine EW.iload_n dX9_type_61 rfl rfl ?_
                    refine EW.bp 46 dX9_type_62 ?_
                    refine EW.icmp_eq 97 dX9_type_64 (by decide) (fun c64 => ?_) (fun c64 => ?_)
                    · have c64 : c = 46 := (nI_eq (by omega) (by omega)).mp c64; exact absurd (by unfold isT; omega) h3
                    · have c64 : ¬ (c = 46) := fun h => c64 ((nI_eq (by omega) (by omega)).mpr h)
                      refine EW.iload_n dX9_type_67 rfl rfl ?_
                      refine EW.bp 91 dX9_type_68 ?_
                      refine EW.icmp_eq 97 dX9_type_70 (by decide) (fun c70 => ?_) (fun c70 => ?_)
                      · have c70 : c = 91 := (nI_eq (by omega) (by omega)).mp c70; exact absurd (by unfold isT; omega) h3
                      · have c70 : ¬ (c = 91) := fun h => c70 ((nI_eq (by omega) (by omega)).mpr h)
                        refine EW.iload_n dX9_type_73 rfl rfl ?_
                        refine EW.bp 45 dX9_type_74 ?_
                        refine EW.icmp_eq 97 dX9_type_76 (by decide) (fun c76 => ?_) (fun c76 => ?_)
                        · have c76 : c = 45 := (nI_eq (by omega) (by omega)).mp c76; exact absurd (by unfold isT; omega) h3
                        · have c76 : ¬ (c = 45) := fun h => c76 ((nI_eq (by omega) (by omega)).mpr h)
                          refine EW.iload_n dX9_type_79 rfl rfl ?_
                          refine EW.bp 93 dX9_type_80 ?_
                          refine EW.icmp_eq 97 dX9_type_82 (by decide) (fun c82 => ?_) (fun c82 => ?_)
                          · have c82 : c = 93 := (nI_eq (by omega) (by omega)).mp c82; exact absurd (by unfold isT; omega) h3
                          · have c82 : ¬ (c = 93) := fun h => c82 ((nI_eq (by omega) (by omega)).mpr h)
                            refine EW.iload_n dX9_type_85 rfl rfl ?_
                            refine EW.bp 40 dX9_type_86 ?_
                            refine EW.icmp_eq 97 dX9_type_88 (by decide) (fun c88 => ?_) (fun c88 => ?_)
                            · have c88 : c = 40 := (nI_eq (by omega) (by omega)).mp c88; exact absurd (by unfold isT; omega) h3
                            · have c88 : ¬ (c = 40) := fun h => c88 ((nI_eq (by omega) (by omega)).mpr h)
                              refine EW.iload_n dX9_type_91 rfl rfl ?_
                              refine EW.bp 41 dX9_type_92 ?_
                              refine EW.icmp_ne 101 dX9_type_94 (by decide) (fun c94 => ?_) (fun c94 => ?_)
                              · have c94 : ¬ (c = 41) := fun h => c94 ((nI_eq (by omega) (by omega)).mpr h)
                                refine EW.ic 0 dX9_type_101 ?_
                                refine EW.istore_n dX9_type_102 rfl (by decide) ?_
                                exact EW.loc (lv' := [(0, .ref (ad 43)), (1, .int (nI c)), (2, .int (nI 0))]) ⟨rfl, rfl, rfl, trivial⟩ K
                              · have c94 : c = 41 := (nI_eq (by omega) (by omega)).mp c94; exact absurd (by unfold isT; omega) h3
set_option maxHeartbeats 4000000 in
theorem M_typeS (hl : l.stackTraces = false) (d : Nat) (s : MSt) (c : Nat) (hc : c < 65536) (Q : Oc → MSt → Prop) (h1 : ¬ isL c) (h2 : ¬ isR c) (h3 : isT c) (K : EW (IM cy ad hp0) l D cy base mX9_type (d + 1) 0 0 103 [(0, .ref (ad 43)), (1, .int (nI c)), (2, .int (nI 1))] [] (fU 0 (nI 0) s) Q) : MtW (IM cy ad hp0) l D cy base mX9_type (d + 1) 0 0 [.ref (ad 43), .int (nI c)] s Q := by
  refine MtW.of hl mfX9_type rfl (Nat.le_of_ble_eq_true rfl) ?_
  refine EW.aload_n dX9_type_0 rfl rfl ?_
  refine EW.ic 0 dX9_type_1 ?_
  refine EM.put f_X9_105 dX9_type_2 rfl ?_
  refine EW.iload_n dX9_type_5 rfl rfl ?_
  refine EW.callS (bc := 0) (bs := 0) (M_isLetter hl _ 0 (fU 0 (nI 0) s) _) mfX9_isLetter rfl l_X9_113 mvX9_isLetter (by omega) dX9_type_6 rfl rfl (Nat.le_of_ble_eq_true rfl) (fun v6 s6 q6 => ?_) (fun _ _ q => nomatch q.1)
  obtain ⟨e6, h6⟩ := q6; cases e6; replace h6 := h6.symm; subst h6
  refine EW.top (y := nI 0) ((if_neg (il0 hc h1)).trans (by decide +kernel)) ?_
  refine EW.if_ne 97 dX9_type_9 (by decide) (fun c9 => ?_) (fun c9 => ?_)
  · exact absurd c9 (by decide +kernel)
  · refine EW.iload_n dX9_type_12 rfl rfl ?_
    refine EW.callS (bc := 0) (bs := 0) (M_isRule hl _ 0 (fU 0 (nI 0) s) _) mfX9_isRule rfl l_X9_117 mvX9_isRule (by omega) dX9_type_13 rfl rfl (Nat.le_of_ble_eq_true rfl) (fun v13 s13 q13 => ?_) (fun _ _ q => nomatch q.1)
    obtain ⟨e13, h13⟩ := q13; cases e13; replace h13 := h13.symm; subst h13
    refine EW.top (y := nI 0) ((if_neg (ir0 hc h2)).trans (by decide +kernel)) ?_
    refine EW.if_ne 97 dX9_type_16 (by decide) (fun c16 => ?_) (fun c16 => ?_)
    · exact absurd c16 (by decide +kernel)
    · refine EW.iload_n dX9_type_19 rfl rfl ?_
      refine EW.bp 61 dX9_type_20 ?_
      refine EW.icmp_eq 97 dX9_type_22 (by decide) (fun c22 => ?_) (fun c22 => ?_)
      · have c22 : c = 61 := (nI_eq (by omega) (by omega)).mp c22
        refine EW.ic 1 dX9_type_97 ?_
        refine EW.goto 102 dX9_type_98 (by decide) ?_
        refine EW.istore_n dX9_type_102 rfl (by decide) ?_
        exact EW.loc (lv' := [(0, .ref (ad 43)), (1, .int (nI c)), (2, .int (nI 1))]) ⟨rfl, rfl, rfl, trivial⟩ K
      · have c22 : ¬ (c = 61) := fun h => c22 ((nI_eq (by omega) (by omega)).mpr h)
        refine EW.iload_n dX9_type_25 rfl rfl ?_
        refine EW.bp 47 dX9_type_26 ?_
        refine EW.icmp_eq 97 dX9_type_28 (by decide) (fun c28 => ?_) (fun c28 => ?_)
        · have c28 : c = 47 := (nI_eq (by omega) (by omega)).mp c28
          refine EW.ic 1 dX9_type_97 ?_
          refine EW.goto 102 dX9_type_98 (by decide) ?_
          refine EW.istore_n dX9_type_102 rfl (by decide) ?_
          exact EW.loc (lv' := [(0, .ref (ad 43)), (1, .int (nI c)), (2, .int (nI 1))]) ⟨rfl, rfl, rfl, trivial⟩ K
        · have c28 : ¬ (c = 47) := fun h => c28 ((nI_eq (by omega) (by omega)).mpr h)
          refine EW.iload_n dX9_type_31 rfl rfl ?_
          refine EW.bp 38 dX9_type_32 ?_
          refine EW.icmp_eq 97 dX9_type_34 (by decide) (fun c34 => ?_) (fun c34 => ?_)
          · have c34 : c = 38 := (nI_eq (by omega) (by omega)).mp c34
            refine EW.ic 1 dX9_type_97 ?_
            refine EW.goto 102 dX9_type_98 (by decide) ?_
            refine EW.istore_n dX9_type_102 rfl (by decide) ?_
            exact EW.loc (lv' := [(0, .ref (ad 43)), (1, .int (nI c)), (2, .int (nI 1))]) ⟨rfl, rfl, rfl, trivial⟩ K
          · have c34 : ¬ (c = 38) := fun h => c34 ((nI_eq (by omega) (by omega)).mpr h)
            refine EW.iload_n dX9_type_37 rfl rfl ?_
            refine EW.bp 33 dX9_type_38 ?_
            refine EW.icmp_eq 97 dX9_type_40 (by decide) (fun c40 => ?_) (fun c40 => ?_)
            · have c40 : c = 33 := (nI_eq (by omega) (by omega)).mp c40
              refine EW.ic 1 dX9_type_97 ?_
              refine EW.goto 102 dX9_type_98 (by decide) ?_
              refine EW.istore_n dX9_type_102 rfl (by decide) ?_
              exact EW.loc (lv' := [(0, .ref (ad 43)), (1, .int (nI c)), (2, .int (nI 1))]) ⟨rfl, rfl, rfl, trivial⟩ K
            · have c40 : ¬ (c = 33) := fun h => c40 ((nI_eq (by omega) (by omega)).mpr h)
              refine EW.iload_n dX9_type_43 rfl rfl ?_
              refine EW.bp 42 dX9_type_44 ?_
              refine EW.icmp_eq 97 dX9_type_46 (by decide) (fun c46 => ?_) (fun c46 => ?_)
              · have c46 : c = 42 := (nI_eq (by omega) (by omega)).mp c46
                refine EW.ic 1 dX9_type_97 ?_
                refine EW.goto 102 dX9_type_98 (by decide) ?_
                refine EW.istore_n dX9_type_102 rfl (by decide) ?_
                exact EW.loc (lv' := [(0, .ref (ad 43)), (1, .int (nI c)), (2, .int (nI 1))]) ⟨rfl, rfl, rfl, trivial⟩ K
              · have c46 : ¬ (c = 42) := fun h => c46 ((nI_eq (by omega) (by omega)).mpr h)
                refine EW.iload_n dX9_type_49 rfl rfl ?_
                refine EW.bp 43 dX9_type_50 ?_
                refine EW.icmp_eq 97 dX9_type_52 (by decide) (fun c52 => ?_) (fun c52 => ?_)
                · have c52 : c = 43 := (nI_eq (by omega) (by omega)).mp c52
                  refine EW.ic 1 dX9_type_97 ?_
                  refine EW.goto 102 dX9_type_98 (by decide) ?_
                  refine EW.istore_n dX9_type_102 rfl (by decide) ?_
                  exact EW.loc (lv' := [(0, .ref (ad 43)), (1, .int (nI c)), (2, .int (nI 1))]) ⟨rfl, rfl, rfl, trivial⟩ K
                · have c52 : ¬ (c = 43) := fun h => c52 ((nI_eq (by omega) (by omega)).mpr h)
                  refine EW.iload_n dX9_type_55 rfl rfl ?_
                  refine EW.bp 63 dX9_type_56 ?_
                  refine EW.icmp_eq 97 dX9_type_58 (by decide) (fun c58 => ?_) (fun c58 => ?_)
                  · have c58 : c = 63 := (nI_eq (by omega) (by omega)).mp c58
                    refine EW.ic 1 dX9_type_97 ?_
                    refine EW.goto 102 dX9_type_98 (by decide) ?_
                    refine EW.istore_n dX9_type_102 rfl (by decide) ?_
                    exact EW.loc (lv' := [(0, .ref (ad 43)), (1, .int (nI c)), (2, .int (nI 1))]) ⟨rfl, rfl, rfl, trivial⟩ K
                  · have c58 : ¬ (c = 63) := fun h => c58 ((nI_eq (by omega) (by omega)).mpr h)
                    refine EW.iload_n dX9_type_61 rfl rfl ?_
                    refine EW.bp 46 dX9_type_62 ?_
                    refine EW.icmp_eq 97 dX9_type_64 (by decide) (fun c64 => ?_) (fun c64 => ?_)
                    · have c64 : c = 46 := (nI_eq (by omega) (by omega)).mp c64
                      refine EW.ic 1 dX9_type_97 ?_
                      refine EW.goto 102 dX9_type_98 (by decide) ?_
                      refine EW.istore_n dX9_type_102 rfl (by decide) ?_
                      exact EW.loc (lv' := [(0, .ref (ad 43)), (1, .int (nI c)), (2, .int (nI 1))]) ⟨rfl, rfl, rfl, trivial⟩ K
                    · have c64 : ¬ (c = 46) := fun h => c64 ((nI_eq (by omega) (by omega)).mpr h)
                      refine EW.iload_n dX9_type_67 rfl rfl ?_
                      refine EW.bp 91 dX9_type_68 ?_
                      refine EW.icmp_eq 97 dX9_type_70 (by decide) (fun c70 => ?_) (fun c70 => ?_)
                      · have c70 : c = 91 := (nI_eq (by omega) (by omega)).mp c70
                        refine EW.ic 1 dX9_type_97 ?_
                        refine EW.goto 102 dX9_type_98 (by decide) ?_
                        refine EW.istore_n dX9_type_102 rfl (by decide) ?_
                        exact EW.loc (lv' := [(0, .ref (ad 43)), (1, .int (nI c)), (2, .int (nI 1))]) ⟨rfl, rfl, rfl, trivial⟩ K
                      · have c70 : ¬ (c = 91) := fun h => c70 ((nI_eq (by omega) (by omega)).mpr h)
                        refine EW.iload_n dX9_type_73 rfl rfl ?_
                        refine EW.bp 45 dX9_type_74 ?_
                        refine EW.icmp_eq 97 dX9_type_76 (by decide) (fun c76 => ?_) (fun c76 => ?_)
                        · have c76 : c = 45 := (nI_eq (by omega) (by omega)).mp c76
                          refine EW.ic 1 dX9_type_97 ?_
                          refine EW.goto 102 dX9_type_98 (by decide) ?_
                          refine EW.istore_n dX9_type_102 rfl (by decide) ?_
                          exact EW.loc (lv' := [(0, .ref (ad 43)), (1, .int (nI c)), (2, .int (nI 1))]) ⟨rfl, rfl, rfl, trivial⟩ K
                        · have c76 : ¬ (c = 45) := fun h => c76 ((nI_eq (by omega) (by omega)).mpr h)
                          refine EW.iload_n dX9_type_79 rfl rfl ?_
                          refine EW.bp 93 dX9_type_80 ?_
                          refine EW.icmp_eq 97 dX9_type_82 (by decide) (fun c82 => ?_) (fun c82 => ?_)
                          · have c82 : c = 93 := (nI_eq (by omega) (by omega)).mp c82
                            refine EW.ic 1 dX9_type_97 ?_
                            refine EW.goto 102 dX9_type_98 (by decide) ?_
                            refine EW.istore_n dX9_type_102 rfl (by decide) ?_
                            exact EW.loc (lv' := [(0, .ref (ad 43)), (1, .int (nI c)), (2, .int (nI 1))]) ⟨rfl, rfl, rfl, trivial⟩ K
                          · have c82 : ¬ (c = 93) := fun h => c82 ((nI_eq (by omega) (by omega)).mpr h)
                            refine EW.iload_n dX9_type_85 rfl rfl ?_
                            refine EW.bp 40 dX9_type_86 ?_
                            refine EW.icmp_eq 97 dX9_type_88 (by decide) (fun c88 => ?_) (fun c88 => ?_)
                            · have c88 : c = 40 := (nI_eq (by omega) (by omega)).mp c88
                              refine EW.ic 1 dX9_type_97 ?_
                              refine EW.goto 102 dX9_type_98 (by decide) ?_
                              refine EW.istore_n dX9_type_102 rfl (by decide) ?_
                              exact EW.loc (lv' := [(0, .ref (ad 43)), (1, .int (nI c)), (2, .int (nI 1))]) ⟨rfl, rfl, rfl, trivial⟩ K
                            · have c88 : ¬ (c = 40) := fun h => c88 ((nI_eq (by omega) (by omega)).mpr h)
                              refine EW.iload_n dX9_type_91 rfl rfl ?_
                              refine EW.bp 41 dX9_type_92 ?_
                              refine EW.icmp_ne 101 dX9_type_94 (by decide) (fun c94 => ?_) (fun c94 => ?_)
                              · have c94 : ¬ (c = 41) := fun h => c94 ((nI_eq (by omega) (by omega)).mpr h); exfalso; unfold isT at h3; omega
                              · have c94 : c = 41 := (nI_eq (by omega) (by omega)).mp c94
                                refine EW.ic 1 dX9_type_97 ?_
                                refine EW.goto 102 dX9_type_98 (by decide) ?_
                                refine EW.istore_n dX9_type_102 rfl (by decide) ?_
                                exact EW.loc (lv' := [(0, .ref (ad 43)), (1, .int (nI c)), (2, .int (nI 1))]) ⟨rfl, rfl, rfl, trivial⟩ K
theorem M_type (hl : l.stackTraces = false) (d : Nat) (s : MSt) (c n : Nat) (hc : c < 65536) (hn : s.1 1 = nI n) (hn9 : n ≤ 24) : MtW (IM cy ad hp0) l D cy base mX9_type (d + 1) 0 0 [.ref (ad 43), .int (nI c)] s (fun o s2 => (isT c ∧ n < 24 ∧ o = .inl (some (.int (nI 1))) ∧ s2 = fU 1 (nI (n + 1)) (aU 2 n (vp_nar .char (nI c)) (fU 0 (nI 0) s))) ∨ (¬ (isT c ∧ n < 24) ∧ o = .inl (some (.int (nI 0))) ∧ s2 = fU 0 (nI 0) s)) := by
  have hn0 : (fU 0 (nI 0) s).1 1 = nI n := by rw [fU_1, if_neg (by decide)]; exact hn
  have key : isT c → EW (IM cy ad hp0) l D cy base mX9_type (d + 1) 0 0 103 [(0, .ref (ad 43)), (1, .int (nI c)), (2, .int (nI 1))] [] (fU 0 (nI 0) s) (fun o s2 => (isT c ∧ n < 24 ∧ o = .inl (some (.int (nI 1))) ∧ s2 = fU 1 (nI (n + 1)) (aU 2 n (vp_nar .char (nI c)) (fU 0 (nI 0) s))) ∨ (¬ (isT c ∧ n < 24) ∧ o = .inl (some (.int (nI 0))) ∧ s2 = fU 0 (nI 0) s)) := fun ht => by
    by_cases h : n < 24
    · exact EW.post (fun o s2 q => Or.inl ⟨ht, h, q.1, q.2⟩) (M_type103c d _ c n hn0 h)
    · exact EW.post (fun o s2 q => Or.inr ⟨fun c => h c.2, q.1, q.2⟩) (M_type103b d _ c n hn0 (by omega))
  by_cases h1 : isL c
  · exact M_typeL hl d s c hc _ h1 (key (Or.inl h1))
  · by_cases h2 : isR c
    · exact M_typeR hl d s c hc _ h1 h2 (key (Or.inr (Or.inl h2)))
    · by_cases h3 : isT c
      · exact M_typeS hl d s c hc _ h1 h2 h3 (key h3)
      · exact M_typeN hl d s c hc _ h1 h2 h3 (EW.post (fun o s2 q => Or.inr ⟨fun c => h3 c.1, q.1, q.2⟩) (M_type103a d _ c n hn0 hn9))
end M22
