section P64
variable {cy : Nat → ClassId} {ad : Nat → Nat} {hp0 : Hp} {l : Launch} {D : va_G} {base : Nat}
/-- a level with one expression more at the end of the block, that is no part yet -/
def LVU (s : MSt) (k z0 pb rb : Nat) (rs ps : List Ex) (sg : Nat) (u : Ex) : Prop := s.1 35 = nI k ∧ s.2 40 k = nI pb ∧ s.2 41 k = nI rb ∧ s.1 36 = nI (pb + ps.length) ∧ s.1 38 = nI (rb + rs.length) ∧ s.2 10 6 = nI (z0 + szL rs + szL ps + sz u) ∧ layP s.2 z0 rs ∧ layP s.2 (z0 + szL rs) ps ∧ stkL (s.2 39) rb z0 rs ∧ stkL (s.2 37) pb (z0 + szL rs) ps ∧ s.2 42 k = nI sg ∧ wf u ∧ encP s.2 384 u (z0 + szL rs + szL ps)
theorem mdS_F {k z0 pb rb zz kd : Nat} {a b : Int32} {s : MSt} (h : z0 ≤ zz) : FPR k z0 pb rb s (mdS zz kd a b s) := ⟨fun _ _ _ _ => rfl, fun q x h1 h2 _ _ _ => mdS_o (fun c => h1 ⟨c.1, by omega⟩) h2⟩
/-- what a made node leaves of a level -/
theorem LV_md {s : MSt} {z0 pb rb zz kd : Nat} {rs ps : List Ex} {a b : Int32} (hzz : z0 + szL rs + szL ps ≤ zz) (h7 : layP s.2 z0 rs) (h8 : layP s.2 (z0 + szL rs) ps) (h9 : stkL (s.2 39) rb z0 rs) (h10 : stkL (s.2 37) pb (z0 + szL rs) ps) : layP (mdS zz kd a b s).2 z0 rs ∧ layP (mdS zz kd a b s).2 (z0 + szL rs) ps ∧ stkL ((mdS zz kd a b s).2 39) rb z0 rs ∧ stkL ((mdS zz kd a b s).2 37) pb (z0 + szL rs) ps :=
  ⟨layP_fr rs z0 (fun q y hq h1 h2 => mdS_o (by omega) (by unfold pk at hq; omega)) h7, layP_fr ps _ (fun q y hq h1 h2 => mdS_o (by omega) (by unfold pk at hq; omega)) h8, stkL_fr rs rb z0 (fun y _ _ => mdS_o (by unfold pk; omega) (by omega)) h9, stkL_fr ps pb _ (fun y _ _ => mdS_o (by unfold pk; omega) (by omega)) h10⟩
theorem LVU.sg {s : MSt} {k z0 pb rb : Nat} {rs ps : List Ex} {sg kd : Nat} {u : Ex} (h : LVU s k z0 pb rb rs ps sg u) (h4 : 4 ≤ kd) (h8 : kd ≤ 8) (zz : Nat) (hzz : zz = z0 + szL rs + szL ps + sz u) : LVU (mdS zz kd (nI (zz - 1)) (nI 0) s) k z0 pb rb rs ps sg (xS kd u) := by
  obtain ⟨a1, a2, a3, a4, a5, a6, a7, a8, a9, a10, a11, wu, eu⟩ := h
  obtain ⟨b7, b8, b9, b10⟩ := LV_md (kd := kd) (a := nI (zz - 1)) (b := nI 0) (zz := zz) (by omega) a7 a8 a9 a10
  have hsz : sz (xS kd u) = sz u + 1 := rfl
  refine ⟨a1, (mdS_o (by unfold pk; omega) (by omega)).trans a2, (mdS_o (by unfold pk; omega) (by omega)).trans a3, a4, a5, ?_, b7, b8, b9, b10, (mdS_o (by unfold pk; omega) (by omega)).trans a11, ⟨rfl, h4, h8, wu⟩, ?_⟩
  · rw [mdS_10, hsz]; congr 1; omega
  · refine ⟨encP_fr u wu _ (fun q y hq h1 h2 => mdS_o (by omega) (by unfold pk at hq; omega)) eu, ?_, ?_, ?_⟩
    · rw [← hzz]; exact mdS_5
    · rw [← hzz]; exact mdS_6
    · rw [← hzz]; exact mdS_7
theorem LVU.push {s : MSt} {k z0 pb rb : Nat} {rs ps : List Ex} {sg : Nat} {u : Ex} (h : LVU s k z0 pb rb rs ps sg u) (p v : Nat) (hp : p = pb + ps.length) (hv : v = z0 + szL rs + szL ps + sz u - 1) : LVL (fU 36 (nI (p + 1)) (aU 37 p (nI v) (aU 42 k (vp_nar .char (nI 0)) s))) k z0 pb rb rs (ps ++ [u]) 0 ∧ FPR k z0 pb rb s (fU 36 (nI (p + 1)) (aU 37 p (nI v) (aU 42 k (vp_nar .char (nI 0)) s))) := by
  obtain ⟨a1, a2, a3, a4, a5, a6, a7, a8, a9, a10, a11, wu, eu⟩ := h
  have G : ∀ q y, ¬ (q = 37 ∧ y = p) → ¬ (q = 42 ∧ y = k) → (fU 36 (nI (p + 1)) (aU 37 p (nI v) (aU 42 k (vp_nar .char (nI 0)) s))).2 q y = s.2 q y := fun q y h1 h2 => by rw [fU_2, aU_2, if_neg h1, aU_2, if_neg h2]
  have hsz : szL (ps ++ [u]) = szL ps + sz u := by rw [szL_app]; rfl
  have hln : (ps ++ [u]).length = ps.length + 1 := by rw [List.length_append]; rfl
  have h0 : vp_nar .char (nI 0) = nI 0 := by decide +kernel
  refine ⟨⟨?_, (G 40 k (by omega) (by omega)).trans a2, (G 41 k (by omega) (by omega)).trans a3, ?_, ?_, ?_, ?_, ?_, ?_, ?_, ?_⟩, ?_, ?_⟩
  · rw [fU_1, if_neg (by decide)]; exact a1
  · rw [fU_1, if_pos rfl, hln]; congr 1; omega
  · rw [fU_1, if_neg (by decide)]; exact a5
  · rw [hsz]; exact (G 10 6 (by omega) (by omega)).trans (a6.trans (by congr 1; omega))
  · exact layP_fr rs z0 (fun q y hq _ _ => G q _ (by unfold pk at hq; omega) (by unfold pk at hq; omega)) a7
  · exact (layP_app ps [u] _).mpr ⟨layP_fr ps _ (fun q y hq _ _ => G q _ (by unfold pk at hq; omega) (by unfold pk at hq; omega)) a8, wu, encP_fr u wu _ (fun q y hq _ _ => G q _ (by unfold pk at hq; omega) (by unfold pk at hq; omega)) eu, trivial⟩
  · exact stkL_fr rs rb z0 (fun y _ _ => G 39 y (by omega) (by omega)) a9
  · refine (stkL_app ps [u] pb _).mpr ⟨stkL_fr ps pb _ (fun y h1 h2 => G 37 y (by omega) (by omega)) a10, ?_, trivial⟩
    show (fU 36 _ (aU 37 p (nI v) _)).2 37 _ = _
    rw [fU_2, aU_2, if_pos ⟨rfl, hp.symm⟩, hv]
  · rw [fU_2, aU_2, if_neg (by omega), aU_2, if_pos ⟨rfl, rfl⟩, h0]
  · intro j h1 h2 h3
    rw [fU_1, if_neg h2]
    rfl
  · intro q y h1 h2 h3 h4 h5
    exact G q y (fun c => h3 ⟨c.1, by omega⟩) (fun c => h5 ⟨by omega, by omega, by omega⟩)
theorem TXM.fr {s s2 : MSt} {n : Nat} {tx : Nat → Nat} (h : TXM s n tx) {k z0 pb rb : Nat} (f : FPR k z0 pb rb s s2) : TXM s2 n tx := ⟨(f.1 1 (by decide) (by decide) (by decide)).trans h.1, h.2.1, fun j hj => (f.2 2 j (by unfold pk; omega) (by omega) (by omega) (by omega) (by omega)).trans (h.2.2.1 j hj), h.2.2.2.1, h.2.2.2.2⟩
set_option maxHeartbeats 1000000 in
theorem M_partD (hl : l.stackTraces = false) (s : MSt) (k z0 pb rb : Nat) (rs ps : List Ex) (sg : Nat) (u : Ex) (a n : Nat) (tx : Nat → Nat) (h : LVU s k z0 pb rb rs ps sg u) (hT : TXM s n tx) (ha : a < 900) (hk : k < 8) (hz : z0 + szL rs + szL ps + sz u < 60) (hp : pb + ps.length < 32) (hsg : sg = 0 ∨ sg = 38 ∨ sg = 33) : MtW (IM cy ad hp0) l D cy base mX9_partDone (0 + 1) 0 0 [.ref (ad 43), .int (nI (z0 + szL rs + szL ps + sz u - 1)), .int (nI a)] s (fun o s2 => o = .inl (some (.int (nI (if sE (tx a) = 0 then a else a + 1)))) ∧ LVL s2 k z0 pb rb rs (ps ++ [sgn (sB sg) (sgn (sE (tx a)) u)]) 0 ∧ FPR k z0 pb rb s s2) := by
  obtain ⟨a1, a2, a3, a4, a5, a6, a7, a8, a9, a10, a11, wu, eu⟩ := id h
  have hus := sz_pos u wu
  generalize hzz : z0 + szL rs + szL ps + sz u = zz at *
  have hcs : (tx a = 42 ∧ sE (tx a) = 5) ∨ (tx a = 43 ∧ sE (tx a) = 6) ∨ (tx a = 63 ∧ sE (tx a) = 7) ∨ (¬ tx a = 42 ∧ ¬ tx a = 43 ∧ ¬ tx a = 63 ∧ sE (tx a) = 0) := by
    unfold sE
    by_cases h1 : tx a = 42
    · exact Or.inl ⟨h1, by rw [if_pos h1]⟩
    · by_cases h2 : tx a = 43
      · exact Or.inr (Or.inl ⟨h2, by rw [if_neg h1, if_pos h2]⟩)
      · by_cases h3 : tx a = 63
        · exact Or.inr (Or.inr (Or.inl ⟨h3, by rw [if_neg h1, if_neg h2, if_pos h3]⟩))
        · exact Or.inr (Or.inr (Or.inr ⟨h1, h2, h3, by rw [if_neg h1, if_neg h2, if_neg h3]⟩))
  rcases hcs with ⟨hc, hE⟩ | ⟨hc, hE⟩ | ⟨hc, hE⟩ | ⟨hc1, hc2, hc3, hE⟩
  · rcases hsg with hs | hs | hs
    · have h1 := h.sg (kd := 4) (by decide) (by decide) zz hzz.symm
      have h2 := h1
      have h3 := h2.push (pb + ps.length) (zz) rfl (show zz = z0 + szL rs + szL ps + (sz u + 1) - 1 by omega)
      rw [hE, show sB sg = 0 by rw [hs]; rfl]
      exact MtW.post (fun o s2 q => ⟨q.1, by rw [q.2]; exact h3.1, by rw [q.2]; exact (FPR.tr (mdS_F (by omega)) h3.2)⟩) (M_part40 hl s (zz - 1) a zz k (pb + ps.length) sg n tx hT ha a6 hz a1 hk a4 hp a11 (by omega) hc (by omega) (by omega) (by omega))
    · have h1 := h.sg (kd := 4) (by decide) (by decide) zz hzz.symm
      have h2 := h1.sg (kd := 7) (by decide) (by decide) (zz + 1) (show zz + 1 = z0 + szL rs + szL ps + (sz u + 1) by omega)
      have h3 := h2.push (pb + ps.length) (zz + 1) rfl (show zz + 1 = z0 + szL rs + szL ps + (sz u + 1 + 1) - 1 by omega)
      rw [hE, show sB sg = 8 by rw [hs]; rfl]
      exact MtW.post (fun o s2 q => ⟨q.1, by rw [q.2]; exact h3.1, by rw [q.2]; exact (FPR.tr (mdS_F (by omega)) (FPR.tr (mdS_F (by omega)) h3.2))⟩) (M_part47 hl s (zz - 1) a zz k (pb + ps.length) sg n tx hT ha a6 hz a1 hk a4 hp a11 (by omega) hc hs)
    · have h1 := h.sg (kd := 4) (by decide) (by decide) zz hzz.symm
      have h2 := h1.sg (kd := 8) (by decide) (by decide) (zz + 1) (show zz + 1 = z0 + szL rs + szL ps + (sz u + 1) by omega)
      have h3 := h2.push (pb + ps.length) (zz + 1) rfl (show zz + 1 = z0 + szL rs + szL ps + (sz u + 1 + 1) - 1 by omega)
      rw [hE, show sB sg = 9 by rw [hs]; rfl]
      exact MtW.post (fun o s2 q => ⟨q.1, by rw [q.2]; exact h3.1, by rw [q.2]; exact (FPR.tr (mdS_F (by omega)) (FPR.tr (mdS_F (by omega)) h3.2))⟩) (M_part48 hl s (zz - 1) a zz k (pb + ps.length) sg n tx hT ha a6 hz a1 hk a4 hp a11 (by omega) hc hs)
  · rcases hsg with hs | hs | hs
    · have h1 := h.sg (kd := 5) (by decide) (by decide) zz hzz.symm
      have h2 := h1
      have h3 := h2.push (pb + ps.length) (zz) rfl (show zz = z0 + szL rs + szL ps + (sz u + 1) - 1 by omega)
      rw [hE, show sB sg = 0 by rw [hs]; rfl]
      exact MtW.post (fun o s2 q => ⟨q.1, by rw [q.2]; exact h3.1, by rw [q.2]; exact (FPR.tr (mdS_F (by omega)) h3.2)⟩) (M_part50 hl s (zz - 1) a zz k (pb + ps.length) sg n tx hT ha a6 hz a1 hk a4 hp a11 (by omega) hc (by omega) (by omega) (by omega))
    · have h1 := h.sg (kd := 5) (by decide) (by decide) zz hzz.symm
      have h2 := h1.sg (kd := 7) (by decide) (by decide) (zz + 1) (show zz + 1 = z0 + szL rs + szL ps + (sz u + 1) by omega)
      have h3 := h2.push (pb + ps.length) (zz + 1) rfl (show zz + 1 = z0 + szL rs + szL ps + (sz u + 1 + 1) - 1 by omega)
      rw [hE, show sB sg = 8 by rw [hs]; rfl]
      exact MtW.post (fun o s2 q => ⟨q.1, by rw [q.2]; exact h3.1, by rw [q.2]; exact (FPR.tr (mdS_F (by omega)) (FPR.tr (mdS_F (by omega)) h3.2))⟩) (M_part57 hl s (zz - 1) a zz k (pb + ps.length) sg n tx hT ha a6 hz a1 hk a4 hp a11 (by omega) hc hs)
    · have h1 := h.sg (kd := 5) (by decide) (by decide) zz hzz.symm
      have h2 := h1.sg (kd := 8) (by decide) (by decide) (zz + 1) (show zz + 1 = z0 + szL rs + szL ps + (sz u + 1) by omega)
      have h3 := h2.push (pb + ps.length) (zz + 1) rfl (show zz + 1 = z0 + szL rs + szL ps + (sz u + 1 + 1) - 1 by omega)
      rw [hE, show sB sg = 9 by rw [hs]; rfl]
      exact MtW.post (fun o s2 q => ⟨q.1, by rw [q.2]; exact h3.1, by rw [q.2]; exact (FPR.tr (mdS_F (by omega)) (FPR.tr (mdS_F (by omega)) h3.2))⟩) (M_part58 hl s (zz - 1) a zz k (pb + ps.length) sg n tx hT ha a6 hz a1 hk a4 hp a11 (by omega) hc hs)
  · rcases hsg with hs | hs | hs
    · have h1 := h.sg (kd := 6) (by decide) (by decide) zz hzz.symm
      have h2 := h1
      have h3 := h2.push (pb + ps.length) (zz) rfl (show zz = z0 + szL rs + szL ps + (sz u + 1) - 1 by omega)
      rw [hE, show sB sg = 0 by rw [hs]; rfl]
      exact MtW.post (fun o s2 q => ⟨q.1, by rw [q.2]; exact h3.1, by rw [q.2]; exact (FPR.tr (mdS_F (by omega)) h3.2)⟩) (M_part60 hl s (zz - 1) a zz k (pb + ps.length) sg n tx hT ha a6 hz a1 hk a4 hp a11 (by omega) hc (by omega) (by omega) (by omega))
    · have h1 := h.sg (kd := 6) (by decide) (by decide) zz hzz.symm
      have h2 := h1.sg (kd := 7) (by decide) (by decide) (zz + 1) (show zz + 1 = z0 + szL rs + szL ps + (sz u + 1) by omega)
      have h3 := h2.push (pb + ps.length) (zz + 1) rfl (show zz + 1 = z0 + szL rs + szL ps + (sz u + 1 + 1) - 1 by omega)
      rw [hE, show sB sg = 8 by rw [hs]; rfl]
      exact MtW.post (fun o s2 q => ⟨q.1, by rw [q.2]; exact h3.1, by rw [q.2]; exact (FPR.tr (mdS_F (by omega)) (FPR.tr (mdS_F (by omega)) h3.2))⟩) (M_part67 hl s (zz - 1) a zz k (pb + ps.length) sg n tx hT ha a6 hz a1 hk a4 hp a11 (by omega) hc hs)
    · have h1 := h.sg (kd := 6) (by decide) (by decide) zz hzz.symm
      have h2 := h1.sg (kd := 8) (by decide) (by decide) (zz + 1) (show zz + 1 = z0 + szL rs + szL ps + (sz u + 1) by omega)
      have h3 := h2.push (pb + ps.length) (zz + 1) rfl (show zz + 1 = z0 + szL rs + szL ps + (sz u + 1 + 1) - 1 by omega)
      rw [hE, show sB sg = 9 by rw [hs]; rfl]
      exact MtW.post (fun o s2 q => ⟨q.1, by rw [q.2]; exact h3.1, by rw [q.2]; exact (FPR.tr (mdS_F (by omega)) (FPR.tr (mdS_F (by omega)) h3.2))⟩) (M_part68 hl s (zz - 1) a zz k (pb + ps.length) sg n tx hT ha a6 hz a1 hk a4 hp a11 (by omega) hc hs)
  · rcases hsg with hs | hs | hs
    · have h1 := h
      have h2 := h1
      have h3 := h2.push (pb + ps.length) (zz - 1) rfl (show zz - 1 = z0 + szL rs + szL ps + (sz u) - 1 by omega)
      rw [hE, show sB sg = 0 by rw [hs]; rfl]
      exact MtW.post (fun o s2 q => ⟨q.1, by rw [q.2]; exact h3.1, by rw [q.2]; exact h3.2⟩) (M_part00 hl s (zz - 1) a zz k (pb + ps.length) sg n tx hT ha a6 hz a1 hk a4 hp a11 (by omega) hc1 hc2 hc3 (by omega) (by omega) (by omega))
    · have h1 := h
      have h2 := h1.sg (kd := 7) (by decide) (by decide) (zz) hzz.symm
      have h3 := h2.push (pb + ps.length) (zz) rfl (show zz = z0 + szL rs + szL ps + (sz u + 1) - 1 by omega)
      rw [hE, show sB sg = 8 by rw [hs]; rfl]
      exact MtW.post (fun o s2 q => ⟨q.1, by rw [q.2]; exact h3.1, by rw [q.2]; exact (FPR.tr (mdS_F (by omega)) h3.2)⟩) (M_part07 hl s (zz - 1) a zz k (pb + ps.length) sg n tx hT ha a6 hz a1 hk a4 hp a11 (by omega) hc1 hc2 hc3 hs)
    · have h1 := h
      have h2 := h1.sg (kd := 8) (by decide) (by decide) (zz) hzz.symm
      have h3 := h2.push (pb + ps.length) (zz) rfl (show zz = z0 + szL rs + szL ps + (sz u + 1) - 1 by omega)
      rw [hE, show sB sg = 9 by rw [hs]; rfl]
      exact MtW.post (fun o s2 q => ⟨q.1, by rw [q.2]; exact h3.1, by rw [q.2]; exact (FPR.tr (mdS_F (by omega)) h3.2)⟩) (M_part08 hl s (zz - 1) a zz k (pb + ps.length) sg n tx hT ha a6 hz a1 hk a4 hp a11 (by omega) hc1 hc2 hc3 hs)
end P64
